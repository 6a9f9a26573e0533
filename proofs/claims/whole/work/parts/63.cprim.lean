/-! the class's tokens, one by one -/
theorem zr_0 (h : mm_H) : mm_zr (iI 0) h = some (some (.int (iI 0)), h) := rfl
theorem zr_1 (h : mm_H) : mm_zr (iI 1) h = some (some (.int (iI 1)), h) := rfl
/-- a fault is told -/
def bdH (g : mm_H) (k pl : Int) : mm_H := wI (wI g 3 5 (iI k)) 3 6 (iI pl)
theorem isC_or {c : Nat} (h : mm_isC c) : c = 5 ∨ c = 240 ∨ c = 257 := by
  have : ∀ x ∈ [5, 240, 257], x = 5 ∨ x = 240 ∨ x = 257 := by decide
  exact this c h
/-- the codes that the class has written behind place L -/
def CQ (g : mm_H) (cc L : Nat) (C : List Int) : Prop := fd g cc 5 = ((L + C.length : Nat) : Int) ∧ ∀ i v, C[i]? = some v → fd g (cc + 1) (L + i) = tc v
def QF (cc : Nat) : Nat → Nat → Prop := fun a k => (a = 3 ∧ 1 ≤ k ∧ k ≤ 6) ∨ (a = cc ∧ k = 5) ∨ a = cc + 1
def QAd (cc : Nat) : Nat → Nat → Prop := fun a k => (a = cc ∧ k = 5) ∨ a = cc + 1
/-- the reader stands at p, and no fault is told -/
def CS (g : mm_H) (b : Nat → Int) (E p : Nat) (gl : Bool) : Prop := TpC g b E ∧ E ≤ 1600 ∧ p ≤ E ∧ fd g 3 2 = (tS b E p : Int) ∧ fd g 3 1 = tkK b E p gl ∧ fd g 3 3 = (tE b E p : Int) ∧ (tB b E p ≠ -1 → fd g 3 4 = tkV b E p) ∧ fd g 3 5 = 0 ∧ fd g 3 6 = -1
theorem CS.of {g g' : mm_H} {b : Nat → Int} {E p : Nat} {gl : Bool} (S : CS0 g' b E p gl) (k : Kf QTc nL g g') (e5 : fd g 3 5 = 0) (e6 : fd g 3 6 = -1) : CS g' b E p gl := ⟨S.1, S.2.1, S.2.2.1, S.2.2.2.1, S.2.2.2.2.1, S.2.2.2.2.2.1, S.2.2.2.2.2.2, (k.1 3 5 (by unfold QTc; omega)).trans e5, (k.1 3 6 (by unfold QTc; omega)).trans e6⟩
section CPR
variable {d : Nat} {g : mm_H} {b : Nat → Int} {E p : Nat} {gl : Bool}
theorem tk_cases : (tB b E p = -1 ∧ tkK b E p gl = 0) ∨ (isLt (tB b E p) = true ∧ tG b E p gl = false ∧ tB b E p ≠ -1 ∧ tkK b E p gl = 1) ∨ (isDg (tB b E p) = true ∧ tG b E p gl = false ∧ tB b E p ≠ -1 ∧ isLt (tB b E p) = false ∧ tkK b E p gl = 2) ∨ (isLt (tB b E p) = false ∧ isDg (tB b E p) = false ∧ tB b E p ≠ -1 ∧ tkK b E p gl = 3) ∨ (tG b E p gl = true ∧ (isLt (tB b E p) = true ∨ isDg (tB b E p) = true) ∧ tB b E p ≠ -1 ∧ tkK b E p gl = 4) := by
  unfold tkK
  by_cases c0 : tB b E p = -1
  · exact Or.inl ⟨c0, by rw [if_pos c0]⟩
  · rw [if_neg c0]
    cases h1 : isLt (tB b E p) with
    | true =>
      rw [if_pos rfl]
      cases h2 : tG b E p gl with
      | true => exact Or.inr (Or.inr (Or.inr (Or.inr ⟨rfl, Or.inl rfl, c0, by rw [if_pos rfl]⟩)))
      | false => exact Or.inr (Or.inl ⟨rfl, rfl, c0, by rw [if_neg (by simp)]⟩)
    | false =>
      rw [if_neg (by simp)]
      cases h3 : isDg (tB b E p) with
      | true =>
        rw [if_pos rfl]
        cases h2 : tG b E p gl with
        | true => exact Or.inr (Or.inr (Or.inr (Or.inr ⟨rfl, Or.inr rfl, c0, by rw [if_pos rfl]⟩)))
        | false => exact Or.inr (Or.inr (Or.inl ⟨rfl, rfl, c0, rfl, by rw [if_neg (by simp)]⟩))
      | false => exact Or.inr (Or.inr (Or.inr (Or.inl ⟨rfl, rfl, c0, by rw [if_neg (by simp)]⟩)))
theorem tkK_b : 0 ≤ tkK b E p gl ∧ tkK b E p gl ≤ 4 := by
  rcases tk_cases (b := b) (E := E) (p := p) (gl := gl) with z | z | z | z | z
  · rw [z.2]; omega
  · rw [z.2.2.2]; omega
  · rw [z.2.2.2.2]; omega
  · rw [z.2.2.2]; omega
  · rw [z.2.2.2]; omega
theorem tkK_w : tkK b E p gl = 1 ↔ (isLt (tB b E p) = true ∧ tG b E p gl = false) := by
  rcases tk_cases (b := b) (E := E) (p := p) (gl := gl) with z | z | z | z | z
  · rw [z.2]
    exact ⟨fun h => absurd h (by decide), fun h => by have := isLt_iff.mp h.1; omega⟩
  · rw [z.2.2.2]
    exact ⟨fun _ => ⟨z.1, z.2.1⟩, fun _ => rfl⟩
  · rw [z.2.2.2.2, z.2.2.2.1]
    exact ⟨fun h => absurd h (by decide), fun h => absurd h.1 (by simp)⟩
  · rw [z.2.2.2, z.1]
    exact ⟨fun h => absurd h (by decide), fun h => absurd h.1 (by simp)⟩
  · rw [z.2.2.2, z.1]
    exact ⟨fun h => absurd h (by decide), fun h => absurd h.2 (by simp)⟩
theorem tkK_n : tkK b E p gl = 2 ↔ (isDg (tB b E p) = true ∧ tG b E p gl = false) := by
  rcases tk_cases (b := b) (E := E) (p := p) (gl := gl) with z | z | z | z | z
  · rw [z.2]
    exact ⟨fun h => absurd h (by decide), fun h => by have := isDg_iff.mp h.1; omega⟩
  · rw [z.2.2.2]
    exact ⟨fun h => absurd h (by decide), fun h => by have := isDg_iff.mp h.1; have := isLt_iff.mp z.1; omega⟩
  · rw [z.2.2.2.2]
    exact ⟨fun _ => ⟨z.1, z.2.1⟩, fun _ => rfl⟩
  · rw [z.2.2.2, z.2.1]
    exact ⟨fun h => absurd h (by decide), fun h => absurd h.1 (by simp)⟩
  · rw [z.2.2.2, z.1]
    exact ⟨fun h => absurd h (by decide), fun h => absurd h.2 (by simp)⟩
theorem wno_v (h : isLt (tB b E p) = true ∧ tG b E p gl = false) : wno b E p gl = tkV b E p := by
  unfold wno tkV
  rw [if_pos h, if_pos h.1]
theorem wno_n (h : ¬ (isLt (tB b E p) = true ∧ tG b E p gl = false)) : wno b E p gl = -2 := if_neg h
theorem sgn_k {x : Int} (h : tB b E p = x) (hx : 0 ≤ x) (hn : ¬ (97 ≤ x ∧ x ≤ 122)) (hd : ¬ (48 ≤ x ∧ x ≤ 57)) : tkK b E p gl = 3 ∧ tkV b E p = x ∧ tE b E p = tS b E p + 1 := by
  have l : isLt (tB b E p) = false := by
    cases z : isLt (tB b E p) with
    | false => rfl
    | true => exact absurd (isLt_iff.mp z) (by rw [h]; exact hn)
  have dg : isDg (tB b E p) = false := by
    cases z : isDg (tB b E p) with
    | false => rfl
    | true => exact absurd (isDg_iff.mp z) (by rw [h]; exact hd)
  have n1 : ¬ tB b E p = -1 := by omega
  refine ⟨?_, ?_, ?_⟩
  · unfold tkK
    rw [if_neg n1, l, dg, if_neg (by simp), if_neg (by simp)]
  · unfold tkV
    rw [l, dg, if_neg (by simp), if_neg (by simp)]
    exact h
  · unfold tE
    rw [if_neg n1, l, dg, if_neg (by simp), if_neg (by simp)]
set_option maxHeartbeats 8000000 in
theorem C_isWord {k : Int} (S : CS g b E p gl) (k0 : 0 ≤ k) (k1 : k < 100) : mm_M mm_T0 (d + 1) 79 [.ref 3, .int (iI k)] g = some (some (.int (iI (b2 (wno b E p gl = k)))), g) := by
  have e1 := S.2.2.2.2.1
  have kb := tkK_b (b := b) (E := E) (p := p) (gl := gl)
  have wb := wno_b (b := b) (E := E) (p := p) (gl := gl)
  rw [U_X6_isWord]
  by_cases c : isLt (tB b E p) = true ∧ tG b E p gl = false
  · have ne : tB b E p ≠ -1 := by have := isLt_iff.mp c.1; omega
    have e4 := S.2.2.2.2.2.2.1 ne
    rw [← wno_v c] at e4
    rw [tkK_w.mpr c] at e1
    by_cases z : wno b E p gl = k
    · rw [b2_t z]
      simp (disch := omega) only [iI_lit, jI_lit, iI_neg, jI_neg, iI_add, iI_sub, iI_mul, jI_add, jI_sub, jI_mul, rdI, rdL, iI_lt, iI_le, iI_eq, iI_nat, iI_b2_0, iI_b2_1, mm_bI_some, mm_bV_some, mm_bL_some, mm_bA_some, fd_wL, fd_wR, fl_wI, fl_wR, re_wI, re_wL, re_wC, ite_true, ite_false, not_true_eq_false, not_false_eq_true, lq_ge, lq_le, lq_gt, lq_lt, lq_eq, jI_lt, jI_le, jI_eq, if_pos, if_neg, e1, e4]
    · rw [b2_f z]
      simp (disch := omega) only [iI_lit, jI_lit, iI_neg, jI_neg, iI_add, iI_sub, iI_mul, jI_add, jI_sub, jI_mul, rdI, rdL, iI_lt, iI_le, iI_eq, iI_nat, iI_b2_0, iI_b2_1, mm_bI_some, mm_bV_some, mm_bL_some, mm_bA_some, fd_wL, fd_wR, fl_wI, fl_wR, re_wI, re_wL, re_wC, ite_true, ite_false, not_true_eq_false, not_false_eq_true, lq_ge, lq_le, lq_gt, lq_lt, lq_eq, jI_lt, jI_le, jI_eq, if_pos, if_neg, e1, e4]
  · have n1 : ¬ tkK b E p gl = 1 := fun z => c (tkK_w.mp z)
    rw [wno_n c, b2_f (by omega)]
    simp (disch := omega) only [iI_lit, jI_lit, iI_neg, jI_neg, iI_add, iI_sub, iI_mul, jI_add, jI_sub, jI_mul, rdI, rdL, iI_lt, iI_le, iI_eq, iI_nat, iI_b2_0, iI_b2_1, mm_bI_some, mm_bV_some, mm_bL_some, mm_bA_some, fd_wL, fd_wR, fl_wI, fl_wR, re_wI, re_wL, re_wC, ite_true, ite_false, not_true_eq_false, not_false_eq_true, lq_ge, lq_le, lq_gt, lq_lt, lq_eq, jI_lt, jI_le, jI_eq, if_pos, if_neg, e1]
set_option maxHeartbeats 8000000 in
theorem C_isSign {x : Int} (S : CS g b E p gl) (hx : 0 ≤ x ∧ x ≤ 255) (hn : ¬ (97 ≤ x ∧ x ≤ 122)) (hd : ¬ (48 ≤ x ∧ x ≤ 57)) : mm_M mm_T0 (d + 1) 80 [.ref 3, .int (iI x)] g = some (some (.int (iI (b2 (tB b E p = x)))), g) := by
  have e1 := S.2.2.2.2.1
  have kb := tkK_b (b := b) (E := E) (p := p) (gl := gl)
  rw [U_X6_isSign]
  by_cases z : tB b E p = x
  · have k := sgn_k (gl := gl) z hx.1 hn hd
    have e4 := S.2.2.2.2.2.2.1 (by omega)
    rw [k.2.1] at e4
    rw [k.1] at e1
    rw [b2_t z]
    simp (disch := omega) only [iI_lit, jI_lit, iI_neg, jI_neg, iI_add, iI_sub, iI_mul, jI_add, jI_sub, jI_mul, rdI, rdL, iI_lt, iI_le, iI_eq, iI_nat, iI_b2_0, iI_b2_1, mm_bI_some, mm_bV_some, mm_bL_some, mm_bA_some, fd_wL, fd_wR, fl_wI, fl_wR, re_wI, re_wL, re_wC, ite_true, ite_false, not_true_eq_false, not_false_eq_true, lq_ge, lq_le, lq_gt, lq_lt, lq_eq, jI_lt, jI_le, jI_eq, if_pos, if_neg, e1, e4]
  · rw [b2_f z]
    by_cases c : tkK b E p gl = 3
    · rcases tk_cases (b := b) (E := E) (p := p) (gl := gl) with y | y | y | y | y
      · omega
      · omega
      · omega
      · have e4 := S.2.2.2.2.2.2.1 y.2.2.1
        have kv : tkV b E p = tB b E p := by
          unfold tkV
          rw [y.1, y.2.1, if_neg (by simp), if_neg (by simp)]
        have tb : -1 ≤ tB b E p ∧ tB b E p ≤ 255 := by
          unfold tB
          split
          · rename_i q
            have := S.1.2 _ q
            omega
          · omega
        rw [kv] at e4
        rw [c] at e1
        simp (disch := omega) only [iI_lit, jI_lit, iI_neg, jI_neg, iI_add, iI_sub, iI_mul, jI_add, jI_sub, jI_mul, rdI, rdL, iI_lt, iI_le, iI_eq, iI_nat, iI_b2_0, iI_b2_1, mm_bI_some, mm_bV_some, mm_bL_some, mm_bA_some, fd_wL, fd_wR, fl_wI, fl_wR, re_wI, re_wL, re_wC, ite_true, ite_false, not_true_eq_false, not_false_eq_true, lq_ge, lq_le, lq_gt, lq_lt, lq_eq, jI_lt, jI_le, jI_eq, if_pos, if_neg, e1, e4]
      · omega
    · simp (disch := omega) only [iI_lit, jI_lit, iI_neg, jI_neg, iI_add, iI_sub, iI_mul, jI_add, jI_sub, jI_mul, rdI, rdL, iI_lt, iI_le, iI_eq, iI_nat, iI_b2_0, iI_b2_1, mm_bI_some, mm_bV_some, mm_bL_some, mm_bA_some, fd_wL, fd_wR, fl_wI, fl_wR, re_wI, re_wL, re_wC, ite_true, ite_false, not_true_eq_false, not_false_eq_true, lq_ge, lq_le, lq_gt, lq_lt, lq_eq, jI_lt, jI_le, jI_eq, if_pos, if_neg, e1]
set_option maxHeartbeats 8000000 in
theorem C_isAnyNumber (S : CS g b E p gl) : mm_M mm_T0 (d + 1) 78 [.ref 3] g = some (some (.int (iI (b2 (isDg (tB b E p) = true ∧ tG b E p gl = false)))), g) := by
  have e1 := S.2.2.2.2.1
  have kb := tkK_b (b := b) (E := E) (p := p) (gl := gl)
  rw [U_X6_isAnyNumber]
  by_cases c : isDg (tB b E p) = true ∧ tG b E p gl = false
  · rw [tkK_n.mpr c] at e1
    rw [b2_t c]
    simp (disch := omega) only [iI_lit, jI_lit, iI_neg, jI_neg, iI_add, iI_sub, iI_mul, jI_add, jI_sub, jI_mul, rdI, rdL, iI_lt, iI_le, iI_eq, iI_nat, iI_b2_0, iI_b2_1, mm_bI_some, mm_bV_some, mm_bL_some, mm_bA_some, fd_wL, fd_wR, fl_wI, fl_wR, re_wI, re_wL, re_wC, ite_true, ite_false, not_true_eq_false, not_false_eq_true, lq_ge, lq_le, lq_gt, lq_lt, lq_eq, jI_lt, jI_le, jI_eq, if_pos, if_neg, e1]
  · have n1 : ¬ tkK b E p gl = 2 := fun z => c (tkK_n.mp z)
    rw [b2_f c]
    simp (disch := omega) only [iI_lit, jI_lit, iI_neg, jI_neg, iI_add, iI_sub, iI_mul, jI_add, jI_sub, jI_mul, rdI, rdL, iI_lt, iI_le, iI_eq, iI_nat, iI_b2_0, iI_b2_1, mm_bI_some, mm_bV_some, mm_bL_some, mm_bA_some, fd_wL, fd_wR, fl_wI, fl_wR, re_wI, re_wL, re_wC, ite_true, ite_false, not_true_eq_false, not_false_eq_true, lq_ge, lq_le, lq_gt, lq_lt, lq_eq, jI_lt, jI_le, jI_eq, if_pos, if_neg, e1]
set_option maxHeartbeats 8000000 in
theorem C_isAnyWord (S : CS g b E p gl) : mm_M mm_T0 (d + 1) 77 [.ref 3] g = some (some (.int (iI (b2 (wno b E p gl ≠ -2)))), g) := by
  have e1 := S.2.2.2.2.1
  have kb := tkK_b (b := b) (E := E) (p := p) (gl := gl)
  rw [U_X6_isAnyWord]
  by_cases c : isLt (tB b E p) = true ∧ tG b E p gl = false
  · have fb := findW_ge (b := b) (s := tS b E p) (e := tL b E (tS b E p)) allW 0
    have w2 : wno b E p gl ≠ -2 := by
      unfold wno
      rw [if_pos c]
      omega
    rw [tkK_w.mpr c] at e1
    rw [b2_t w2]
    simp (disch := omega) only [iI_lit, jI_lit, iI_neg, jI_neg, iI_add, iI_sub, iI_mul, jI_add, jI_sub, jI_mul, rdI, rdL, iI_lt, iI_le, iI_eq, iI_nat, iI_b2_0, iI_b2_1, mm_bI_some, mm_bV_some, mm_bL_some, mm_bA_some, fd_wL, fd_wR, fl_wI, fl_wR, re_wI, re_wL, re_wC, ite_true, ite_false, not_true_eq_false, not_false_eq_true, lq_ge, lq_le, lq_gt, lq_lt, lq_eq, jI_lt, jI_le, jI_eq, if_pos, if_neg, e1]
  · have n1 : ¬ tkK b E p gl = 1 := fun z => c (tkK_w.mp z)
    rw [b2_f (fun z => z (wno_n c))]
    simp (disch := omega) only [iI_lit, jI_lit, iI_neg, jI_neg, iI_add, iI_sub, iI_mul, jI_add, jI_sub, jI_mul, rdI, rdL, iI_lt, iI_le, iI_eq, iI_nat, iI_b2_0, iI_b2_1, mm_bI_some, mm_bV_some, mm_bL_some, mm_bA_some, fd_wL, fd_wR, fl_wI, fl_wR, re_wI, re_wL, re_wC, ite_true, ite_false, not_true_eq_false, not_false_eq_true, lq_ge, lq_le, lq_gt, lq_lt, lq_eq, jI_lt, jI_le, jI_eq, if_pos, if_neg, e1]
set_option maxHeartbeats 8000000 in
theorem C_isAtEnd (S : CS g b E p gl) : mm_M mm_T0 (d + 1) 76 [.ref 3] g = some (some (.int (iI (b2 (tB b E p = -1)))), g) := by
  have e1 := S.2.2.2.2.1
  have kb := tkK_b (b := b) (E := E) (p := p) (gl := gl)
  rw [U_X6_isAtEnd]
  by_cases c : tB b E p = -1
  · have k0 : tkK b E p gl = 0 := by
      unfold tkK
      rw [if_pos c]
    rw [k0] at e1
    rw [b2_t c]
    simp (disch := omega) only [iI_lit, jI_lit, iI_neg, jI_neg, iI_add, iI_sub, iI_mul, jI_add, jI_sub, jI_mul, rdI, rdL, iI_lt, iI_le, iI_eq, iI_nat, iI_b2_0, iI_b2_1, mm_bI_some, mm_bV_some, mm_bL_some, mm_bA_some, fd_wL, fd_wR, fl_wI, fl_wR, re_wI, re_wL, re_wC, ite_true, ite_false, not_true_eq_false, not_false_eq_true, lq_ge, lq_le, lq_gt, lq_lt, lq_eq, jI_lt, jI_le, jI_eq, if_pos, if_neg, e1]
  · have n1 : ¬ tkK b E p gl = 0 := by
      rcases tk_cases (b := b) (E := E) (p := p) (gl := gl) with y | y | y | y | y
      · exact absurd y.1 c
      · omega
      · omega
      · omega
      · omega
    rw [b2_f c]
    simp (disch := omega) only [iI_lit, jI_lit, iI_neg, jI_neg, iI_add, iI_sub, iI_mul, jI_add, jI_sub, jI_mul, rdI, rdL, iI_lt, iI_le, iI_eq, iI_nat, iI_b2_0, iI_b2_1, mm_bI_some, mm_bV_some, mm_bL_some, mm_bA_some, fd_wL, fd_wR, fl_wI, fl_wR, re_wI, re_wL, re_wC, ite_true, ite_false, not_true_eq_false, not_false_eq_true, lq_ge, lq_le, lq_gt, lq_lt, lq_eq, jI_lt, jI_le, jI_eq, if_pos, if_neg, e1]
set_option maxHeartbeats 8000000 in
theorem C_adv (S : CS g b E p gl) : ∃ g', mm_M mm_T0 (d + 5) 75 [.ref 3] g = some (none, g') ∧ CS g' b E (tE b E p) (decide (tkK b E p gl = 1 ∨ tkK b E p gl = 2)) ∧ Kf QTc nL g g' := by
  obtain ⟨g', m1, m2, m3⟩ := C_advance (d := d) S.1 S.2.1 (tE_le S.2.2.1) tkK_b.1 tkK_b.2 S.2.2.2.2.1 S.2.2.2.2.2.1
  exact ⟨g', m1, CS.of m2 m3 S.2.2.2.2.2.2.2.1 S.2.2.2.2.2.2.2.2, m3⟩
set_option maxHeartbeats 8000000 in
theorem C_advW (S : CS g b E p gl) (h : wno b E p gl ≠ -2) : ∃ g', mm_M mm_T0 (d + 5) 75 [.ref 3] g = some (none, g') ∧ CS g' b E (tL b E (tS b E p)) true ∧ Kf QTc nL g g' := by
  have c := wno_w h
  obtain ⟨g', m1, m2, m3⟩ := C_adv (d := d) S
  have ne : ¬ tB b E p = -1 := by have := isLt_iff.mp c.1; omega
  have te : tE b E p = tL b E (tS b E p) := by
    unfold tE
    rw [if_neg ne, if_pos c.1]
  rw [te, decide_eq_true (Or.inl (tkK_w.mpr c))] at m2
  exact ⟨g', m1, m2, m3⟩
set_option maxHeartbeats 8000000 in
theorem C_advN (S : CS g b E p gl) (c : isDg (tB b E p) = true ∧ tG b E p gl = false) : ∃ g', mm_M mm_T0 (d + 5) 75 [.ref 3] g = some (none, g') ∧ CS g' b E (tD b E (tS b E p)) true ∧ Kf QTc nL g g' := by
  obtain ⟨g', m1, m2, m3⟩ := C_adv (d := d) S
  have i := isDg_iff.mp c.1
  have ne : ¬ tB b E p = -1 := by omega
  have nl : ¬ isLt (tB b E p) = true := fun z => by have := isLt_iff.mp z; omega
  have te : tE b E p = tD b E (tS b E p) := by
    unfold tE
    rw [if_neg ne, if_neg nl, if_pos c.1]
  rw [te, decide_eq_true (Or.inr (tkK_n.mpr c))] at m2
  exact ⟨g', m1, m2, m3⟩
set_option maxHeartbeats 8000000 in
theorem C_advS {x : Int} (S : CS g b E p gl) (h : tB b E p = x) (hx : 0 ≤ x) (hn : ¬ (97 ≤ x ∧ x ≤ 122)) (hd : ¬ (48 ≤ x ∧ x ≤ 57)) : ∃ g', mm_M mm_T0 (d + 5) 75 [.ref 3] g = some (none, g') ∧ CS g' b E (tS b E p + 1) false ∧ Kf QTc nL g g' := by
  obtain ⟨g', m1, m2, m3⟩ := C_adv (d := d) S
  have k := sgn_k (gl := gl) h hx hn hd
  rw [k.2.2, decide_eq_false (by rw [k.1]; decide)] at m2
  exact ⟨g', m1, m2, m3⟩
theorem bdH_5 {k pl : Int} (h1 : -2147483648 ≤ k) (h2 : k < 2147483648) : fd (bdH g k pl) 3 5 = k := by
  unfold bdH
  rw [fd_wI_col (by omega), fd_wI_same h1 h2]
theorem bdH_6 {k pl : Int} (h1 : -2147483648 ≤ pl) (h2 : pl < 2147483648) : fd (bdH g k pl) 3 6 = pl := by
  unfold bdH
  rw [fd_wI_same h1 h2]
theorem bdH_k {k pl : Int} : Kf (fun a j => a = 3 ∧ (j = 5 ∨ j = 6)) nL g (bdH g k pl) := (Kf.refl.wI (by omega)).wI (by omega)
set_option maxHeartbeats 8000000 in
theorem C_fail {k : Int} (S : CS g b E p gl) : mm_M mm_T0 (d + 2) 89 [.ref 3, .int (iI k)] g = some (some (.int (iI 0)), bdH g k (tS b E p)) := by
  have e2 := S.2.2.2.1
  unfold bdH
  rw [U_X6_fail, U_X6_failAt]
  simp (disch := omega) only [iI_lit, jI_lit, iI_neg, jI_neg, iI_add, iI_sub, iI_mul, jI_add, jI_sub, jI_mul, rdI, rdL, iI_lt, iI_le, iI_eq, iI_nat, iI_b2_0, iI_b2_1, mm_bI_some, mm_bV_some, mm_bL_some, mm_bA_some, fd_wL, fd_wR, fl_wI, fl_wR, re_wI, re_wL, re_wC, ite_true, ite_false, not_true_eq_false, not_false_eq_true, lq_ge, lq_le, lq_gt, lq_lt, lq_eq, jI_lt, jI_le, jI_eq, if_pos, if_neg, e2, zr_0]
set_option maxHeartbeats 8000000 in
theorem C_unexp (S : CS g b E p gl) : mm_M mm_T0 (d + 2) 88 [.ref 3] g = some (some (.int (iI 0)), bdH g 1 (tS b E p)) := by
  have e2 := S.2.2.2.1
  unfold bdH
  rw [U_X6_unexpected, U_X6_failAt]
  simp (disch := omega) only [iI_lit, jI_lit, iI_neg, jI_neg, iI_add, iI_sub, iI_mul, jI_add, jI_sub, jI_mul, rdI, rdL, iI_lt, iI_le, iI_eq, iI_nat, iI_b2_0, iI_b2_1, mm_bI_some, mm_bV_some, mm_bL_some, mm_bA_some, fd_wL, fd_wR, fl_wI, fl_wR, re_wI, re_wL, re_wC, ite_true, ite_false, not_true_eq_false, not_false_eq_true, lq_ge, lq_le, lq_gt, lq_lt, lq_eq, jI_lt, jI_le, jI_eq, if_pos, if_neg, e2, zr_0]
set_option maxHeartbeats 8000000 in
theorem C_takeSign {x : Int} (S : CS g b E p gl) (hx : 0 ≤ x ∧ x ≤ 255) (hn : ¬ (97 ≤ x ∧ x ≤ 122)) (hd : ¬ (48 ≤ x ∧ x ≤ 57)) : (tB b E p = x → ∃ g', mm_M mm_T0 (d + 6) 82 [.ref 3, .int (iI x)] g = some (some (.int (iI 1)), g') ∧ CS g' b E (tS b E p + 1) false ∧ Kf QTc nL g g') ∧ (tB b E p ≠ x → mm_M mm_T0 (d + 6) 82 [.ref 3, .int (iI x)] g = some (some (.int (iI 0)), bdH g 1 (tS b E p))) := by
  have a := C_isSign (d := d + 4) S hx hn hd
  refine ⟨fun z => ?_, fun z => ?_⟩
  · obtain ⟨g', m1, m2, m3⟩ := C_advS (d := d) S z hx.1 hn hd
    rw [b2_t z] at a
    refine ⟨g', ?_, m2, m3⟩
    rw [U_X6_takeSign]
    simp (disch := omega) only [iI_lit, jI_lit, iI_neg, jI_neg, iI_add, iI_sub, iI_mul, jI_add, jI_sub, jI_mul, rdI, rdL, iI_lt, iI_le, iI_eq, iI_nat, iI_b2_0, iI_b2_1, mm_bI_some, mm_bV_some, mm_bL_some, mm_bA_some, fd_wL, fd_wR, fl_wI, fl_wR, re_wI, re_wL, re_wC, ite_true, ite_false, not_true_eq_false, not_false_eq_true, lq_ge, lq_le, lq_gt, lq_lt, lq_eq, jI_lt, jI_le, jI_eq, if_pos, if_neg, a, m1]
  · have u := C_unexp (d := d + 3) S
    rw [b2_f z] at a
    rw [U_X6_takeSign]
    simp (disch := omega) only [iI_lit, jI_lit, iI_neg, jI_neg, iI_add, iI_sub, iI_mul, jI_add, jI_sub, jI_mul, rdI, rdL, iI_lt, iI_le, iI_eq, iI_nat, iI_b2_0, iI_b2_1, mm_bI_some, mm_bV_some, mm_bL_some, mm_bA_some, fd_wL, fd_wR, fl_wI, fl_wR, re_wI, re_wL, re_wC, ite_true, ite_false, not_true_eq_false, not_false_eq_true, lq_ge, lq_le, lq_gt, lq_lt, lq_eq, jI_lt, jI_le, jI_eq, if_pos, if_neg, a, u, zr_0]
set_option maxHeartbeats 8000000 in
theorem C_takeWord {k : Int} (S : CS g b E p gl) (k0 : 0 ≤ k) (k1 : k < 100) : (wno b E p gl = k → ∃ g', mm_M mm_T0 (d + 6) 81 [.ref 3, .int (iI k)] g = some (some (.int (iI 1)), g') ∧ CS g' b E (tL b E (tS b E p)) true ∧ Kf QTc nL g g') ∧ (wno b E p gl ≠ k → mm_M mm_T0 (d + 6) 81 [.ref 3, .int (iI k)] g = some (some (.int (iI 0)), bdH g 1 (tS b E p))) := by
  have a := C_isWord (d := d + 4) S k0 k1
  refine ⟨fun z => ?_, fun z => ?_⟩
  · obtain ⟨g', m1, m2, m3⟩ := C_advW (d := d) S (by omega)
    rw [b2_t z] at a
    refine ⟨g', ?_, m2, m3⟩
    rw [U_X6_takeWord]
    simp (disch := omega) only [iI_lit, jI_lit, iI_neg, jI_neg, iI_add, iI_sub, iI_mul, jI_add, jI_sub, jI_mul, rdI, rdL, iI_lt, iI_le, iI_eq, iI_nat, iI_b2_0, iI_b2_1, mm_bI_some, mm_bV_some, mm_bL_some, mm_bA_some, fd_wL, fd_wR, fl_wI, fl_wR, re_wI, re_wL, re_wC, ite_true, ite_false, not_true_eq_false, not_false_eq_true, lq_ge, lq_le, lq_gt, lq_lt, lq_eq, jI_lt, jI_le, jI_eq, if_pos, if_neg, a, m1]
  · have u := C_unexp (d := d + 3) S
    rw [b2_f z] at a
    rw [U_X6_takeWord]
    simp (disch := omega) only [iI_lit, jI_lit, iI_neg, jI_neg, iI_add, iI_sub, iI_mul, jI_add, jI_sub, jI_mul, rdI, rdL, iI_lt, iI_le, iI_eq, iI_nat, iI_b2_0, iI_b2_1, mm_bI_some, mm_bV_some, mm_bL_some, mm_bA_some, fd_wL, fd_wR, fl_wI, fl_wR, re_wI, re_wL, re_wC, ite_true, ite_false, not_true_eq_false, not_false_eq_true, lq_ge, lq_le, lq_gt, lq_lt, lq_eq, jI_lt, jI_le, jI_eq, if_pos, if_neg, a, u, zr_0]
set_option maxHeartbeats 8000000 in
theorem C_mayOpen {o : Nat} (S : CS g b E p gl) (ho : o ≤ 6) : (o < 6 → mm_M mm_T0 (d + 3) 87 [.ref 3, .int (iI (o : Nat))] g = some (some (.int (iI 1)), g)) ∧ (¬ o < 6 → mm_M mm_T0 (d + 3) 87 [.ref 3, .int (iI (o : Nat))] g = some (some (.int (iI 0)), bdH g 4 (tS b E p))) := by
  refine ⟨fun z => ?_, fun z => ?_⟩
  · rw [U_X6_mayOpen]
    simp (disch := omega) only [iI_lit, jI_lit, iI_neg, jI_neg, iI_add, iI_sub, iI_mul, jI_add, jI_sub, jI_mul, rdI, rdL, iI_lt, iI_le, iI_eq, iI_nat, iI_b2_0, iI_b2_1, mm_bI_some, mm_bV_some, mm_bL_some, mm_bA_some, fd_wL, fd_wR, fl_wI, fl_wR, re_wI, re_wL, re_wC, ite_true, ite_false, not_true_eq_false, not_false_eq_true, lq_ge, lq_le, lq_gt, lq_lt, lq_eq, jI_lt, jI_le, jI_eq, if_pos, if_neg]
  · have f := C_fail (d := d) (k := 4) S
    rw [U_X6_mayOpen]
    simp (disch := omega) only [iI_lit, jI_lit, iI_neg, jI_neg, iI_add, iI_sub, iI_mul, jI_add, jI_sub, jI_mul, rdI, rdL, iI_lt, iI_le, iI_eq, iI_nat, iI_b2_0, iI_b2_1, mm_bI_some, mm_bV_some, mm_bL_some, mm_bA_some, fd_wL, fd_wR, fl_wI, fl_wR, re_wI, re_wL, re_wC, ite_true, ite_false, not_true_eq_false, not_false_eq_true, lq_ge, lq_le, lq_gt, lq_lt, lq_eq, jI_lt, jI_le, jI_eq, if_pos, if_neg, f]
set_option maxHeartbeats 8000000 in
theorem C_numHere {lo hi : Nat} (S : CS g b E p gl) (hlo : lo ≤ 10000) (hhi : hi ≤ 10000) : ((numT b E lo hi p gl).1 = 0 → mm_M mm_T0 (d + 3) 83 [.ref 3, .int (iI (lo : Nat)), .int (iI (hi : Nat))] g = some (some (.int (iI 1)), g) ∧ fd g 3 4 = (numT b E lo hi p gl).2.2) ∧ ((numT b E lo hi p gl).1 ≠ 0 → mm_M mm_T0 (d + 3) 83 [.ref 3, .int (iI (lo : Nat)), .int (iI (hi : Nat))] g = some (some (.int (iI 0)), bdH g (numT b E lo hi p gl).1 (numT b E lo hi p gl).2.1)) := by
  have e1 := S.2.2.2.2.1
  have e2 := S.2.2.2.1
  have e3 := S.2.2.2.2.2.1
  have hE := S.2.1
  have le := tS_le (b := b) (E := E) S.2.2.1
  have kb := tkK_b (b := b) (E := E) (p := p) (gl := gl)
  unfold numT
  by_cases c : isDg (tB b E p) = true ∧ tG b E p gl = false
  · have i := isDg_iff.mp c.1
    have ne : ¬ tB b E p = -1 := by omega
    have nl : ¬ isLt (tB b E p) = true := fun z => by have := isLt_iff.mp z; omega
    have te : tE b E p = tD b E (tS b E p) := by
      unfold tE
      rw [if_neg ne, if_neg nl, if_pos c.1]
    have tdi := tD_in c.1
    have e4 := S.2.2.2.2.2.2.1 ne
    have kv : tkV b E p = numF b (min (tD b E (tS b E p)) (tS b E p + 4) - tS b E p) (tS b E p) 0 := by
      unfold tkV
      rw [if_neg nl, if_pos c.1]
    rw [kv] at e4
    rw [tkK_n.mpr c] at e1
    rw [te] at e3
    rw [if_pos c]
    by_cases c2 : tD b E (tS b E p) ≤ tS b E p + 4
    · rw [show min (tD b E (tS b E p)) (tS b E p + 4) = tD b E (tS b E p) by omega] at e4
      rw [if_pos c2]
      generalize numF b (tD b E (tS b E p) - tS b E p) (tS b E p) 0 = v at *
      have vb : -2147483648 ≤ v ∧ v < 2147483648 := by rw [← e4]; exact ⟨fd_lo _ _ _, fd_hi _ _ _⟩
      by_cases c3 : (lo : Int) ≤ v ∧ v ≤ (hi : Int)
      · rw [if_pos c3]
        refine ⟨fun _ => ⟨?_, e4⟩, fun z => absurd rfl z⟩
        rw [U_X6_isNumberHere]
        simp (disch := omega) only [iI_lit, jI_lit, iI_neg, jI_neg, iI_add, iI_sub, iI_mul, jI_add, jI_sub, jI_mul, rdI, rdL, iI_lt, iI_le, iI_eq, iI_nat, iI_b2_0, iI_b2_1, mm_bI_some, mm_bV_some, mm_bL_some, mm_bA_some, fd_wL, fd_wR, fl_wI, fl_wR, re_wI, re_wL, re_wC, ite_true, ite_false, not_true_eq_false, not_false_eq_true, lq_ge, lq_le, lq_gt, lq_lt, lq_eq, jI_lt, jI_le, jI_eq, if_pos, if_neg, e1, e2, e3, e4]
      · rw [if_neg c3]
        have f := C_fail (d := d) (k := 2) S
        refine ⟨fun z => absurd z (by simp), fun _ => ?_⟩
        rw [U_X6_isNumberHere]
        by_cases c4 : v < (lo : Int) <;> simp (disch := omega) only [iI_lit, jI_lit, iI_neg, jI_neg, iI_add, iI_sub, iI_mul, jI_add, jI_sub, jI_mul, rdI, rdL, iI_lt, iI_le, iI_eq, iI_nat, iI_b2_0, iI_b2_1, mm_bI_some, mm_bV_some, mm_bL_some, mm_bA_some, fd_wL, fd_wR, fl_wI, fl_wR, re_wI, re_wL, re_wC, ite_true, ite_false, not_true_eq_false, not_false_eq_true, lq_ge, lq_le, lq_gt, lq_lt, lq_eq, jI_lt, jI_le, jI_eq, if_pos, if_neg, e1, e2, e3, e4, f]
    · rw [if_neg c2]
      refine ⟨fun z => absurd z (by simp), fun _ => ?_⟩
      rw [U_X6_isNumberHere, U_X6_failAt]
      unfold bdH
      simp (disch := omega) only [iI_lit, jI_lit, iI_neg, jI_neg, iI_add, iI_sub, iI_mul, jI_add, jI_sub, jI_mul, rdI, rdL, iI_lt, iI_le, iI_eq, iI_nat, iI_b2_0, iI_b2_1, mm_bI_some, mm_bV_some, mm_bL_some, mm_bA_some, fd_wL, fd_wR, fl_wI, fl_wR, re_wI, re_wL, re_wC, ite_true, ite_false, not_true_eq_false, not_false_eq_true, lq_ge, lq_le, lq_gt, lq_lt, lq_eq, jI_lt, jI_le, jI_eq, if_pos, if_neg, e1, e2, e3, zr_0]
  · have n1 : ¬ tkK b E p gl = 2 := fun z => c (tkK_n.mp z)
    have u := C_unexp (d := d) S
    rw [if_neg c]
    refine ⟨fun z => absurd z (by simp), fun _ => ?_⟩
    rw [U_X6_isNumberHere]
    simp (disch := omega) only [iI_lit, jI_lit, iI_neg, jI_neg, iI_add, iI_sub, iI_mul, jI_add, jI_sub, jI_mul, rdI, rdL, iI_lt, iI_le, iI_eq, iI_nat, iI_b2_0, iI_b2_1, mm_bI_some, mm_bV_some, mm_bL_some, mm_bA_some, fd_wL, fd_wR, fl_wI, fl_wR, re_wI, re_wL, re_wC, ite_true, ite_false, not_true_eq_false, not_false_eq_true, lq_ge, lq_le, lq_gt, lq_lt, lq_eq, jI_lt, jI_le, jI_eq, if_pos, if_neg, e1, u, zr_0]
set_option maxHeartbeats 8000000 in
theorem C_takeValue {v : Int} (S : CS g b E p gl) (c : isDg (tB b E p) = true ∧ tG b E p gl = false) (e4 : fd g 3 4 = v) : ∃ g', mm_M mm_T0 (d + 6) 85 [.ref 3] g = some (some (.int (iI v)), g') ∧ CS g' b E (tD b E (tS b E p)) true ∧ Kf QTc nL g g' := by
  obtain ⟨g', m1, m2, m3⟩ := C_advN (d := d) S c
  refine ⟨g', ?_, m2, m3⟩
  rw [U_X6_takeValue]
  simp (disch := omega) only [iI_lit, jI_lit, iI_neg, jI_neg, iI_add, iI_sub, iI_mul, jI_add, jI_sub, jI_mul, rdI, rdL, iI_lt, iI_le, iI_eq, iI_nat, iI_b2_0, iI_b2_1, mm_bI_some, mm_bV_some, mm_bL_some, mm_bA_some, fd_wL, fd_wR, fl_wI, fl_wR, re_wI, re_wL, re_wC, ite_true, ite_false, not_true_eq_false, not_false_eq_true, lq_ge, lq_le, lq_gt, lq_lt, lq_eq, jI_lt, jI_le, jI_eq, if_pos, if_neg, m1, e4]
theorem CS.kf {g' : mm_H} {Q L : Nat → Nat → Prop} (S : CS g b E p gl) (k : Kf Q L g g') (q1 : ¬ Q 1 1) (q2 : ∀ j, ¬ Q 2 j) (q3 : ∀ j, 1 ≤ j → j ≤ 6 → ¬ Q 3 j) : CS g' b E p gl := ⟨S.1.kf k q1 q2, S.2.1, S.2.2.1, (k.1 _ _ (q3 2 (by omega) (by omega))).trans S.2.2.2.1, (k.1 _ _ (q3 1 (by omega) (by omega))).trans S.2.2.2.2.1, (k.1 _ _ (q3 3 (by omega) (by omega))).trans S.2.2.2.2.2.1, fun z => (k.1 _ _ (q3 4 (by omega) (by omega))).trans (S.2.2.2.2.2.2.1 z), (k.1 _ _ (q3 5 (by omega) (by omega))).trans S.2.2.2.2.2.2.2.1, (k.1 _ _ (q3 6 (by omega) (by omega))).trans S.2.2.2.2.2.2.2.2⟩
end CPR
section CADD
variable {d : Nat} {g : mm_H} {cc L : Nat} {C : List Int}
theorem CQ.kf {g' : mm_H} {Q Lq : Nat → Nat → Prop} (K : CQ g cc L C) (k : Kf Q Lq g g') (q1 : ¬ Q cc 5) (q2 : ∀ j, ¬ Q (cc + 1) j) : CQ g' cc L C := ⟨(k.1 _ _ q1).trans K.1, fun i v h => (k.1 _ _ (q2 _)).trans (K.2 i v h)⟩
theorem tc_b {v : Int} (h0 : 0 ≤ v) (h1 : v ≤ 11000) : 0 ≤ tc v ∧ tc v ≤ 12000 := by
  have a := wd_b (v - 40)
  have c := tcj_b v
  unfold tc
  repeat' split
  all_goals omega
set_option maxHeartbeats 8000000 in
theorem C_addc {v : Int} (hc : mm_isC cc) (K : CQ g cc L C) (hl : L + C.length < 1620) (h0 : 0 ≤ v) (h1 : v ≤ 11000) : ∃ g', mm_M mm_T0 (d + 1) 37 [.ref cc, .int (iI (tc v))] g = some (none, g') ∧ CQ g' cc L (C ++ [v]) ∧ Kf (QAd cc) nL g g' := by
  have e := K.1
  have tb := tc_b h0 h1
  have nn : (((L + C.length : Nat) : Int)).toNat = L + C.length := by omega
  have f5 : fd (wI g (cc + 1) (L + C.length) (iI (tc v))) cc 5 = ((L + C.length : Nat) : Int) := by rw [fd_wI_row (by omega)]; exact e
  refine ⟨wI (wI g (cc + 1) (L + C.length) (iI (tc v))) cc 5 (iI (((L + C.length : Nat) : Int) + 1)), ?_, ⟨?_, ?_⟩, (Kf.refl.wI (by unfold QAd; omega)).wI (by unfold QAd; omega)⟩
  · rw [U_X1_add hc]
    simp (disch := omega) only [iI_lit, jI_lit, iI_neg, jI_neg, iI_add, iI_sub, iI_mul, jI_add, jI_sub, jI_mul, rdI, rdL, iI_lt, iI_le, iI_eq, iI_nat, iI_b2_0, iI_b2_1, mm_bI_some, mm_bV_some, mm_bL_some, mm_bA_some, fd_wL, fd_wR, fl_wI, fl_wR, re_wI, re_wL, re_wC, ite_true, ite_false, not_true_eq_false, not_false_eq_true, lq_ge, lq_le, lq_gt, lq_lt, lq_eq, jI_lt, jI_le, jI_eq, if_pos, if_neg, e, nn, f5]
  · rw [fd_wI_same (by omega) (by omega), List.length_append, List.length_singleton]
    omega
  · intro i u hi
    rw [fd_wI_row (by omega)]
    by_cases ci : i < C.length
    · rw [List.getElem?_append_left ci] at hi
      rw [fd_wI_col (by omega)]
      exact K.2 i u hi
    · have hh := (List.getElem?_eq_some_iff.mp hi).1
      rw [List.length_append, List.length_singleton] at hh
      have ei : i = C.length := by omega
      rw [ei, List.getElem?_append_right (Nat.le_refl _), Nat.sub_self] at hi
      have ev : v = u := by simpa using hi
      rw [ei, fd_wI_same (by omega) (by omega), ev]
set_option maxHeartbeats 8000000 in
theorem C_addX {x : Int32} (hc : mm_isC cc) (h0 : 0 ≤ fd g cc 5) : ∃ g', mm_M mm_T0 (d + 1) 37 [.ref cc, .int x] g = some (none, g') ∧ 0 ≤ fd g' cc 5 ∧ Kf (QAd cc) nL g g' := by
  have := fd_lo g cc 5; have := fd_hi g cc 5
  by_cases c : 1620 ≤ fd g cc 5
  · refine ⟨g, ?_, h0, Kf.refl⟩
    rw [U_X1_add hc]
    simp (disch := omega) only [iI_lit, jI_lit, iI_neg, jI_neg, iI_add, iI_sub, iI_mul, jI_add, jI_sub, jI_mul, rdI, rdL, iI_lt, iI_le, iI_eq, iI_nat, iI_b2_0, iI_b2_1, mm_bI_some, mm_bV_some, mm_bL_some, mm_bA_some, fd_wL, fd_wR, fl_wI, fl_wR, re_wI, re_wL, re_wC, ite_true, ite_false, not_true_eq_false, not_false_eq_true, lq_ge, lq_le, lq_gt, lq_lt, lq_eq, jI_lt, jI_le, jI_eq, if_pos, if_neg]
  · have f5 : fd (wI g (cc + 1) (fd g cc 5).toNat x) cc 5 = fd g cc 5 := fd_wI_row (by omega)
    refine ⟨wI (wI g (cc + 1) (fd g cc 5).toNat x) cc 5 (iI (fd g cc 5 + 1)), ?_, ?_, (Kf.refl.wI (by unfold QAd; omega)).wI (by unfold QAd; omega)⟩
    · rw [U_X1_add hc]
      simp (disch := omega) only [iI_lit, jI_lit, iI_neg, jI_neg, iI_add, iI_sub, iI_mul, jI_add, jI_sub, jI_mul, rdI, rdL, iI_lt, iI_le, iI_eq, iI_nat, iI_b2_0, iI_b2_1, mm_bI_some, mm_bV_some, mm_bL_some, mm_bA_some, fd_wL, fd_wR, fl_wI, fl_wR, re_wI, re_wL, re_wC, ite_true, ite_false, not_true_eq_false, not_false_eq_true, lq_ge, lq_le, lq_gt, lq_lt, lq_eq, jI_lt, jI_le, jI_eq, if_pos, if_neg, f5]
    · rw [fd_wI_same (by omega) (by omega)]
      omega
end CADD
