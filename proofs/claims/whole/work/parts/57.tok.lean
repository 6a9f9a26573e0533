/-! tokens: the tape's text, and how the reference reads it -/
def isLt (x : Int) : Bool := decide (97 ≤ x ∧ x ≤ 122)
def isDg (x : Int) : Bool := decide (48 ≤ x ∧ x ≤ 57)
def isBl (x : Int) : Bool := decide (x = 10 ∨ x = 32)
def runF (P : Int → Bool) (b : Nat → Int) (E : Nat) : Nat → Nat → Nat
  | 0, p => p
  | k + 1, p => if p < E ∧ P (b p) = true then runF P b E k (p + 1) else p
/-- the first place from p on whose byte is none of P -/
def run (P : Int → Bool) (b : Nat → Int) (E p : Nat) : Nat := runF P b E (E - p) p
section RUN
variable {P : Int → Bool} {b : Nat → Int} {E p : Nat}
theorem run_step (h : p < E ∧ P (b p) = true) : run P b E p = run P b E (p + 1) := by
  unfold run
  rw [show E - p = (E - (p + 1)) + 1 by omega, runF, if_pos h]
theorem run_stop (h : ¬ (p < E ∧ P (b p) = true)) : run P b E p = p := by
  unfold run
  cases hk : E - p with
  | zero => rfl
  | succ k => rw [runF, if_neg h]
theorem run_all : ∀ (k p : Nat), k = E - p → p ≤ run P b E p ∧ (p ≤ E → run P b E p ≤ E) ∧ (∀ j, p ≤ j → j < run P b E p → j < E ∧ P (b j) = true) ∧ ¬ (run P b E p < E ∧ P (b (run P b E p)) = true)
  | 0, p, hk => by
    rw [run_stop (by omega)]
    exact ⟨Nat.le_refl _, fun h => h, fun j h1 h2 => by omega, by omega⟩
  | k + 1, p, hk => by
    by_cases c : p < E ∧ P (b p) = true
    · rw [run_step c]
      have ih := run_all k (p + 1) (by omega)
      refine ⟨by omega, fun _ => ih.2.1 (by omega), fun j h1 h2 => ?_, ih.2.2.2⟩
      by_cases cj : j = p
      · rw [cj]; exact c
      · exact ih.2.2.1 j (by omega) h2
    · rw [run_stop c]
      exact ⟨Nat.le_refl _, fun h => h, fun j h1 h2 => by omega, c⟩
theorem run_ge : p ≤ run P b E p := (run_all (E - p) p rfl).1
theorem run_le (h : p ≤ E) : run P b E p ≤ E := (run_all (E - p) p rfl).2.1 h
theorem run_in {j : Nat} (h1 : p ≤ j) (h2 : j < run P b E p) : j < E ∧ P (b j) = true := (run_all (E - p) p rfl).2.2.1 j h1 h2
theorem run_end : ¬ (run P b E p < E ∧ P (b (run P b E p)) = true) := (run_all (E - p) p rfl).2.2.2
end RUN
section TOKS
variable (b : Nat → Int) (E : Nat)
/-- where the next token starts, and its first byte; -1 at the end -/
def tS (p : Nat) : Nat := run isBl b E p
def tB (p : Nat) : Int := if tS b E p < E then b (tS b E p) else -1
/-- a word or a number that clings to one ahead -/
def tG (p : Nat) (gl : Bool) : Bool := gl && decide (tS b E p = p)
/-- where a word that starts at s stops -/
def tL (s : Nat) : Nat := run isLt b E s
def tD (s : Nat) : Nat := run isDg b E s
def mtW (w : List Int) (s : Nat) : Bool := decide (∀ k, k < w.length → b (s + k) = w.getD k 0)
/-- the word w stands next -/
def hasW (w : List Int) (p : Nat) (gl : Bool) : Bool := isLt (tB b E p) && !tG b E p gl && decide (tL b E (tS b E p) = tS b E p + w.length) && mtW b w (tS b E p)
def numF : Nat → Nat → Int → Int
  | 0, _, v => v
  | k + 1, p, v => numF k (p + 1) (10 * v + b p - 48)
end TOKS
theorem tS_ge {b : Nat → Int} {E p : Nat} : p ≤ tS b E p := run_ge
theorem tS_le {b : Nat → Int} {E p : Nat} (h : p ≤ E) : tS b E p ≤ E := run_le h
theorem tS_idem {b : Nat → Int} {E p q : Nat} (h1 : p ≤ q) (h2 : q ≤ tS b E p) : tS b E q = tS b E p := by
  have key : ∀ (k p : Nat), k = q - p → p ≤ q → q ≤ tS b E p → tS b E q = tS b E p := by
    intro k
    induction k with
    | zero =>
      intro p hk h1 h2
      rw [show q = p by omega]
    | succ k ih =>
      intro p hk h1 h2
      have c := run_in (P := isBl) (b := b) (E := E) (p := p) (j := p) (Nat.le_refl _) (by unfold tS at h2; omega)
      have e : tS b E p = tS b E (p + 1) := run_step c
      rw [e] at h2 ⊢
      exact ih (p + 1) (by omega) (by omega) h2
  exact key _ p rfl h1 h2
/-- the reference's cells for reading text -/
def QTk : Nat → Nat → Prop := fun a k => a = 264 ∧ (k = 2 ∨ k = 4 ∨ k = 5 ∨ k = 6 ∨ k = 10 ∨ k = 36)
/-- the text, in the reference -/
def Txt (g : mm_H) (b : Nat → Int) (E : Nat) : Prop := fd g 264 3 = (E : Int) ∧ E ≤ 1600 ∧ (∀ j, j < E → fd g 265 j = b j ∧ 0 ≤ b j ∧ b j ≤ 255) ∧ IvK g
/-- it stands at p; gl: right behind a word or number -/
def RS (g : mm_H) (b : Nat → Int) (E p : Nat) (gl : Bool) : Prop := Txt g b E ∧ p ≤ E ∧ fd g 264 5 = 0 ∧ ((p : Int) ≤ fd g 264 2 ∧ fd g 264 2 ≤ (tS b E p : Int)) ∧ (if gl = true then fd g 264 4 = (p : Int) else -1 ≤ fd g 264 4 ∧ fd g 264 4 < (p : Int)) ∧ fd g 264 6 = -1
/-- the first fault is told -/
def Bad (g : mm_H) (k pl : Int) : Prop := fd g 264 5 = k ∧ fd g 264 6 = pl
section RTOK
variable {d : Nat} {g : mm_H} {b : Nat → Int} {E p : Nat} {gl : Bool}
theorem Txt.kf {g' : mm_H} {Q L : Nat → Nat → Prop} (T : Txt g b E) (k : Kf Q L g g') (q : ∀ a j, (a = 264 ∧ j = 3) ∨ a = 265 ∨ (267 ≤ a ∧ a ≤ 291) ∨ (307 ≤ a ∧ a ≤ 331) → ¬ Q a j) : Txt g' b E := ⟨(k.1 _ _ (q _ _ (by omega))).trans T.1, T.2.1, fun j hj => ⟨(k.1 _ _ (q _ _ (by omega))).trans (T.2.2.1 j hj).1, (T.2.2.1 j hj).2⟩, fun a ha j v hv => (k.1 _ _ (q _ _ (by omega))).trans (T.2.2.2 a ha j v hv)⟩
theorem Txt.tk {g' : mm_H} (T : Txt g b E) (k : Kf QTk nL g g') : Txt g' b E := T.kf k (by intro a j; unfold QTk; omega)
set_option maxHeartbeats 8000000 in
theorem R_look_0 : ∀ (k a : Nat) (g : mm_H), k = E - a → Txt g b E → a ≤ E → fd g 264 2 = (a : Int) → ∃ g', mm_D (mm_M mm_T0 d) cd_X12_look 0 [.ref 264] [] g = some (some (.int (iI (tB b E a))), g') ∧ fd g' 264 2 = (tS b E a : Int) ∧ Kf (fun a k => a = 264 ∧ k = 2) nL g g'
  | 0, a, g, hk, T, ha, e2 => by
    have e3 := T.1
    have hE := T.2.1
    have st : tS b E a = a := run_stop (by omega)
    refine ⟨g, ?_, by rw [st]; exact e2, Kf.refl⟩
    have tb : tB b E a = -1 := by
      unfold tB
      rw [st, if_neg (by omega)]
    rw [tb, U_X12_look_0]
    simp (disch := omega) only [iI_lit, jI_lit, iI_neg, jI_neg, iI_add, iI_sub, iI_mul, jI_add, jI_sub, jI_mul, rdI, rdL, iI_lt, iI_le, iI_eq, iI_nat, iI_b2_0, iI_b2_1, mm_bI_some, mm_bV_some, mm_bL_some, mm_bA_some, fd_wL, fd_wR, fl_wI, fl_wR, re_wI, re_wL, re_wC, ite_true, ite_false, not_true_eq_false, not_false_eq_true, lq_ge, lq_le, lq_gt, lq_lt, lq_eq, jI_lt, jI_le, jI_eq, if_pos, if_neg, e2, e3]
  | k + 1, a, g, hk, T, ha, e2 => by
    have e3 := T.1
    have hE := T.2.1
    have v := T.2.2.1 a (by omega)
    have v1 := v.1
    have na : ((a : Nat) : Int).toNat = a := by omega
    by_cases c : b a = 10 ∨ b a = 32
    · have cc : a < E ∧ isBl (b a) = true := ⟨by omega, decide_eq_true c⟩
      have st : tS b E a = tS b E (a + 1) := run_step cc
      have tb : tB b E a = tB b E (a + 1) := by
        unfold tB
        rw [st]
      have kw : Kf (fun a k => a = 264 ∧ k = 2) nL g (wI g 264 2 (iI ((a : Int) + 1))) := Kf.refl.wI ⟨rfl, rfl⟩
      obtain ⟨g', m1, m2, m3⟩ := R_look_0 k (a + 1) (wI g 264 2 (iI ((a : Int) + 1))) (by omega) (T.kf kw (by intro a j; omega)) (by omega) (by rw [fd_wI_same (by omega) (by omega)]; omega)
      refine ⟨g', ?_, by rw [st]; exact m2, kw.trans m3⟩
      rw [tb, ← m1, U_X12_look_0]
      by_cases c1 : b a = 10 <;> simp (disch := omega) only [iI_lit, jI_lit, iI_neg, jI_neg, iI_add, iI_sub, iI_mul, jI_add, jI_sub, jI_mul, rdI, rdL, iI_lt, iI_le, iI_eq, iI_nat, iI_b2_0, iI_b2_1, mm_bI_some, mm_bV_some, mm_bL_some, mm_bA_some, fd_wL, fd_wR, fl_wI, fl_wR, re_wI, re_wL, re_wC, ite_true, ite_false, not_true_eq_false, not_false_eq_true, lq_ge, lq_le, lq_gt, lq_lt, lq_eq, jI_lt, jI_le, jI_eq, if_pos, if_neg, e2, e3, na, v1]
    · have cc : ¬ (a < E ∧ isBl (b a) = true) := fun z => c (of_decide_eq_true z.2)
      have st : tS b E a = a := run_stop cc
      have tb : tB b E a = b a := by
        unfold tB
        rw [st, if_pos (by omega)]
      refine ⟨g, ?_, by rw [st]; exact e2, Kf.refl⟩
      rw [tb, U_X12_look_0]
      simp (disch := omega) only [iI_lit, jI_lit, iI_neg, jI_neg, iI_add, iI_sub, iI_mul, jI_add, jI_sub, jI_mul, rdI, rdL, iI_lt, iI_le, iI_eq, iI_nat, iI_b2_0, iI_b2_1, mm_bI_some, mm_bV_some, mm_bL_some, mm_bA_some, fd_wL, fd_wR, fl_wI, fl_wR, re_wI, re_wL, re_wC, ite_true, ite_false, not_true_eq_false, not_false_eq_true, lq_ge, lq_le, lq_gt, lq_lt, lq_eq, jI_lt, jI_le, jI_eq, if_pos, if_neg, e2, e3, na, v1]
set_option maxHeartbeats 8000000 in
theorem R_look (R : RS g b E p gl) : ∃ g', mm_M mm_T0 (d + 1) 194 [.ref 264] g = some (some (.int (iI (tB b E p))), g') ∧ RS g' b E p gl ∧ fd g' 264 2 = (tS b E p : Int) ∧ Kf QTk nL g g' := by
  obtain ⟨T, hp, h5, ha, hg, h6⟩ := R
  obtain ⟨a, e2⟩ : ∃ a : Nat, fd g 264 2 = (a : Int) := ⟨(fd g 264 2).toNat, by omega⟩
  have pe := tS_le (b := b) hp
  have id := tS_idem (b := b) (E := E) (p := p) (q := a) (by omega) (by omega)
  obtain ⟨g', m1, m2, m3⟩ := R_look_0 (d := d) (E - a) a g rfl T (by omega) e2
  have tb : tB b E a = tB b E p := by
    unfold tB
    rw [id]
  rw [tb] at m1
  rw [id] at m2
  have K : Kf QTk nL g g' := m3.monoQ (fun a k q => by unfold QTk; omega)
  have ge := tS_ge (b := b) (E := E) (p := p)
  refine ⟨g', ?_, ⟨T.tk K, hp, ?_, by omega, ?_, (m3.1 _ _ (by omega)).trans h6⟩, m2, K⟩
  · rw [← m1, U_X12_look]
    exact U_X12_look_0.symm
  · rw [m3.1 _ _ (by omega)]; exact h5
  · rw [m3.1 _ _ (by omega)]; exact hg
set_option maxHeartbeats 8000000 in
theorem R_look_at (R : RS g b E p gl) (e2 : fd g 264 2 = (tS b E p : Int)) : mm_M mm_T0 (d + 1) 194 [.ref 264] g = some (some (.int (iI (tB b E p))), g) := by
  have e3 := R.1.1
  have hE := R.1.2.1
  have pe := tS_le (b := b) R.2.1
  have ed : ¬ (tS b E p < E ∧ isBl (b (tS b E p)) = true) := run_end
  rw [U_X12_look]
  unfold tB
  by_cases c : tS b E p < E
  · rw [if_pos c]
    have v := R.1.2.2.1 _ c
    have v1 := v.1
    have na : ((tS b E p : Nat) : Int).toNat = tS b E p := by omega
    have nb : ¬ (b (tS b E p) = 10 ∨ b (tS b E p) = 32) := fun z => ed ⟨c, decide_eq_true z⟩
    simp (disch := omega) only [iI_lit, jI_lit, iI_neg, jI_neg, iI_add, iI_sub, iI_mul, jI_add, jI_sub, jI_mul, rdI, rdL, iI_lt, iI_le, iI_eq, iI_nat, iI_b2_0, iI_b2_1, mm_bI_some, mm_bV_some, mm_bL_some, mm_bA_some, fd_wL, fd_wR, fl_wI, fl_wR, re_wI, re_wL, re_wC, ite_true, ite_false, not_true_eq_false, not_false_eq_true, lq_ge, lq_le, lq_gt, lq_lt, lq_eq, jI_lt, jI_le, jI_eq, if_pos, if_neg, e2, e3, na, v1]
  · rw [if_neg c]
    simp (disch := omega) only [iI_lit, jI_lit, iI_neg, jI_neg, iI_add, iI_sub, iI_mul, jI_add, jI_sub, jI_mul, rdI, rdL, iI_lt, iI_le, iI_eq, iI_nat, iI_b2_0, iI_b2_1, mm_bI_some, mm_bV_some, mm_bL_some, mm_bA_some, fd_wL, fd_wR, fl_wI, fl_wR, re_wI, re_wL, re_wC, ite_true, ite_false, not_true_eq_false, not_false_eq_true, lq_ge, lq_le, lq_gt, lq_lt, lq_eq, jI_lt, jI_le, jI_eq, if_pos, if_neg, e2, e3]
theorem tB_b (T : Txt g b E) : -1 ≤ tB b E p ∧ tB b E p ≤ 255 := by
  unfold tB
  split
  · rename_i c
    have := T.2.2.1 _ c
    omega
  · omega
theorem isLt_iff {x : Int} : isLt x = true ↔ (97 ≤ x ∧ x ≤ 122) := by
  unfold isLt
  exact decide_eq_true_iff
theorem isDg_iff {x : Int} : isDg x = true ↔ (48 ≤ x ∧ x ≤ 57) := by
  unfold isDg
  exact decide_eq_true_iff
set_option maxHeartbeats 8000000 in
theorem R_isLetter {x : Int} (x1 : -1 ≤ x) (x2 : x ≤ 255) : mm_M mm_T0 (d + 1) 192 [.int (iI x)] g = some (some (.int (iI (b2 (isLt x = true)))), g) := by
  rw [U_X12_isLetter]
  by_cases c : 97 ≤ x ∧ x ≤ 122
  · rw [b2_t (isLt_iff.mpr c)]
    simp (disch := omega) only [iI_lit, jI_lit, iI_neg, jI_neg, iI_add, iI_sub, iI_mul, jI_add, jI_sub, jI_mul, rdI, rdL, iI_lt, iI_le, iI_eq, iI_nat, iI_b2_0, iI_b2_1, mm_bI_some, mm_bV_some, mm_bL_some, mm_bA_some, fd_wL, fd_wR, fl_wI, fl_wR, re_wI, re_wL, re_wC, ite_true, ite_false, not_true_eq_false, not_false_eq_true, lq_ge, lq_le, lq_gt, lq_lt, lq_eq, jI_lt, jI_le, jI_eq, if_pos, if_neg]
  · rw [b2_f (fun z => c (isLt_iff.mp z))]
    by_cases c2 : x < 97 <;> simp (disch := omega) only [iI_lit, jI_lit, iI_neg, jI_neg, iI_add, iI_sub, iI_mul, jI_add, jI_sub, jI_mul, rdI, rdL, iI_lt, iI_le, iI_eq, iI_nat, iI_b2_0, iI_b2_1, mm_bI_some, mm_bV_some, mm_bL_some, mm_bA_some, fd_wL, fd_wR, fl_wI, fl_wR, re_wI, re_wL, re_wC, ite_true, ite_false, not_true_eq_false, not_false_eq_true, lq_ge, lq_le, lq_gt, lq_lt, lq_eq, jI_lt, jI_le, jI_eq, if_pos, if_neg]
set_option maxHeartbeats 8000000 in
theorem R_isDigit {x : Int} (x1 : -1 ≤ x) (x2 : x ≤ 255) : mm_M mm_T0 (d + 1) 193 [.int (iI x)] g = some (some (.int (iI (b2 (isDg x = true)))), g) := by
  rw [U_X12_isDigit]
  by_cases c : 48 ≤ x ∧ x ≤ 57
  · rw [b2_t (isDg_iff.mpr c)]
    simp (disch := omega) only [iI_lit, jI_lit, iI_neg, jI_neg, iI_add, iI_sub, iI_mul, jI_add, jI_sub, jI_mul, rdI, rdL, iI_lt, iI_le, iI_eq, iI_nat, iI_b2_0, iI_b2_1, mm_bI_some, mm_bV_some, mm_bL_some, mm_bA_some, fd_wL, fd_wR, fl_wI, fl_wR, re_wI, re_wL, re_wC, ite_true, ite_false, not_true_eq_false, not_false_eq_true, lq_ge, lq_le, lq_gt, lq_lt, lq_eq, jI_lt, jI_le, jI_eq, if_pos, if_neg]
  · rw [b2_f (fun z => c (isDg_iff.mp z))]
    by_cases c2 : x < 48 <;> simp (disch := omega) only [iI_lit, jI_lit, iI_neg, jI_neg, iI_add, iI_sub, iI_mul, jI_add, jI_sub, jI_mul, rdI, rdL, iI_lt, iI_le, iI_eq, iI_nat, iI_b2_0, iI_b2_1, mm_bI_some, mm_bV_some, mm_bL_some, mm_bA_some, fd_wL, fd_wR, fl_wI, fl_wR, re_wI, re_wL, re_wC, ite_true, ite_false, not_true_eq_false, not_false_eq_true, lq_ge, lq_le, lq_gt, lq_lt, lq_eq, jI_lt, jI_le, jI_eq, if_pos, if_neg]
set_option maxHeartbeats 8000000 in
theorem R_fail {k pl : Int} (h5 : fd g 264 5 = 0) (k1 : -2147483648 ≤ k) (k2 : k < 2147483648) (p1 : -2147483648 ≤ pl) (p2 : pl < 2147483648) : ∃ g', mm_M mm_T0 (d + 1) 191 [.ref 264, .int (iI k), .int (iI pl)] g = some (none, g') ∧ Bad g' k pl ∧ Kf QTk nL g g' := by
  refine ⟨wI (wI g 264 5 (iI k)) 264 6 (iI pl), ?_, ⟨?_, ?_⟩, (Kf.refl.wI (by unfold QTk; omega)).wI (by unfold QTk; omega)⟩
  · rw [U_X12_fail]
    simp (disch := omega) only [iI_lit, jI_lit, iI_neg, jI_neg, iI_add, iI_sub, iI_mul, jI_add, jI_sub, jI_mul, rdI, rdL, iI_lt, iI_le, iI_eq, iI_nat, iI_b2_0, iI_b2_1, mm_bI_some, mm_bV_some, mm_bL_some, mm_bA_some, fd_wL, fd_wR, fl_wI, fl_wR, re_wI, re_wL, re_wC, ite_true, ite_false, not_true_eq_false, not_false_eq_true, lq_ge, lq_le, lq_gt, lq_lt, lq_eq, jI_lt, jI_le, jI_eq, if_pos, if_neg, h5]
  · rw [fd_wI_col (by omega), fd_wI_same k1 k2]
  · rw [fd_wI_same p1 p2]
/-- the words' rows -/
def isW (a : Nat) : Prop := (267 ≤ a ∧ a ≤ 291) ∨ (307 ≤ a ∧ a ≤ 331)
theorem sh_word {a : Nat} (ha : isW a) : mm_sh a = (3, (wordL a).length) := by
  have k1 : ∀ a, a < 25 → mm_sh (267 + a) = (3, (wordL (267 + a)).length) := by decide
  have k2 : ∀ a, a < 25 → mm_sh (307 + a) = (3, (wordL (307 + a)).length) := by decide
  rcases ha with h | h
  · have := k1 (a - 267) (by omega)
    rw [show 267 + (a - 267) = a by omega] at this
    exact this
  · have := k2 (a - 307) (by omega)
    rw [show 307 + (a - 307) = a by omega] at this
    exact this
theorem len_word {a : Nat} (ha : isW a) : 1 ≤ (wordL a).length ∧ (wordL a).length ≤ 7 := by
  have k1 : ∀ a, a < 25 → 1 ≤ (wordL (267 + a)).length ∧ (wordL (267 + a)).length ≤ 7 := by decide
  have k2 : ∀ a, a < 25 → 1 ≤ (wordL (307 + a)).length ∧ (wordL (307 + a)).length ≤ 7 := by decide
  rcases ha with h | h
  · have := k1 (a - 267) (by omega)
    rw [show 267 + (a - 267) = a by omega] at this
    exact this
  · have := k2 (a - 307) (by omega)
    rw [show 307 + (a - 307) = a by omega] at this
    exact this
set_option maxHeartbeats 8000000 in
theorem R_here_76 {a s : Nat} (ha : isW a) (T : Txt g b E) (e2 : fd g 264 2 = (s : Int)) (hs : s + (wordL a).length ≤ E) : ∀ (k j : Nat), j + k = (wordL a).length → mm_D (mm_M mm_T0 d) cd_X12_isHere 76 [.ref 264, .ref a, .null, .int (iI (j : Nat))] [] g = some (some (.int (iI (b2 (∀ i, i < (wordL a).length → j ≤ i → b (s + i) = (wordL a).getD i 0)))), g)
  | 0, j, jk => by
    have ln := len_word ha
    have on : Int32.ofNat (wordL a).length = iI ((wordL a).length : Nat) := (Int32.ofInt_eq_ofNat (n := (wordL a).length)).symm
    rw [U_X12_isHere_76 (sh_word ha), b2_t (by intro i h1 h2; omega), on]
    simp (disch := omega) only [iI_lit, jI_lit, iI_neg, jI_neg, iI_add, iI_sub, iI_mul, jI_add, jI_sub, jI_mul, rdI, rdL, iI_lt, iI_le, iI_eq, iI_nat, iI_b2_0, iI_b2_1, mm_bI_some, mm_bV_some, mm_bL_some, mm_bA_some, fd_wL, fd_wR, fl_wI, fl_wR, re_wI, re_wL, re_wC, ite_true, ite_false, not_true_eq_false, not_false_eq_true, lq_ge, lq_le, lq_gt, lq_lt, lq_eq, jI_lt, jI_le, jI_eq, if_pos, if_neg]
  | k + 1, j, jk => by
    have ln := len_word ha
    have hE := T.2.1
    have on : Int32.ofNat (wordL a).length = iI ((wordL a).length : Nat) := (Int32.ofInt_eq_ofNat (n := (wordL a).length)).symm
    have v := T.2.2.1 (s + j) (by omega)
    have v1 := v.1
    have ix : ((s : Int) + (j : Nat)).toNat = s + j := by omega
    have nj : ((j : Nat) : Int).toNat = j := by omega
    have wv : fd g a j = (wordL a).getD j 0 := T.2.2.2 a ha j _ (by rw [List.getD_eq_getElem?_getD, List.getElem?_eq_getElem (by omega)]; rfl)
    have e1 : ((j : Nat) : Int) + 1 = ((j + 1 : Nat) : Int) := by omega
    have bl : -2147483648 ≤ (wordL a).getD j 0 ∧ (wordL a).getD j 0 < 2147483648 := by rw [← wv]; exact ⟨fd_lo _ _ _, fd_hi _ _ _⟩
    rw [U_X12_isHere_76 (sh_word ha), on]
    by_cases c : b (s + j) = (wordL a).getD j 0
    · have ee : b2 (∀ i, i < (wordL a).length → j ≤ i → b (s + i) = (wordL a).getD i 0) = b2 (∀ i, i < (wordL a).length → j + 1 ≤ i → b (s + i) = (wordL a).getD i 0) := by
        have : (∀ i, i < (wordL a).length → j ≤ i → b (s + i) = (wordL a).getD i 0) ↔ (∀ i, i < (wordL a).length → j + 1 ≤ i → b (s + i) = (wordL a).getD i 0) := by
          constructor
          · intro h i h1 h2; exact h i h1 (by omega)
          · intro h i h1 h2
            by_cases ci : i = j
            · rw [ci]; exact c
            · exact h i h1 (by omega)
        unfold b2
        by_cases z : ∀ i, i < (wordL a).length → j + 1 ≤ i → b (s + i) = (wordL a).getD i 0
        · rw [if_pos z, if_pos (this.mpr z)]
        · rw [if_neg z, if_neg (fun y => z (this.mp y))]
      rw [ee, ← R_here_76 ha T e2 hs k (j + 1) (by omega)]
      simp (disch := omega) only [iI_lit, jI_lit, iI_neg, jI_neg, iI_add, iI_sub, iI_mul, jI_add, jI_sub, jI_mul, rdI, rdL, iI_lt, iI_le, iI_eq, iI_nat, iI_b2_0, iI_b2_1, mm_bI_some, mm_bV_some, mm_bL_some, mm_bA_some, fd_wL, fd_wR, fl_wI, fl_wR, re_wI, re_wL, re_wC, ite_true, ite_false, not_true_eq_false, not_false_eq_true, lq_ge, lq_le, lq_gt, lq_lt, lq_eq, jI_lt, jI_le, jI_eq, if_pos, if_neg, e2, ix, nj, v1, wv, e1]
    · rw [b2_f (fun z => c (z j (by omega) (Nat.le_refl _)))]
      simp (disch := omega) only [iI_lit, jI_lit, iI_neg, jI_neg, iI_add, iI_sub, iI_mul, jI_add, jI_sub, jI_mul, rdI, rdL, iI_lt, iI_le, iI_eq, iI_nat, iI_b2_0, iI_b2_1, mm_bI_some, mm_bV_some, mm_bL_some, mm_bA_some, fd_wL, fd_wR, fl_wI, fl_wR, re_wI, re_wL, re_wC, ite_true, ite_false, not_true_eq_false, not_false_eq_true, lq_ge, lq_le, lq_gt, lq_lt, lq_eq, jI_lt, jI_le, jI_eq, if_pos, if_neg, e2, ix, nj, v1, wv]
set_option maxHeartbeats 8000000 in
theorem R_here_35 {a s : Nat} (ha : isW a) (T : Txt g b E) (e2 : fd g 264 2 = (s : Int)) : ∀ (k q : Nat), k = E - q → s ≤ q → q ≤ E → mm_D (mm_M mm_T0 (d + 1)) cd_X12_isHere 35 [.ref 264, .ref a, .int (iI (q : Nat)), .null] [] g = if tL b E q = s + (wordL a).length then mm_D (mm_M mm_T0 (d + 1)) cd_X12_isHere 76 [.ref 264, .ref a, .null, .int (iI 0)] [] g else some (some (.int (iI 0)), g)
  | 0, q, hk, h1, h2 => by
    have e3 := T.1
    have hE := T.2.1
    have ln := len_word ha
    have on : Int32.ofNat (wordL a).length = iI ((wordL a).length : Nat) := (Int32.ofInt_eq_ofNat (n := (wordL a).length)).symm
    have st : tL b E q = q := run_stop (by omega)
    rw [st, U_X12_isHere_35 (sh_word ha), on]
    by_cases c : q = s + (wordL a).length
    · rw [if_pos c]
      simp (disch := omega) only [iI_lit, jI_lit, iI_neg, jI_neg, iI_add, iI_sub, iI_mul, jI_add, jI_sub, jI_mul, rdI, rdL, iI_lt, iI_le, iI_eq, iI_nat, iI_b2_0, iI_b2_1, mm_bI_some, mm_bV_some, mm_bL_some, mm_bA_some, fd_wL, fd_wR, fl_wI, fl_wR, re_wI, re_wL, re_wC, ite_true, ite_false, not_true_eq_false, not_false_eq_true, lq_ge, lq_le, lq_gt, lq_lt, lq_eq, jI_lt, jI_le, jI_eq, if_pos, if_neg, e2, e3]
    · rw [if_neg c]
      simp (disch := omega) only [iI_lit, jI_lit, iI_neg, jI_neg, iI_add, iI_sub, iI_mul, jI_add, jI_sub, jI_mul, rdI, rdL, iI_lt, iI_le, iI_eq, iI_nat, iI_b2_0, iI_b2_1, mm_bI_some, mm_bV_some, mm_bL_some, mm_bA_some, fd_wL, fd_wR, fl_wI, fl_wR, re_wI, re_wL, re_wC, ite_true, ite_false, not_true_eq_false, not_false_eq_true, lq_ge, lq_le, lq_gt, lq_lt, lq_eq, jI_lt, jI_le, jI_eq, if_pos, if_neg, e2, e3]
  | k + 1, q, hk, h1, h2 => by
    have e3 := T.1
    have hE := T.2.1
    have ln := len_word ha
    have on : Int32.ofNat (wordL a).length = iI ((wordL a).length : Nat) := (Int32.ofInt_eq_ofNat (n := (wordL a).length)).symm
    have v := T.2.2.1 q (by omega)
    have v1 := v.1
    have nq : ((q : Nat) : Int).toNat = q := by omega
    have e1 : ((q : Nat) : Int) + 1 = ((q + 1 : Nat) : Int) := by omega
    have il := R_isLetter (d := d) (g := g) (x := b q) (by omega) (by omega)
    by_cases c : isLt (b q) = true
    · have st : tL b E q = tL b E (q + 1) := run_step ⟨by omega, c⟩
      rw [b2_t c] at il
      rw [st, ← R_here_35 ha T e2 k (q + 1) (by omega) (by omega) (by omega), U_X12_isHere_35 (sh_word ha)]
      simp (disch := omega) only [iI_lit, jI_lit, iI_neg, jI_neg, iI_add, iI_sub, iI_mul, jI_add, jI_sub, jI_mul, rdI, rdL, iI_lt, iI_le, iI_eq, iI_nat, iI_b2_0, iI_b2_1, mm_bI_some, mm_bV_some, mm_bL_some, mm_bA_some, fd_wL, fd_wR, fl_wI, fl_wR, re_wI, re_wL, re_wC, ite_true, ite_false, not_true_eq_false, not_false_eq_true, lq_ge, lq_le, lq_gt, lq_lt, lq_eq, jI_lt, jI_le, jI_eq, if_pos, if_neg, e3, nq, v1, il, e1]
    · have st : tL b E q = q := run_stop (fun z => c z.2)
      rw [b2_f c] at il
      rw [st, U_X12_isHere_35 (sh_word ha), on]
      by_cases c2 : q = s + (wordL a).length
      · rw [if_pos c2]
        simp (disch := omega) only [iI_lit, jI_lit, iI_neg, jI_neg, iI_add, iI_sub, iI_mul, jI_add, jI_sub, jI_mul, rdI, rdL, iI_lt, iI_le, iI_eq, iI_nat, iI_b2_0, iI_b2_1, mm_bI_some, mm_bV_some, mm_bL_some, mm_bA_some, fd_wL, fd_wR, fl_wI, fl_wR, re_wI, re_wL, re_wC, ite_true, ite_false, not_true_eq_false, not_false_eq_true, lq_ge, lq_le, lq_gt, lq_lt, lq_eq, jI_lt, jI_le, jI_eq, if_pos, if_neg, e2, e3, nq, v1, il]
      · rw [if_neg c2]
        simp (disch := omega) only [iI_lit, jI_lit, iI_neg, jI_neg, iI_add, iI_sub, iI_mul, jI_add, jI_sub, jI_mul, rdI, rdL, iI_lt, iI_le, iI_eq, iI_nat, iI_b2_0, iI_b2_1, mm_bI_some, mm_bV_some, mm_bL_some, mm_bA_some, fd_wL, fd_wR, fl_wI, fl_wR, re_wI, re_wL, re_wC, ite_true, ite_false, not_true_eq_false, not_false_eq_true, lq_ge, lq_le, lq_gt, lq_lt, lq_eq, jI_lt, jI_le, jI_eq, if_pos, if_neg, e2, e3, nq, v1, il]
theorem RS.at {g : mm_H} (R : RS g b E p gl) (e : fd g 264 2 = (tS b E p : Int)) : (fd g 264 2 = fd g 264 4) ↔ tG b E p gl = true := by
  obtain ⟨T, hp, h5, ha, hg, h6⟩ := R
  have ge := tS_ge (b := b) (E := E) (p := p)
  unfold tG
  cases gl with
  | true =>
    rw [if_pos rfl] at hg
    rw [Bool.true_and, decide_eq_true_iff]
    omega
  | false =>
    rw [if_neg (by simp)] at hg
    rw [Bool.false_and]
    constructor
    · intro z; omega
    · intro z; exact absurd z (by simp)
set_option maxHeartbeats 8000000 in
theorem R_isHere {a : Nat} (ha : isW a) (R : RS g b E p gl) : ∃ g', mm_M mm_T0 (d + 2) 195 [.ref 264, .ref a] g = some (some (.int (iI (b2 (hasW b E (wordL a) p gl = true)))), g') ∧ RS g' b E p gl ∧ fd g' 264 2 = (tS b E p : Int) ∧ Kf QTk nL g g' ∧ mm_M mm_T0 (d + 1) 194 [.ref 264] g = some (some (.int (iI (tB b E p))), g') := by
  have hE := R.1.2.1
  have h5 := R.2.2.1
  obtain ⟨g1, m1, R1, m2, m3⟩ := R_look (d := d) R
  have T1 := R1.1
  have tb := tB_b (p := p) T1
  have il := R_isLetter (d := d) (g := g1) tb.1 tb.2
  have at' := R1.at m2
  have e24 := R1.2.2.2.2.1
  have le := tS_le (b := b) (E := E) R.2.1
  have ln := len_word ha
  refine ⟨g1, ?_, R1, m2, m3, m1⟩
  rw [U_X12_isHere (sh_word ha)]
  unfold hasW
  by_cases c1 : isLt (tB b E p) = true
  · rw [b2_t c1] at il
    by_cases c2 : tG b E p gl = true
    · have e := at'.mpr c2
      rw [c1, c2, b2_f (by simp)]
      simp (disch := omega) only [iI_lit, jI_lit, iI_neg, jI_neg, iI_add, iI_sub, iI_mul, jI_add, jI_sub, jI_mul, rdI, rdL, iI_lt, iI_le, iI_eq, iI_nat, iI_b2_0, iI_b2_1, mm_bI_some, mm_bV_some, mm_bL_some, mm_bA_some, fd_wL, fd_wR, fl_wI, fl_wR, re_wI, re_wL, re_wC, ite_true, ite_false, not_true_eq_false, not_false_eq_true, lq_ge, lq_le, lq_gt, lq_lt, lq_eq, jI_lt, jI_le, jI_eq, if_pos, if_neg, h5, m1, il, e]
    · have ne : ¬ fd g1 264 2 = fd g1 264 4 := fun z => c2 (at'.mp z)
      have c2' : tG b E p gl = false := by
        cases hh : tG b E p gl
        · rfl
        · exact absurd hh c2
      rw [m2] at ne
      have := fd_lo g1 264 4; have := fd_hi g1 264 4
      have h35 := R_here_35 (d := d) ha T1 m2 (E - tS b E p) (tS b E p) rfl (Nat.le_refl _) le
      by_cases c3 : tL b E (tS b E p) = tS b E p + (wordL a).length
      · rw [if_pos c3] at h35
        have tl := run_le (P := isLt) (b := b) (E := E) (p := tS b E p) le
        have h76 := R_here_76 (d := d + 1) ha T1 m2 (by unfold tL at c3; omega) (wordL a).length 0 (by omega)
        rw [show ((0 : Nat) : Int) = 0 from rfl] at h76
        have ee : b2 (∀ i, i < (wordL a).length → 0 ≤ i → b (tS b E p + i) = (wordL a).getD i 0) = b2 ((isLt (tB b E p) && !tG b E p gl && decide (tL b E (tS b E p) = tS b E p + (wordL a).length) && mtW b (wordL a) (tS b E p)) = true) := by
          rw [c1, c2', decide_eq_true c3]
          simp only [Bool.not_false, Bool.and_self, Bool.true_and]
          unfold mtW b2
          by_cases z : ∀ i, i < (wordL a).length → b (tS b E p + i) = (wordL a).getD i 0
          · rw [if_pos (fun i h _ => z i h), if_pos (decide_eq_true z)]
          · rw [if_neg (fun y => z (fun i h => y i h (by omega))), if_neg (fun y => z (of_decide_eq_true y))]
        rw [← ee, ← h76, ← h35]
        simp (disch := omega) only [iI_lit, jI_lit, iI_neg, jI_neg, iI_add, iI_sub, iI_mul, jI_add, jI_sub, jI_mul, rdI, rdL, iI_lt, iI_le, iI_eq, iI_nat, iI_b2_0, iI_b2_1, mm_bI_some, mm_bV_some, mm_bL_some, mm_bA_some, fd_wL, fd_wR, fl_wI, fl_wR, re_wI, re_wL, re_wC, ite_true, ite_false, not_true_eq_false, not_false_eq_true, lq_ge, lq_le, lq_gt, lq_lt, lq_eq, jI_lt, jI_le, jI_eq, if_pos, if_neg, h5, m1, il, m2]
      · rw [if_neg c3] at h35
        rw [decide_eq_false c3, Bool.and_false, Bool.false_and, b2_f (by simp), ← h35]
        simp (disch := omega) only [iI_lit, jI_lit, iI_neg, jI_neg, iI_add, iI_sub, iI_mul, jI_add, jI_sub, jI_mul, rdI, rdL, iI_lt, iI_le, iI_eq, iI_nat, iI_b2_0, iI_b2_1, mm_bI_some, mm_bV_some, mm_bL_some, mm_bA_some, fd_wL, fd_wR, fl_wI, fl_wR, re_wI, re_wL, re_wC, ite_true, ite_false, not_true_eq_false, not_false_eq_true, lq_ge, lq_le, lq_gt, lq_lt, lq_eq, jI_lt, jI_le, jI_eq, if_pos, if_neg, h5, m1, il, m2]
  · have c1' : isLt (tB b E p) = false := by
      cases hh : isLt (tB b E p)
      · rfl
      · exact absurd hh c1
    rw [b2_f c1] at il
    rw [c1', Bool.false_and, Bool.false_and, Bool.false_and, b2_f (by simp)]
    simp (disch := omega) only [iI_lit, jI_lit, iI_neg, jI_neg, iI_add, iI_sub, iI_mul, jI_add, jI_sub, jI_mul, rdI, rdL, iI_lt, iI_le, iI_eq, iI_nat, iI_b2_0, iI_b2_1, mm_bI_some, mm_bV_some, mm_bL_some, mm_bA_some, fd_wL, fd_wR, fl_wI, fl_wR, re_wI, re_wL, re_wC, ite_true, ite_false, not_true_eq_false, not_false_eq_true, lq_ge, lq_le, lq_gt, lq_lt, lq_eq, jI_lt, jI_le, jI_eq, if_pos, if_neg, h5, m1, il]
end RTOK
