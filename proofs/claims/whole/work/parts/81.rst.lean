/-! the reference reads names -/
def rvN (w : List Int) : Int := w.foldl (fun a x => 27 * a + x) 0
theorem rv_inj : ∀ {v w : List Int}, (∀ x ∈ v, 1 ≤ x ∧ x ≤ 26) → (∀ x ∈ w, 1 ≤ x ∧ x ≤ 26) → rv v = rv w → v = w
  | [], [], _, _, _ => rfl
  | [], y :: s, _, hw, h => by
    have := (rv_b (y :: s) hw).2.2 (by simp)
    rw [rv] at h
    omega
  | x :: r, [], hv, _, h => by
    have := (rv_b (x :: r) hv).2.2 (by simp)
    have h' : rv (x :: r) = 0 := h
    omega
  | x :: r, y :: s, hv, hw, h => by
    have hx := hv x List.mem_cons_self
    have hy := hw y List.mem_cons_self
    rw [rv, rv] at h
    have e1 : x = y := by omega
    have e2 : rv r = rv s := by omega
    rw [e1, rv_inj (fun z hz => hv z (List.mem_cons_of_mem _ hz)) (fun z hz => hw z (List.mem_cons_of_mem _ hz)) e2]
theorem rvN_inj {v w : List Int} (hv : ∀ x ∈ v, 1 ≤ x ∧ x ≤ 26) (hw : ∀ x ∈ w, 1 ≤ x ∧ x ≤ 26) (h : rvN v = rvN w) : v = w := by
  unfold rvN at h
  rw [rv_rev, rv_rev] at h
  have := rv_inj (fun x hx => hv x (List.mem_reverse.mp hx)) (fun x hx => hw x (List.mem_reverse.mp hx)) h
  exact List.reverse_inj.mp this
theorem rvN_b {v : List Int} (hv : ∀ x ∈ v, 1 ≤ x ∧ x ≤ 26) (hl : v.length ≤ 6) : 0 ≤ rvN v ∧ rvN v < 387420489 := by
  unfold rvN
  rw [rv_rev]
  have a := rv_b v.reverse (fun x hx => hv x (List.mem_reverse.mp hx))
  have p := p27 (k := v.reverse.length) (by rw [List.length_reverse]; exact hl)
  exact ⟨a.1, by omega⟩
/-- what is told, in the reference -/
def RTs (g : mm_H) (hm : Int) (st : Tst) : Prop := (fd g 264 37 = hm ∧ fd g 264 39 = (st.1.length : Nat)) ∧ (∀ i x, st.1[i]? = some x → fl g 292 i = rvN x.1 ∧ fd g 293 i = x.2.1 ∧ fd g 294 i = x.2.2.1 ∧ fd g 295 i = x.2.2.2) ∧ (∀ k : Nat, k < 64 → fd g 296 k = st.2.1 k) ∧ fd g 264 46 = st.2.2.1 ∧ (fd g 264 51 = ((rAll st.2.2.2).length : Nat) ∧ ∀ i v, (rAll st.2.2.2)[i]? = some v → fd g 299 i = v) ∧ ∀ w : Nat, w < 3 → (rOf w st.2.2.2 0 = none → fd g 297 w = -1) ∧ ∀ y, rOf w st.2.2.2 0 = some y → fd g 297 w = (y.1 : Nat) ∧ fd g 298 w = ((y.1 + y.2.length : Nat) : Int)
def QRt : Nat → Nat → Prop := fun a k => QQ a k ∨ (a = 264 ∧ (k = 37 ∨ k = 39 ∨ k = 46 ∨ k = 51 ∨ k = 54)) ∨ a = 293 ∨ ((a = 294 ∨ a = 295) ∧ k < 8) ∨ a = 296 ∨ ((a = 297 ∨ a = 298) ∧ k < 3) ∨ (a = 299 ∧ k < 1600)
def QRs : Nat → Nat → Prop := fun a k => QRt a k ∨ (a = 264 ∧ k = 52)
def LRt : Nat → Nat → Prop := fun a k => a = 292 ∧ k < 8
section RNM
variable {d : Nat} {g : mm_H} {b : Nat → Int} {E p : Nat} {gl : Bool} {hm : Int} {st : Tst}
theorem kTR {g' : mm_H} (k : Kf QTk nL g g') : Kf QRt LRt g g' := k.mono (fun a j q => Or.inl (by unfold QTk at q; unfold QQ; omega)) (fun a j q => q.elim)
theorem kQR {g' : mm_H} (k : Kf QQ nL g g') : Kf QRt LRt g g' := k.mono (fun a j q => Or.inl q) (fun a j q => q.elim)
theorem RTs.kf {g' : mm_H} {Q L : Nat → Nat → Prop} (T : RTs g hm st) (k : Kf Q L g g') (q : ∀ a j, (a = 264 ∧ (j = 37 ∨ j = 39 ∨ j = 46 ∨ j = 51)) ∨ (293 ≤ a ∧ a ≤ 299) → ¬ Q a j) (l : ∀ j, ¬ L 292 j) : RTs g' hm st := by
  have z : ∀ a j, (a = 264 ∧ (j = 37 ∨ j = 39 ∨ j = 46 ∨ j = 51)) ∨ (293 ≤ a ∧ a ≤ 299) → fd g' a j = fd g a j := fun a j h => k.1 a j (q a j h)
  obtain ⟨t1, t2, t3, t4, t5, t6⟩ := T
  refine ⟨⟨?_, ?_⟩, fun i x hx => ?_, fun j hj => ?_, ?_, ⟨?_, fun i v hv => ?_⟩, fun w hw => ?_⟩
  · rw [z _ _ (by omega)]; exact t1.1
  · rw [z _ _ (by omega)]; exact t1.2
  · rw [k.2.1 _ _ (l i), z _ _ (by omega), z _ _ (by omega), z _ _ (by omega)]; exact t2 i x hx
  · rw [z _ _ (by omega)]; exact t3 j hj
  · rw [z _ _ (by omega)]; exact t4
  · rw [z _ _ (by omega)]; exact t5.1
  · rw [z _ _ (by omega)]; exact t5.2 i v hv
  · rw [z _ _ (by omega), z _ _ (by omega)]; exact t6 w hw
theorem RTs.tk {g' : mm_H} (T : RTs g hm st) (k : Kf QTk nL g g') : RTs g' hm st := T.kf k (by intro a j; unfold QTk; omega) (fun j z => z)
theorem RTs.qq {g' : mm_H} (T : RTs g hm st) (k : Kf QQ nL g g') : RTs g' hm st := T.kf k (by intro a j; unfold QQ; omega) (fun j z => z)
set_option maxHeartbeats 16000000 in
theorem R_own (R : RS g b E p gl) (e2 : fd g 264 2 = (tS b E p : Int)) : mm_M mm_T0 (d + 3) 201 [.ref 264] g = some (some (.int (iI (b2 (0 ≤ wno b E p gl ∧ wno b E p gl ≤ 24)))), g) := by
  have q : ∀ i : Nat, i < 25 → mm_M mm_T0 (d + 2) 195 [.ref 264, .ref (267 + i)] g = some (some (.int (iI (b2 (wno b E p gl = (i : Nat))))), g) := by
    intro i hi
    have hk : ∀ i, i < 25 → allW[((i : Nat) : Int).toNat]? = some (wordL (267 + i)) := by decide +kernel
    exact R_hereA (d := d) (a := 267 + i) (k := (i : Nat)) (by unfold isW; omega) (by omega) (hk i hi) R e2
  have wb := wno_b (b := b) (E := E) (p := p) (gl := gl)
  generalize wno b E p gl = v at *
  have q0 : mm_M mm_T0 (d + 2) 195 [.ref 264, .ref 267] g = some (some (.int (iI (b2 (v = 0)))), g) := q 0 (by omega)
  have q1 : mm_M mm_T0 (d + 2) 195 [.ref 264, .ref 268] g = some (some (.int (iI (b2 (v = 1)))), g) := q 1 (by omega)
  have q2 : mm_M mm_T0 (d + 2) 195 [.ref 264, .ref 269] g = some (some (.int (iI (b2 (v = 2)))), g) := q 2 (by omega)
  have q3 : mm_M mm_T0 (d + 2) 195 [.ref 264, .ref 270] g = some (some (.int (iI (b2 (v = 3)))), g) := q 3 (by omega)
  have q4 : mm_M mm_T0 (d + 2) 195 [.ref 264, .ref 271] g = some (some (.int (iI (b2 (v = 4)))), g) := q 4 (by omega)
  have q5 : mm_M mm_T0 (d + 2) 195 [.ref 264, .ref 272] g = some (some (.int (iI (b2 (v = 5)))), g) := q 5 (by omega)
  have q6 : mm_M mm_T0 (d + 2) 195 [.ref 264, .ref 273] g = some (some (.int (iI (b2 (v = 6)))), g) := q 6 (by omega)
  have q7 : mm_M mm_T0 (d + 2) 195 [.ref 264, .ref 274] g = some (some (.int (iI (b2 (v = 7)))), g) := q 7 (by omega)
  have q8 : mm_M mm_T0 (d + 2) 195 [.ref 264, .ref 275] g = some (some (.int (iI (b2 (v = 8)))), g) := q 8 (by omega)
  have q9 : mm_M mm_T0 (d + 2) 195 [.ref 264, .ref 276] g = some (some (.int (iI (b2 (v = 9)))), g) := q 9 (by omega)
  have q10 : mm_M mm_T0 (d + 2) 195 [.ref 264, .ref 277] g = some (some (.int (iI (b2 (v = 10)))), g) := q 10 (by omega)
  have q11 : mm_M mm_T0 (d + 2) 195 [.ref 264, .ref 278] g = some (some (.int (iI (b2 (v = 11)))), g) := q 11 (by omega)
  have q12 : mm_M mm_T0 (d + 2) 195 [.ref 264, .ref 279] g = some (some (.int (iI (b2 (v = 12)))), g) := q 12 (by omega)
  have q13 : mm_M mm_T0 (d + 2) 195 [.ref 264, .ref 280] g = some (some (.int (iI (b2 (v = 13)))), g) := q 13 (by omega)
  have q14 : mm_M mm_T0 (d + 2) 195 [.ref 264, .ref 281] g = some (some (.int (iI (b2 (v = 14)))), g) := q 14 (by omega)
  have q15 : mm_M mm_T0 (d + 2) 195 [.ref 264, .ref 282] g = some (some (.int (iI (b2 (v = 15)))), g) := q 15 (by omega)
  have q16 : mm_M mm_T0 (d + 2) 195 [.ref 264, .ref 283] g = some (some (.int (iI (b2 (v = 16)))), g) := q 16 (by omega)
  have q17 : mm_M mm_T0 (d + 2) 195 [.ref 264, .ref 284] g = some (some (.int (iI (b2 (v = 17)))), g) := q 17 (by omega)
  have q18 : mm_M mm_T0 (d + 2) 195 [.ref 264, .ref 285] g = some (some (.int (iI (b2 (v = 18)))), g) := q 18 (by omega)
  have q19 : mm_M mm_T0 (d + 2) 195 [.ref 264, .ref 286] g = some (some (.int (iI (b2 (v = 19)))), g) := q 19 (by omega)
  have q20 : mm_M mm_T0 (d + 2) 195 [.ref 264, .ref 287] g = some (some (.int (iI (b2 (v = 20)))), g) := q 20 (by omega)
  have q21 : mm_M mm_T0 (d + 2) 195 [.ref 264, .ref 288] g = some (some (.int (iI (b2 (v = 21)))), g) := q 21 (by omega)
  have q22 : mm_M mm_T0 (d + 2) 195 [.ref 264, .ref 289] g = some (some (.int (iI (b2 (v = 22)))), g) := q 22 (by omega)
  have q23 : mm_M mm_T0 (d + 2) 195 [.ref 264, .ref 290] g = some (some (.int (iI (b2 (v = 23)))), g) := q 23 (by omega)
  have q24 : mm_M mm_T0 (d + 2) 195 [.ref 264, .ref 291] g = some (some (.int (iI (b2 (v = 24)))), g) := q 24 (by omega)
  clear q
  rw [U_X12_isOwnHere]
  by_cases c0 : v = 0
  · rw [b2_t c0] at q0
    rw [b2_t (show 0 ≤ v ∧ v ≤ 24 by omega)]
    (try simp only [iI_lit, iI_neg]) <;> simp (maxSteps := 1000000) (disch := decide) only [iI_lit, iI_neg, iI_add, mm_bI_some, mm_bV_some, mm_bL_some, ↓reduceIte, i10, i00, i11, eq_self, not_true_eq_false, not_false_eq_true, ite_true, ite_false, if_true, if_false, and_true, true_and, and_false, false_and, and_self, or_self, or_false, false_or, or_true, true_or, iI_eq, iI_lt, iI_le, Int.reduceEq, Int.reduceLT, Int.reduceLE, ↓bI_eq q0]
  rw [b2_f c0] at q0
  by_cases c1 : v = 1
  · rw [b2_t c1] at q1
    rw [b2_t (show 0 ≤ v ∧ v ≤ 24 by omega)]
    (try simp only [iI_lit, iI_neg]) <;> simp (maxSteps := 1000000) (disch := decide) only [iI_lit, iI_neg, iI_add, mm_bI_some, mm_bV_some, mm_bL_some, ↓reduceIte, i10, i00, i11, eq_self, not_true_eq_false, not_false_eq_true, ite_true, ite_false, if_true, if_false, and_true, true_and, and_false, false_and, and_self, or_self, or_false, false_or, or_true, true_or, iI_eq, iI_lt, iI_le, Int.reduceEq, Int.reduceLT, Int.reduceLE, ↓bI_eq q0, ↓bI_eq q1]
  rw [b2_f c1] at q1
  by_cases c2 : v = 2
  · rw [b2_t c2] at q2
    rw [b2_t (show 0 ≤ v ∧ v ≤ 24 by omega)]
    (try simp only [iI_lit, iI_neg]) <;> simp (maxSteps := 1000000) (disch := decide) only [iI_lit, iI_neg, iI_add, mm_bI_some, mm_bV_some, mm_bL_some, ↓reduceIte, i10, i00, i11, eq_self, not_true_eq_false, not_false_eq_true, ite_true, ite_false, if_true, if_false, and_true, true_and, and_false, false_and, and_self, or_self, or_false, false_or, or_true, true_or, iI_eq, iI_lt, iI_le, Int.reduceEq, Int.reduceLT, Int.reduceLE, ↓bI_eq q0, ↓bI_eq q1, ↓bI_eq q2]
  rw [b2_f c2] at q2
  by_cases c3 : v = 3
  · rw [b2_t c3] at q3
    rw [b2_t (show 0 ≤ v ∧ v ≤ 24 by omega)]
    (try simp only [iI_lit, iI_neg]) <;> simp (maxSteps := 1000000) (disch := decide) only [iI_lit, iI_neg, iI_add, mm_bI_some, mm_bV_some, mm_bL_some, ↓reduceIte, i10, i00, i11, eq_self, not_true_eq_false, not_false_eq_true, ite_true, ite_false, if_true, if_false, and_true, true_and, and_false, false_and, and_self, or_self, or_false, false_or, or_true, true_or, iI_eq, iI_lt, iI_le, Int.reduceEq, Int.reduceLT, Int.reduceLE, ↓bI_eq q0, ↓bI_eq q1, ↓bI_eq q2, ↓bI_eq q3]
  rw [b2_f c3] at q3
  by_cases c4 : v = 4
  · rw [b2_t c4] at q4
    rw [b2_t (show 0 ≤ v ∧ v ≤ 24 by omega)]
    (try simp only [iI_lit, iI_neg]) <;> simp (maxSteps := 1000000) (disch := decide) only [iI_lit, iI_neg, iI_add, mm_bI_some, mm_bV_some, mm_bL_some, ↓reduceIte, i10, i00, i11, eq_self, not_true_eq_false, not_false_eq_true, ite_true, ite_false, if_true, if_false, and_true, true_and, and_false, false_and, and_self, or_self, or_false, false_or, or_true, true_or, iI_eq, iI_lt, iI_le, Int.reduceEq, Int.reduceLT, Int.reduceLE, ↓bI_eq q0, ↓bI_eq q1, ↓bI_eq q2, ↓bI_eq q3, ↓bI_eq q4]
  rw [b2_f c4] at q4
  by_cases c5 : v = 5
  · rw [b2_t c5] at q5
    rw [b2_t (show 0 ≤ v ∧ v ≤ 24 by omega)]
    (try simp only [iI_lit, iI_neg]) <;> simp (maxSteps := 1000000) (disch := decide) only [iI_lit, iI_neg, iI_add, mm_bI_some, mm_bV_some, mm_bL_some, ↓reduceIte, i10, i00, i11, eq_self, not_true_eq_false, not_false_eq_true, ite_true, ite_false, if_true, if_false, and_true, true_and, and_false, false_and, and_self, or_self, or_false, false_or, or_true, true_or, iI_eq, iI_lt, iI_le, Int.reduceEq, Int.reduceLT, Int.reduceLE, ↓bI_eq q0, ↓bI_eq q1, ↓bI_eq q2, ↓bI_eq q3, ↓bI_eq q4, ↓bI_eq q5]
  rw [b2_f c5] at q5
  by_cases c6 : v = 6
  · rw [b2_t c6] at q6
    rw [b2_t (show 0 ≤ v ∧ v ≤ 24 by omega)]
    (try simp only [iI_lit, iI_neg]) <;> simp (maxSteps := 1000000) (disch := decide) only [iI_lit, iI_neg, iI_add, mm_bI_some, mm_bV_some, mm_bL_some, ↓reduceIte, i10, i00, i11, eq_self, not_true_eq_false, not_false_eq_true, ite_true, ite_false, if_true, if_false, and_true, true_and, and_false, false_and, and_self, or_self, or_false, false_or, or_true, true_or, iI_eq, iI_lt, iI_le, Int.reduceEq, Int.reduceLT, Int.reduceLE, ↓bI_eq q0, ↓bI_eq q1, ↓bI_eq q2, ↓bI_eq q3, ↓bI_eq q4, ↓bI_eq q5, ↓bI_eq q6]
  rw [b2_f c6] at q6
  by_cases c7 : v = 7
  · rw [b2_t c7] at q7
    rw [b2_t (show 0 ≤ v ∧ v ≤ 24 by omega)]
    (try simp only [iI_lit, iI_neg]) <;> simp (maxSteps := 1000000) (disch := decide) only [iI_lit, iI_neg, iI_add, mm_bI_some, mm_bV_some, mm_bL_some, ↓reduceIte, i10, i00, i11, eq_self, not_true_eq_false, not_false_eq_true, ite_true, ite_false, if_true, if_false, and_true, true_and, and_false, false_and, and_self, or_self, or_false, false_or, or_true, true_or, iI_eq, iI_lt, iI_le, Int.reduceEq, Int.reduceLT, Int.reduceLE, ↓bI_eq q0, ↓bI_eq q1, ↓bI_eq q2, ↓bI_eq q3, ↓bI_eq q4, ↓bI_eq q5, ↓bI_eq q6, ↓bI_eq q7]
  rw [b2_f c7] at q7
  by_cases c8 : v = 8
  · rw [b2_t c8] at q8
    rw [b2_t (show 0 ≤ v ∧ v ≤ 24 by omega)]
    (try simp only [iI_lit, iI_neg]) <;> simp (maxSteps := 1000000) (disch := decide) only [iI_lit, iI_neg, iI_add, mm_bI_some, mm_bV_some, mm_bL_some, ↓reduceIte, i10, i00, i11, eq_self, not_true_eq_false, not_false_eq_true, ite_true, ite_false, if_true, if_false, and_true, true_and, and_false, false_and, and_self, or_self, or_false, false_or, or_true, true_or, iI_eq, iI_lt, iI_le, Int.reduceEq, Int.reduceLT, Int.reduceLE, ↓bI_eq q0, ↓bI_eq q1, ↓bI_eq q2, ↓bI_eq q3, ↓bI_eq q4, ↓bI_eq q5, ↓bI_eq q6, ↓bI_eq q7, ↓bI_eq q8]
  rw [b2_f c8] at q8
  by_cases c9 : v = 9
  · rw [b2_t c9] at q9
    rw [b2_t (show 0 ≤ v ∧ v ≤ 24 by omega)]
    (try simp only [iI_lit, iI_neg]) <;> simp (maxSteps := 1000000) (disch := decide) only [iI_lit, iI_neg, iI_add, mm_bI_some, mm_bV_some, mm_bL_some, ↓reduceIte, i10, i00, i11, eq_self, not_true_eq_false, not_false_eq_true, ite_true, ite_false, if_true, if_false, and_true, true_and, and_false, false_and, and_self, or_self, or_false, false_or, or_true, true_or, iI_eq, iI_lt, iI_le, Int.reduceEq, Int.reduceLT, Int.reduceLE, ↓bI_eq q0, ↓bI_eq q1, ↓bI_eq q2, ↓bI_eq q3, ↓bI_eq q4, ↓bI_eq q5, ↓bI_eq q6, ↓bI_eq q7, ↓bI_eq q8, ↓bI_eq q9]
  rw [b2_f c9] at q9
  by_cases c10 : v = 10
  · rw [b2_t c10] at q10
    rw [b2_t (show 0 ≤ v ∧ v ≤ 24 by omega)]
    (try simp only [iI_lit, iI_neg]) <;> simp (maxSteps := 1000000) (disch := decide) only [iI_lit, iI_neg, iI_add, mm_bI_some, mm_bV_some, mm_bL_some, ↓reduceIte, i10, i00, i11, eq_self, not_true_eq_false, not_false_eq_true, ite_true, ite_false, if_true, if_false, and_true, true_and, and_false, false_and, and_self, or_self, or_false, false_or, or_true, true_or, iI_eq, iI_lt, iI_le, Int.reduceEq, Int.reduceLT, Int.reduceLE, ↓bI_eq q0, ↓bI_eq q1, ↓bI_eq q2, ↓bI_eq q3, ↓bI_eq q4, ↓bI_eq q5, ↓bI_eq q6, ↓bI_eq q7, ↓bI_eq q8, ↓bI_eq q9, ↓bI_eq q10]
  rw [b2_f c10] at q10
  by_cases c11 : v = 11
  · rw [b2_t c11] at q11
    rw [b2_t (show 0 ≤ v ∧ v ≤ 24 by omega)]
    (try simp only [iI_lit, iI_neg]) <;> simp (maxSteps := 1000000) (disch := decide) only [iI_lit, iI_neg, iI_add, mm_bI_some, mm_bV_some, mm_bL_some, ↓reduceIte, i10, i00, i11, eq_self, not_true_eq_false, not_false_eq_true, ite_true, ite_false, if_true, if_false, and_true, true_and, and_false, false_and, and_self, or_self, or_false, false_or, or_true, true_or, iI_eq, iI_lt, iI_le, Int.reduceEq, Int.reduceLT, Int.reduceLE, ↓bI_eq q0, ↓bI_eq q1, ↓bI_eq q2, ↓bI_eq q3, ↓bI_eq q4, ↓bI_eq q5, ↓bI_eq q6, ↓bI_eq q7, ↓bI_eq q8, ↓bI_eq q9, ↓bI_eq q10, ↓bI_eq q11]
  rw [b2_f c11] at q11
  by_cases c12 : v = 12
  · rw [b2_t c12] at q12
    rw [b2_t (show 0 ≤ v ∧ v ≤ 24 by omega)]
    (try simp only [iI_lit, iI_neg]) <;> simp (maxSteps := 1000000) (disch := decide) only [iI_lit, iI_neg, iI_add, mm_bI_some, mm_bV_some, mm_bL_some, ↓reduceIte, i10, i00, i11, eq_self, not_true_eq_false, not_false_eq_true, ite_true, ite_false, if_true, if_false, and_true, true_and, and_false, false_and, and_self, or_self, or_false, false_or, or_true, true_or, iI_eq, iI_lt, iI_le, Int.reduceEq, Int.reduceLT, Int.reduceLE, ↓bI_eq q0, ↓bI_eq q1, ↓bI_eq q2, ↓bI_eq q3, ↓bI_eq q4, ↓bI_eq q5, ↓bI_eq q6, ↓bI_eq q7, ↓bI_eq q8, ↓bI_eq q9, ↓bI_eq q10, ↓bI_eq q11, ↓bI_eq q12]
  rw [b2_f c12] at q12
  by_cases c13 : v = 13
  · rw [b2_t c13] at q13
    rw [b2_t (show 0 ≤ v ∧ v ≤ 24 by omega)]
    (try simp only [iI_lit, iI_neg]) <;> simp (maxSteps := 1000000) (disch := decide) only [iI_lit, iI_neg, iI_add, mm_bI_some, mm_bV_some, mm_bL_some, ↓reduceIte, i10, i00, i11, eq_self, not_true_eq_false, not_false_eq_true, ite_true, ite_false, if_true, if_false, and_true, true_and, and_false, false_and, and_self, or_self, or_false, false_or, or_true, true_or, iI_eq, iI_lt, iI_le, Int.reduceEq, Int.reduceLT, Int.reduceLE, ↓bI_eq q0, ↓bI_eq q1, ↓bI_eq q2, ↓bI_eq q3, ↓bI_eq q4, ↓bI_eq q5, ↓bI_eq q6, ↓bI_eq q7, ↓bI_eq q8, ↓bI_eq q9, ↓bI_eq q10, ↓bI_eq q11, ↓bI_eq q12, ↓bI_eq q13]
  rw [b2_f c13] at q13
  by_cases c14 : v = 14
  · rw [b2_t c14] at q14
    rw [b2_t (show 0 ≤ v ∧ v ≤ 24 by omega)]
    (try simp only [iI_lit, iI_neg]) <;> simp (maxSteps := 1000000) (disch := decide) only [iI_lit, iI_neg, iI_add, mm_bI_some, mm_bV_some, mm_bL_some, ↓reduceIte, i10, i00, i11, eq_self, not_true_eq_false, not_false_eq_true, ite_true, ite_false, if_true, if_false, and_true, true_and, and_false, false_and, and_self, or_self, or_false, false_or, or_true, true_or, iI_eq, iI_lt, iI_le, Int.reduceEq, Int.reduceLT, Int.reduceLE, ↓bI_eq q0, ↓bI_eq q1, ↓bI_eq q2, ↓bI_eq q3, ↓bI_eq q4, ↓bI_eq q5, ↓bI_eq q6, ↓bI_eq q7, ↓bI_eq q8, ↓bI_eq q9, ↓bI_eq q10, ↓bI_eq q11, ↓bI_eq q12, ↓bI_eq q13, ↓bI_eq q14]
  rw [b2_f c14] at q14
  by_cases c15 : v = 15
  · rw [b2_t c15] at q15
    rw [b2_t (show 0 ≤ v ∧ v ≤ 24 by omega)]
    (try simp only [iI_lit, iI_neg]) <;> simp (maxSteps := 1000000) (disch := decide) only [iI_lit, iI_neg, iI_add, mm_bI_some, mm_bV_some, mm_bL_some, ↓reduceIte, i10, i00, i11, eq_self, not_true_eq_false, not_false_eq_true, ite_true, ite_false, if_true, if_false, and_true, true_and, and_false, false_and, and_self, or_self, or_false, false_or, or_true, true_or, iI_eq, iI_lt, iI_le, Int.reduceEq, Int.reduceLT, Int.reduceLE, ↓bI_eq q0, ↓bI_eq q1, ↓bI_eq q2, ↓bI_eq q3, ↓bI_eq q4, ↓bI_eq q5, ↓bI_eq q6, ↓bI_eq q7, ↓bI_eq q8, ↓bI_eq q9, ↓bI_eq q10, ↓bI_eq q11, ↓bI_eq q12, ↓bI_eq q13, ↓bI_eq q14, ↓bI_eq q15]
  rw [b2_f c15] at q15
  by_cases c16 : v = 16
  · rw [b2_t c16] at q16
    rw [b2_t (show 0 ≤ v ∧ v ≤ 24 by omega)]
    (try simp only [iI_lit, iI_neg]) <;> simp (maxSteps := 1000000) (disch := decide) only [iI_lit, iI_neg, iI_add, mm_bI_some, mm_bV_some, mm_bL_some, ↓reduceIte, i10, i00, i11, eq_self, not_true_eq_false, not_false_eq_true, ite_true, ite_false, if_true, if_false, and_true, true_and, and_false, false_and, and_self, or_self, or_false, false_or, or_true, true_or, iI_eq, iI_lt, iI_le, Int.reduceEq, Int.reduceLT, Int.reduceLE, ↓bI_eq q0, ↓bI_eq q1, ↓bI_eq q2, ↓bI_eq q3, ↓bI_eq q4, ↓bI_eq q5, ↓bI_eq q6, ↓bI_eq q7, ↓bI_eq q8, ↓bI_eq q9, ↓bI_eq q10, ↓bI_eq q11, ↓bI_eq q12, ↓bI_eq q13, ↓bI_eq q14, ↓bI_eq q15, ↓bI_eq q16]
  rw [b2_f c16] at q16
  by_cases c17 : v = 17
  · rw [b2_t c17] at q17
    rw [b2_t (show 0 ≤ v ∧ v ≤ 24 by omega)]
    (try simp only [iI_lit, iI_neg]) <;> simp (maxSteps := 1000000) (disch := decide) only [iI_lit, iI_neg, iI_add, mm_bI_some, mm_bV_some, mm_bL_some, ↓reduceIte, i10, i00, i11, eq_self, not_true_eq_false, not_false_eq_true, ite_true, ite_false, if_true, if_false, and_true, true_and, and_false, false_and, and_self, or_self, or_false, false_or, or_true, true_or, iI_eq, iI_lt, iI_le, Int.reduceEq, Int.reduceLT, Int.reduceLE, ↓bI_eq q0, ↓bI_eq q1, ↓bI_eq q2, ↓bI_eq q3, ↓bI_eq q4, ↓bI_eq q5, ↓bI_eq q6, ↓bI_eq q7, ↓bI_eq q8, ↓bI_eq q9, ↓bI_eq q10, ↓bI_eq q11, ↓bI_eq q12, ↓bI_eq q13, ↓bI_eq q14, ↓bI_eq q15, ↓bI_eq q16, ↓bI_eq q17]
  rw [b2_f c17] at q17
  by_cases c18 : v = 18
  · rw [b2_t c18] at q18
    rw [b2_t (show 0 ≤ v ∧ v ≤ 24 by omega)]
    (try simp only [iI_lit, iI_neg]) <;> simp (maxSteps := 1000000) (disch := decide) only [iI_lit, iI_neg, iI_add, mm_bI_some, mm_bV_some, mm_bL_some, ↓reduceIte, i10, i00, i11, eq_self, not_true_eq_false, not_false_eq_true, ite_true, ite_false, if_true, if_false, and_true, true_and, and_false, false_and, and_self, or_self, or_false, false_or, or_true, true_or, iI_eq, iI_lt, iI_le, Int.reduceEq, Int.reduceLT, Int.reduceLE, ↓bI_eq q0, ↓bI_eq q1, ↓bI_eq q2, ↓bI_eq q3, ↓bI_eq q4, ↓bI_eq q5, ↓bI_eq q6, ↓bI_eq q7, ↓bI_eq q8, ↓bI_eq q9, ↓bI_eq q10, ↓bI_eq q11, ↓bI_eq q12, ↓bI_eq q13, ↓bI_eq q14, ↓bI_eq q15, ↓bI_eq q16, ↓bI_eq q17, ↓bI_eq q18]
  rw [b2_f c18] at q18
  by_cases c19 : v = 19
  · rw [b2_t c19] at q19
    rw [b2_t (show 0 ≤ v ∧ v ≤ 24 by omega)]
    (try simp only [iI_lit, iI_neg]) <;> simp (maxSteps := 1000000) (disch := decide) only [iI_lit, iI_neg, iI_add, mm_bI_some, mm_bV_some, mm_bL_some, ↓reduceIte, i10, i00, i11, eq_self, not_true_eq_false, not_false_eq_true, ite_true, ite_false, if_true, if_false, and_true, true_and, and_false, false_and, and_self, or_self, or_false, false_or, or_true, true_or, iI_eq, iI_lt, iI_le, Int.reduceEq, Int.reduceLT, Int.reduceLE, ↓bI_eq q0, ↓bI_eq q1, ↓bI_eq q2, ↓bI_eq q3, ↓bI_eq q4, ↓bI_eq q5, ↓bI_eq q6, ↓bI_eq q7, ↓bI_eq q8, ↓bI_eq q9, ↓bI_eq q10, ↓bI_eq q11, ↓bI_eq q12, ↓bI_eq q13, ↓bI_eq q14, ↓bI_eq q15, ↓bI_eq q16, ↓bI_eq q17, ↓bI_eq q18, ↓bI_eq q19]
  rw [b2_f c19] at q19
  by_cases c20 : v = 20
  · rw [b2_t c20] at q20
    rw [b2_t (show 0 ≤ v ∧ v ≤ 24 by omega)]
    (try simp only [iI_lit, iI_neg]) <;> simp (maxSteps := 1000000) (disch := decide) only [iI_lit, iI_neg, iI_add, mm_bI_some, mm_bV_some, mm_bL_some, ↓reduceIte, i10, i00, i11, eq_self, not_true_eq_false, not_false_eq_true, ite_true, ite_false, if_true, if_false, and_true, true_and, and_false, false_and, and_self, or_self, or_false, false_or, or_true, true_or, iI_eq, iI_lt, iI_le, Int.reduceEq, Int.reduceLT, Int.reduceLE, ↓bI_eq q0, ↓bI_eq q1, ↓bI_eq q2, ↓bI_eq q3, ↓bI_eq q4, ↓bI_eq q5, ↓bI_eq q6, ↓bI_eq q7, ↓bI_eq q8, ↓bI_eq q9, ↓bI_eq q10, ↓bI_eq q11, ↓bI_eq q12, ↓bI_eq q13, ↓bI_eq q14, ↓bI_eq q15, ↓bI_eq q16, ↓bI_eq q17, ↓bI_eq q18, ↓bI_eq q19, ↓bI_eq q20]
  rw [b2_f c20] at q20
  by_cases c21 : v = 21
  · rw [b2_t c21] at q21
    rw [b2_t (show 0 ≤ v ∧ v ≤ 24 by omega)]
    (try simp only [iI_lit, iI_neg]) <;> simp (maxSteps := 1000000) (disch := decide) only [iI_lit, iI_neg, iI_add, mm_bI_some, mm_bV_some, mm_bL_some, ↓reduceIte, i10, i00, i11, eq_self, not_true_eq_false, not_false_eq_true, ite_true, ite_false, if_true, if_false, and_true, true_and, and_false, false_and, and_self, or_self, or_false, false_or, or_true, true_or, iI_eq, iI_lt, iI_le, Int.reduceEq, Int.reduceLT, Int.reduceLE, ↓bI_eq q0, ↓bI_eq q1, ↓bI_eq q2, ↓bI_eq q3, ↓bI_eq q4, ↓bI_eq q5, ↓bI_eq q6, ↓bI_eq q7, ↓bI_eq q8, ↓bI_eq q9, ↓bI_eq q10, ↓bI_eq q11, ↓bI_eq q12, ↓bI_eq q13, ↓bI_eq q14, ↓bI_eq q15, ↓bI_eq q16, ↓bI_eq q17, ↓bI_eq q18, ↓bI_eq q19, ↓bI_eq q20, ↓bI_eq q21]
  rw [b2_f c21] at q21
  by_cases c22 : v = 22
  · rw [b2_t c22] at q22
    rw [b2_t (show 0 ≤ v ∧ v ≤ 24 by omega)]
    (try simp only [iI_lit, iI_neg]) <;> simp (maxSteps := 1000000) (disch := decide) only [iI_lit, iI_neg, iI_add, mm_bI_some, mm_bV_some, mm_bL_some, ↓reduceIte, i10, i00, i11, eq_self, not_true_eq_false, not_false_eq_true, ite_true, ite_false, if_true, if_false, and_true, true_and, and_false, false_and, and_self, or_self, or_false, false_or, or_true, true_or, iI_eq, iI_lt, iI_le, Int.reduceEq, Int.reduceLT, Int.reduceLE, ↓bI_eq q0, ↓bI_eq q1, ↓bI_eq q2, ↓bI_eq q3, ↓bI_eq q4, ↓bI_eq q5, ↓bI_eq q6, ↓bI_eq q7, ↓bI_eq q8, ↓bI_eq q9, ↓bI_eq q10, ↓bI_eq q11, ↓bI_eq q12, ↓bI_eq q13, ↓bI_eq q14, ↓bI_eq q15, ↓bI_eq q16, ↓bI_eq q17, ↓bI_eq q18, ↓bI_eq q19, ↓bI_eq q20, ↓bI_eq q21, ↓bI_eq q22]
  rw [b2_f c22] at q22
  by_cases c23 : v = 23
  · rw [b2_t c23] at q23
    rw [b2_t (show 0 ≤ v ∧ v ≤ 24 by omega)]
    (try simp only [iI_lit, iI_neg]) <;> simp (maxSteps := 1000000) (disch := decide) only [iI_lit, iI_neg, iI_add, mm_bI_some, mm_bV_some, mm_bL_some, ↓reduceIte, i10, i00, i11, eq_self, not_true_eq_false, not_false_eq_true, ite_true, ite_false, if_true, if_false, and_true, true_and, and_false, false_and, and_self, or_self, or_false, false_or, or_true, true_or, iI_eq, iI_lt, iI_le, Int.reduceEq, Int.reduceLT, Int.reduceLE, ↓bI_eq q0, ↓bI_eq q1, ↓bI_eq q2, ↓bI_eq q3, ↓bI_eq q4, ↓bI_eq q5, ↓bI_eq q6, ↓bI_eq q7, ↓bI_eq q8, ↓bI_eq q9, ↓bI_eq q10, ↓bI_eq q11, ↓bI_eq q12, ↓bI_eq q13, ↓bI_eq q14, ↓bI_eq q15, ↓bI_eq q16, ↓bI_eq q17, ↓bI_eq q18, ↓bI_eq q19, ↓bI_eq q20, ↓bI_eq q21, ↓bI_eq q22, ↓bI_eq q23]
  rw [b2_f c23] at q23
  by_cases c24 : v = 24
  · rw [b2_t c24] at q24
    rw [b2_t (show 0 ≤ v ∧ v ≤ 24 by omega)]
    (try simp only [iI_lit, iI_neg]) <;> simp (maxSteps := 1000000) (disch := decide) only [iI_lit, iI_neg, iI_add, mm_bI_some, mm_bV_some, mm_bL_some, ↓reduceIte, i10, i00, i11, eq_self, not_true_eq_false, not_false_eq_true, ite_true, ite_false, if_true, if_false, and_true, true_and, and_false, false_and, and_self, or_self, or_false, false_or, or_true, true_or, iI_eq, iI_lt, iI_le, Int.reduceEq, Int.reduceLT, Int.reduceLE, ↓bI_eq q0, ↓bI_eq q1, ↓bI_eq q2, ↓bI_eq q3, ↓bI_eq q4, ↓bI_eq q5, ↓bI_eq q6, ↓bI_eq q7, ↓bI_eq q8, ↓bI_eq q9, ↓bI_eq q10, ↓bI_eq q11, ↓bI_eq q12, ↓bI_eq q13, ↓bI_eq q14, ↓bI_eq q15, ↓bI_eq q16, ↓bI_eq q17, ↓bI_eq q18, ↓bI_eq q19, ↓bI_eq q20, ↓bI_eq q21, ↓bI_eq q22, ↓bI_eq q23, ↓bI_eq q24]
  rw [b2_f c24] at q24
  rw [b2_f (show ¬ (0 ≤ v ∧ v ≤ 24) by omega)]
  (try simp only [iI_lit, iI_neg]) <;> simp (maxSteps := 1000000) (disch := decide) only [iI_lit, iI_neg, iI_add, mm_bI_some, mm_bV_some, mm_bL_some, ↓reduceIte, i10, i00, i11, eq_self, not_true_eq_false, not_false_eq_true, ite_true, ite_false, if_true, if_false, and_true, true_and, and_false, false_and, and_self, or_self, or_false, false_or, or_true, true_or, iI_eq, iI_lt, iI_le, Int.reduceEq, Int.reduceLT, Int.reduceLE, ↓bI_eq q0, ↓bI_eq q1, ↓bI_eq q2, ↓bI_eq q3, ↓bI_eq q4, ↓bI_eq q5, ↓bI_eq q6, ↓bI_eq q7, ↓bI_eq q8, ↓bI_eq q9, ↓bI_eq q10, ↓bI_eq q11, ↓bI_eq q12, ↓bI_eq q13, ↓bI_eq q14, ↓bI_eq q15, ↓bI_eq q16, ↓bI_eq q17, ↓bI_eq q18, ↓bI_eq q19, ↓bI_eq q20, ↓bI_eq q21, ↓bI_eq q22, ↓bI_eq q23, ↓bI_eq q24]
theorem fold_27 {v : Int} : ∀ (k s : Nat), (∀ j, s ≤ j → j < s + k → 97 ≤ b j ∧ b j ≤ 122) → True := fun _ _ _ => trivial
set_option maxHeartbeats 8000000 in
theorem R_nm_58 {s : Nat} : ∀ (k q : Nat) (v : Int) (g : mm_H), k = E - q → s ≤ q → q ≤ s + 6 → q ≤ E → Txt g b E → fd g 264 5 = 0 → fd g 264 2 = (q : Int) → fd g 264 36 = (s : Int) → 0 ≤ v → v < 27 ^ (q - s) → (tL b E q ≤ s + 6 → ∃ g', mm_D (mm_M mm_T0 (d + 1)) cd_X12_name 58 [.ref 264, .long (jI v), .null] [] g = some (some (.long (jI ((lets b q (tL b E q - q)).foldl (fun a x => 27 * a + x) v))), g') ∧ fd g' 264 2 = (tL b E q : Int) ∧ fd g' 264 4 = (tL b E q : Int) ∧ fd g' 264 36 = (s : Int) ∧ (fd g' 264 5 = 0 ∧ fd g' 264 6 = fd g 264 6) ∧ Kf QTk nL g g') ∧ (s + 6 < tL b E q → ∃ g', mm_D (mm_M mm_T0 (d + 1)) cd_X12_name 58 [.ref 264, .long (jI v), .null] [] g = some (some (.long (jI 0)), g') ∧ Bad g' 1 ((s + 6 : Nat) : Int) ∧ Kf QTk nL g g') := by
  intro k
  induction k with
  | zero =>
    intro q v g hk h1 h2 h3 T h5 e2 e36 hv hv2
    have e3 := T.1
    have hE := T.2.1
    have st : tL b E q = q := run_stop (by omega)
    rw [st]
    refine ⟨fun _ => ?_, fun h => by omega⟩
    rw [Nat.sub_self, lets, List.foldl_nil]
    have z : ∀ j, j ≠ 4 → fd (wI g 264 4 (iI (q : Int))) 264 j = fd g 264 j := fun j hj => fd_wI_col hj
    refine ⟨wI g 264 4 (iI (q : Int)), ?_, (z 2 (by omega)).trans e2, fd_wI_same (by omega) (by omega), (z 36 (by omega)).trans e36, ⟨(z 5 (by omega)).trans h5, z 6 (by omega)⟩, Kf.refl.wI (by unfold QTk; omega)⟩
    rw [U_X12_name_58]
    simp (disch := omega) only [iI_lit, jI_lit, iI_neg, jI_neg, iI_add, iI_sub, iI_mul, jI_add, jI_sub, jI_mul, rdI, rdL, iI_lt, iI_le, iI_eq, iI_nat, iI_b2_0, iI_b2_1, mm_bI_some, mm_bV_some, mm_bL_some, mm_bA_some, fd_wL, fd_wR, fl_wI, fl_wR, re_wI, re_wL, re_wC, ite_true, ite_false, not_true_eq_false, not_false_eq_true, lq_ge, lq_le, lq_gt, lq_lt, lq_eq, jI_lt, jI_le, jI_eq, if_pos, if_neg, e2, e3]
  | succ k ih =>
    intro q v g hk h1 h2 h3 T h5 e2 e36 hv hv2
    have e3 := T.1
    have hE := T.2.1
    have vv := T.2.2.1 q (by omega)
    have v1 := vv.1
    have nq : ((q : Nat) : Int).toNat = q := by omega
    have il := fun g => R_isLetter (d := d) (g := g) (x := b q) (by omega) (by omega)
    have p6 := p27 (k := q - s) (by omega)
    by_cases c : isLt (b q) = true
    · have cl := isLt_iff.mp c
      have st : tL b E q = tL b E (q + 1) := run_step ⟨by omega, c⟩
      have ge' : q + 1 ≤ tL b E (q + 1) := run_ge
      rw [b2_t c] at il
      by_cases c6 : q = s + 6
      · refine ⟨fun h => by omega, fun _ => ?_⟩
        obtain ⟨g', m1, m2, m3⟩ := R_fail (d := d) (g := g) (k := 1) (pl := (q : Int)) h5 (by omega) (by omega) (by omega) (by omega)
        refine ⟨g', ?_, by rw [← c6]; exact m2, m3⟩
        have e6 : (q : Int) - (s : Int) = 6 := by omega
        rw [U_X12_name_58]
        simp (disch := omega) only [iI_lit, jI_lit, iI_neg, jI_neg, iI_add, iI_sub, iI_mul, jI_add, jI_sub, jI_mul, rdI, rdL, iI_lt, iI_le, iI_eq, iI_nat, iI_b2_0, iI_b2_1, mm_bI_some, mm_bV_some, mm_bL_some, mm_bA_some, fd_wL, fd_wR, fl_wI, fl_wR, re_wI, re_wL, re_wC, ite_true, ite_false, not_true_eq_false, not_false_eq_true, lq_ge, lq_le, lq_gt, lq_lt, lq_eq, jI_lt, jI_le, jI_eq, if_pos, if_neg, e2, e3, nq, v1, il, e36, e6, m1]
      · have kw : Kf QTk nL g (wI g 264 2 (iI ((q : Int) + 1))) := Kf.refl.wI (by unfold QTk; omega)
        have e96 : 27 * v + b q - 97 + 1 = 27 * v + (b q - 96) := by omega
        have stp : mm_D (mm_M mm_T0 (d + 1)) cd_X12_name 58 [.ref 264, .long (jI v), .null] [] g = mm_D (mm_M mm_T0 (d + 1)) cd_X12_name 58 [.ref 264, .long (jI (27 * v + (b q - 96))), .null] [] (wI g 264 2 (iI ((q : Int) + 1))) := by
          rw [U_X12_name_58]
          simp (disch := omega) only [iI_lit, jI_lit, iI_neg, jI_neg, iI_add, iI_sub, iI_mul, jI_add, jI_sub, jI_mul, rdI, rdL, iI_lt, iI_le, iI_eq, iI_nat, iI_b2_0, iI_b2_1, mm_bI_some, mm_bV_some, mm_bL_some, mm_bA_some, fd_wL, fd_wR, fl_wI, fl_wR, re_wI, re_wL, re_wC, ite_true, ite_false, not_true_eq_false, not_false_eq_true, lq_ge, lq_le, lq_gt, lq_lt, lq_eq, jI_lt, jI_le, jI_eq, if_pos, if_neg, e2, e3, nq, v1, il, e36, iI_jI, e96]
        have pw : (27 : Int) ^ (q + 1 - s) = 27 ^ (q - s) * 27 := by rw [show q + 1 - s = (q - s) + 1 by omega, Int.pow_succ]
        have z : ∀ j, j ≠ 2 → fd (wI g 264 2 (iI ((q : Int) + 1))) 264 j = fd g 264 j := fun j hj => fd_wI_col hj
        have nx := ih (q + 1) (27 * v + (b q - 96)) (wI g 264 2 (iI ((q : Int) + 1))) (by omega) (by omega) (by omega) (by omega) (T.tk kw) ((z 5 (by omega)).trans h5) (by rw [fd_wI_same (by omega) (by omega)]; omega) ((z 36 (by omega)).trans e36) (by omega) (by rw [pw]; omega)
        rw [z 6 (by omega)] at nx
        rw [st, stp]
        have en : (lets b q (tL b E (q + 1) - q)).foldl (fun a x => 27 * a + x) v = (lets b (q + 1) (tL b E (q + 1) - (q + 1))).foldl (fun a x => 27 * a + x) (27 * v + (b q - 96)) := by
          rw [show tL b E (q + 1) - q = (tL b E (q + 1) - (q + 1)) + 1 by omega, lets, List.foldl_cons]
        rw [en]
        refine ⟨fun h => ?_, fun h => ?_⟩
        · obtain ⟨g', z1, z2, z3, z4, z5, z6⟩ := nx.1 h
          exact ⟨g', z1, z2, z3, z4, z5, kw.trans z6⟩
        · obtain ⟨g', z1, z2, z3⟩ := nx.2 h
          exact ⟨g', z1, z2, kw.trans z3⟩
    · have st : tL b E q = q := run_stop (fun z => c z.2)
      rw [b2_f c] at il
      rw [st]
      refine ⟨fun _ => ?_, fun h => by omega⟩
      rw [Nat.sub_self, lets, List.foldl_nil]
      have z : ∀ j, j ≠ 4 → fd (wI g 264 4 (iI (q : Int))) 264 j = fd g 264 j := fun j hj => fd_wI_col hj
      refine ⟨wI g 264 4 (iI (q : Int)), ?_, (z 2 (by omega)).trans e2, fd_wI_same (by omega) (by omega), (z 36 (by omega)).trans e36, ⟨(z 5 (by omega)).trans h5, z 6 (by omega)⟩, Kf.refl.wI (by unfold QTk; omega)⟩
      rw [U_X12_name_58]
      simp (disch := omega) only [iI_lit, jI_lit, iI_neg, jI_neg, iI_add, iI_sub, iI_mul, jI_add, jI_sub, jI_mul, rdI, rdL, iI_lt, iI_le, iI_eq, iI_nat, iI_b2_0, iI_b2_1, mm_bI_some, mm_bV_some, mm_bL_some, mm_bA_some, fd_wL, fd_wR, fl_wI, fl_wR, re_wI, re_wL, re_wC, ite_true, ite_false, not_true_eq_false, not_false_eq_true, lq_ge, lq_le, lq_gt, lq_lt, lq_eq, jI_lt, jI_le, jI_eq, if_pos, if_neg, e2, e3, nq, v1, il]
set_option maxHeartbeats 8000000 in
theorem R_nameT (R : RS g b E p gl) : ((nmT b E p gl).1 = 0 → ∃ g', mm_M mm_T0 (d + 4) 202 [.ref 264] g = some (some (.long (jI (rvN (nmT b E p gl).2.2))), g') ∧ RS g' b E (tL b E (tS b E p)) true ∧ fd g' 264 36 = (tS b E p : Int) ∧ Kf QTk nL g g') ∧ ((nmT b E p gl).1 ≠ 0 → ∃ g', mm_M mm_T0 (d + 4) 202 [.ref 264] g = some (some (.long (jI 0)), g') ∧ Bad g' (nmT b E p gl).1 (nmT b E p gl).2.1 ∧ Kf QTk nL g g') := by
  have h5 := R.2.2.1
  have hE := R.1.2.1
  have le := tS_le (b := b) (E := E) R.2.1
  obtain ⟨g1, l1, R1, l2, k1⟩ := R_look (d := d + 2) R
  have tb := tB_b (p := p) R1.1
  have il := R_isLetter (d := d + 2) (g := g1) tb.1 tb.2
  have at' := R1.at l2
  have h51 := R1.2.2.1
  have ow := R_own (d := d) R1 l2
  have wb := wno_b (b := b) (E := E) (p := p) (gl := gl)
  obtain ⟨gb, b1, b2', b3⟩ := R_fail (d := d + 2) (g := g1) (k := 1) (pl := (tS b E p : Int)) h51 (by omega) (by omega) (by omega) (by omega)
  unfold nmT
  by_cases c1 : isLt (tB b E p) = true
  · rw [b2_t c1] at il
    by_cases c2 : tG b E p gl = true
    · have wn : wno b E p gl = -2 := wno_n (fun z => by rw [c2] at z; exact absurd z.2 (by simp))
      have e := at'.mpr c2
      rw [l2] at e
      have e' : fd g1 264 4 = (tS b E p : Int) := e.symm
      rw [if_neg (fun z => z.1 wn)]
      refine ⟨fun z => absurd z (by simp), fun _ => ⟨gb, ?_, b2', k1.trans b3⟩⟩
      rw [U_X12_name]
      simp (disch := omega) only [iI_lit, jI_lit, iI_neg, jI_neg, iI_add, iI_sub, iI_mul, jI_add, jI_sub, jI_mul, rdI, rdL, iI_lt, iI_le, iI_eq, iI_nat, iI_b2_0, iI_b2_1, mm_bI_some, mm_bV_some, mm_bL_some, mm_bA_some, fd_wL, fd_wR, fl_wI, fl_wR, re_wI, re_wL, re_wC, ite_true, ite_false, not_true_eq_false, not_false_eq_true, lq_ge, lq_le, lq_gt, lq_lt, lq_eq, jI_lt, jI_le, jI_eq, if_pos, if_neg, h5, l1, il, l2, e', b1]
    · have c2' : tG b E p gl = false := by
        cases hh : tG b E p gl
        · rfl
        · exact absurd hh c2
      have fb := findW_ge (b := b) (s := tS b E p) (e := tL b E (tS b E p)) allW 0
      have wn : wno b E p gl ≠ -2 := by
        unfold wno
        rw [if_pos ⟨c1, c2'⟩]
        omega
      have ne : ¬ fd g1 264 2 = fd g1 264 4 := fun z => c2 (at'.mp z)
      rw [l2] at ne
      have := fd_lo g1 264 4; have := fd_hi g1 264 4
      by_cases c3 : 0 ≤ wno b E p gl ∧ wno b E p gl ≤ 24
      · rw [if_neg (fun z => z.2 c3)]
        rw [b2_t c3] at ow
        refine ⟨fun z => absurd z (by simp), fun _ => ⟨gb, ?_, b2', k1.trans b3⟩⟩
        rw [U_X12_name]
        simp (disch := omega) only [iI_lit, jI_lit, iI_neg, jI_neg, iI_add, iI_sub, iI_mul, jI_add, jI_sub, jI_mul, rdI, rdL, iI_lt, iI_le, iI_eq, iI_nat, iI_b2_0, iI_b2_1, mm_bI_some, mm_bV_some, mm_bL_some, mm_bA_some, fd_wL, fd_wR, fl_wI, fl_wR, re_wI, re_wL, re_wC, ite_true, ite_false, not_true_eq_false, not_false_eq_true, lq_ge, lq_le, lq_gt, lq_lt, lq_eq, jI_lt, jI_le, jI_eq, if_pos, if_neg, h5, l1, il, l2, ow, b1]
      · rw [if_pos ⟨wn, c3⟩]
        rw [b2_f c3] at ow
        have kw : Kf QTk nL g1 (wI g1 264 36 (iI (tS b E p : Int))) := Kf.refl.wI (by unfold QTk; omega)
        have z : ∀ j, j ≠ 36 → fd (wI g1 264 36 (iI (tS b E p : Int))) 264 j = fd g1 264 j := fun j hj => fd_wI_col hj
        have n58 := R_nm_58 (d := d + 2) (b := b) (E := E) (s := tS b E p) (E - tS b E p) (tS b E p) 0 (wI g1 264 36 (iI (tS b E p : Int))) rfl (Nat.le_refl _) (by omega) le (R1.1.tk kw) ((z 5 (by omega)).trans h51) ((z 2 (by omega)).trans l2) (fd_wI_same (by omega) (by omega)) (by omega) (by rw [Nat.sub_self]; decide)
        have stp : mm_M mm_T0 (d + 4) 202 [.ref 264] g = mm_D (mm_M mm_T0 (d + 3)) cd_X12_name 58 [.ref 264, .long (jI 0), .null] [] (wI g1 264 36 (iI (tS b E p : Int))) := by
          rw [U_X12_name]
          simp (disch := omega) only [iI_lit, jI_lit, iI_neg, jI_neg, iI_add, iI_sub, iI_mul, jI_add, jI_sub, jI_mul, rdI, rdL, iI_lt, iI_le, iI_eq, iI_nat, iI_b2_0, iI_b2_1, mm_bI_some, mm_bV_some, mm_bL_some, mm_bA_some, fd_wL, fd_wR, fl_wI, fl_wR, re_wI, re_wL, re_wC, ite_true, ite_false, not_true_eq_false, not_false_eq_true, lq_ge, lq_le, lq_gt, lq_lt, lq_eq, jI_lt, jI_le, jI_eq, if_pos, if_neg, h5, l1, il, l2, ow]
        rw [stp]
        have tl := tL_in c1
        by_cases c4 : tL b E (tS b E p) ≤ tS b E p + 6
        · rw [if_pos c4]
          obtain ⟨g', z1, z2, z3, z4, z5, z6⟩ := n58.1 c4
          have ge := tS_ge (b := b) (E := E) (p := tL b E (tS b E p))
          refine ⟨fun _ => ⟨g', z1, ⟨(R1.1.tk kw).tk z6, tl.2, z5.1, by omega, by rw [if_pos rfl]; exact z3, z5.2.trans ((z 6 (by omega)).trans R1.2.2.2.2.2)⟩, z4, k1.trans (kw.trans z6)⟩, fun z => absurd rfl z⟩
        · rw [if_neg c4]
          obtain ⟨g', z1, z2, z3⟩ := n58.2 (by omega)
          refine ⟨fun z => absurd z (by simp), fun _ => ⟨g', z1, ?_, k1.trans (kw.trans z3)⟩⟩
          rw [show ((tS b E p + 6 : Nat) : Int) = (tS b E p : Int) + 6 by omega] at z2
          exact z2
  · have wn : wno b E p gl = -2 := wno_n (fun z => c1 z.1)
    rw [b2_f c1] at il
    rw [if_neg (fun z => z.1 wn)]
    refine ⟨fun z => absurd z (by simp), fun _ => ⟨gb, ?_, b2', k1.trans b3⟩⟩
    rw [U_X12_name]
    simp (disch := omega) only [iI_lit, jI_lit, iI_neg, jI_neg, iI_add, iI_sub, iI_mul, jI_add, jI_sub, jI_mul, rdI, rdL, iI_lt, iI_le, iI_eq, iI_nat, iI_b2_0, iI_b2_1, mm_bI_some, mm_bV_some, mm_bL_some, mm_bA_some, fd_wL, fd_wR, fl_wI, fl_wR, re_wI, re_wL, re_wC, ite_true, ite_false, not_true_eq_false, not_false_eq_true, lq_ge, lq_le, lq_gt, lq_lt, lq_eq, jI_lt, jI_le, jI_eq, if_pos, if_neg, h5, l1, il, l2, b1]
set_option maxHeartbeats 8000000 in
/-- persons by their names' numbers -/
theorem R_no_2 {w : List Int} (hw : (∀ x ∈ w, 1 ≤ x ∧ x ≤ 26) ∧ w.length ≤ 6) (T : RTs g hm st) (O : st.1.length ≤ 8 ∧ ∀ x ∈ st.1, x.1.length ≤ 6 ∧ ∀ y ∈ x.1, 1 ≤ y ∧ y ≤ 26) : ∀ (r : List Pp) (i : Nat), i + r.length = st.1.length → (∀ j, r[j]? = st.1[i + j]?) → mm_D (mm_M mm_T0 d) cd_X12_nameOf 2 [.ref 264, .long (jI (rvN w)), .null, .int (iI (i : Nat))] [] g = some (some (.int (iI (idxF w r i))), g)
  | [], i, hi, hr => by
    have e39 := T.1.2
    rw [List.length_nil] at hi
    have hi' : st.1.length = i := by omega
    rw [hi'] at e39
    have h8 := O.1
    rw [idxF, U_X12_nameOf_2]
    simp (disch := omega) only [iI_lit, jI_lit, iI_neg, jI_neg, iI_add, iI_sub, iI_mul, jI_add, jI_sub, jI_mul, rdI, rdL, iI_lt, iI_le, iI_eq, iI_nat, iI_b2_0, iI_b2_1, mm_bI_some, mm_bV_some, mm_bL_some, mm_bA_some, fd_wL, fd_wR, fl_wI, fl_wR, re_wI, re_wL, re_wC, ite_true, ite_false, not_true_eq_false, not_false_eq_true, lq_ge, lq_le, lq_gt, lq_lt, lq_eq, jI_lt, jI_le, jI_eq, if_pos, if_neg, e39]
  | x :: r, i, hi, hr => by
    have e39 := T.1.2
    have h8 := O.1
    rw [List.length_cons] at hi
    have hx : st.1[i]? = some x := by
      have := hr 0
      rw [Nat.add_zero] at this
      rw [← this]
      rfl
    have mem : x ∈ st.1 := List.mem_of_getElem? hx
    have vn := (T.2.1 i x hx).1
    have b1 := rvN_b hw.1 hw.2
    have b2' := rvN_b (O.2 x mem).2 (O.2 x mem).1
    have ni : ((i : Nat) : Int).toNat = i := by omega
    have e1 : (i : Int) + 1 = ((i + 1 : Nat) : Int) := by omega
    have nx := R_no_2 hw T O r (i + 1) (by omega) (fun j => by
      have := hr (j + 1)
      rw [show i + 1 + j = i + (j + 1) by omega, ← this]
      rfl)
    rw [idxF]
    by_cases c : x.1 = w
    · rw [if_pos c]
      rw [c] at vn
      rw [U_X12_nameOf_2]
      simp (disch := omega) only [iI_lit, jI_lit, iI_neg, jI_neg, iI_add, iI_sub, iI_mul, jI_add, jI_sub, jI_mul, rdI, rdL, iI_lt, iI_le, iI_eq, iI_nat, iI_b2_0, iI_b2_1, mm_bI_some, mm_bV_some, mm_bL_some, mm_bA_some, fd_wL, fd_wR, fl_wI, fl_wR, re_wI, re_wL, re_wC, ite_true, ite_false, not_true_eq_false, not_false_eq_true, lq_ge, lq_le, lq_gt, lq_lt, lq_eq, jI_lt, jI_le, jI_eq, if_pos, if_neg, e39, ni, vn]
    · rw [if_neg c]
      have nv : rvN x.1 ≠ rvN w := fun z => c (rvN_inj (O.2 x mem).2 hw.1 z)
      rw [show (i : Int) + 1 = ((i + 1 : Nat) : Int) by omega, ← nx, U_X12_nameOf_2]
      simp (disch := omega) only [iI_lit, jI_lit, iI_neg, jI_neg, iI_add, iI_sub, iI_mul, jI_add, jI_sub, jI_mul, rdI, rdL, iI_lt, iI_le, iI_eq, iI_nat, iI_b2_0, iI_b2_1, mm_bI_some, mm_bV_some, mm_bL_some, mm_bA_some, fd_wL, fd_wR, fl_wI, fl_wR, re_wI, re_wL, re_wC, ite_true, ite_false, not_true_eq_false, not_false_eq_true, lq_ge, lq_le, lq_gt, lq_lt, lq_eq, jI_lt, jI_le, jI_eq, if_pos, if_neg, e39, ni, vn, e1]
set_option maxHeartbeats 8000000 in
theorem R_nameOf {w : List Int} (hw : (∀ x ∈ w, 1 ≤ x ∧ x ≤ 26) ∧ w.length ≤ 6) (T : RTs g hm st) (O : st.1.length ≤ 8 ∧ ∀ x ∈ st.1, x.1.length ≤ 6 ∧ ∀ y ∈ x.1, 1 ≤ y ∧ y ≤ 26) : mm_M mm_T0 (d + 1) 204 [.ref 264, .long (jI (rvN w))] g = some (some (.int (iI (idxF w st.1 0))), g) := by
  have a := R_no_2 (d := d) hw T O st.1 0 (by omega) (fun j => by rw [Nat.zero_add])
  rw [show ((0 : Nat) : Int) = 0 from rfl] at a
  rw [U_X12_nameOf, ← a]
  rfl
set_option maxHeartbeats 8000000 in
/-- nobody's name is 0 -/
theorem R_nameOf0 (T : RTs g hm st) (O : st.1.length ≤ 8 ∧ ∀ x ∈ st.1, x.1.length ≤ 6 ∧ ∀ y ∈ x.1, 1 ≤ y ∧ y ≤ 26) : ∃ v, mm_M mm_T0 (d + 1) 204 [.ref 264, .long (jI 0)] g = some (some (.int (iI v)), g) ∧ -1 ≤ v ∧ v < 8 := by
  have a := R_nameOf (d := d) (w := []) ⟨by simp, by simp⟩ T O
  have ib := idxF_b (w := []) st.1 0 (by omega)
  have h8 := O.1
  exact ⟨_, a, by omega, by omega⟩
set_option maxHeartbeats 8000000 in
theorem R_oneOf (R : RS g b E p gl) (T : RTs g hm st) (O : st.1.length ≤ 8 ∧ ∀ x ∈ st.1, x.1.length ≤ 6 ∧ ∀ y ∈ x.1, 1 ≤ y ∧ y ≤ 26) : ((nmT b E p gl).1 ≠ 0 → ∃ g', mm_M mm_T0 (d + 5) 205 [.ref 264] g = some (some (.int (iI 0)), g') ∧ Bad g' (nmT b E p gl).1 (nmT b E p gl).2.1 ∧ Kf QTk nL g g') ∧ ((nmT b E p gl).1 = 0 → idxF (nmT b E p gl).2.2 st.1 0 = -1 → ∃ g', mm_M mm_T0 (d + 5) 205 [.ref 264] g = some (some (.int (iI 0)), g') ∧ Bad g' 3 (tS b E p) ∧ Kf QTk nL g g') ∧ ((nmT b E p gl).1 = 0 → idxF (nmT b E p gl).2.2 st.1 0 ≠ -1 → ∃ g', mm_M mm_T0 (d + 5) 205 [.ref 264] g = some (some (.int (iI (idxF (nmT b E p gl).2.2 st.1 0))), g') ∧ RS g' b E (tL b E (tS b E p)) true ∧ fd g' 264 36 = (tS b E p : Int) ∧ Kf QTk nL g g') := by
  have nt := R_nameT (d := d) R
  have hE := R.1.2.1
  have le := tS_le (b := b) (E := E) R.2.1
  have nmb := nmT_b (b := b) (E := E) (p := p) (gl := gl) hE R.2.1
  have ib := idxF_b (w := (nmT b E p gl).2.2) st.1 0 (by omega)
  have m8 := O.1
  refine ⟨fun c => ?_, fun c c2 => ?_, fun c c2 => ?_⟩
  · obtain ⟨g1, a1, B1, k1⟩ := nt.2 c
    obtain ⟨v, n1, v0, v1⟩ := R_nameOf0 (d := d + 3) (T.tk k1) O
    have b5 : ¬ fd g1 264 5 = 0 := B1.ne c
    have := fd_lo g1 264 5; have := fd_hi g1 264 5
    refine ⟨g1, ?_, B1, k1⟩
    rw [U_X12_oneOf]
    simp (disch := omega) only [iI_lit, jI_lit, iI_neg, jI_neg, iI_add, iI_sub, iI_mul, jI_add, jI_sub, jI_mul, rdI, rdL, iI_lt, iI_le, iI_eq, iI_nat, iI_b2_0, iI_b2_1, mm_bI_some, mm_bV_some, mm_bL_some, mm_bA_some, fd_wL, fd_wR, fl_wI, fl_wR, re_wI, re_wL, re_wC, ite_true, ite_false, not_true_eq_false, not_false_eq_true, lq_ge, lq_le, lq_gt, lq_lt, lq_eq, jI_lt, jI_le, jI_eq, if_pos, if_neg, a1, n1]
  · obtain ⟨g1, a1, R1, e36, k1⟩ := nt.1 c
    have nv := nmb.2.2.2 c
    have n1 := R_nameOf (d := d + 3) (g := g1) (w := (nmT b E p gl).2.2) ⟨nv.2.2.2.2.2.2, nv.2.2.2.2.2.1⟩ (T.tk k1) O
    rw [c2] at n1
    have h51 := R1.2.2.1
    obtain ⟨g2, f1, B2, k2⟩ := R_fail (d := d + 3) (g := g1) (k := 3) (pl := (tS b E p : Int)) h51 (by omega) (by omega) (by omega) (by omega)
    have b5 : ¬ fd g2 264 5 = 0 := B2.ne (by decide)
    have := fd_lo g2 264 5; have := fd_hi g2 264 5
    refine ⟨g2, ?_, B2, k1.trans k2⟩
    rw [U_X12_oneOf]
    simp (disch := omega) only [iI_lit, jI_lit, iI_neg, jI_neg, iI_add, iI_sub, iI_mul, jI_add, jI_sub, jI_mul, rdI, rdL, iI_lt, iI_le, iI_eq, iI_nat, iI_b2_0, iI_b2_1, mm_bI_some, mm_bV_some, mm_bL_some, mm_bA_some, fd_wL, fd_wR, fl_wI, fl_wR, re_wI, re_wL, re_wC, ite_true, ite_false, not_true_eq_false, not_false_eq_true, lq_ge, lq_le, lq_gt, lq_lt, lq_eq, jI_lt, jI_le, jI_eq, if_pos, if_neg, a1, n1, h51, e36, f1]
  · obtain ⟨g1, a1, R1, e36, k1⟩ := nt.1 c
    have nv := nmb.2.2.2 c
    have n1 := R_nameOf (d := d + 3) (g := g1) (w := (nmT b E p gl).2.2) ⟨nv.2.2.2.2.2.2, nv.2.2.2.2.2.1⟩ (T.tk k1) O
    have h51 := R1.2.2.1
    refine ⟨g1, ?_, R1, e36, k1⟩
    generalize idxF (nmT b E p gl).2.2 st.1 0 = ix at *
    rw [U_X12_oneOf]
    simp (disch := omega) only [iI_lit, jI_lit, iI_neg, jI_neg, iI_add, iI_sub, iI_mul, jI_add, jI_sub, jI_mul, rdI, rdL, iI_lt, iI_le, iI_eq, iI_nat, iI_b2_0, iI_b2_1, mm_bI_some, mm_bV_some, mm_bL_some, mm_bA_some, fd_wL, fd_wR, fl_wI, fl_wR, re_wI, re_wL, re_wC, ite_true, ite_false, not_true_eq_false, not_false_eq_true, lq_ge, lq_le, lq_gt, lq_lt, lq_eq, jI_lt, jI_le, jI_eq, if_pos, if_neg, a1, n1, h51]
theorem B_oneOf (h5 : fd g 264 5 ≠ 0) (T : RTs g hm st) (O : st.1.length ≤ 8 ∧ ∀ x ∈ st.1, x.1.length ≤ 6 ∧ ∀ y ∈ x.1, 1 ≤ y ∧ y ≤ 26) : mm_M mm_T0 (d + 2) 205 [.ref 264] g = some (some (.int (iI 0)), g) := by
  obtain ⟨v, n1, v0, v1⟩ := R_nameOf0 (d := d) T O
  have b1 := B_name (d := d) (g := g) h5
  have := fd_lo g 264 5; have := fd_hi g 264 5
  rw [U_X12_oneOf]
  simp (disch := omega) only [iI_lit, jI_lit, iI_neg, jI_neg, iI_add, iI_sub, iI_mul, jI_add, jI_sub, jI_mul, rdI, rdL, iI_lt, iI_le, iI_eq, iI_nat, iI_b2_0, iI_b2_1, mm_bI_some, mm_bV_some, mm_bL_some, mm_bA_some, fd_wL, fd_wR, fl_wI, fl_wR, re_wI, re_wL, re_wC, ite_true, ite_false, not_true_eq_false, not_false_eq_true, lq_ge, lq_le, lq_gt, lq_lt, lq_eq, jI_lt, jI_le, jI_eq, if_pos, if_neg, b1, n1]
end RNM
