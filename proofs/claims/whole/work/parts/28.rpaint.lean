/-! the reference paints, minds, feuds -/
def alw (w : Int) (k : Int) : Bool := if w = 0 then decide (0 ≤ k ∧ k < 6) else if w = 1 then decide ((0 ≤ k ∧ k < 4) ∨ k = 6) else if w = 2 then decide ((0 ≤ k ∧ k < 4) ∨ k = 7) else decide ((0 ≤ k ∧ k < 2) ∨ k = 3 ∨ k = 4 ∨ (8 ≤ k ∧ k ≤ 12))
def dfl (w : Int) : List Int := if w = 0 then [44] else if w = 1 then [42] else [42, 47, 1, 1006, 7]
theorem alw_7 {w k : Int} (w1 : 0 ≤ w) (w2 : w ≤ 2) (h : alw w k = true) : 0 ≤ k ∧ k ≤ 7 := by
  unfold alw at h
  have : w = 0 ∨ w = 1 ∨ w = 2 := by omega
  rcases this with r | r | r <;> subst r <;> simp at h <;> omega
theorem ev_congr {al : Int → Bool} {G G' : Int → Int} {O : Int → Int → Int} (hG : ∀ k, al k = true → G k = G' k) : ∀ {c : List Int} {ts t : List Bool} {st : List Int}, tyL al c ts = some t → ev G O c st = ev G' O c st
  | [], _, _, _, _ => rfl
  | c :: r, ts, t, st, h => by
    unfold tyL at h
    cases hu : ty1 al c ts with
    | none => rw [hu] at h; cases h
    | some u =>
      rw [hu] at h
      have h' : tyL al r u = some t := h
      have e : ev1 G O c st = ev1 G' O c st := by
        unfold ev1
        rcases ty1_cases hu with q | q | q | q | q | q | q
        · simp (disch := omega) only [if_pos, if_neg]
        · simp (disch := omega) only [if_pos, if_neg]
        · rw [hG _ q.2.2.1]
        · simp (disch := omega) only [if_pos, if_neg]
        · simp (disch := omega) only [if_pos, if_neg]
        · simp (disch := omega) only [if_pos, if_neg]
        · simp (disch := omega) only [if_pos, if_neg]
      show ev G O r (ev1 G O c st) = ev G' O r (ev1 G' O c st)
      rw [e]
      exact ev_congr hG h'
theorem evv_congr {al : Int → Bool} {G G' : Int → Int} {O : Int → Int → Int} (hG : ∀ k, al k = true → G k = G' k) {c : List Int} {t : List Bool} (h : tyL al c [] = some t) : evv G O c = evv G' O c := by
  unfold evv
  rw [ev_congr hG h]
theorem evv_b {al : Int → Bool} {G : Int → Int} {O : Int → Int → Int} (hG : ∀ k, al k = true → -1000000 ≤ G k ∧ G k ≤ 1000000) (hO : ∀ k x, -1000000 ≤ O k x ∧ O k x ≤ 1000000) {c : List Int} {b : Bool} (h : tyL al c [] = some [b]) : vk b (evv G O c) := by
  have := ev_b hG hO (st := []) h trivial
  unfold evv
  obtain ⟨x, r, e, v, _⟩ := this.c1
  rw [e]
  exact v
/-- a rule stands in the reference: told, or its own -/
def RuleR (h : mm_H) (w : Int) (c : List Int) : Prop := tyL (alw w) c [] = some [decide (w = 2)] ∧ ((fd h 297 (3 + w).toNat = -1 ∧ c = dfl w) ∨ ∃ f, 0 ≤ f ∧ fd h 297 (3 + w).toNat = f ∧ fd h 298 (3 + w).toNat = f + c.length ∧ f + c.length ≤ 1600 ∧ CdR h f c)
def QT : Nat → Nat → Prop := fun a k => a = 264 ∧ (k = 108 ∨ k = 54)
def QP : Nat → Nat → Prop := fun a k => a = 264 ∧ (k = 108 ∨ k = 54 ∨ (57 ≤ k ∧ k ≤ 63))
theorem RuleR.kf {Q L : Nat → Nat → Prop} {h h' : mm_H} {w : Int} {c : List Int} (r : RuleR h w c) (k : Kf Q L h h') (q : ∀ a j, Q a j → a ≠ 297 ∧ a ≠ 298 ∧ a ≠ 299) : RuleR h' w c := by
  have e7 : ∀ j, fd h' 297 j = fd h 297 j := fun j => k.1 297 j (fun x => (q _ _ x).1 rfl)
  have e8 : ∀ j, fd h' 298 j = fd h 298 j := fun j => k.1 298 j (fun x => (q _ _ x).2.1 rfl)
  have e9 : ∀ j, fd h' 299 j = fd h 299 j := fun j => k.1 299 j (fun x => (q _ _ x).2.2 rfl)
  refine ⟨r.1, ?_⟩
  rw [e7, e8]
  rcases r.2 with x | ⟨f, x1, x2, x3, x4, x5⟩
  · exact Or.inl x
  · exact Or.inr ⟨f, x1, x2, x3, x4, x5.congr e9⟩
section RPAINT
variable {d : Nat} {h : mm_H}
theorem R_codesTell {w f : Int} {c : List Int} (w1 : 0 ≤ w) (w2 : w ≤ 2) (hT : tyL (alw w) c [] = some [decide (w = 2)]) (f0 : 0 ≤ f) (e1 : fd h 297 (3 + w).toNat = f) (e2 : fd h 298 (3 + w).toNat = f + c.length) (e3 : f + c.length ≤ 1600) (hC : CdR h f c) (hG : ∀ j, alw w j = true → -1000000 ≤ GR h j ∧ GR h j ≤ 1000000) : ∃ h', mm_M mm_T0 (d + 3) 226 [.ref 264, .int (iI w)] h = some (some (.long (jI (evv (GR h) O0 c))), h') ∧ Kf QT LE3 h h' := by
  have gg : GR (wI (wI h 264 54 (iI w)) 264 108 (iI 0)) = GR h := by
    unfold GR
    simp (disch := omega) only [fd_wI_col, fd_wI_row]
  have z1 : fd (wI (wI h 264 54 (iI w)) 264 108 (iI 0)) 297 (3 + w).toNat = f := by
    rw [fd_wI_row (by omega), fd_wI_row (by omega), e1]
  obtain ⟨h', m1, m2, m3⟩ := R_tell_19 (d := d) (w := w) (e := f + c.length) w1 w2 e3 (fun k => alw_7 w1 w2) c f [] [] (wI (wI h 264 54 (iI w)) 264 108 (iI 0)) (hC.congr (fun j => by rw [fd_wI_row (by omega), fd_wI_row (by omega)])) f0 rfl (by rw [fd_wI_row (by omega), fd_wI_row (by omega), e2]) (by rw [fd_wI_col (by omega), fd_wI_same (by omega) (by omega)]) hT (by simp) trivial ⟨fd_wI_same (by omega) (by omega), trivial⟩ (by rw [gg]; exact hG)
  rw [gg] at m2
  have v := ev_b (O := O0) hG (fun _ _ => by unfold O0; omega) (st := []) hT trivial
  obtain ⟨x, r, ex, v1, v2⟩ := v.c1
  rw [ex] at m2
  have vr : r = [] := by
    cases r with
    | nil => rfl
    | cons y z => exact v2.elim
  subst vr
  have e0 : fl h' 334 0 = evv (GR h) O0 c := by
    unfold evv
    rw [ex]
    exact m2.2.1
  refine ⟨h', ?_, ?_⟩
  · rw [U_X12_codesTell]
    simp (disch := omega) only [iI_lit, jI_lit, iI_neg, jI_neg, iI_add, iI_sub, iI_mul, jI_add, jI_sub, jI_mul, rdI, rdL, iI_lt, iI_le, iI_eq, iI_nat, iI_b2_0, iI_b2_1, mm_bI_some, mm_bV_some, mm_bL_some, mm_bA_some, fd_wL, fd_wR, fl_wI, fl_wR, re_wI, re_wL, re_wC, ite_true, ite_false, not_true_eq_false, not_false_eq_true, lq_ge, lq_le, lq_gt, lq_lt, lq_eq, jI_lt, jI_le, jI_eq, if_pos, if_neg, z1]
    rw [m1, e0]
  · exact (Kf.wI (Kf.wI Kf.refl ⟨rfl, Or.inr rfl⟩) ⟨rfl, Or.inl rfl⟩).trans (m3.mono (fun a k q => ⟨q.1, Or.inl q.2⟩) (fun _ _ q => q))
/-- the row as it is read, and the people's truths -/
def RepR (h : mm_H) (n : Int → Int) : Prop := ∀ z, 0 ≤ z → z < 89 → nw h z = n z
def RepF (h : mm_H) (pm : Int) (fc kd : Int → Int) : Prop := ∀ p, 0 ≤ p → p < pm → fcR h p = fc p ∧ kdR h p = kd p
/-- bounds of a row -/
def NI (pm hm : Int) (n : Int → Int) : Prop := (0 ≤ pm ∧ pm ≤ 8) ∧ (0 ≤ hm ∧ hm ≤ 9) ∧ (∀ p, 0 ≤ p → p < pm → (0 ≤ n (1 + 3 * p) ∧ n (1 + 3 * p) < hm) ∧ (0 ≤ n (2 + 3 * p) ∧ n (2 + 3 * p) ≤ 99) ∧ (0 ≤ n (3 + 3 * p) ∧ n (3 + 3 * p) ≤ 1)) ∧ (∀ p q, 0 ≤ p → p < pm → 0 ≤ q → q < pm → p ≠ q → 0 ≤ n (25 + 8 * p + q) ∧ n (25 + 8 * p + q) ≤ 9) ∧ (∀ p q, 0 ≤ p → p < pm → 0 ≤ q → q < pm → n (1 + 3 * p) = n (1 + 3 * q) → p = q)
def FK (pm : Int) (fc kd : Int → Int) : Prop := ∀ p, 0 ≤ p → p < pm → (0 ≤ fc p ∧ fc p ≤ 9) ∧ (0 ≤ kd p ∧ kd p ≤ 9)
theorem cutTo_id {v m : Int} (h1 : 0 ≤ v) (h2 : v ≤ m) : cutTo v m = v := by
  unfold cutTo
  rw [if_neg (by omega), if_neg (by omega)]
theorem Gp_b {fc kd n : Int → Int} {s q side : Int} (f : 0 ≤ fc s ∧ fc s ≤ 9) (k : 0 ≤ kd q ∧ kd q ≤ 9) (t : 0 ≤ n (25 + 8 * q + s) ∧ n (25 + 8 * q + s) ≤ 9) (y : 0 ≤ n 0 ∧ n 0 ≤ 2000) (l : 0 ≤ n (2 + 3 * s) ∧ n (2 + 3 * s) ≤ 99) (sd : side = 0 ∨ side = 1) : ∀ j, alw 0 j = true → -1000000 ≤ Gp fc kd n s q side j ∧ Gp fc kd n s q side j ≤ 1000000 := by
  intro j _
  unfold Gp
  repeat' split
  all_goals omega
theorem Gm_b {fc kd n : Int → Int} {s q gain : Int} (f : 0 ≤ fc q ∧ fc q ≤ 9) (k : 0 ≤ kd s ∧ kd s ≤ 9) (t : 0 ≤ n (25 + 8 * s + q) ∧ n (25 + 8 * s + q) ≤ 9) (y : 0 ≤ n 0 ∧ n 0 ≤ 2000) (g : -1000 ≤ gain ∧ gain ≤ 1000) : ∀ j, alw 1 j = true → -1000000 ≤ Gm fc kd n s q gain j ∧ Gm fc kd n s q gain j ≤ 1000000 := by
  intro j _
  unfold Gm
  repeat' split
  all_goals omega
theorem Gf_b {fc kd n : Int → Int} {a b : Int} (f : 0 ≤ fc b ∧ fc b ≤ 9) (k : 0 ≤ kd a ∧ kd a ≤ 9) (t : 0 ≤ n (25 + 8 * a + b) ∧ n (25 + 8 * a + b) ≤ 9) (y : 0 ≤ n 0 ∧ n 0 ≤ 2000) (g : 0 ≤ n (25 + 8 * b + a) ∧ n (25 + 8 * b + a) ≤ 9) : ∀ j, alw 2 j = true → -1000000 ≤ Gf fc kd n a b j ∧ Gf fc kd n a b j ≤ 1000000 := by
  intro j _
  unfold Gf
  repeat' split
  all_goals omega
theorem alw0 {j : Int} (h : alw 0 j = true) : j = 0 ∨ j = 1 ∨ j = 2 ∨ j = 3 ∨ j = 4 ∨ j = 5 := by
  unfold alw at h
  simp at h
  omega
theorem alw1 {j : Int} (h : alw 1 j = true) : j = 0 ∨ j = 1 ∨ j = 2 ∨ j = 3 ∨ j = 6 := by
  unfold alw at h
  simp at h
  omega
theorem alw2 {j : Int} (h : alw 2 j = true) : j = 0 ∨ j = 1 ∨ j = 2 ∨ j = 3 ∨ j = 7 := by
  unfold alw at h
  simp at h
  omega
theorem R_painted {c : List Int} {fc kd n : Int → Int} {s q side : Int} (hr : RepR h n) (hR : RuleR h 0 c) (s1 : 0 ≤ s) (s2 : s < 8) (q1 : 0 ≤ q) (q2 : q < 8) (f1 : fcR h s = fc s) (k1 : kdR h q = kd q) (f : 0 ≤ fc s ∧ fc s ≤ 9) (k : 0 ≤ kd q ∧ kd q ≤ 9) (t : 0 ≤ n (25 + 8 * q + s) ∧ n (25 + 8 * q + s) ≤ 9) (y : 0 ≤ n 0 ∧ n 0 ≤ 2000) (l : 0 ≤ n (2 + 3 * s) ∧ n (2 + 3 * s) ≤ 99) (sd : side = 0 ∨ side = 1) : ∃ h', mm_M mm_T0 (d + 4) 228 [.ref 264, .int (iI s), .int (iI q), .int (iI side)] h = some (some (.int (iI (paint c fc kd n s q side))), h') ∧ Kf QP LE3 h h' := by
  have r1 := hr (2 + 3 * s) (by omega) (by omega)
  have r2 := hr (25 + 8 * q + s) (by omega) (by omega)
  have r3 := hr 0 (by omega) (by omega)
  rw [U_X12_painted]
  rcases hR.2 with ⟨x1, x2⟩ | ⟨f', x1, x2, x3, x4, x5⟩
  · refine ⟨h, ?_, Kf.refl⟩
    have x1 : fd h 297 3 = -1 := x1
    simp (disch := omega) only [iI_lit, jI_lit, iI_neg, jI_neg, iI_add, iI_sub, iI_mul, jI_add, jI_sub, jI_mul, rdI, rdL, iI_lt, iI_le, iI_eq, iI_nat, iI_b2_0, iI_b2_1, mm_bI_some, mm_bV_some, mm_bL_some, mm_bA_some, fd_wL, fd_wR, fl_wI, fl_wR, re_wI, re_wL, re_wC, ite_true, ite_false, not_true_eq_false, not_false_eq_true, lq_ge, lq_le, lq_gt, lq_lt, lq_eq, jI_lt, jI_le, jI_eq, if_pos, if_neg, x1, R_lookOf]
    rw [r1, x2]
    unfold paint
    rw [show evv (Gp fc kd n s q side) O0 (dfl 0) = n (2 + 3 * s) by simp [dfl, evv, ev, ev1, Gp], cutTo_id l.1 l.2]
  · have x2 : fd h 297 3 = f' := x2
    -- the heap once the five fields are laid
    have kk : Kf QP LE3 h (wI (wI (wI (wI (wI h 264 57 (iI (fc s))) 264 58 (iI (kd q))) 264 59 (iI (n (25 + 8 * q + s)))) 264 60 (iI (n (2 + 3 * s)))) 264 61 (iI side)) := by
      refine Kf.wI (Kf.wI (Kf.wI (Kf.wI (Kf.wI Kf.refl ?_) ?_) ?_) ?_) ?_ <;> exact ⟨rfl, by omega⟩
    have g0 : ∀ j, alw 0 j = true → GR (wI (wI (wI (wI (wI h 264 57 (iI (fc s))) 264 58 (iI (kd q))) 264 59 (iI (n (25 + 8 * q + s)))) 264 60 (iI (n (2 + 3 * s)))) 264 61 (iI side)) j = Gp fc kd n s q side j := by
      intro j hj
      have r3' : fd h 300 0 = n 0 := r3
      rcases alw0 hj with z | z | z | z | z | z <;> subst z <;> unfold GR Gp <;> simp (disch := omega) only [if_pos, if_neg, fd_wI_col, fd_wI_same, fd_wI_row, r3', ite_true, ite_false]
    have hb := Gp_b f k t y l sd
    obtain ⟨h', m1, m2⟩ := R_codesTell (d := d) (w := 0) (by omega) (by omega) hR.1 x1 (by rw [kk.1 297 _ (by unfold QP; omega)]; exact x2) (by rw [kk.1 298 _ (by unfold QP; omega)]; exact x3) x4 (x5.congr (fun j => kk.1 299 j (by unfold QP; omega))) (fun j hj => by rw [g0 j hj]; exact hb j hj)
    rw [evv_congr g0 hR.1] at m1
    have vb := evv_b (O := O0) hb (fun _ _ => by unfold O0; omega) hR.1
    unfold vk at vb
    refine ⟨h', ?_, kk.trans (m2.mono (fun a k q => ⟨q.1, by have := q.2; omega⟩) (fun _ _ q => q))⟩
    have a1 : ∀ (g : mm_H), Kf QP LE3 h g → nw g (25 + 8 * q + s) = n (25 + 8 * q + s) := fun g k => (k.1 300 _ (by unfold QP; omega)).trans r2
    have a2 : ∀ (g : mm_H), Kf QP LE3 h g → nw g (2 + 3 * s) = n (2 + 3 * s) := fun g k => (k.1 300 _ (by unfold QP; omega)).trans r1
    have a3 : ∀ (g : mm_H), Kf QP LE3 h g → kdR g q = kd q := fun g k => (k.1 295 _ (by unfold QP; omega)).trans k1
    have b1 : Kf QP LE3 h (wI h 264 57 (iI (fc s))) := Kf.wI Kf.refl ⟨rfl, by omega⟩
    have b2' : Kf QP LE3 h (wI (wI h 264 57 (iI (fc s))) 264 58 (iI (kd q))) := Kf.wI b1 ⟨rfl, by omega⟩
    have b3 : Kf QP LE3 h (wI (wI (wI h 264 57 (iI (fc s))) 264 58 (iI (kd q))) 264 59 (iI (n (25 + 8 * q + s)))) := Kf.wI b2' ⟨rfl, by omega⟩
    simp (disch := omega) only [iI_lit, jI_lit, iI_neg, jI_neg, iI_add, iI_sub, iI_mul, jI_add, jI_sub, jI_mul, rdI, rdL, iI_lt, iI_le, iI_eq, iI_nat, iI_b2_0, iI_b2_1, mm_bI_some, mm_bV_some, mm_bL_some, mm_bA_some, fd_wL, fd_wR, fl_wI, fl_wR, re_wI, re_wL, re_wC, ite_true, ite_false, not_true_eq_false, not_false_eq_true, lq_ge, lq_le, lq_gt, lq_lt, lq_eq, jI_lt, jI_le, jI_eq, if_pos, if_neg, x2, R_faceOf, f1, R_kindOf, a3 _ b1, R_thoughtOf, a1 _ b2', R_lookOf, a2 _ b3, m1, R_cut]
    rfl
theorem R_minded {c : List Int} {fc kd n : Int → Int} {s q gain : Int} (hr : RepR h n) (hR : RuleR h 1 c) (s1 : 0 ≤ s) (s2 : s < 8) (q1 : 0 ≤ q) (q2 : q < 8) (f1 : fcR h q = fc q) (k1 : kdR h s = kd s) (f : 0 ≤ fc q ∧ fc q ≤ 9) (k : 0 ≤ kd s ∧ kd s ≤ 9) (t : 0 ≤ n (25 + 8 * s + q) ∧ n (25 + 8 * s + q) ≤ 9) (y : 0 ≤ n 0 ∧ n 0 ≤ 2000) (g : -1000 ≤ gain ∧ gain ≤ 1000) : ∃ h', mm_M mm_T0 (d + 4) 229 [.ref 264, .int (iI s), .int (iI q), .int (iI gain)] h = some (some (.int (iI (mindS c fc kd n s q gain))), h') ∧ Kf QP LE3 h h' := by
  have r2 := hr (25 + 8 * s + q) (by omega) (by omega)
  have r3 := hr 0 (by omega) (by omega)
  rw [U_X12_minded]
  rcases hR.2 with ⟨x1, x2⟩ | ⟨f', x1, x2, x3, x4, x5⟩
  · refine ⟨h, ?_, Kf.refl⟩
    have x1 : fd h 297 4 = -1 := x1
    simp (disch := omega) only [iI_lit, jI_lit, iI_neg, jI_neg, iI_add, iI_sub, iI_mul, jI_add, jI_sub, jI_mul, rdI, rdL, iI_lt, iI_le, iI_eq, iI_nat, iI_b2_0, iI_b2_1, mm_bI_some, mm_bV_some, mm_bL_some, mm_bA_some, fd_wL, fd_wR, fl_wI, fl_wR, re_wI, re_wL, re_wC, ite_true, ite_false, not_true_eq_false, not_false_eq_true, lq_ge, lq_le, lq_gt, lq_lt, lq_eq, jI_lt, jI_le, jI_eq, if_pos, if_neg, x1, R_thoughtOf]
    rw [r2, x2]
    unfold mindS
    rw [show evv (Gm fc kd n s q gain) O0 (dfl 1) = n (25 + 8 * s + q) by simp [dfl, evv, ev, ev1, Gm], cutTo_id t.1 t.2]
  · have x2 : fd h 297 4 = f' := x2
    have kk : Kf QP LE3 h (wI (wI (wI (wI h 264 57 (iI (fc q))) 264 58 (iI (kd s))) 264 59 (iI (n (25 + 8 * s + q)))) 264 62 (iI gain)) := by
      refine Kf.wI (Kf.wI (Kf.wI (Kf.wI Kf.refl ?_) ?_) ?_) ?_ <;> exact ⟨rfl, by omega⟩
    have g0 : ∀ j, alw 1 j = true → GR (wI (wI (wI (wI h 264 57 (iI (fc q))) 264 58 (iI (kd s))) 264 59 (iI (n (25 + 8 * s + q)))) 264 62 (iI gain)) j = Gm fc kd n s q gain j := by
      intro j hj
      have r3' : fd h 300 0 = n 0 := r3
      rcases alw1 hj with z | z | z | z | z <;> subst z <;> unfold GR Gm <;> simp (disch := omega) only [if_pos, if_neg, fd_wI_col, fd_wI_same, fd_wI_row, r3', ite_true, ite_false]
    have hb := Gm_b f k t y g
    obtain ⟨h', m1, m2⟩ := R_codesTell (d := d) (w := 1) (by omega) (by omega) hR.1 x1 (by rw [kk.1 297 _ (by unfold QP; omega)]; exact x2) (by rw [kk.1 298 _ (by unfold QP; omega)]; exact x3) x4 (x5.congr (fun j => kk.1 299 j (by unfold QP; omega))) (fun j hj => by rw [g0 j hj]; exact hb j hj)
    rw [evv_congr g0 hR.1] at m1
    have vb := evv_b (O := O0) hb (fun _ _ => by unfold O0; omega) hR.1
    unfold vk at vb
    refine ⟨h', ?_, kk.trans (m2.mono (fun a k q => ⟨q.1, by have := q.2; omega⟩) (fun _ _ q => q))⟩
    have a1 : ∀ (g : mm_H), Kf QP LE3 h g → nw g (25 + 8 * s + q) = n (25 + 8 * s + q) := fun g k => (k.1 300 _ (by unfold QP; omega)).trans r2
    have a3 : ∀ (g : mm_H), Kf QP LE3 h g → kdR g s = kd s := fun g k => (k.1 295 _ (by unfold QP; omega)).trans k1
    have b1 : Kf QP LE3 h (wI h 264 57 (iI (fc q))) := Kf.wI Kf.refl ⟨rfl, by omega⟩
    have b2' : Kf QP LE3 h (wI (wI h 264 57 (iI (fc q))) 264 58 (iI (kd s))) := Kf.wI b1 ⟨rfl, by omega⟩
    simp (disch := omega) only [iI_lit, jI_lit, iI_neg, jI_neg, iI_add, iI_sub, iI_mul, jI_add, jI_sub, jI_mul, rdI, rdL, iI_lt, iI_le, iI_eq, iI_nat, iI_b2_0, iI_b2_1, mm_bI_some, mm_bV_some, mm_bL_some, mm_bA_some, fd_wL, fd_wR, fl_wI, fl_wR, re_wI, re_wL, re_wC, ite_true, ite_false, not_true_eq_false, not_false_eq_true, lq_ge, lq_le, lq_gt, lq_lt, lq_eq, jI_lt, jI_le, jI_eq, if_pos, if_neg, x2, R_faceOf, f1, R_kindOf, a3 _ b1, R_thoughtOf, a1 _ b2', m1, R_cut]
    rfl
theorem R_isFeud {c : List Int} {fc kd n : Int → Int} {a b : Int} (hr : RepR h n) (hR : RuleR h 2 c) (s1 : 0 ≤ a) (s2 : a < 8) (q1 : 0 ≤ b) (q2 : b < 8) (f1 : fcR h b = fc b) (k1 : kdR h a = kd a) (f : 0 ≤ fc b ∧ fc b ≤ 9) (k : 0 ≤ kd a ∧ kd a ≤ 9) (t : 0 ≤ n (25 + 8 * a + b) ∧ n (25 + 8 * a + b) ≤ 9) (y : 0 ≤ n 0 ∧ n 0 ≤ 2000) (g : 0 ≤ n (25 + 8 * b + a) ∧ n (25 + 8 * b + a) ≤ 9) [Decidable (feudS c fc kd n a b)] : ∃ h', mm_M mm_T0 (d + 4) 230 [.ref 264, .int (iI a), .int (iI b)] h = some (some (.int (iI (b2 (feudS c fc kd n a b)))), h') ∧ Kf QP LE3 h h' := by
  have r1 := hr (25 + 8 * a + b) (by omega) (by omega)
  have r2 := hr (25 + 8 * b + a) (by omega) (by omega)
  have r3 := hr 0 (by omega) (by omega)
  rw [U_X12_isFeud]
  rcases hR.2 with ⟨x1, x2⟩ | ⟨f', x1, x2, x3, x4, x5⟩
  · refine ⟨h, ?_, Kf.refl⟩
    have x1 : fd h 297 5 = -1 := x1
    have ee : evv (Gf fc kd n a b) O0 (dfl 2) = b2 (n (25 + 8 * a + b) + n (25 + 8 * b + a) < 6) := by
      have ec : clp (n (25 + 8 * a + b) + n (25 + 8 * b + a)) = n (25 + 8 * a + b) + n (25 + 8 * b + a) := by
        unfold clp
        rw [if_neg (by omega), if_neg (by omega)]
      simp [dfl, evv, ev, ev1, Gf, jn, ec]
    have ef : feudS c fc kd n a b ↔ n (25 + 8 * a + b) + n (25 + 8 * b + a) < 6 := by
      unfold feudS
      rw [x2, ee]
      unfold b2
      by_cases z : n (25 + 8 * a + b) + n (25 + 8 * b + a) < 6 <;> simp [z]
    by_cases z : n (25 + 8 * a + b) + n (25 + 8 * b + a) < 6
    · rw [b2_t (ef.mpr z)]
      simp (disch := omega) only [iI_lit, jI_lit, iI_neg, jI_neg, iI_add, iI_sub, iI_mul, jI_add, jI_sub, jI_mul, rdI, rdL, iI_lt, iI_le, iI_eq, iI_nat, iI_b2_0, iI_b2_1, mm_bI_some, mm_bV_some, mm_bL_some, mm_bA_some, fd_wL, fd_wR, fl_wI, fl_wR, re_wI, re_wL, re_wC, ite_true, ite_false, not_true_eq_false, not_false_eq_true, lq_ge, lq_le, lq_gt, lq_lt, lq_eq, jI_lt, jI_le, jI_eq, if_pos, if_neg, x1, R_thoughtOf, r1, r2]
    · rw [b2_f (fun q => z (ef.mp q))]
      simp (disch := omega) only [iI_lit, jI_lit, iI_neg, jI_neg, iI_add, iI_sub, iI_mul, jI_add, jI_sub, jI_mul, rdI, rdL, iI_lt, iI_le, iI_eq, iI_nat, iI_b2_0, iI_b2_1, mm_bI_some, mm_bV_some, mm_bL_some, mm_bA_some, fd_wL, fd_wR, fl_wI, fl_wR, re_wI, re_wL, re_wC, ite_true, ite_false, not_true_eq_false, not_false_eq_true, lq_ge, lq_le, lq_gt, lq_lt, lq_eq, jI_lt, jI_le, jI_eq, if_pos, if_neg, x1, R_thoughtOf, r1, r2]
  · have x2 : fd h 297 5 = f' := x2
    have kk : Kf QP LE3 h (wI (wI (wI (wI h 264 57 (iI (fc b))) 264 58 (iI (kd a))) 264 59 (iI (n (25 + 8 * a + b)))) 264 63 (iI (n (25 + 8 * b + a)))) := by
      refine Kf.wI (Kf.wI (Kf.wI (Kf.wI Kf.refl ?_) ?_) ?_) ?_ <;> exact ⟨rfl, by omega⟩
    have g0 : ∀ j, alw 2 j = true → GR (wI (wI (wI (wI h 264 57 (iI (fc b))) 264 58 (iI (kd a))) 264 59 (iI (n (25 + 8 * a + b)))) 264 63 (iI (n (25 + 8 * b + a)))) j = Gf fc kd n a b j := by
      intro j hj
      have r3' : fd h 300 0 = n 0 := r3
      rcases alw2 hj with z | z | z | z | z <;> subst z <;> unfold GR Gf <;> simp (disch := omega) only [if_pos, if_neg, fd_wI_col, fd_wI_same, fd_wI_row, r3', ite_true, ite_false]
    have hb := Gf_b f k t y g
    obtain ⟨h', m1, m2⟩ := R_codesTell (d := d) (w := 2) (by omega) (by omega) hR.1 x1 (by rw [kk.1 297 _ (by unfold QP; omega)]; exact x2) (by rw [kk.1 298 _ (by unfold QP; omega)]; exact x3) x4 (x5.congr (fun j => kk.1 299 j (by unfold QP; omega))) (fun j hj => by rw [g0 j hj]; exact hb j hj)
    rw [evv_congr g0 hR.1] at m1
    have vb := evv_b (O := O0) hb (fun _ _ => by unfold O0; omega) hR.1
    unfold vk at vb
    refine ⟨h', ?_, kk.trans (m2.mono (fun a k q => ⟨q.1, by have := q.2; omega⟩) (fun _ _ q => q))⟩
    have a1 : ∀ (g : mm_H), Kf QP LE3 h g → nw g (25 + 8 * a + b) = n (25 + 8 * a + b) := fun g k => (k.1 300 _ (by unfold QP; omega)).trans r1
    have a2 : ∀ (g : mm_H), Kf QP LE3 h g → nw g (25 + 8 * b + a) = n (25 + 8 * b + a) := fun g k => (k.1 300 _ (by unfold QP; omega)).trans r2
    have a3 : ∀ (g : mm_H), Kf QP LE3 h g → kdR g a = kd a := fun g k => (k.1 295 _ (by unfold QP; omega)).trans k1
    have b1 : Kf QP LE3 h (wI h 264 57 (iI (fc b))) := Kf.wI Kf.refl ⟨rfl, by omega⟩
    have b2' : Kf QP LE3 h (wI (wI h 264 57 (iI (fc b))) 264 58 (iI (kd a))) := Kf.wI b1 ⟨rfl, by omega⟩
    have b3 : Kf QP LE3 h (wI (wI (wI h 264 57 (iI (fc b))) 264 58 (iI (kd a))) 264 59 (iI (n (25 + 8 * a + b)))) := Kf.wI b2' ⟨rfl, by omega⟩
    by_cases z : evv (Gf fc kd n a b) O0 c = 1
    · rw [b2_t (show feudS c fc kd n a b from z)]
      simp (disch := omega) only [iI_lit, jI_lit, iI_neg, jI_neg, iI_add, iI_sub, iI_mul, jI_add, jI_sub, jI_mul, rdI, rdL, iI_lt, iI_le, iI_eq, iI_nat, iI_b2_0, iI_b2_1, mm_bI_some, mm_bV_some, mm_bL_some, mm_bA_some, fd_wL, fd_wR, fl_wI, fl_wR, re_wI, re_wL, re_wC, ite_true, ite_false, not_true_eq_false, not_false_eq_true, lq_ge, lq_le, lq_gt, lq_lt, lq_eq, jI_lt, jI_le, jI_eq, if_pos, if_neg, x2, R_faceOf, f1, R_kindOf, a3 _ b1, R_thoughtOf, a1 _ b2', a2 _ b3, m1]
    · rw [b2_f (show ¬ feudS c fc kd n a b from z)]
      simp (disch := omega) only [iI_lit, jI_lit, iI_neg, jI_neg, iI_add, iI_sub, iI_mul, jI_add, jI_sub, jI_mul, rdI, rdL, iI_lt, iI_le, iI_eq, iI_nat, iI_b2_0, iI_b2_1, mm_bI_some, mm_bV_some, mm_bL_some, mm_bA_some, fd_wL, fd_wR, fl_wI, fl_wR, re_wI, re_wL, re_wC, ite_true, ite_false, not_true_eq_false, not_false_eq_true, lq_ge, lq_le, lq_gt, lq_lt, lq_eq, jI_lt, jI_le, jI_eq, if_pos, if_neg, x2, R_faceOf, f1, R_kindOf, a3 _ b1, R_thoughtOf, a1 _ b2', a2 _ b3, m1]
end RPAINT
