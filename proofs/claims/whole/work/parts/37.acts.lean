/-! acts: change, right, spare, years -/
section WHO
variable {n : Int → Int} {pm hm : Int}
theorem who_of {p i : Int} (hd : ∀ p q, 0 ≤ p → p < pm → 0 ≤ q → q < pm → n (1 + 3 * p) = n (1 + 3 * q) → p = q) (p1 : 0 ≤ p) (p2 : p < pm) (e : n (1 + 3 * p) = i) : who n pm i = p := by
  rw [← e]
  exact who_at hd p1 p2
theorem who_no {i : Int} (hp : 0 ≤ pm) (h : ∀ p, 0 ≤ p → p < pm → n (1 + 3 * p) ≠ i) : who n pm i = -1 := by
  rcases who_b (n := n) (h := i) hp with e | e
  · exact e
  · exact absurd e.2.2 (h _ e.1 e.2.1)
theorem who_not {i : Int} (hp : 0 ≤ pm) (e : who n pm i = -1) : ∀ p, 0 ≤ p → p < pm → n (1 + 3 * p) ≠ i := fun p p1 p2 => whoF_none e (by omega) p p1 (by omega)
/-- the row once the houses a and b have changed -/
def chg (n : Int → Int) (pm a b : Int) : Int → Int :=
  if who n pm a = -1 then (if who n pm b = -1 then n else up n (1 + 3 * who n pm b) a)
  else if who n pm b = -1 then up n (1 + 3 * who n pm a) b else up (up n (1 + 3 * who n pm a) b) (1 + 3 * who n pm b) a
theorem chg_home {a b : Int} (hN : NI pm hm n) (ab : a ≠ b) : ∀ p, 0 ≤ p → p < pm → chg n pm a b (1 + 3 * p) = if n (1 + 3 * p) = a then b else if n (1 + 3 * p) = b then a else n (1 + 3 * p) := by
  intro p p1 p2
  have h8 := hN.1
  have hd := hN.2.2.2.2
  have wa := who_b (n := n) (h := a) h8.1
  have wb := who_b (n := n) (h := b) h8.1
  by_cases ca : n (1 + 3 * p) = a
  · have ea := who_of hd p1 p2 ca
    have pb : p ≠ who n pm b := by
      intro e
      rw [← e] at wb
      omega
    rw [if_pos ca]
    unfold chg
    rw [ea, if_neg (by omega)]
    split
    · exact up_same _ _ _
    · rw [up_ne (by omega), up_same]
  · rw [if_neg ca]
    have pa : p ≠ who n pm a := by
      intro e
      rw [← e] at wa
      omega
    by_cases cb : n (1 + 3 * p) = b
    · have eb := who_of hd p1 p2 cb
      rw [if_pos cb]
      unfold chg
      rw [eb]
      split
      · rw [if_neg (by omega), up_same]
      · rw [if_neg (by omega), up_same]
    · have pb : p ≠ who n pm b := by
        intro e
        rw [← e] at wb
        omega
      rw [if_neg cb]
      unfold chg
      repeat' split
      · rfl
      · rw [up_ne (by omega)]
      · rw [up_ne (by omega)]
      · rw [up_ne (by omega), up_ne (by omega)]
theorem chg_ne {a b z : Int} (hp : 0 ≤ pm) (h : ∀ p, 0 ≤ p → p < pm → z ≠ 1 + 3 * p) : chg n pm a b z = n z := by
  have wa := who_b (n := n) (h := a) hp
  have wb := who_b (n := n) (h := b) hp
  have ha := h (who n pm a)
  have hb := h (who n pm b)
  unfold chg
  by_cases ca : who n pm a = -1
  · rw [if_pos ca]
    by_cases cb : who n pm b = -1
    · rw [if_pos cb]
    · rw [if_neg cb, up_ne (hb (by omega) (by omega))]
  · rw [if_neg ca]
    by_cases cb : who n pm b = -1
    · rw [if_pos cb, up_ne (ha (by omega) (by omega))]
    · rw [if_neg cb, up_ne (hb (by omega) (by omega)), up_ne (ha (by omega) (by omega))]
theorem chg_NI {a b : Int} (hN : NI pm hm n) (ab : a ≠ b) (a1 : 0 ≤ a) (a2 : a < hm) (b1 : 0 ≤ b) (b2' : b < hm) : NI pm hm (chg n pm a b) := by
  have h8 := hN.1
  have hd := hN.2.2.2.2
  have hh := chg_home hN ab
  refine ⟨hN.1, hN.2.1, fun p p1 p2 => ?_, fun p q p1 p2 q1 q2 pq => ?_, fun p q p1 p2 q1 q2 e => ?_⟩
  · have := hN.2.2.1 p p1 p2
    rw [chg_ne (z := 2 + 3 * p) h8.1 (by intros; omega), chg_ne (z := 3 + 3 * p) h8.1 (by intros; omega), hh p p1 p2]
    refine ⟨?_, this.2⟩
    repeat' split
    all_goals omega
  · rw [chg_ne h8.1 (by intros; omega)]
    exact hN.2.2.2.1 p q p1 p2 q1 q2 pq
  · apply hd p q p1 p2 q1 q2
    rw [hh p p1 p2, hh q q1 q2] at e
    revert e
    repeat' split
    all_goals omega
theorem chg_who {a b i : Int} (hN : NI pm hm n) (ab : a ≠ b) (a1 : 0 ≤ a) (a2 : a < hm) (b1 : 0 ≤ b) (b2' : b < hm) : who (chg n pm a b) pm i = if i = a then who n pm b else if i = b then who n pm a else who n pm i := by
  have h8 := hN.1
  have hh := chg_home hN ab
  have hd' := (chg_NI hN ab a1 a2 b1 b2').2.2.2.2
  have key : ∀ j, (∀ x, n (1 + 3 * x) = j → (if j = a then b else if j = b then a else j) = i) → (∀ x, (if n (1 + 3 * x) = a then b else if n (1 + 3 * x) = b then a else n (1 + 3 * x)) = i → n (1 + 3 * x) = j) → who (chg n pm a b) pm i = who n pm j := by
    intro j k1 k2
    rcases who_b (n := n) (h := j) h8.1 with e | e
    · rw [e]
      refine who_no h8.1 (fun p p1 p2 x => ?_)
      rw [hh p p1 p2] at x
      exact who_not h8.1 e p p1 p2 (k2 p x)
    · refine who_of hd' e.1 e.2.1 ?_
      rw [hh _ e.1 e.2.1, e.2.2]
      exact k1 _ e.2.2
  by_cases ia : i = a
  · rw [if_pos ia]
    refine key b (fun x e => ?_) (fun x e => ?_)
    · rw [if_neg (by omega), if_pos rfl]; omega
    · revert e
      repeat' split
      all_goals omega
  · rw [if_neg ia]
    by_cases ib : i = b
    · rw [if_pos ib]
      refine key a (fun x e => ?_) (fun x e => ?_)
      · rw [if_pos rfl]; omega
      · revert e
        repeat' split
        all_goals omega
    · rw [if_neg ib]
      refine key i (fun x e => ?_) (fun x e => ?_)
      · rw [if_neg ia, if_neg ib]
      · revert e
        repeat' split
        all_goals omega
end WHO
section ACTS
variable {d s : Nat} {h : mm_H} {pm hm : Int} {fc kd n : Int → Int}
theorem RepR.w {z v : Int} (r : RepR h n) (z0 : 0 ≤ z) (v1 : -2147483648 ≤ v) (v2 : v < 2147483648) : RepR (wI h 300 z.toNat (iI v)) (up n z v) := by
  intro y y1 y2
  show fd (wI h 300 z.toNat (iI v)) 300 y.toNat = _
  by_cases c : y = z
  · rw [c, up_same, fd_wI_same v1 v2]
  · rw [up_ne c, fd_wI_col (by omega)]
    exact r y y1 y2
theorem R_who (hr : RepR h n) (e40 : fd h 264 40 = pm) (h8 : 0 ≤ pm ∧ pm ≤ 8) {a : Int} (a1 : -2147483648 ≤ a) (a2 : a < 2147483648) : mm_M mm_T0 (d + 2) 224 [.ref 264, .int (iI a)] h = some (some (.int (iI (who n pm a))), h) := by
  rw [R_whoIn (by omega) (by omega) a1 a2, e40, who_congr (m := n) (fun j j1 j2 => hr _ (by omega) (by omega))]
theorem R_changes {a b : Int} (hr : RepR h n) (e40 : fd h 264 40 = pm) (hN : NI pm hm n) (a1 : 0 ≤ a) (a2 : a < hm) (b1 : 0 ≤ b) (b2' : b < hm) : ∃ h', mm_M mm_T0 (d + 3) 256 [.ref 264, .int (iI a), .int (iI b)] h = some (none, h') ∧ RepR h' (chg n pm a b) ∧ Kf (fun x k => x = 300 ∧ k < 89) nL h h' := by
  have h8 := hN.1
  have h9 := hN.2.1
  have wa := who_b (n := n) (h := a) h8.1
  have wb := who_b (n := n) (h := b) h8.1
  have ra := R_who (d := d) hr e40 h8 (a := a) (by omega) (by omega)
  have rb := R_who (d := d) hr e40 h8 (a := b) (by omega) (by omega)
  rw [U_X12_changes, ra, mm_bI_some, rb, mm_bI_some]
  unfold chg
  generalize who n pm a = p at *
  generalize who n pm b = q at *
  by_cases ca : p = -1
  · by_cases cb : q = -1
    · refine ⟨h, ?_, ?_, Kf.refl⟩
      · simp (disch := omega) only [iI_lit, jI_lit, iI_neg, jI_neg, iI_add, iI_sub, iI_mul, jI_add, jI_sub, jI_mul, rdI, rdL, iI_lt, iI_le, iI_eq, iI_nat, iI_b2_0, iI_b2_1, mm_bI_some, mm_bV_some, mm_bL_some, mm_bA_some, fd_wL, fd_wR, fl_wI, fl_wR, re_wI, re_wL, re_wC, ite_true, ite_false, not_true_eq_false, not_false_eq_true, lq_ge, lq_le, lq_gt, lq_lt, lq_eq, jI_lt, jI_le, jI_eq, if_pos, if_neg]
      · rw [if_pos ca, if_pos cb]; exact hr
    · refine ⟨wI h 300 (1 + 3 * q).toNat (iI a), ?_, ?_, Kf.refl.wI (by omega)⟩
      · simp (disch := omega) only [iI_lit, jI_lit, iI_neg, jI_neg, iI_add, iI_sub, iI_mul, jI_add, jI_sub, jI_mul, rdI, rdL, iI_lt, iI_le, iI_eq, iI_nat, iI_b2_0, iI_b2_1, mm_bI_some, mm_bV_some, mm_bL_some, mm_bA_some, fd_wL, fd_wR, fl_wI, fl_wR, re_wI, re_wL, re_wC, ite_true, ite_false, not_true_eq_false, not_false_eq_true, lq_ge, lq_le, lq_gt, lq_lt, lq_eq, jI_lt, jI_le, jI_eq, if_pos, if_neg]
      · rw [if_pos ca, if_neg cb]; exact hr.w (by omega) (by omega) (by omega)
  · by_cases cb : q = -1
    · refine ⟨wI h 300 (1 + 3 * p).toNat (iI b), ?_, ?_, Kf.refl.wI (by omega)⟩
      · simp (disch := omega) only [iI_lit, jI_lit, iI_neg, jI_neg, iI_add, iI_sub, iI_mul, jI_add, jI_sub, jI_mul, rdI, rdL, iI_lt, iI_le, iI_eq, iI_nat, iI_b2_0, iI_b2_1, mm_bI_some, mm_bV_some, mm_bL_some, mm_bA_some, fd_wL, fd_wR, fl_wI, fl_wR, re_wI, re_wL, re_wC, ite_true, ite_false, not_true_eq_false, not_false_eq_true, lq_ge, lq_le, lq_gt, lq_lt, lq_eq, jI_lt, jI_le, jI_eq, if_pos, if_neg]
      · rw [if_neg ca, if_pos cb]; exact hr.w (by omega) (by omega) (by omega)
    · refine ⟨wI (wI h 300 (1 + 3 * p).toNat (iI b)) 300 (1 + 3 * q).toNat (iI a), ?_, ?_, (Kf.refl.wI (by omega)).wI (by omega)⟩
      · simp (disch := omega) only [iI_lit, jI_lit, iI_neg, jI_neg, iI_add, iI_sub, iI_mul, jI_add, jI_sub, jI_mul, rdI, rdL, iI_lt, iI_le, iI_eq, iI_nat, iI_b2_0, iI_b2_1, mm_bI_some, mm_bV_some, mm_bL_some, mm_bA_some, fd_wL, fd_wR, fl_wI, fl_wR, re_wI, re_wL, re_wC, ite_true, ite_false, not_true_eq_false, not_false_eq_true, lq_ge, lq_le, lq_gt, lq_lt, lq_eq, jI_lt, jI_le, jI_eq, if_pos, if_neg]
      · rw [if_neg ca, if_neg cb]; exact (hr.w (by omega) (by omega) (by omega)).w (by omega) (by omega) (by omega)
theorem C_who (hs : mm_isS s) (hS : SR h s pm hm fc kd n) (hN : NI pm hm n) {a : Int} (a1 : -2147483648 ≤ a) (a2 : a < 2147483648) : mm_M mm_T0 (d + 2) 104 [.ref s, .int (iI a)] h = some (some (.int (iI (who n pm a))), h) := by
  have h9 := hN.2.1
  rw [S_lodgerAt hs a1 a2, hS.2.1]
  by_cases c : 0 ≤ a ∧ a < hm
  · rw [if_pos (by omega), hS.2.2.2.2.2 a c.1 c.2]
  · rw [if_neg (by omega), who_out hN (by omega)]
theorem C_swap {a b : Int} (hs : mm_isS s) (hS : SR h s pm hm fc kd n) (hN : NI pm hm n) (ab : a ≠ b) (a1 : 0 ≤ a) (a2 : a < hm) (b1 : 0 ≤ b) (b2' : b < hm) : ∃ h', mm_M mm_T0 (d + 3) 117 [.ref s, .int (iI a), .int (iI b)] h = some (none, h') ∧ SR h' s pm hm fc kd (chg n pm a b) ∧ Kf (fun x _ => x = s + 3 ∨ x = s + 7) nL h h' := by
  have h8 := hN.1
  have h9 := hN.2.1
  have wa := who_b (n := n) (h := a) h8.1
  have wb := who_b (n := n) (h := b) h8.1
  have hd := hN.2.2.2.2
  have hw := fun i => chg_who (i := i) hN ab a1 a2 b1 b2'
  have hh := chg_home hN ab
  obtain ⟨s1, s2, s3, s4, s5, s6⟩ := hS
  have hS : SR h s pm hm fc kd n := ⟨s1, s2, s3, s4, s5, s6⟩
  have ra := C_who (d := d) hs hS hN (a := a) (by omega) (by omega)
  have rb := C_who (d := d) hs hS hN (a := b) (by omega) (by omega)
  have key : ∀ g : mm_H, Kf (fun x _ => x = s + 3 ∨ x = s + 7) nL h g → (∀ p, 0 ≤ p → p < pm → fd g (s + 3) p.toNat = if p = who n pm a then b else if p = who n pm b then a else fd h (s + 3) p.toNat) → (∀ i, 0 ≤ i → i < hm → fd g (s + 7) i.toNat = if i = b then who n pm a else if i = a then who n pm b else fd h (s + 7) i.toNat) → SR g s pm hm fc kd (chg n pm a b) := by
    intro g k k1 k2
    refine ⟨(k.1 _ _ (by omega)).trans s1, (k.1 _ _ (by omega)).trans s2, ?_, fun p p1 p2 => ?_, fun p q p1 p2 q1 q2 pq => ?_, fun i i1 i2 => ?_⟩
    · rw [k.1 _ _ (by omega), chg_ne h8.1 (by intros; omega)]; exact s3
    · have := s4 p p1 p2
      rw [k.1 _ _ (by omega), k.1 (s + 2) _ (by omega), k.1 (s + 4) _ (by omega), k.1 (s + 5) _ (by omega), chg_ne (z := 2 + 3 * p) h8.1 (by intros; omega), chg_ne (z := 3 + 3 * p) h8.1 (by intros; omega)]
      refine ⟨this.1, this.2.1, ?_, this.2.2.2⟩
      rw [k1 p p1 p2, hh p p1 p2, this.2.2.1]
      by_cases c1 : p = who n pm a
      · rw [if_pos c1, if_pos]
        rw [← c1] at wa
        omega
      · rw [if_neg c1, if_neg (fun e => c1 (who_of hd p1 p2 e).symm)]
        by_cases c2 : p = who n pm b
        · rw [if_pos c2, if_pos]
          rw [← c2] at wb
          omega
        · rw [if_neg c2, if_neg (fun e => c2 (who_of hd p1 p2 e).symm)]
    · rw [k.1 _ _ (by omega), chg_ne h8.1 (by intros; omega)]
      exact s5 p q p1 p2 q1 q2 pq
    · rw [k2 i i1 i2, hw, s6 i i1 i2]
      by_cases c1 : i = b
      · rw [if_pos c1, if_neg (by omega), if_pos c1]
      · rw [if_neg c1]
        by_cases c2 : i = a
        · rw [if_pos c2, if_pos c2]
        · rw [if_neg c2, if_neg c2, if_neg c1]
  rw [U_X7_swapHouses hs, ra, mm_bI_some, rb, mm_bI_some]
  generalize hp : who n pm a = p at *
  generalize hq : who n pm b = q at *
  have pq : p = -1 ∨ p ≠ q := by
    by_cases e : p = q
    · rw [e] at wa
      omega
    · exact Or.inr e
  rw [S_place_h hs (by omega) (by omega) a1 (by omega) (by omega), mm_bV_some]
  by_cases cq : q = -1
  · rw [if_neg (by omega), S_place_h hs (by omega) (by omega) b1 (by rw [fd_wI_row (by omega)]; omega) (by omega), mm_bV_some]
    by_cases cp : p = -1
    · rw [if_neg (by omega)]
      refine ⟨_, rfl, key _ ((Kf.refl.wI (by omega)).wI (by omega)) (fun x x1 x2 => ?_) (fun i i1 i2 => ?_), (Kf.refl.wI (by omega)).wI (by omega)⟩
      · rw [fd_wI_row (by omega), fd_wI_row (by omega), if_neg (by omega), if_neg (by omega)]
      · by_cases c1 : i = b
        · rw [if_pos c1, c1, fd_wI_same (by omega) (by omega)]
        · rw [if_neg c1, fd_wI_col (by omega)]
          by_cases c2 : i = a
          · rw [if_pos c2, c2, fd_wI_same (by omega) (by omega)]
          · rw [if_neg c2, fd_wI_col (by omega)]
    · rw [if_pos (by rw [fd_wI_row (by omega)]; omega)]
      refine ⟨_, rfl, key _ (((Kf.refl.wI (by omega)).wI (by omega)).wI (by omega)) (fun x x1 x2 => ?_) (fun i i1 i2 => ?_), ((Kf.refl.wI (by omega)).wI (by omega)).wI (by omega)⟩
      · by_cases c1 : x = p
        · rw [if_pos c1, c1, fd_wI_same (by omega) (by omega)]
        · rw [if_neg c1, fd_wI_col (by omega), fd_wI_row (by omega), fd_wI_row (by omega), if_neg (by omega)]
      · rw [fd_wI_row (by omega)]
        by_cases c1 : i = b
        · rw [if_pos c1, c1, fd_wI_same (by omega) (by omega)]
        · rw [if_neg c1, fd_wI_col (by omega)]
          by_cases c2 : i = a
          · rw [if_pos c2, c2, fd_wI_same (by omega) (by omega)]
          · rw [if_neg c2, fd_wI_col (by omega)]
  · rw [if_pos (by omega), S_place_h hs (by omega) (by omega) b1 (by rw [fd_wI_row (by omega), fd_wI_row (by omega)]; omega) (by omega), mm_bV_some]
    by_cases cp : p = -1
    · rw [if_neg (by omega)]
      refine ⟨_, rfl, key _ (((Kf.refl.wI (by omega)).wI (by omega)).wI (by omega)) (fun x x1 x2 => ?_) (fun i i1 i2 => ?_), ((Kf.refl.wI (by omega)).wI (by omega)).wI (by omega)⟩
      · rw [fd_wI_row (by omega), if_neg (by omega)]
        by_cases c1 : x = q
        · rw [if_pos c1, c1, fd_wI_same (by omega) (by omega)]
        · rw [if_neg c1, fd_wI_col (by omega), fd_wI_row (by omega)]
      · by_cases c1 : i = b
        · rw [if_pos c1, c1, fd_wI_same (by omega) (by omega)]
        · rw [if_neg c1, fd_wI_col (by omega), fd_wI_row (by omega)]
          by_cases c2 : i = a
          · rw [if_pos c2, c2, fd_wI_same (by omega) (by omega)]
          · rw [if_neg c2, fd_wI_col (by omega)]
    · rw [if_pos (by rw [fd_wI_row (by omega), fd_wI_row (by omega)]; omega)]
      refine ⟨_, rfl, key _ ((((Kf.refl.wI (by omega)).wI (by omega)).wI (by omega)).wI (by omega)) (fun x x1 x2 => ?_) (fun i i1 i2 => ?_), (((Kf.refl.wI (by omega)).wI (by omega)).wI (by omega)).wI (by omega)⟩
      · by_cases c1 : x = p
        · rw [if_pos c1, c1, fd_wI_same (by omega) (by omega)]
        · rw [if_neg c1, fd_wI_col (by omega), fd_wI_row (by omega)]
          by_cases c2 : x = q
          · rw [if_pos c2, c2, fd_wI_same (by omega) (by omega)]
          · rw [if_neg c2, fd_wI_col (by omega), fd_wI_row (by omega)]
      · rw [fd_wI_row (by omega)]
        by_cases c1 : i = b
        · rw [if_pos c1, c1, fd_wI_same (by omega) (by omega)]
        · rw [if_neg c1, fd_wI_col (by omega), fd_wI_row (by omega)]
          by_cases c2 : i = a
          · rw [if_pos c2, c2, fd_wI_same (by omega) (by omega)]
          · rw [if_neg c2, fd_wI_col (by omega)]
theorem SR_spare {p v : Int} (hS : SR h s pm hm fc kd n) (p1 : 0 ≤ p) (p2 : p < pm) (h8 : pm ≤ 8) (v1 : 0 ≤ v) (v2 : v ≤ 1) : SR (wI h (s + 5) p.toNat (iI v)) s pm hm fc kd (up n (3 + 3 * p) v) := by
  have hw : ∀ i, who (up n (3 + 3 * p) v) pm i = who n pm i := fun i => who_congr (fun j j1 j2 => up_ne (by omega))
  refine ⟨(fd_wI_row (by omega)).trans hS.1, (fd_wI_row (by omega)).trans hS.2.1, ?_, fun x x1 x2 => ?_, fun x z x1 x2 z1 z2 xz => ?_, fun i i1 i2 => ?_⟩
  · rw [fd_wI_row (by omega), up_ne (by omega)]
    exact hS.2.2.1
  · have := hS.2.2.2.1 x x1 x2
    rw [fd_wI_row (by omega), fd_wI_row (by omega), fd_wI_row (by omega), fd_wI_row (a := s + 5) (b := s + 4) (by omega), up_ne (show 1 + 3 * x ≠ 3 + 3 * p by omega), up_ne (show 2 + 3 * x ≠ 3 + 3 * p by omega)]
    refine ⟨this.1, this.2.1, this.2.2.1, this.2.2.2.1, ?_⟩
    by_cases c : x = p
    · rw [c, up_same, fd_wI_same (by omega) (by omega)]
    · rw [up_ne (by omega), fd_wI_col (by omega)]
      exact this.2.2.2.2
  · rw [fd_wI_row (by omega), up_ne (by omega)]
    exact hS.2.2.2.2.1 x z x1 x2 z1 z2 xz
  · rw [fd_wI_row (by omega), hw]
    exact hS.2.2.2.2.2 i i1 i2
theorem NI_look {p v : Int} (hN : NI pm hm n) (v1 : 0 ≤ v) (v2 : v ≤ 99) (p1 : 0 ≤ p) (p2 : p < pm) : NI pm hm (up n (2 + 3 * p) v) := by
  have h8 := hN.1
  refine ⟨hN.1, hN.2.1, fun x x1 x2 => ?_, fun x z x1 x2 z1 z2 xz => ?_, fun x z x1 x2 z1 z2 e => ?_⟩
  · have := hN.2.2.1 x x1 x2
    rw [up_ne (show 1 + 3 * x ≠ 2 + 3 * p by omega), up_ne (show 3 + 3 * x ≠ 2 + 3 * p by omega)]
    refine ⟨this.1, ?_, this.2.2⟩
    by_cases c : x = p
    · rw [c, up_same]; omega
    · rw [up_ne (by omega)]; exact this.2.1
  · rw [up_ne (by omega)]; exact hN.2.2.2.1 x z x1 x2 z1 z2 xz
  · rw [up_ne (by omega), up_ne (by omega)] at e; exact hN.2.2.2.2 x z x1 x2 z1 z2 e
theorem NI_spare {p v : Int} (hN : NI pm hm n) (v1 : 0 ≤ v) (v2 : v ≤ 1) (p1 : 0 ≤ p) (p2 : p < pm) : NI pm hm (up n (3 + 3 * p) v) := by
  have h8 := hN.1
  refine ⟨hN.1, hN.2.1, fun x x1 x2 => ?_, fun x z x1 x2 z1 z2 xz => ?_, fun x z x1 x2 z1 z2 e => ?_⟩
  · have := hN.2.2.1 x x1 x2
    rw [up_ne (show 1 + 3 * x ≠ 3 + 3 * p by omega), up_ne (show 2 + 3 * x ≠ 3 + 3 * p by omega)]
    refine ⟨this.1, this.2.1, ?_⟩
    by_cases c : x = p
    · rw [c, up_same]; omega
    · rw [up_ne (by omega)]; exact this.2.2
  · rw [up_ne (by omega)]; exact hN.2.2.2.1 x z x1 x2 z1 z2 xz
  · rw [up_ne (by omega), up_ne (by omega)] at e; exact hN.2.2.2.2 x z x1 x2 z1 z2 e
theorem NI_thought {p q v : Int} (hN : NI pm hm n) (v1 : 0 ≤ v) (v2 : v ≤ 9) (p1 : 0 ≤ p) (p2 : p < pm) (q1 : 0 ≤ q) (q2 : q < pm) : NI pm hm (up n (25 + 8 * p + q) v) := by
  have h8 := hN.1
  refine ⟨hN.1, hN.2.1, fun x x1 x2 => ?_, fun x z x1 x2 z1 z2 xz => ?_, fun x z x1 x2 z1 z2 e => ?_⟩
  · have := hN.2.2.1 x x1 x2
    rw [up_ne (by omega), up_ne (show 2 + 3 * x ≠ 25 + 8 * p + q by omega), up_ne (show 3 + 3 * x ≠ 25 + 8 * p + q by omega)]
    exact this
  · by_cases c : 25 + 8 * x + z = 25 + 8 * p + q
    · rw [c, up_same]; omega
    · rw [up_ne c]; exact hN.2.2.2.1 x z x1 x2 z1 z2 xz
  · rw [up_ne (by omega), up_ne (by omega)] at e; exact hN.2.2.2.2 x z x1 x2 z1 z2 e
end ACTS
section ACTS2
variable {d t : Nat} {h h1 g h2 h3 : mm_H} {i st pm hm : Int} {fc kd n n' : Int → Int} {cp cm cf : List Int} {ev ev' : Evs} {past past' : Past}
/-- after an act of both -/
theorem Inv.act (M3 : IvM h3) (W : IvW h i t st pm hm fc kd cp cm cf n ev) (S : IvS h pm) (P : IvP h) (N : IvN h t pm) (hi : i + 6 ≤ 3072) (k1 : Kf QHc nL h h1) (k2 : Kf (fun a k => QY t 13 a k ∨ (a = 0 ∧ k = 13)) nL h1 g) (k3 : Kf QHr nL g h2) (H2 : IvH h2 i pm hm fc kd past') (k4 : Kf (fun a k => a = 300 ∨ (a = 264 ∧ (k = 108 ∨ k = 54 ∨ (57 ≤ k ∧ k ≤ 65)))) (fun a k => a = 334 ∨ (a = 264 ∧ k = 75)) h2 h3) (SG : SR g 13 pm hm fc kd n') (KG : KeptC g 13 ev') (RG : RepR h3 n') (KR : KeptR h3 ev') (NN : NI pm hm n') (y : 0 ≤ n' 0 ∧ n' 0 ≤ 999) (EO : EvOK ev') (EL : (ev'.length : Int) ≤ 300 * (i + 6)) (e64 : fd h3 264 64 = 0) (e65 : 0 ≤ fd h3 264 65 ∧ fd h3 264 65 ≤ 20000 * (i + 6)) : Inv h3 (i + 6) := by
  obtain ⟨w1, w2, w3, w4, w5, w6, w7, w8, w9, w10, w11, w12, w13⟩ := W
  have tt := isT_or w1.1
  have kk : Kf (fun a k => QHc a k ∨ (QY t 13 a k ∨ (a = 0 ∧ k = 13)) ∨ QHr a k ∨ a = 300 ∨ (a = 264 ∧ (k = 108 ∨ k = 54 ∨ (57 ≤ k ∧ k ≤ 65)))) (fun a k => a = 334 ∨ (a = 264 ∧ k = 75)) h h3 := Kf.trans (k1.mono (fun a k q => Or.inl q) (fun a k q => q.elim)) (Kf.trans (k2.mono (fun a k q => Or.inr (Or.inl q)) (fun a k q => q.elim)) (Kf.trans (k3.mono (fun a k q => Or.inr (Or.inr (Or.inl q))) (fun a k q => q.elim)) (k4.monoQ (fun a k q => Or.inr (Or.inr (Or.inr q))))))
  have gs : ∀ a j, 13 ≤ a → a ≤ 21 → fd h3 a j = fd g a j := fun a j a1 a2 => (k4.1 a j (by omega)).trans (k3.1 a j (by unfold QHr; omega))
  refine ⟨t, st, pm, hm, fc, kd, cp, cm, cf, n', ev', past', M3, ⟨⟨w1.1, ?_, ?_⟩, ⟨w2.1, ?_, ?_, w2.2.2.2.1, fun x => (w2.2.2.2.2 x).kf3 kk (by intro a j; unfold NC QHc QY QHr; omega)⟩, w3.kf2 kk (by intro a j; unfold NR QHc QY QHr; omega), RG, NN, w6, y, SG.congr (fun a j a1 a2 => gs a j a1 (by omega)), e64, ⟨KG.congr (gs _ _ (by omega) (by omega)) (fun j => gs _ _ (by omega) (by omega)), KR, EO, EL⟩, e65, ?_, by omega, hi⟩, H2.kf k4 (by intro a j; unfold NH; omega) (by omega), S.kf kk (by intro a j; unfold NS QHc QY QHr; omega), P.kf kk (by intro a j; unfold NP QHc QY QHr; omega), N.kf kk (by intro a j; unfold Nnm QHc QY QHr; omega) (by intro j hj; omega)⟩
  · rw [kk.2.2]; exact w1.2.1
  · rw [kk.2.2]; exact w1.2.2
  · rw [kk.1 0 12 (by unfold QHc QY QHr; omega)]; exact w2.2.1
  · rw [kk.1 264 53 (by unfold QHc QY QHr; omega)]; exact w2.2.2.1
  · rw [kk.1 t 3 (by unfold QHc QY QHr; omega), kk.1 264 47 (by unfold QHc QY QHr; omega)]; exact w12
/-- an act that draws no number -/
theorem Inv.act0 (M : IvM h) (W : IvW h i t st pm hm fc kd cp cm cf n ev) (S : IvS h pm) (P : IvP h) (N : IvN h t pm) (hi : i + 6 ≤ 3072) (k1 : Kf QHc nL h h1) (k2 : Kf (QY t 13) nL h1 g) (k3 : Kf QHr nL g h2) (H2 : IvH h2 i pm hm fc kd past') (k4 : Kf (fun a k => a = 300 ∨ (a = 264 ∧ (k = 108 ∨ k = 54 ∨ (57 ≤ k ∧ k ≤ 65)))) LE3 h2 h3) (SG : SR g 13 pm hm fc kd n') (KG : KeptC g 13 ev') (RG : RepR h3 n') (KR : KeptR h3 ev') (NN : NI pm hm n') (y : 0 ≤ n' 0 ∧ n' 0 ≤ 999) (EO : EvOK ev') (EL : (ev'.length : Int) ≤ 300 * (i + 6)) (e64 : fd h3 264 64 = 0) (e65 : 0 ≤ fd h3 264 65 ∧ fd h3 264 65 ≤ 20000 * (i + 6)) : Inv h3 (i + 6) := by
  have tt := isT_or W.1.1
  have kk : Kf (fun a k => QHc a k ∨ QY t 13 a k ∨ QHr a k ∨ a = 300 ∨ (a = 264 ∧ (k = 108 ∨ k = 54 ∨ (57 ≤ k ∧ k ≤ 65)))) LE3 h h3 := Kf.trans (k1.mono (fun a k q => Or.inl q) (fun a k q => q.elim)) (Kf.trans (k2.mono (fun a k q => Or.inr (Or.inl q)) (fun a k q => q.elim)) (Kf.trans (k3.mono (fun a k q => Or.inr (Or.inr (Or.inl q))) (fun a k q => q.elim)) (k4.monoQ (fun a k q => Or.inr (Or.inr (Or.inr q))))))
  exact Inv.act (M.kf kk (by intro a j; unfold NM QHc QY QHr; omega) (by unfold LE3; omega)) W S P N hi k1 (k2.monoQ (fun a k q => Or.inl q)) k3 H2 (k4.mono (fun a k q => q) (fun a k q => Or.inl q)) SG KG RG KR NN y EO EL e64 e65
end ACTS2
