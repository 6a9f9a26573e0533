/-! scenes copied; the reference's row put aside and taken back -/
def mm_scs : List Nat := [13, 24, 33, 42, 51, 60, 69, 78, 87, 96, 105, 114, 123, 132, 141, 150, 159, 168, 177, 186, 195, 205, 220, 231, 248]
theorem SS_dis {s s2 : Nat} (hs : mm_isS s) (hs2 : mm_isS s2) (ne : s ≠ s2) : s + 9 ≤ s2 ∨ s2 + 9 ≤ s := by
  have : ∀ x ∈ mm_scs, ∀ y ∈ mm_scs, x ≠ y → x + 9 ≤ y ∨ y + 9 ≤ x := by decide
  exact this s hs s2 hs2 ne
theorem fd_wC_row {h : mm_H} {a0 a n b j : Nat} (hb : b ≠ a) : fd (wC h a0 a 0 0 n) b j = fd h b j := by
  rw [fd_wC, if_neg (fun q => hb q.1)]
theorem fd_wC_in {h : mm_H} {a0 a n j : Nat} (hj : j < n) : fd (wC h a0 a 0 0 n) a j = fd h a0 j := by
  rw [fd_wC, if_pos ⟨rfl, hj⟩]
def QSc (s : Nat) : Nat → Nat → Prop := fun a _ => s ≤ a ∧ a ≤ s + 8
/-- scene s of h' is scene s2 of h -/
def Cpy (s s2 : Nat) (h h' : mm_H) : Prop := (∀ j, 1 ≤ j → j ≤ 5 → ∀ k, k < 8 → fd h' (s + j) k = fd h (s2 + j) k) ∧ (∀ k, k < 64 → fd h' (s + 6) k = fd h (s2 + 6) k) ∧ (∀ k, k < 9 → fd h' (s + 7) k = fd h (s2 + 7) k) ∧ (∀ k, k < 40 → fd h' (s + 8) k = fd h (s2 + 8) k) ∧ (∀ k, 8 ≤ k → k ≤ 11 → fd h' s k = fd h s2 k)
theorem Cpy.SR {s s2 : Nat} {h h' : mm_H} {pm hm : Int} {fc kd n : Int → Int} (c : Cpy s s2 h h') (hp : pm ≤ 8) (hh : hm ≤ 9) (S : SR h s2 pm hm fc kd n) : SR h' s pm hm fc kd n := by
  refine ⟨(c.2.2.2.2 10 (by omega) (by omega)).trans S.1, (c.2.2.2.2 9 (by omega) (by omega)).trans S.2.1, (c.2.2.2.2 11 (by omega) (by omega)).trans S.2.2.1, fun p p1 p2 => ?_, fun p q p1 p2 q1 q2 pq => ?_, fun i i1 i2 => ?_⟩
  · rw [c.1 1 (by omega) (by omega) _ (by omega), c.1 2 (by omega) (by omega) _ (by omega), c.1 3 (by omega) (by omega) _ (by omega), c.1 4 (by omega) (by omega) _ (by omega), c.1 5 (by omega) (by omega) _ (by omega)]
    exact S.2.2.2.1 p p1 p2
  · rw [c.2.1 _ (by omega)]
    exact S.2.2.2.2.1 p q p1 p2 q1 q2 pq
  · rw [c.2.2.1 _ (by omega)]
    exact S.2.2.2.2.2 i i1 i2
theorem Cpy.Kept {s s2 : Nat} {h h' : mm_H} {ev : Evs} (c : Cpy s s2 h h') (K : KeptC h s2 ev) : KeptC h' s ev := by
  refine ⟨(c.2.2.2.2 8 (by omega) (by omega)).trans K.1, fun i hi e he => ?_⟩
  rw [c.2.2.2.1 _ (Nat.mod_lt _ (by omega))]
  exact K.2 i hi e he
set_option maxHeartbeats 4000000 in
theorem C_copy {d s s2 : Nat} {h : mm_H} (hs : mm_isS s) (hs2 : mm_isS s2) (ne : s ≠ s2) : ∃ h', mm_M mm_T0 (d + 1) 100 [.ref s, .ref s2] h = some (none, h') ∧ Cpy s s2 h h' ∧ Kf (QSc s) nL h h' := by
  have dis := SS_dis hs hs2 ne
  have e := U_X7_copyFrom (d := d) (h := h) hs hs2
  simp (disch := omega) only [rdI, fd_wC_row, fd_wI_row] at e
  refine ⟨_, e, ⟨fun j j1 j2 k hk => ?_, fun k hk => ?_, fun k hk => ?_, fun k hk => ?_, fun k k1 k2 => ?_⟩, ?_⟩
  · have : j = 1 ∨ j = 2 ∨ j = 3 ∨ j = 4 ∨ j = 5 := by omega
    rcases this with r | r | r | r | r <;> subst r <;> simp (disch := omega) only [fd_wI_row, fd_wC_row, fd_wC_in]
  · simp (disch := omega) only [fd_wI_row, fd_wC_row, fd_wC_in]
  · simp (disch := omega) only [fd_wI_row, fd_wC_row, fd_wC_in]
  · simp (disch := omega) only [fd_wI_row, fd_wC_row, fd_wC_in]
  · have b1 := fd_lo h s2 k
    have b2' := fd_hi h s2 k
    have : k = 8 ∨ k = 9 ∨ k = 10 ∨ k = 11 := by omega
    rcases this with r | r | r | r <;> subst r <;> simp (disch := omega) only [fd_wI_col, fd_wI_same]
  · refine Kf.wI (Kf.wI (Kf.wI (Kf.wI (Kf.wC (Kf.wC (Kf.wC (Kf.wC (Kf.wC (Kf.wC (Kf.wC (Kf.wC Kf.refl ?_) ?_) ?_) ?_) ?_) ?_) ?_) ?_) ?_) ?_) ?_) ?_ <;> (unfold QSc; intros; omega)
section TRIAL
variable {d : Nat}
theorem R_putsAside_7 : ∀ (k : Nat) (z : Int) (h : mm_H), 0 ≤ z → z + k = 89 → ∃ g, mm_D (mm_M mm_T0 d) cd_X12_putsAside 7 [.ref 264, .int (iI z)] [] h = some (none, g) ∧ (∀ j : Nat, fd g 301 j = if z ≤ j ∧ j < 89 then fd h 300 j else fd h 301 j) ∧ Kf (fun a _ => a = 301) nL h g
  | 0, z, h, h1, h2 => by
    refine ⟨h, ?_, fun j => by rw [if_neg (by omega)], Kf.refl⟩
    rw [U_X12_putsAside_7]
    simp (disch := omega) only [iI_lit, jI_lit, iI_neg, jI_neg, iI_add, iI_sub, iI_mul, jI_add, jI_sub, jI_mul, rdI, rdL, iI_lt, iI_le, iI_eq, iI_nat, iI_b2_0, iI_b2_1, mm_bI_some, mm_bV_some, mm_bL_some, mm_bA_some, fd_wL, fd_wR, fl_wI, fl_wR, re_wI, re_wL, re_wC, ite_true, ite_false, not_true_eq_false, not_false_eq_true, lq_ge, lq_le, lq_gt, lq_lt, lq_eq, jI_lt, jI_le, jI_eq, if_pos, if_neg]
  | k + 1, z, h, h1, h2 => by
    obtain ⟨g, m1, m2, m3⟩ := R_putsAside_7 k (z + 1) (wI h 301 z.toNat (iI (fd h 300 z.toNat))) (by omega) (by omega)
    refine ⟨g, ?_, fun j => ?_, Kf.trans (Kf.wI (Q := fun a _ => a = 301) (L := nL) Kf.refl rfl) m3⟩
    · rw [U_X12_putsAside_7]
      simp (disch := omega) only [iI_lit, jI_lit, iI_neg, jI_neg, iI_add, iI_sub, iI_mul, jI_add, jI_sub, jI_mul, rdI, rdL, iI_lt, iI_le, iI_eq, iI_nat, iI_b2_0, iI_b2_1, mm_bI_some, mm_bV_some, mm_bL_some, mm_bA_some, fd_wL, fd_wR, fl_wI, fl_wR, re_wI, re_wL, re_wC, ite_true, ite_false, not_true_eq_false, not_false_eq_true, lq_ge, lq_le, lq_gt, lq_lt, lq_eq, jI_lt, jI_le, jI_eq, if_pos, if_neg, m1]
    · have b1 := fd_lo h 300 z.toNat
      have b2' := fd_hi h 300 z.toNat
      rw [m2]
      by_cases c : z + 1 ≤ (j : Int) ∧ j < 89
      · rw [if_pos c, if_pos (by omega), fd_wI_row (by omega)]
      · rw [if_neg c]
        by_cases c2 : (j : Int) = z
        · rw [if_pos (by omega)]
          have : j = z.toNat := by omega
          subst this
          rw [fd_wI_same b1 b2']
        · rw [if_neg (by omega), fd_wI_col (by omega)]
theorem R_triesAnew_2 : ∀ (k : Nat) (z : Int) (h : mm_H), 0 ≤ z → z + k = 89 → ∃ g, mm_D (mm_M mm_T0 d) cd_X12_triesAnew 2 [.ref 264, .int (iI z)] [] h = some (none, g) ∧ (∀ j : Nat, fd g 300 j = if z ≤ j ∧ j < 89 then fd h 301 j else fd h 300 j) ∧ Kf (fun a _ => a = 300) nL h g
  | 0, z, h, h1, h2 => by
    refine ⟨h, ?_, fun j => by rw [if_neg (by omega)], Kf.refl⟩
    rw [U_X12_triesAnew_2]
    simp (disch := omega) only [iI_lit, jI_lit, iI_neg, jI_neg, iI_add, iI_sub, iI_mul, jI_add, jI_sub, jI_mul, rdI, rdL, iI_lt, iI_le, iI_eq, iI_nat, iI_b2_0, iI_b2_1, mm_bI_some, mm_bV_some, mm_bL_some, mm_bA_some, fd_wL, fd_wR, fl_wI, fl_wR, re_wI, re_wL, re_wC, ite_true, ite_false, not_true_eq_false, not_false_eq_true, lq_ge, lq_le, lq_gt, lq_lt, lq_eq, jI_lt, jI_le, jI_eq, if_pos, if_neg]
  | k + 1, z, h, h1, h2 => by
    obtain ⟨g, m1, m2, m3⟩ := R_triesAnew_2 k (z + 1) (wI h 300 z.toNat (iI (fd h 301 z.toNat))) (by omega) (by omega)
    refine ⟨g, ?_, fun j => ?_, Kf.trans (Kf.wI (Q := fun a _ => a = 300) (L := nL) Kf.refl rfl) m3⟩
    · rw [U_X12_triesAnew_2]
      simp (disch := omega) only [iI_lit, jI_lit, iI_neg, jI_neg, iI_add, iI_sub, iI_mul, jI_add, jI_sub, jI_mul, rdI, rdL, iI_lt, iI_le, iI_eq, iI_nat, iI_b2_0, iI_b2_1, mm_bI_some, mm_bV_some, mm_bL_some, mm_bA_some, fd_wL, fd_wR, fl_wI, fl_wR, re_wI, re_wL, re_wC, ite_true, ite_false, not_true_eq_false, not_false_eq_true, lq_ge, lq_le, lq_gt, lq_lt, lq_eq, jI_lt, jI_le, jI_eq, if_pos, if_neg, m1]
    · have b1 := fd_lo h 301 z.toNat
      have b2' := fd_hi h 301 z.toNat
      rw [m2]
      by_cases c : z + 1 ≤ (j : Int) ∧ j < 89
      · rw [if_pos c, if_pos (by omega), fd_wI_row (by omega)]
      · rw [if_neg c]
        by_cases c2 : (j : Int) = z
        · rw [if_pos (by omega)]
          have : j = z.toNat := by omega
          subst this
          rw [fd_wI_same b1 b2']
        · rw [if_neg (by omega), fd_wI_col (by omega)]
/-- cells that a trial of the reference may change, and E beside them -/
def QTr (E : Nat → Nat → Prop) : Nat → Nat → Prop := fun a k => a = 300 ∨ a = 301 ∨ (a = 264 ∧ (k = 108 ∨ k = 54 ∨ (57 ≤ k ∧ k ≤ 65))) ∨ E a k
/-- the same, once the row is taken back -/
def QTb (E : Nat → Nat → Prop) : Nat → Nat → Prop := fun a k => a = 301 ∨ (a = 264 ∧ (k = 108 ∨ k = 54 ∨ (57 ≤ k ∧ k ≤ 65))) ∨ E a k
def nE : Nat → Nat → Prop := fun _ _ => False
/-- g is a trial of h -/
def TRi (E : Nat → Nat → Prop) (h g : mm_H) : Prop := fd g 264 64 = 1 ∧ (∀ k, k < 89 → fd g 301 k = fd h 300 k) ∧ (∀ k, 89 ≤ k → fd g 300 k = fd h 300 k) ∧ Kf (QTr E) LE3 h g
theorem TRi.yr {E : Nat → Nat → Prop} {h g g' : mm_H} {n' : Int → Int} {ev es : Evs} (t : TRi E h g) (y : YR g g' n' ev es) : TRi E h g' := by
  refine ⟨?_, fun k hk => ?_, fun k hk => ?_, t.2.2.2.trans (y.2.1.monoQ (fun a k q => ?_))⟩
  · rw [y.e64]; exact t.1
  · rw [y.2.1.1 301 k (by unfold QS; omega)]; exact t.2.1 k hk
  · rw [y.2.2.1 (by rw [t.1]; omega) k hk]; exact t.2.2.1 k hk
  · unfold QS at q
    unfold QTr
    omega
theorem R_putsAside {E : Nat → Nat → Prop} {h : mm_H} : ∃ g, mm_M mm_T0 (d + 1) 235 [.ref 264] h = some (none, g) ∧ TRi E h g ∧ (∀ k, fd g 300 k = fd h 300 k) ∧ Kf (fun a k => a = 301 ∨ (a = 264 ∧ k = 64)) nL h g := by
  obtain ⟨g, m1, m2, m3⟩ := R_putsAside_7 (d := d) 89 0 (wI h 264 64 (iI 1)) (by omega) (by omega)
  have k1 : Kf (fun a k => a = 301 ∨ (a = 264 ∧ k = 64)) nL h g := (Kf.wI Kf.refl (Or.inr ⟨rfl, rfl⟩)).trans (m3.monoQ (fun a k q => Or.inl q))
  refine ⟨g, ?_, ⟨?_, fun k hk => ?_, fun k hk => k1.1 300 k (by omega), ?_⟩, fun k => k1.1 300 k (by omega), k1⟩
  · rw [U_X12_putsAside]
    simp only [iI_lit]
    exact m1
  · rw [m3.1 264 64 (by omega), fd_wI_same (by omega) (by omega)]
  · rw [m2, if_pos (by omega), fd_wI_row (by omega)]
  · exact k1.mono (fun a k q => by unfold QTr; omega) (fun _ _ q => q.elim)
theorem R_triesAnew {E : Nat → Nat → Prop} {h g : mm_H} (t : TRi E h g) : ∃ g', mm_M mm_T0 (d + 1) 236 [.ref 264] g = some (none, g') ∧ TRi E h g' ∧ (∀ k, fd g' 300 k = fd h 300 k) ∧ Kf (fun a _ => a = 300) nL g g' := by
  obtain ⟨g', m1, m2, m3⟩ := R_triesAnew_2 (d := d) 89 0 g (by omega) (by omega)
  have r : ∀ k, fd g' 300 k = fd h 300 k := by
    intro k
    rw [m2]
    by_cases c : k < 89
    · rw [if_pos (by omega), t.2.1 k c]
    · rw [if_neg (by omega), t.2.2.1 k (by omega)]
  refine ⟨g', ?_, ⟨?_, fun k hk => ?_, fun k _ => r k, ?_⟩, r, m3⟩
  · rw [U_X12_triesAnew, iI_lit]
    exact m1
  · rw [m3.1 264 64 (by omega)]; exact t.1
  · rw [m3.1 301 k (by omega)]; exact t.2.1 k hk
  · exact t.2.2.2.trans (m3.mono (fun a k q => Or.inl q) (fun _ _ q => q.elim))
theorem R_takesBack {E : Nat → Nat → Prop} {h g : mm_H} (t : TRi E h g) : ∃ g', mm_M mm_T0 (d + 2) 237 [.ref 264] g = some (none, g') ∧ Kf (QTb E) LE3 h g' ∧ fd g' 264 64 = 0 ∧ Kf (fun a k => a = 300 ∨ (a = 264 ∧ k = 64)) nL g g' := by
  obtain ⟨g1, m1, m2, m3, m4⟩ := R_triesAnew (d := d) t
  have k4 : Kf (fun a k => a = 300 ∨ (a = 264 ∧ k = 64)) nL g (wI g1 264 64 (iI 0)) := (m4.monoQ (fun a k q => Or.inl q)).wI (Or.inr ⟨rfl, rfl⟩)
  refine ⟨wI g1 264 64 (iI 0), ?_, ⟨fun a k q => ?_, fun a k q => ?_, ?_⟩, fd_wI_same (by omega) (by omega), k4⟩
  · rw [U_X12_takesBack, m1, mm_bV_some, iI_lit]
  · unfold QTb at q
    by_cases c : a = 300
    · subst c
      rw [fd_wI_row (by omega), m3]
    · rw [fd_wI, if_neg (by omega)]
      exact m2.2.2.2.1 a k (fun x => by
        unfold QTr at x
        rcases x with x | x | x | x
        · exact c x
        · exact q (Or.inl x)
        · exact q (Or.inr (Or.inl x))
        · exact q (Or.inr (Or.inr x)))
  · exact m2.2.2.2.2.1 a k q
  · exact m2.2.2.2.2.2
theorem R_isAhead {h : mm_H} {N a b : Int} (N1 : -2147483648 ≤ N) (N2 : N < 2147483648) (a1 : 0 ≤ a) (a2 : a < 1000) (b1 : 0 ≤ b) (b2' : b < 1000) (y : 0 ≤ fd h 300 0 ∧ fd h 300 0 ≤ 2000) : mm_M mm_T0 (d + 2) 238 [.ref 264, .int (iI N), .int (iI a), .int (iI b)] h = some (some (.int (iI (b2 ((a ≤ N ∧ N ≤ b) ∧ fd h 300 0 + N ≤ 999)))), h) := by
  rw [U_X12_isAhead, iI_jI N1 N2, iI_jI (by omega) (by omega), iI_jI (by omega) (by omega), R_isIn (by omega) (by omega) (by omega) (by omega) (by omega) (by omega), mm_bI_some]
  by_cases c : a ≤ N ∧ N ≤ b
  · by_cases c2 : fd h 300 0 + N ≤ 999
    · rw [b2_t (c := (a ≤ N ∧ N ≤ b) ∧ fd h 300 0 + N ≤ 999) ⟨c, c2⟩]
      simp (disch := omega) only [iI_lit, jI_lit, iI_neg, jI_neg, iI_add, iI_sub, iI_mul, jI_add, jI_sub, jI_mul, rdI, rdL, iI_lt, iI_le, iI_eq, iI_nat, iI_b2_0, iI_b2_1, mm_bI_some, mm_bV_some, mm_bL_some, mm_bA_some, fd_wL, fd_wR, fl_wI, fl_wR, re_wI, re_wL, re_wC, ite_true, ite_false, not_true_eq_false, not_false_eq_true, lq_ge, lq_le, lq_gt, lq_lt, lq_eq, jI_lt, jI_le, jI_eq, if_pos, if_neg]
    · rw [b2_f (c := (a ≤ N ∧ N ≤ b) ∧ fd h 300 0 + N ≤ 999) (fun q => c2 q.2)]
      simp (disch := omega) only [iI_lit, jI_lit, iI_neg, jI_neg, iI_add, iI_sub, iI_mul, jI_add, jI_sub, jI_mul, rdI, rdL, iI_lt, iI_le, iI_eq, iI_nat, iI_b2_0, iI_b2_1, mm_bI_some, mm_bV_some, mm_bL_some, mm_bA_some, fd_wL, fd_wR, fl_wI, fl_wR, re_wI, re_wL, re_wC, ite_true, ite_false, not_true_eq_false, not_false_eq_true, lq_ge, lq_le, lq_gt, lq_lt, lq_eq, jI_lt, jI_le, jI_eq, if_pos, if_neg]
  · rw [b2_f (c := (a ≤ N ∧ N ≤ b) ∧ fd h 300 0 + N ≤ 999) (fun q => c q.1)]
    simp (disch := omega) only [iI_lit, jI_lit, iI_neg, jI_neg, iI_add, iI_sub, iI_mul, jI_add, jI_sub, jI_mul, rdI, rdL, iI_lt, iI_le, iI_eq, iI_nat, iI_b2_0, iI_b2_1, mm_bI_some, mm_bV_some, mm_bL_some, mm_bA_some, fd_wL, fd_wR, fl_wI, fl_wR, re_wI, re_wL, re_wC, ite_true, ite_false, not_true_eq_false, not_false_eq_true, lq_ge, lq_le, lq_gt, lq_lt, lq_eq, jI_lt, jI_le, jI_eq, if_pos, if_neg]
theorem C_canPass {h : mm_H} {N a b : Int} (N1 : -2147483648 ≤ N) (N2 : N < 2147483648) (a1 : 0 ≤ a) (a2 : a < 1000) (b1 : 0 ≤ b) (b2' : b < 1000) (y : 0 ≤ fd h 13 11 ∧ fd h 13 11 ≤ 2000) : mm_M mm_T0 (d + 1) 184 [.ref 0, .int (iI N), .int (iI a), .int (iI b)] h = some (some (.int (iI (b2 ((a ≤ N ∧ N ≤ b) ∧ fd h 13 11 + N ≤ 999)))), h) := by
  rw [U_X11_canPass]
  by_cases c : a ≤ N ∧ N ≤ b
  · by_cases c2 : fd h 13 11 + N ≤ 999
    · rw [b2_t (c := (a ≤ N ∧ N ≤ b) ∧ fd h 13 11 + N ≤ 999) ⟨c, c2⟩]
      simp (disch := omega) only [iI_lit, jI_lit, iI_neg, jI_neg, iI_add, iI_sub, iI_mul, jI_add, jI_sub, jI_mul, rdI, rdL, iI_lt, iI_le, iI_eq, iI_nat, iI_b2_0, iI_b2_1, mm_bI_some, mm_bV_some, mm_bL_some, mm_bA_some, fd_wL, fd_wR, fl_wI, fl_wR, re_wI, re_wL, re_wC, ite_true, ite_false, not_true_eq_false, not_false_eq_true, lq_ge, lq_le, lq_gt, lq_lt, lq_eq, jI_lt, jI_le, jI_eq, if_pos, if_neg]
    · rw [b2_f (c := (a ≤ N ∧ N ≤ b) ∧ fd h 13 11 + N ≤ 999) (fun q => c2 q.2)]
      simp (disch := omega) only [iI_lit, jI_lit, iI_neg, jI_neg, iI_add, iI_sub, iI_mul, jI_add, jI_sub, jI_mul, rdI, rdL, iI_lt, iI_le, iI_eq, iI_nat, iI_b2_0, iI_b2_1, mm_bI_some, mm_bV_some, mm_bL_some, mm_bA_some, fd_wL, fd_wR, fl_wI, fl_wR, re_wI, re_wL, re_wC, ite_true, ite_false, not_true_eq_false, not_false_eq_true, lq_ge, lq_le, lq_gt, lq_lt, lq_eq, jI_lt, jI_le, jI_eq, if_pos, if_neg]
  · rw [b2_f (c := (a ≤ N ∧ N ≤ b) ∧ fd h 13 11 + N ≤ 999) (fun q => c q.1)]
    by_cases c2 : N < a <;> simp (disch := omega) only [iI_lit, jI_lit, iI_neg, jI_neg, iI_add, iI_sub, iI_mul, jI_add, jI_sub, jI_mul, rdI, rdL, iI_lt, iI_le, iI_eq, iI_nat, iI_b2_0, iI_b2_1, mm_bI_some, mm_bV_some, mm_bL_some, mm_bA_some, fd_wL, fd_wR, fl_wI, fl_wR, re_wI, re_wL, re_wC, ite_true, ite_false, not_true_eq_false, not_false_eq_true, lq_ge, lq_le, lq_gt, lq_lt, lq_eq, jI_lt, jI_le, jI_eq, if_pos, if_neg]
end TRIAL
