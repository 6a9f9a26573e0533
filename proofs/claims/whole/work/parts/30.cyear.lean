/-! the class's strokes and years -/
/-- a scene of the class tells the row n -/
def SR (h : mm_H) (s : Nat) (pm hm : Int) (fc kd n : Int → Int) : Prop := fd h s 10 = pm ∧ fd h s 9 = hm ∧ fd h s 11 = n 0 ∧ (∀ p, 0 ≤ p → p < pm → fd h (s + 1) p.toNat = fc p ∧ fd h (s + 2) p.toNat = kd p ∧ fd h (s + 3) p.toNat = n (1 + 3 * p) ∧ fd h (s + 4) p.toNat = n (2 + 3 * p) ∧ fd h (s + 5) p.toNat = n (3 + 3 * p)) ∧ (∀ p q, 0 ≤ p → p < pm → 0 ≤ q → q < pm → p ≠ q → fd h (s + 6) (p * 8 + q).toNat = n (25 + 8 * p + q)) ∧ (∀ i, 0 ≤ i → i < hm → fd h (s + 7) i.toNat = who n pm i)
theorem SR.congr {h h' : mm_H} {s : Nat} {pm hm : Int} {fc kd n : Int → Int} (r : SR h s pm hm fc kd n) (e : ∀ a k, s ≤ a → a ≤ s + 7 → fd h' a k = fd h a k) : SR h' s pm hm fc kd n := by
  refine ⟨(e _ _ (by omega) (by omega)).trans r.1, (e _ _ (by omega) (by omega)).trans r.2.1, (e _ _ (by omega) (by omega)).trans r.2.2.1, fun p p1 p2 => ?_, fun p q p1 p2 q1 q2 pq => ?_, fun i i1 i2 => ?_⟩
  · rw [e _ _ (by omega) (by omega), e _ _ (by omega) (by omega), e _ _ (by omega) (by omega), e _ _ (by omega) (by omega), e _ _ (by omega) (by omega)]
    exact r.2.2.2.1 p p1 p2
  · rw [e _ _ (by omega) (by omega)]
    exact r.2.2.2.2.1 p q p1 p2 q1 q2 pq
  · rw [e _ _ (by omega) (by omega)]
    exact r.2.2.2.2.2 i i1 i2
theorem wdN0 : (wd 0).toNat = 3 := by decide
theorem wdN1 : (wd 1).toNat = 4 := by decide
theorem wdN2 : (wd 2).toNat = 5 := by decide
theorem wdN3 : (wd 3).toNat = 15 := by decide
theorem wdN4 : (wd 4).toNat = 11 := by decide
theorem wdN5 : (wd 5).toNat = 12 := by decide
theorem wdN6 : (wd 6).toNat = 13 := by decide
theorem wdN7 : (wd 7).toNat = 14 := by decide
theorem wdN8 : (wd 8).toNat = 16 := by decide
theorem wdN9 : (wd 9).toNat = 17 := by decide
theorem wdN10 : (wd 10).toNat = 18 := by decide
theorem toN_lit (n : Nat) : (OfNat.ofNat n : Int).toNat = OfNat.ofNat n := rfl
section CGET
variable {d s : Nat} {h : mm_H} {pm hm p q : Int} {fc kd n : Int → Int}
theorem C_home (hs : mm_isS s) (hS : SR h s pm hm fc kd n) (h8 : pm ≤ 8) (p1 : 0 ≤ p) (p2 : p < pm) : mm_M mm_T0 (d + 2) 105 [.ref s, .int (iI p)] h = some (some (.int (iI (n (1 + 3 * p)))), h) := by
  rw [S_homeOf hs (by omega) (by omega), if_pos (by rw [hS.1]; omega), (hS.2.2.2.1 p p1 p2).2.2.1]
theorem C_look (hs : mm_isS s) (hS : SR h s pm hm fc kd n) (h8 : pm ≤ 8) (p1 : 0 ≤ p) (p2 : p < pm) : mm_M mm_T0 (d + 2) 106 [.ref s, .int (iI p)] h = some (some (.int (iI (n (2 + 3 * p)))), h) := by
  rw [S_lookOf hs (by omega) (by omega), if_pos (by rw [hS.1]; omega), (hS.2.2.2.1 p p1 p2).2.2.2.1]
theorem C_face (hs : mm_isS s) (hS : SR h s pm hm fc kd n) (h8 : pm ≤ 8) (p1 : 0 ≤ p) (p2 : p < pm) : mm_M mm_T0 (d + 2) 107 [.ref s, .int (iI p)] h = some (some (.int (iI (fc p))), h) := by
  rw [S_faceOf hs (by omega) (by omega), if_pos (by rw [hS.1]; omega), (hS.2.2.2.1 p p1 p2).1]
theorem C_kind (hs : mm_isS s) (hS : SR h s pm hm fc kd n) (h8 : pm ≤ 8) (p1 : 0 ≤ p) (p2 : p < pm) : mm_M mm_T0 (d + 2) 108 [.ref s, .int (iI p)] h = some (some (.int (iI (kd p))), h) := by
  rw [S_kindOf hs (by omega) (by omega), if_pos (by rw [hS.1]; omega), (hS.2.2.2.1 p p1 p2).2.1]
theorem C_spare (hs : mm_isS s) (hS : SR h s pm hm fc kd n) (h8 : pm ≤ 8) (p1 : 0 ≤ p) (p2 : p < pm) : mm_M mm_T0 (d + 2) 109 [.ref s, .int (iI p)] h = some (some (.int (iI (n (3 + 3 * p)))), h) := by
  rw [S_sparingOf hs (by omega) (by omega), if_pos (by rw [hS.1]; omega), (hS.2.2.2.1 p p1 p2).2.2.2.2]
theorem C_think (hs : mm_isS s) (hS : SR h s pm hm fc kd n) (h8 : pm ≤ 8) (p1 : 0 ≤ p) (p2 : p < pm) (q1 : 0 ≤ q) (q2 : q < pm) (pq : p ≠ q) : mm_M mm_T0 (d + 1) 110 [.ref s, .int (iI p), .int (iI q)] h = some (some (.int (iI (n (25 + 8 * p + q)))), h) := by
  rw [S_thoughtOf hs (by rw [hS.1]; omega) (by omega) (by omega) (by omega) (by omega), if_pos (by rw [hS.1]; omega), hS.2.2.2.2.1 p q p1 p2 q1 q2 pq]
end CGET
def RuleC (h : mm_H) (c0 : Nat) (w : Int) (c : List Int) : Prop := tyL (alw w) c [] = some [decide (w = 2)] ∧ ∃ f, 0 ≤ f ∧ fd h (c0 + 2) w.toNat = f ∧ fd h (c0 + 3) w.toNat = f + c.length ∧ f + c.length ≤ fd h c0 5 ∧ fd h c0 5 ≤ 1620 ∧ CdC h c0 f c
theorem RuleC.kf {Q L : Nat → Nat → Prop} {h h' : mm_H} {c0 : Nat} {w : Int} {c : List Int} (r : RuleC h c0 w c) (k : Kf Q L h h') (q : ∀ a j, Q a j → a ≠ c0 + 1 ∧ a ≠ c0 + 2 ∧ a ≠ c0 + 3 ∧ (a = c0 → j ≠ 5)) : RuleC h' c0 w c := by
  obtain ⟨r1, f, x1, x2, x3, x4, x5, x6⟩ := r
  refine ⟨r1, f, x1, ?_, ?_, ?_, ?_, x6.congr (fun j => k.1 _ j (fun x => (q _ _ x).1 rfl))⟩
  · rw [k.1 _ _ (fun x => (q _ _ x).2.1 rfl)]
    exact x2
  · rw [k.1 _ _ (fun x => (q _ _ x).2.2.1 rfl)]
    exact x3
  · rw [k.1 _ _ (fun x => (q _ _ x).2.2.2 rfl rfl)]
    exact x4
  · rw [k.1 _ _ (fun x => (q _ _ x).2.2.2 rfl rfl)]
    exact x5
def CT (h : mm_H) (t : Nat) (cp cm cf : List Int) : Prop := RuleC h (t + 10) 0 cp ∧ RuleC h (t + 10) 1 cm ∧ RuleC h (t + 10) 2 cf
/-- what a rule at work changes -/
def QW (t : Nat) : Nat → Nat → Prop := fun a k => a = t + 14 ∨ a = t + 15 ∨ (a = t + 10 ∧ k = 6)
/-- what years change -/
def QY (t s : Nat) : Nat → Nat → Prop := fun a k => (s ≤ a ∧ a ≤ s + 8) ∨ a = t + 14 ∨ a = t + 15 ∨ (a = t + 10 ∧ k = 6)
theorem QW_QY {t s : Nat} : ∀ a k, QW t a k → QY t s a k := fun _ _ q => Or.inr q
theorem ST_dis {s t : Nat} (hs : mm_isS s) (ht : mm_isT t) : s + 9 ≤ t + 10 ∨ t + 16 ≤ s := SC_dis hs (isT_C ht)
theorem CT.kf {h h' : mm_H} {t s : Nat} {cp cm cf : List Int} (hs : mm_isS s) (ht : mm_isT t) (r : CT h t cp cm cf) (k : Kf (QY t s) nL h h') : CT h' t cp cm cf := by
  have g := ST_dis hs ht
  have q : ∀ a j, QY t s a j → a ≠ t + 10 + 1 ∧ a ≠ t + 10 + 2 ∧ a ≠ t + 10 + 3 ∧ (a = t + 10 → j ≠ 5) := by
    intro a j x
    unfold QY at x
    omega
  exact ⟨r.1.kf k q, r.2.1.kf k q, r.2.2.kf k q⟩
section CYEAR
variable {d t s : Nat}
theorem C_within {h : mm_H} {v m : Int} (v1 : -2147483648 ≤ v) (v2 : v < 2147483648) (m1 : 0 ≤ m) (m2 : m < 2147483648) : mm_M mm_T0 (d + 2) 187 [.int (iI v), .int (iI m)] h = some (some (.int (iI (cutTo v m))), h) := by
  have e : max 0 (min m v) = cutTo v m := by
    unfold cutTo
    repeat' split
    all_goals omega
  rw [U_X11_within]
  simp (disch := omega) only [iI_lit, jI_lit, iI_neg, jI_neg, iI_add, iI_sub, iI_mul, jI_add, jI_sub, jI_mul, rdI, rdL, iI_lt, iI_le, iI_eq, iI_nat, iI_b2_0, iI_b2_1, mm_bI_some, mm_bV_some, mm_bL_some, mm_bA_some, fd_wL, fd_wR, fl_wI, fl_wR, re_wI, re_wL, re_wC, ite_true, ite_false, not_true_eq_false, not_false_eq_true, lq_ge, lq_le, lq_gt, lq_lt, lq_eq, jI_lt, jI_le, jI_eq, if_pos, if_neg, J_min, J_max, e]
theorem C_setP {h : mm_H} {pm hm p q side : Int} {fc kd n : Int → Int} (ht : mm_isT t) (hs : mm_isS s) (hS : SR h s pm hm fc kd n) (hN : NI pm hm n) (hF : FK pm fc kd) (y : 0 ≤ n 0 ∧ n 0 ≤ 2000) (p1 : 0 ≤ p) (p2 : p < pm) (q1 : 0 ≤ q) (q2 : q < pm) (pq : q ≠ p) (sd : side = 0 ∨ side = 1) : ∃ g, mm_M mm_T0 (d + 3) 144 [.ref t, .ref s, .int (iI p), .int (iI q), .int (iI side)] h = some (none, g) ∧ (∀ j, alw 0 j = true → 0 ≤ j → j ≤ 10 → fd g (t + 10 + 4) (wd j).toNat = Gp fc kd n p q side j) ∧ Kf (QW t) nL h g := by
  have h8 := hN.1
  have dis := ST_dis hs ht
  have hc := isT_C ht
  have sp := hS.2.2.2.1 p p1 p2
  have sq := hS.2.2.2.1 q q1 q2
  have st := hS.2.2.2.2.1 q p q1 q2 p1 p2 pq
  have bf := hF p p1 p2
  have bk := hF q q1 q2
  have bl := (hN.2.2.1 p p1 p2).2.1
  have bt := hN.2.2.2.1 q p q1 q2 p1 p2 pq
  have e10 : fd h s 10 = pm := hS.1
  have e11 : fd h s 11 = n 0 := hS.2.2.1
  refine ⟨wI (wI (wI (wI (wI (wI h (t + 10 + 4) 3 (iI (fc p))) (t + 10 + 4) 4 (iI (kd q))) (t + 10 + 4) 5 (iI (n (25 + 8 * q + p)))) (t + 10 + 4) 15 (iI (n 0))) (t + 10 + 4) 11 (iI (n (2 + 3 * p)))) (t + 10 + 4) 12 (iI side), ?_, ?_, ?_⟩
  · have S1 : ∀ {g : mm_H} {k : Nat} {v : Int32}, SR g s pm hm fc kd n → SR (wI g (t + 10 + 4) k v) s pm hm fc kd n := fun S => S.congr (fun a k a1 a2 => fd_wI_row (by omega))
    rw [U_X10_setForPaints ht hs, C_face hs hS h8.2 p1 p2]
    simp (disch := omega) only [iI_lit, rdI, C_setValue hc, mm_bI_some, mm_bV_some]
    rw [C_kind hs (S1 hS) h8.2 q1 q2]
    simp (disch := omega) only [iI_lit, rdI, C_setValue hc, mm_bI_some, mm_bV_some]
    rw [C_think hs (S1 (S1 hS)) h8.2 q1 q2 p1 p2 pq]
    simp (disch := omega) only [iI_lit, rdI, C_setValue hc, mm_bI_some, mm_bV_some]
    rw [(S1 (S1 (S1 hS))).2.2.1, C_look hs (S1 (S1 (S1 (S1 hS)))) h8.2 p1 p2]
    simp (disch := omega) only [iI_lit, rdI, C_setValue hc, mm_bI_some, mm_bV_some]
    rfl
  · intro j hj j1 j2
    rcases alw0 hj with z | z | z | z | z | z
    · subst z
      rw [wdN0, show Gp fc kd n p q side 0 = fc p by simp [Gp]]
      simp (disch := omega) only [fd_wI_col, fd_wI_same]
    · subst z
      rw [wdN1, show Gp fc kd n p q side 1 = kd q by simp [Gp]]
      simp (disch := omega) only [fd_wI_col, fd_wI_same]
    · subst z
      rw [wdN2, show Gp fc kd n p q side 2 = n (25 + 8 * q + p) by simp [Gp]]
      simp (disch := omega) only [fd_wI_col, fd_wI_same]
    · subst z
      rw [wdN3, show Gp fc kd n p q side 3 = n 0 by simp [Gp]]
      simp (disch := omega) only [fd_wI_col, fd_wI_same]
    · subst z
      rw [wdN4, show Gp fc kd n p q side 4 = n (2 + 3 * p) by simp [Gp]]
      simp (disch := omega) only [fd_wI_col, fd_wI_same]
    · subst z
      rw [wdN5, show Gp fc kd n p q side 5 = side by simp [Gp]]
      simp (disch := omega) only [fd_wI_col, fd_wI_same]
  · refine Kf.wI (Kf.wI (Kf.wI (Kf.wI (Kf.wI (Kf.wI Kf.refl ?_) ?_) ?_) ?_) ?_) ?_ <;> exact Or.inl rfl
theorem C_setM {h : mm_H} {pm hm p q gain : Int} {fc kd n : Int → Int} (ht : mm_isT t) (hs : mm_isS s) (hS : SR h s pm hm fc kd n) (hN : NI pm hm n) (hF : FK pm fc kd) (y : 0 ≤ n 0 ∧ n 0 ≤ 2000) (p1 : 0 ≤ p) (p2 : p < pm) (q1 : 0 ≤ q) (q2 : q < pm) (pq : p ≠ q) (gb : -1000 ≤ gain ∧ gain ≤ 1000) : ∃ g, mm_M mm_T0 (d + 3) 145 [.ref t, .ref s, .int (iI p), .int (iI q), .int (iI gain)] h = some (none, g) ∧ (∀ j, alw 1 j = true → 0 ≤ j → j ≤ 10 → fd g (t + 10 + 4) (wd j).toNat = Gm fc kd n p q gain j) ∧ Kf (QW t) nL h g := by
  have h8 := hN.1
  have dis := ST_dis hs ht
  have hc := isT_C ht
  have sp := hS.2.2.2.1 p p1 p2
  have sq := hS.2.2.2.1 q q1 q2
  have st := hS.2.2.2.2.1 p q p1 p2 q1 q2 pq
  have bf := hF p p1 p2
  have bk := hF q q1 q2
  have bt := hN.2.2.2.1 p q p1 p2 q1 q2 pq
  have e10 : fd h s 10 = pm := hS.1
  have e11 : fd h s 11 = n 0 := hS.2.2.1
  refine ⟨wI (wI (wI (wI (wI h (t + 10 + 4) 3 (iI (fc q))) (t + 10 + 4) 4 (iI (kd p))) (t + 10 + 4) 5 (iI (n (25 + 8 * p + q)))) (t + 10 + 4) 15 (iI (n 0))) (t + 10 + 4) 13 (iI gain), ?_, ?_, ?_⟩
  · have S1 : ∀ {g : mm_H} {k : Nat} {v : Int32}, SR g s pm hm fc kd n → SR (wI g (t + 10 + 4) k v) s pm hm fc kd n := fun S => S.congr (fun a k a1 a2 => fd_wI_row (by omega))
    rw [U_X10_setForMinds ht hs, C_face hs hS h8.2 q1 q2]
    simp (disch := omega) only [iI_lit, rdI, C_setValue hc, mm_bI_some, mm_bV_some]
    rw [C_kind hs (S1 hS) h8.2 p1 p2]
    simp (disch := omega) only [iI_lit, rdI, C_setValue hc, mm_bI_some, mm_bV_some]
    rw [C_think hs (S1 (S1 hS)) h8.2 p1 p2 q1 q2 pq]
    simp (disch := omega) only [iI_lit, rdI, C_setValue hc, mm_bI_some, mm_bV_some]
    rw [(S1 (S1 (S1 hS))).2.2.1]
    rfl
  · intro j hj j1 j2
    rcases alw1 hj with z | z | z | z | z
    · subst z
      rw [wdN0, show Gm fc kd n p q gain 0 = fc q by simp [Gm]]
      simp (disch := omega) only [fd_wI_col, fd_wI_same]
    · subst z
      rw [wdN1, show Gm fc kd n p q gain 1 = kd p by simp [Gm]]
      simp (disch := omega) only [fd_wI_col, fd_wI_same]
    · subst z
      rw [wdN2, show Gm fc kd n p q gain 2 = n (25 + 8 * p + q) by simp [Gm]]
      simp (disch := omega) only [fd_wI_col, fd_wI_same]
    · subst z
      rw [wdN3, show Gm fc kd n p q gain 3 = n 0 by simp [Gm]]
      simp (disch := omega) only [fd_wI_col, fd_wI_same]
    · subst z
      rw [wdN6, show Gm fc kd n p q gain 6 = gain by simp [Gm]]
      simp (disch := omega) only [fd_wI_col, fd_wI_same]
  · refine Kf.wI (Kf.wI (Kf.wI (Kf.wI (Kf.wI Kf.refl ?_) ?_) ?_) ?_) ?_ <;> exact Or.inl rfl
/-- a rule of the three at work -/
theorem C_rule {h : mm_H} {w : Int} {c : List Int} {G : Int → Int} (ht : mm_isT t) (hs : mm_isS s) (w1 : 0 ≤ w) (w2 : w ≤ 2) (hR : RuleC h (t + 10) w c) (h8 : fd h s 10 ≤ 8) (hb : ∀ j, alw w j = true → -1000000 ≤ G j ∧ G j ≤ 1000000) (hG : ∀ j, alw w j = true → 0 ≤ j → j ≤ 10 → fd h (t + 10 + 4) (wd j).toNat = G j) : ∃ h', mm_M mm_T0 (d + 3) 39 [.ref (t + 10), .int (iI w), .ref s] h = some (some (.int (iI (evv G O0 c))), h') ∧ Kf (QW t) nL h h' := by
  obtain ⟨r1, f, x1, x2, x3, x4, x5, x6⟩ := hR
  obtain ⟨h', m1, m2⟩ := C_work (d := d) (isT_C ht) hs w1 (by omega) (O := O0) (fun _ _ => by unfold O0; omega) hb x2 x1 x3 x4 x5 x6 r1 h8 hG (fun w' x hw ha => by
    have := alw_7 w1 w2 ha
    omega)
  exact ⟨h', m1, m2.monoQ (fun a k q => by unfold QC at q; unfold QW; omega)⟩
/-- curtains that came, as the class keeps them -/
def KeptC (h : mm_H) (s : Nat) (ev : Evs) : Prop := fd h s 8 = (ev.length : Int) ∧ ∀ i, i < min ev.length 40 → ∀ e, ev[ev.length - min ev.length 40 + i]? = some e → fd h (s + 8) ((ev.length - min ev.length 40 + i) % 40) = (e.1 * 8 + e.2.1) * 8 + e.2.2
theorem KeptC.congr {h h' : mm_H} {s : Nat} {ev : Evs} (r : KeptC h s ev) (e1 : fd h' s 8 = fd h s 8) (e2 : ∀ k, fd h' (s + 8) k = fd h (s + 8) k) : KeptC h' s ev := by
  refine ⟨e1.trans r.1, fun i hi e he => ?_⟩
  rw [e2]
  exact r.2 i hi e he
theorem J_floorMod {h : mm_H} {a b : Int} (a1 : 0 ≤ a) (a2 : a < 2147483648) (b1 : 0 < b) (b2' : b < 2147483648) : mm_M mm_T0 (d + 1) 8 [.int (iI a), .int (iI b)] h = some (some (.int (iI (a % b))), h) := by
  have e : a - a.tdiv b * b = a % b := by
    rw [tdiv_tmod, Int.tmod_eq_emod_of_nonneg a1]
  have hb : (a.tdiv b).natAbs ≤ a.natAbs := Int.natAbs_tdiv_le_natAbs a b
  have p : (0 ≤ a) = (0 ≤ b) := by
    rw [eq_true a1, eq_true (show 0 ≤ b by omega)]
  rw [U_J9_floorMod_7cf53]
  simp (disch := omega) only [iI_lit, iI_div, iI_mul, xor_pos, iI_eq, iI_sub, e, if_pos p, if_neg]
theorem C_keep {h : mm_H} {ev : Evs} {p q : Int} (hs : mm_isS s) (hk : KeptC h s ev) (hl : ev.length < 10000000) (y : 0 ≤ fd h s 11 ∧ fd h s 11 ≤ 2000) (p1 : 0 ≤ p) (p2 : p < 8) (q1 : 0 ≤ q) (q2 : q < 8) : ∃ h', mm_M mm_T0 (d + 2) 119 [.ref s, .int (iI p), .int (iI q)] h = some (none, h') ∧ KeptC h' s (ev ++ [(fd h s 11, p, q)]) ∧ Kf (fun a k => a = s + 8 ∨ (a = s ∧ k = 8)) nL h h' := by
  have m0 : ((ev.length : Int) % 40).toNat = ev.length % 40 := by omega
  have w1 : fd (wI h (s + 8) (ev.length % 40) (iI ((fd h s 11 * 8 + p) * 8 + q))) s 8 = (ev.length : Int) := by
    rw [fd_wI_row (by omega), hk.1]
  refine ⟨wI (wI h (s + 8) (ev.length % 40) (iI ((fd h s 11 * 8 + p) * 8 + q))) s 8 (iI ((ev.length : Int) + 1)), ?_, ⟨?_, ?_⟩, ?_⟩
  · rw [U_X7_keep hs]
    simp (disch := omega) only [iI_lit, jI_lit, iI_neg, jI_neg, iI_add, iI_sub, iI_mul, jI_add, jI_sub, jI_mul, rdI, rdL, iI_lt, iI_le, iI_eq, iI_nat, iI_b2_0, iI_b2_1, mm_bI_some, mm_bV_some, mm_bL_some, mm_bA_some, fd_wL, fd_wR, fl_wI, fl_wR, re_wI, re_wL, re_wC, ite_true, ite_false, not_true_eq_false, not_false_eq_true, lq_ge, lq_le, lq_gt, lq_lt, lq_eq, jI_lt, jI_le, jI_eq, if_pos, if_neg, hk.1, J_floorMod, m0, w1]
  · rw [fd_wI_same (by omega) (by omega)]
    simp
  · intro i hi e he
    simp only [List.length_append, List.length_cons, List.length_nil] at hi he ⊢
    rw [fd_wI_row (by omega)]
    by_cases ci : ev.length + (0 + 1) - min (ev.length + (0 + 1)) 40 + i = ev.length
    · rw [ci] at he ⊢
      rw [List.getElem?_append_right (by omega)] at he
      simp at he
      subst he
      rw [fd_wI_same (by omega) (by omega)]
    · rw [List.getElem?_append_left (by omega)] at he
      rw [fd_wI_col (by omega)]
      have := hk.2 (ev.length + (0 + 1) - min (ev.length + (0 + 1)) 40 + i - (ev.length - min ev.length 40)) (by omega) e (by rw [show ev.length - min ev.length 40 + (ev.length + (0 + 1) - min (ev.length + (0 + 1)) 40 + i - (ev.length - min ev.length 40)) = ev.length + (0 + 1) - min (ev.length + (0 + 1)) 40 + i by omega]; exact he)
      rw [show ev.length - min ev.length 40 + (ev.length + (0 + 1) - min (ev.length + (0 + 1)) 40 + i - (ev.length - min ev.length 40)) = ev.length + (0 + 1) - min (ev.length + (0 + 1)) 40 + i by omega] at this
      exact this
  · exact Kf.wI (Kf.wI Kf.refl (Or.inl rfl)) (Or.inr ⟨rfl, rfl⟩)
theorem SR_look {h : mm_H} {pm hm p v : Int} {fc kd n : Int → Int} (hS : SR h s pm hm fc kd n) (p1 : 0 ≤ p) (p2 : p < pm) (h8 : pm ≤ 8) (v1 : 0 ≤ v) (v2 : v ≤ 99) : SR (wI h (s + 4) p.toNat (iI v)) s pm hm fc kd (up n (2 + 3 * p) v) := by
  have hw : ∀ i, who (up n (2 + 3 * p) v) pm i = who n pm i := fun i => who_congr (fun j j1 j2 => up_ne (by omega))
  refine ⟨(fd_wI_row (by omega)).trans hS.1, (fd_wI_row (by omega)).trans hS.2.1, ?_, fun x x1 x2 => ?_, fun x z x1 x2 z1 z2 xz => ?_, fun i i1 i2 => ?_⟩
  · rw [fd_wI_row (by omega), up_ne (by omega)]
    exact hS.2.2.1
  · have := hS.2.2.2.1 x x1 x2
    rw [fd_wI_row (by omega), fd_wI_row (by omega), fd_wI_row (by omega), fd_wI_row (a := s + 4) (b := s + 5) (by omega), up_ne (show 1 + 3 * x ≠ 2 + 3 * p by omega), up_ne (show 3 + 3 * x ≠ 2 + 3 * p by omega)]
    refine ⟨this.1, this.2.1, this.2.2.1, ?_, this.2.2.2.2⟩
    by_cases c : x = p
    · rw [c, up_same, fd_wI_same (by omega) (by omega)]
    · rw [up_ne (by omega), fd_wI_col (by omega)]
      exact this.2.2.2.1
  · rw [fd_wI_row (by omega), up_ne (by omega)]
    exact hS.2.2.2.2.1 x z x1 x2 z1 z2 xz
  · rw [fd_wI_row (by omega), hw]
    exact hS.2.2.2.2.2 i i1 i2
theorem SR_thought {h : mm_H} {pm hm p q v : Int} {fc kd n : Int → Int} (hS : SR h s pm hm fc kd n) (p1 : 0 ≤ p) (p2 : p < pm) (q1 : 0 ≤ q) (q2 : q < pm) (h8 : pm ≤ 8) (v1 : 0 ≤ v) (v2 : v ≤ 9) : SR (wI h (s + 6) (p * 8 + q).toNat (iI v)) s pm hm fc kd (up n (25 + 8 * p + q) v) := by
  have hw : ∀ i, who (up n (25 + 8 * p + q) v) pm i = who n pm i := fun i => who_congr (fun j j1 j2 => up_ne (by omega))
  refine ⟨(fd_wI_row (by omega)).trans hS.1, (fd_wI_row (by omega)).trans hS.2.1, ?_, fun x x1 x2 => ?_, fun x z x1 x2 z1 z2 xz => ?_, fun i i1 i2 => ?_⟩
  · rw [fd_wI_row (by omega), up_ne (by omega)]
    exact hS.2.2.1
  · have := hS.2.2.2.1 x x1 x2
    rw [fd_wI_row (by omega), fd_wI_row (by omega), fd_wI_row (by omega), fd_wI_row (by omega), fd_wI_row (by omega), up_ne (by omega), up_ne (show 2 + 3 * x ≠ 25 + 8 * p + q by omega), up_ne (show 3 + 3 * x ≠ 25 + 8 * p + q by omega)]
    exact this
  · by_cases c : x = p ∧ z = q
    · rw [c.1, c.2, up_same, fd_wI_same (by omega) (by omega)]
    · rw [up_ne (by omega), fd_wI_col (by omega)]
      exact hS.2.2.2.2.1 x z x1 x2 z1 z2 xz
  · rw [fd_wI_row (by omega), hw]
    exact hS.2.2.2.2.2 i i1 i2
end CYEAR
