/-! the reference works its codes out -/
theorem ty1_cases {al : Int → Bool} {c : Int} {ts t : List Bool} (h : ty1 al c ts = some t) :
    (1000 ≤ c ∧ c < 11000 ∧ ts.length < 64 ∧ t = false :: ts) ∨ (60 ≤ c ∧ c < 62 ∧ al (c - 49) = true ∧ ∃ r, ts = false :: r ∧ t = false :: r) ∨ (40 ≤ c ∧ c < 51 ∧ al (c - 40) = true ∧ ts.length < 64 ∧ t = false :: ts) ∨ (c = 13 ∧ ts.length < 64 ∧ t = true :: ts) ∨ (c = 12 ∧ ∃ r, ts = true :: r ∧ t = true :: r) ∨ ((c = 10 ∨ c = 11) ∧ ∃ r, ts = true :: true :: r ∧ t = true :: r) ∨ (1 ≤ c ∧ c ≤ 9 ∧ ∃ r, ts = false :: false :: r ∧ t = decide (7 ≤ c) :: r) := by
  unfold ty1 at h
  split at h
  · split at h
    · cases h
      exact Or.inl ⟨by omega, by omega, by omega, rfl⟩
    · cases h
  · right
    split at h
    · left
      split at h
      · rename_i r
        split at h
        · rename_i q
          cases h
          exact ⟨by omega, q.1, q.2, r, rfl, rfl⟩
        · cases h
      · cases h
    · right
      split at h
      · left
        split at h
        · rename_i q
          cases h
          exact ⟨by omega, q.1, q.2.1, q.2.2, rfl⟩
        · cases h
      · right
        split at h
        · left
          split at h
          · cases h
            exact ⟨by omega, by omega, rfl⟩
          · cases h
        · right
          split at h
          · left
            split at h
            · rename_i r
              cases h
              exact ⟨by omega, r, rfl, rfl⟩
            · cases h
          · right
            split at h
            · left
              split at h
              · rename_i q _ r
                cases h
                exact ⟨q, r, rfl, rfl⟩
              · cases h
            · right
              split at h
              · rename_i q
                split at h
                · rename_i r
                  cases h
                  exact ⟨q.1, q.2, r, rfl, rfl⟩
                · cases h
              · cases h
theorem Vt.c1 {b : Bool} {t : List Bool} {st : List Int} (v : Vt (b :: t) st) : ∃ x r, st = x :: r ∧ vk b x ∧ Vt t r := by
  cases st with
  | nil => exact v.elim
  | cons x r => exact ⟨x, r, rfl, v.1, v.2⟩
def PR (h : mm_H) : List Int → Prop
  | [] => True
  | x :: r => fl h 334 r.length = x ∧ PR h r
theorem PR.congr {h h' : mm_H} : ∀ {st : List Int}, PR h st → (∀ k, k < st.length → fl h' 334 k = fl h 334 k) → PR h' st
  | [], _, _ => trivial
  | x :: r, p, e => ⟨(e r.length (by simp)).trans p.1, PR.congr p.2 (fun k hk => e k (by simp; omega))⟩
def ER (h : mm_H) (st : List Int) : Prop := fd h 264 108 = (st.length : Int) ∧ PR h st
def QE : Nat → Nat → Prop := fun a k => a = 264 ∧ k = 108
def LE3 : Nat → Nat → Prop := fun a _ => a = 334
section EVR
variable {d : Nat} {h : mm_H} {x a b c : Int} {st : List Int}
theorem R_put (e : ER h st) (hn : st.length < 1700) (x1 : -9223372036854775808 ≤ x) (x2 : x < 9223372036854775808) : ∃ h', mm_M mm_T0 (d + 1) 306 [.ref 264, .long (jI x)] h = some (none, h') ∧ ER h' (x :: st) ∧ Kf QE LE3 h h' := by
  refine ⟨wI (wL h 334 st.length (jI x)) 264 108 (iI ((st.length : Int) + 1)), ?_, ⟨?_, ?_, ?_⟩, ?_⟩
  · rw [U_X12_qPuts]
    simp (disch := omega) only [iI_lit, jI_lit, iI_neg, jI_neg, iI_add, iI_sub, iI_mul, jI_add, jI_sub, jI_mul, rdI, rdL, iI_lt, iI_le, iI_eq, iI_nat, iI_b2_0, iI_b2_1, mm_bI_some, mm_bV_some, mm_bL_some, mm_bA_some, fd_wL, fd_wR, fl_wI, fl_wR, re_wI, re_wL, re_wC, ite_true, ite_false, not_true_eq_false, not_false_eq_true, lq_ge, lq_le, lq_gt, lq_lt, lq_eq, jI_lt, jI_le, jI_eq, if_pos, if_neg, e.1, Int.toNat_natCast]
  · rw [fd_wI_same (by omega) (by omega)]
    simp
  · rw [fl_wI, fl_wL, if_pos ⟨rfl, rfl⟩, jI_to x1 x2]
  · refine e.2.congr (fun k hk => ?_)
    rw [fl_wI, fl_wL, if_neg (by omega)]
  · exact Kf.wI (Kf.wL Kf.refl rfl) ⟨rfl, rfl⟩
theorem R_qClip (x1 : -9223372036854775808 ≤ x) (x2 : x < 9223372036854775808) : mm_M mm_T0 (d + 1) 304 [.long (jI x)] h = some (some (.long (jI (clp x))), h) := by
  rw [U_X12_qClip]
  simp (disch := omega) only [iI_lit, jI_lit, iI_neg, jI_neg, iI_add, iI_sub, iI_mul, jI_add, jI_sub, jI_mul, rdI, rdL, iI_lt, iI_le, iI_eq, iI_nat, iI_b2_0, iI_b2_1, mm_bI_some, mm_bV_some, mm_bL_some, mm_bA_some, fd_wL, fd_wR, fl_wI, fl_wR, re_wI, re_wL, re_wC, ite_true, ite_false, not_true_eq_false, not_false_eq_true, lq_ge, lq_le, lq_gt, lq_lt, lq_eq, jI_lt, jI_le, jI_eq]
  unfold clp
  repeat' split
  all_goals first | rfl | (exfalso; omega)
theorem tdiv_tmod (a b : Int) : a - a.tdiv b * b = a.tmod b := by
  have := Int.mul_tdiv_add_tmod a b
  rw [Int.mul_comm] at this
  omega
theorem tmod_dvd (a b : Int) : (a.tmod b = 0) = (b ∣ a) := propext ⟨Int.dvd_of_tmod_eq_zero, Int.tmod_eq_zero_of_dvd⟩
theorem R_qFloor (a1 : -1000000 ≤ a) (a2 : a ≤ 1000000) (b1 : -1000000 ≤ b) (b2' : b ≤ 1000000) : mm_M mm_T0 (d + 1) 305 [.long (jI a), .long (jI b)] h = some (some (.long (jI (if b = 0 then 0 else a.fdiv b))), h) := by
  have hb := Int.natAbs_tdiv_le_natAbs a b
  have hm : a.tmod b = a - a.tdiv b * b := (tdiv_tmod a b).symm
  have hm2 : (a.tmod b).natAbs ≤ a.natAbs := by
    rw [Int.natAbs_tmod]
    exact Nat.mod_le _ _
  have sg1 : 0 ≤ b → b ≠ 0 → b.sign = 1 := fun q _ => Int.sign_eq_one_of_pos (by omega)
  have sg2 : ¬ 0 ≤ b → b.sign = -1 := fun q => Int.sign_eq_neg_one_of_neg (by omega)
  rw [U_X12_qFloor]
  simp (disch := omega) only [jI_lit, jI_div, jI_mul, jI_sub, tdiv_tmod, iI_lit]
  simp (disch := omega) only [iI_lit, jI_lit, iI_neg, jI_neg, iI_add, iI_sub, iI_mul, jI_add, jI_sub, jI_mul, rdI, rdL, iI_lt, iI_le, iI_eq, iI_nat, iI_b2_0, iI_b2_1, mm_bI_some, mm_bV_some, mm_bL_some, mm_bA_some, fd_wL, fd_wR, fl_wI, fl_wR, re_wI, re_wL, re_wC, ite_true, ite_false, not_true_eq_false, not_false_eq_true, lq_ge, lq_le, lq_gt, lq_lt, lq_eq, jI_lt, jI_le, jI_eq]
  by_cases b0 : b = 0
  · simp (disch := omega) only [iI_lit, jI_lit, iI_neg, jI_neg, iI_add, iI_sub, iI_mul, jI_add, jI_sub, jI_mul, rdI, rdL, iI_lt, iI_le, iI_eq, iI_nat, iI_b2_0, iI_b2_1, mm_bI_some, mm_bV_some, mm_bL_some, mm_bA_some, fd_wL, fd_wR, fl_wI, fl_wR, re_wI, re_wL, re_wC, ite_true, ite_false, not_true_eq_false, not_false_eq_true, lq_ge, lq_le, lq_gt, lq_lt, lq_eq, jI_lt, jI_le, jI_eq, if_pos, if_neg]
  · rw [if_neg b0, Int.fdiv_eq_tdiv]
    simp (disch := omega) only [iI_lit, jI_lit, iI_neg, jI_neg, iI_add, iI_sub, iI_mul, jI_add, jI_sub, jI_mul, rdI, rdL, iI_lt, iI_le, iI_eq, iI_nat, iI_b2_0, iI_b2_1, mm_bI_some, mm_bV_some, mm_bL_some, mm_bA_some, fd_wL, fd_wR, fl_wI, fl_wR, re_wI, re_wL, re_wC, ite_true, ite_false, not_true_eq_false, not_false_eq_true, lq_ge, lq_le, lq_gt, lq_lt, lq_eq, jI_lt, jI_le, jI_eq, if_pos, if_neg, tmod_dvd]
    repeat' split
    all_goals first | (exfalso; omega) | (simp only [Int.sub_zero]; done) | rfl | (rw [sg1 ‹0 ≤ b› b0]) | (rw [sg2 ‹¬ 0 ≤ b›]; simp)
theorem R_join (e : ER h (b :: a :: st)) (hn : st.length < 1600) (h1 : 1 ≤ c) (h2 : c ≤ 11) (a1 : -1000000 ≤ a) (a2 : a ≤ 1000000) (b1 : -1000000 ≤ b) (b2' : b ≤ 1000000) : ∃ h', mm_M mm_T0 (d + 2) 307 [.ref 264, .int (iI c)] h = some (none, h') ∧ ER h' (jn c a b :: st) ∧ Kf QE LE3 h h' := by
  have e1 : fd h 264 108 = (st.length : Int) + 2 := by
    rw [e.1]
    simp
    omega
  have eb : fl h 334 (st.length + 1) = b := by
    have := e.2.1
    simpa using this
  have ea : fl h 334 st.length = a := e.2.2.1
  have t1 : ((st.length : Int) + 2 - 1).toNat = st.length + 1 := by omega
  have t2 : ((st.length : Int) + 2 - 2).toNat = st.length := by omega
  have e0 : ER (wI h 264 108 (iI ((st.length : Int) + 2 - 2))) st := by
    refine ⟨?_, e.2.2.2.congr (fun k _ => rfl)⟩
    rw [fd_wI_same (by omega) (by omega)]
    omega
  have ke : Kf QE LE3 h (wI h 264 108 (iI ((st.length : Int) + 2 - 2))) := Kf.refl.wI ⟨rfl, rfl⟩
  have hab : -1000000000000 ≤ a * b ∧ a * b ≤ 1000000000000 := by
    have x1 : (a * b).natAbs = a.natAbs * b.natAbs := Int.natAbs_mul a b
    have x2 : a.natAbs * b.natAbs ≤ 1000000 * 1000000 := Nat.mul_le_mul (by omega) (by omega)
    omega
  have put : ∀ {x : Int}, -9223372036854775808 ≤ x → x < 9223372036854775808 → jn c a b = x → ∃ h', mm_bV (mm_M mm_T0 (d + 1) 306 [.ref 264, .long (jI x)] (wI h 264 108 (iI ((st.length : Int) + 2 - 2)))) (fun h3 => some (none, h3)) = some (none, h') ∧ ER h' (jn c a b :: st) ∧ Kf QE LE3 h h' := by
    intro x x1 x2 ej
    obtain ⟨h', m1, m2, m3⟩ := R_put (d := d) e0 (by omega) x1 x2
    exact ⟨h', by rw [m1]; rfl, ej ▸ m2, ke.trans m3⟩
  have k1 := clp_b (a + b); have k2 := clp_b (a - b); have k3 := clp_b (a * b)
  have jd : c = 1 ∨ c = 2 ∨ c = 3 ∨ c = 4 ∨ c = 5 ∨ c = 6 ∨ c = 7 ∨ c = 8 ∨ c = 9 ∨ c = 10 ∨ c = 11 := by omega
  rw [U_X12_qJoins]
  rcases jd with r | r | r | r | r | r | r | r | r | r | r <;> subst r
  · simp (disch := omega) only [iI_lit, jI_lit, iI_neg, jI_neg, iI_add, iI_sub, iI_mul, jI_add, jI_sub, jI_mul, rdI, rdL, iI_lt, iI_le, iI_eq, iI_nat, iI_b2_0, iI_b2_1, mm_bI_some, mm_bV_some, mm_bL_some, mm_bA_some, fd_wL, fd_wR, fl_wI, fl_wR, re_wI, re_wL, re_wC, ite_true, ite_false, not_true_eq_false, not_false_eq_true, lq_ge, lq_le, lq_gt, lq_lt, lq_eq, jI_lt, jI_le, jI_eq, if_pos, if_neg, e1, t1, t2, ea, eb, R_qClip]
    exact put (by omega) (by omega) (by simp [jn])
  · simp (disch := omega) only [iI_lit, jI_lit, iI_neg, jI_neg, iI_add, iI_sub, iI_mul, jI_add, jI_sub, jI_mul, rdI, rdL, iI_lt, iI_le, iI_eq, iI_nat, iI_b2_0, iI_b2_1, mm_bI_some, mm_bV_some, mm_bL_some, mm_bA_some, fd_wL, fd_wR, fl_wI, fl_wR, re_wI, re_wL, re_wC, ite_true, ite_false, not_true_eq_false, not_false_eq_true, lq_ge, lq_le, lq_gt, lq_lt, lq_eq, jI_lt, jI_le, jI_eq, if_pos, if_neg, e1, t1, t2, ea, eb, R_qClip]
    exact put (by omega) (by omega) (by simp [jn])
  · simp (disch := omega) only [iI_lit, jI_lit, iI_neg, jI_neg, iI_add, iI_sub, iI_mul, jI_add, jI_sub, jI_mul, rdI, rdL, iI_lt, iI_le, iI_eq, iI_nat, iI_b2_0, iI_b2_1, mm_bI_some, mm_bV_some, mm_bL_some, mm_bA_some, fd_wL, fd_wR, fl_wI, fl_wR, re_wI, re_wL, re_wC, ite_true, ite_false, not_true_eq_false, not_false_eq_true, lq_ge, lq_le, lq_gt, lq_lt, lq_eq, jI_lt, jI_le, jI_eq, if_pos, if_neg, e1, t1, t2, ea, eb, R_qClip]
    exact put (by omega) (by omega) (by simp [jn])
  · simp (disch := omega) only [iI_lit, jI_lit, iI_neg, jI_neg, iI_add, iI_sub, iI_mul, jI_add, jI_sub, jI_mul, rdI, rdL, iI_lt, iI_le, iI_eq, iI_nat, iI_b2_0, iI_b2_1, mm_bI_some, mm_bV_some, mm_bL_some, mm_bA_some, fd_wL, fd_wR, fl_wI, fl_wR, re_wI, re_wL, re_wC, ite_true, ite_false, not_true_eq_false, not_false_eq_true, lq_ge, lq_le, lq_gt, lq_lt, lq_eq, jI_lt, jI_le, jI_eq, if_pos, if_neg, e1, t1, t2, ea, eb, R_qFloor]
    by_cases b0 : b = 0
    · rw [if_pos b0]
      exact put (by omega) (by omega) (by simp [jn, b0])
    · rw [if_neg b0]
      have := fdiv_b a1 a2 b0
      exact put (by omega) (by omega) (by simp [jn, b0])
  · by_cases q : b ≤ a
    · simp (disch := omega) only [iI_lit, jI_lit, iI_neg, jI_neg, iI_add, iI_sub, iI_mul, jI_add, jI_sub, jI_mul, rdI, rdL, iI_lt, iI_le, iI_eq, iI_nat, iI_b2_0, iI_b2_1, mm_bI_some, mm_bV_some, mm_bL_some, mm_bA_some, fd_wL, fd_wR, fl_wI, fl_wR, re_wI, re_wL, re_wC, ite_true, ite_false, not_true_eq_false, not_false_eq_true, lq_ge, lq_le, lq_gt, lq_lt, lq_eq, jI_lt, jI_le, jI_eq, if_pos, if_neg, e1, t1, t2, ea, eb]
      exact put (by omega) (by omega) (by simp only [jn]; simp; omega)
    · simp (disch := omega) only [iI_lit, jI_lit, iI_neg, jI_neg, iI_add, iI_sub, iI_mul, jI_add, jI_sub, jI_mul, rdI, rdL, iI_lt, iI_le, iI_eq, iI_nat, iI_b2_0, iI_b2_1, mm_bI_some, mm_bV_some, mm_bL_some, mm_bA_some, fd_wL, fd_wR, fl_wI, fl_wR, re_wI, re_wL, re_wC, ite_true, ite_false, not_true_eq_false, not_false_eq_true, lq_ge, lq_le, lq_gt, lq_lt, lq_eq, jI_lt, jI_le, jI_eq, if_pos, if_neg, e1, t1, t2, ea, eb]
      exact put (by omega) (by omega) (by simp only [jn]; simp; omega)
  · by_cases q : a ≤ b
    · simp (disch := omega) only [iI_lit, jI_lit, iI_neg, jI_neg, iI_add, iI_sub, iI_mul, jI_add, jI_sub, jI_mul, rdI, rdL, iI_lt, iI_le, iI_eq, iI_nat, iI_b2_0, iI_b2_1, mm_bI_some, mm_bV_some, mm_bL_some, mm_bA_some, fd_wL, fd_wR, fl_wI, fl_wR, re_wI, re_wL, re_wC, ite_true, ite_false, not_true_eq_false, not_false_eq_true, lq_ge, lq_le, lq_gt, lq_lt, lq_eq, jI_lt, jI_le, jI_eq, if_pos, if_neg, e1, t1, t2, ea, eb]
      exact put (by omega) (by omega) (by simp only [jn]; simp; omega)
    · simp (disch := omega) only [iI_lit, jI_lit, iI_neg, jI_neg, iI_add, iI_sub, iI_mul, jI_add, jI_sub, jI_mul, rdI, rdL, iI_lt, iI_le, iI_eq, iI_nat, iI_b2_0, iI_b2_1, mm_bI_some, mm_bV_some, mm_bL_some, mm_bA_some, fd_wL, fd_wR, fl_wI, fl_wR, re_wI, re_wL, re_wC, ite_true, ite_false, not_true_eq_false, not_false_eq_true, lq_ge, lq_le, lq_gt, lq_lt, lq_eq, jI_lt, jI_le, jI_eq, if_pos, if_neg, e1, t1, t2, ea, eb]
      exact put (by omega) (by omega) (by simp only [jn]; simp; omega)
  · by_cases q : b ≤ a
    · simp (disch := omega) only [iI_lit, jI_lit, iI_neg, jI_neg, iI_add, iI_sub, iI_mul, jI_add, jI_sub, jI_mul, rdI, rdL, iI_lt, iI_le, iI_eq, iI_nat, iI_b2_0, iI_b2_1, mm_bI_some, mm_bV_some, mm_bL_some, mm_bA_some, fd_wL, fd_wR, fl_wI, fl_wR, re_wI, re_wL, re_wC, ite_true, ite_false, not_true_eq_false, not_false_eq_true, lq_ge, lq_le, lq_gt, lq_lt, lq_eq, jI_lt, jI_le, jI_eq, if_pos, if_neg, e1, t1, t2, ea, eb]
      exact put (by omega) (by omega) (by simp only [jn]; simp [b2]; omega)
    · simp (disch := omega) only [iI_lit, jI_lit, iI_neg, jI_neg, iI_add, iI_sub, iI_mul, jI_add, jI_sub, jI_mul, rdI, rdL, iI_lt, iI_le, iI_eq, iI_nat, iI_b2_0, iI_b2_1, mm_bI_some, mm_bV_some, mm_bL_some, mm_bA_some, fd_wL, fd_wR, fl_wI, fl_wR, re_wI, re_wL, re_wC, ite_true, ite_false, not_true_eq_false, not_false_eq_true, lq_ge, lq_le, lq_gt, lq_lt, lq_eq, jI_lt, jI_le, jI_eq, if_pos, if_neg, e1, t1, t2, ea, eb]
      exact put (by omega) (by omega) (by simp only [jn]; simp [b2]; omega)
  · by_cases q : a ≤ b
    · simp (disch := omega) only [iI_lit, jI_lit, iI_neg, jI_neg, iI_add, iI_sub, iI_mul, jI_add, jI_sub, jI_mul, rdI, rdL, iI_lt, iI_le, iI_eq, iI_nat, iI_b2_0, iI_b2_1, mm_bI_some, mm_bV_some, mm_bL_some, mm_bA_some, fd_wL, fd_wR, fl_wI, fl_wR, re_wI, re_wL, re_wC, ite_true, ite_false, not_true_eq_false, not_false_eq_true, lq_ge, lq_le, lq_gt, lq_lt, lq_eq, jI_lt, jI_le, jI_eq, if_pos, if_neg, e1, t1, t2, ea, eb]
      exact put (by omega) (by omega) (by simp only [jn]; simp [b2]; omega)
    · simp (disch := omega) only [iI_lit, jI_lit, iI_neg, jI_neg, iI_add, iI_sub, iI_mul, jI_add, jI_sub, jI_mul, rdI, rdL, iI_lt, iI_le, iI_eq, iI_nat, iI_b2_0, iI_b2_1, mm_bI_some, mm_bV_some, mm_bL_some, mm_bA_some, fd_wL, fd_wR, fl_wI, fl_wR, re_wI, re_wL, re_wC, ite_true, ite_false, not_true_eq_false, not_false_eq_true, lq_ge, lq_le, lq_gt, lq_lt, lq_eq, jI_lt, jI_le, jI_eq, if_pos, if_neg, e1, t1, t2, ea, eb]
      exact put (by omega) (by omega) (by simp only [jn]; simp [b2]; omega)
  · by_cases q : a = b
    · simp (disch := omega) only [iI_lit, jI_lit, iI_neg, jI_neg, iI_add, iI_sub, iI_mul, jI_add, jI_sub, jI_mul, rdI, rdL, iI_lt, iI_le, iI_eq, iI_nat, iI_b2_0, iI_b2_1, mm_bI_some, mm_bV_some, mm_bL_some, mm_bA_some, fd_wL, fd_wR, fl_wI, fl_wR, re_wI, re_wL, re_wC, ite_true, ite_false, not_true_eq_false, not_false_eq_true, lq_ge, lq_le, lq_gt, lq_lt, lq_eq, jI_lt, jI_le, jI_eq, if_pos, if_neg, e1, t1, t2, ea, eb]
      exact put (by omega) (by omega) (by simp only [jn]; simp [b2]; omega)
    · simp (disch := omega) only [iI_lit, jI_lit, iI_neg, jI_neg, iI_add, iI_sub, iI_mul, jI_add, jI_sub, jI_mul, rdI, rdL, iI_lt, iI_le, iI_eq, iI_nat, iI_b2_0, iI_b2_1, mm_bI_some, mm_bV_some, mm_bL_some, mm_bA_some, fd_wL, fd_wR, fl_wI, fl_wR, re_wI, re_wL, re_wC, ite_true, ite_false, not_true_eq_false, not_false_eq_true, lq_ge, lq_le, lq_gt, lq_lt, lq_eq, jI_lt, jI_le, jI_eq, if_pos, if_neg, e1, t1, t2, ea, eb]
      exact put (by omega) (by omega) (by simp only [jn]; simp [b2]; omega)
  · simp (disch := omega) only [iI_lit, jI_lit, iI_neg, jI_neg, iI_add, iI_sub, iI_mul, jI_add, jI_sub, jI_mul, rdI, rdL, iI_lt, iI_le, iI_eq, iI_nat, iI_b2_0, iI_b2_1, mm_bI_some, mm_bV_some, mm_bL_some, mm_bA_some, fd_wL, fd_wR, fl_wI, fl_wR, re_wI, re_wL, re_wC, ite_true, ite_false, not_true_eq_false, not_false_eq_true, lq_ge, lq_le, lq_gt, lq_lt, lq_eq, jI_lt, jI_le, jI_eq, if_pos, if_neg, e1, t1, t2, ea, eb]
    exact put (by omega) (by omega) (by simp [jn])
  · by_cases q : 0 < a + b
    · simp (disch := omega) only [iI_lit, jI_lit, iI_neg, jI_neg, iI_add, iI_sub, iI_mul, jI_add, jI_sub, jI_mul, rdI, rdL, iI_lt, iI_le, iI_eq, iI_nat, iI_b2_0, iI_b2_1, mm_bI_some, mm_bV_some, mm_bL_some, mm_bA_some, fd_wL, fd_wR, fl_wI, fl_wR, re_wI, re_wL, re_wC, ite_true, ite_false, not_true_eq_false, not_false_eq_true, lq_ge, lq_le, lq_gt, lq_lt, lq_eq, jI_lt, jI_le, jI_eq, if_pos, if_neg, e1, t1, t2, ea, eb]
      exact put (by omega) (by omega) (by simp only [jn]; simp [b2]; omega)
    · simp (disch := omega) only [iI_lit, jI_lit, iI_neg, jI_neg, iI_add, iI_sub, iI_mul, jI_add, jI_sub, jI_mul, rdI, rdL, iI_lt, iI_le, iI_eq, iI_nat, iI_b2_0, iI_b2_1, mm_bI_some, mm_bV_some, mm_bL_some, mm_bA_some, fd_wL, fd_wR, fl_wI, fl_wR, re_wI, re_wL, re_wC, ite_true, ite_false, not_true_eq_false, not_false_eq_true, lq_ge, lq_le, lq_gt, lq_lt, lq_eq, jI_lt, jI_le, jI_eq, if_pos, if_neg, e1, t1, t2, ea, eb]
      exact put (by omega) (by omega) (by simp only [jn]; simp [b2]; omega)
end EVR
