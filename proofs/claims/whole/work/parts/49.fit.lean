/-! what was seen, and what comes as seen -/
section FIT
variable {cp cm : List Int} {hm pm : Int} {fc kd : Int → Int}
/-- rows from r on, k of them, of year y, are as in n; late: no year counts -/
def asS (b : Nat → Int) (y : Int) (late : Bool) (n : Int → Int) : Nat → Nat → Bool
  | 0, _ => true
  | k + 1, r => if b (3 * r) = y ∧ (late = true ∨ n (2 + 3 * b (3 * r + 1)) ≠ b (3 * r + 2)) then false else asS b y late n k (r + 1)
theorem asS_iff {b : Nat → Int} {y : Int} {late : Bool} {n : Int → Int} : ∀ (k r : Nat), asS b y late n k r = true ↔ ∀ j, r ≤ j → j < r + k → b (3 * j) = y → late = false ∧ n (2 + 3 * b (3 * j + 1)) = b (3 * j + 2)
  | 0, r => by
    constructor
    · intro _ j h1 h2; omega
    · intro _; rfl
  | k + 1, r => by
    rw [asS]
    by_cases c : b (3 * r) = y ∧ (late = true ∨ n (2 + 3 * b (3 * r + 1)) ≠ b (3 * r + 2))
    · rw [if_pos c]
      constructor
      · intro h; exact absurd h (by simp)
      · intro h
        have := h r (Nat.le_refl _) (by omega) c.1
        rcases c.2 with z | z
        · rw [this.1] at z; exact absurd z (by simp)
        · exact absurd this.2 z
    · rw [if_neg c, asS_iff k (r + 1)]
      constructor
      · intro h j h1 h2 e
        by_cases cj : j = r
        · subst cj
          constructor
          · cases late
            · rfl
            · exact absurd ⟨e, Or.inl rfl⟩ c
          · by_cases z : n (2 + 3 * b (3 * j + 1)) = b (3 * j + 2)
            · exact z
            · exact absurd ⟨e, Or.inr z⟩ c
        · exact h j (by omega) (by omega) e
      · intro h j h1 h2 e
        exact h j (by omega) (by omega) e
def lateB (n : Int → Int) : Bool := decide (999 < n 0)
/-- the reference: from year y on, k of them -/
def fitR (cp cm : List Int) (hm pm : Int) (fc kd : Int → Int) (b : Nat → Int) (R : Nat) : Nat → Int → (Int → Int) → Bool
  | 0, _, _ => true
  | k + 1, y, n => asS b y (lateB n) n R 0 && fitR cp cm hm pm fc kd b R k (y + 1) (yearS cp cm hm pm fc kd n).1
/-- the class: from year y on, k more -/
def fitC (cp cm : List Int) (hm pm : Int) (fc kd : Int → Int) (b : Nat → Int) (R : Nat) : Nat → Int → (Int → Int) → Bool
  | 0, y, n => asS b y false n R 0
  | k + 1, y, n => asS b y false n R 0 && fitC cp cm hm pm fc kd b R k (y + 1) (yearS cp cm hm pm fc kd n).1
def maxR (b : Nat → Int) : Nat → Nat → Int → Int
  | 0, _, m => m
  | k + 1, r, m => maxR b k (r + 1) (max m (b (3 * r)))
theorem maxR_le {b : Nat → Int} : ∀ (k r : Nat) (m : Int), m ≤ maxR b k r m ∧ (∀ j, r ≤ j → j < r + k → b (3 * j) ≤ maxR b k r m) ∧ (maxR b k r m = m ∨ ∃ j, r ≤ j ∧ j < r + k ∧ b (3 * j) = maxR b k r m)
  | 0, r, m => ⟨Int.le_refl _, fun j h1 h2 => by omega, Or.inl rfl⟩
  | k + 1, r, m => by
    rw [maxR]
    have ih := maxR_le (b := b) k (r + 1) (max m (b (3 * r)))
    refine ⟨by omega, fun j h1 h2 => ?_, ?_⟩
    · by_cases c : j = r
      · subst c; omega
      · exact ih.2.1 j (by omega) (by omega)
    · rcases ih.2.2 with e | ⟨j, h1, h2, h3⟩
      · rw [e]
        by_cases c : m ≤ b (3 * r)
        · exact Or.inr ⟨r, Nat.le_refl _, by omega, by omega⟩
        · exact Or.inl (by omega)
      · exact Or.inr ⟨j, by omega, by omega, h3⟩
theorem fitR_iff {b : Nat → Int} {R : Nat} : ∀ (k : Nat) (y : Int) (n : Int → Int), fitR cp cm hm pm fc kd b R k y n = true ↔ ∀ i : Nat, i < k → asS b (y + i) (lateB (yearsS cp cm hm pm fc kd i n).1) (yearsS cp cm hm pm fc kd i n).1 R 0 = true
  | 0, y, n => by
    constructor
    · intro _ i hi; omega
    · intro _; rfl
  | k + 1, y, n => by
    rw [fitR, Bool.and_eq_true, fitR_iff k (y + 1)]
    constructor
    · rintro ⟨h1, h2⟩ i hi
      cases i with
      | zero => rw [show y + ((0 : Nat) : Int) = y by omega]; exact h1
      | succ i =>
        have := h2 i (by omega)
        rw [show y + 1 + (i : Int) = y + ((i + 1 : Nat) : Int) by omega] at this
        exact this
    · intro h
      refine ⟨?_, fun i hi => ?_⟩
      · have := h 0 (by omega)
        rw [show y + ((0 : Nat) : Int) = y by omega] at this
        exact this
      · have := h (i + 1) (by omega)
        rw [show y + ((i + 1 : Nat) : Int) = y + 1 + (i : Int) by omega] at this
        exact this
theorem fitC_iff {b : Nat → Int} {R : Nat} : ∀ (k : Nat) (y : Int) (n : Int → Int), fitC cp cm hm pm fc kd b R k y n = true ↔ ∀ i : Nat, i ≤ k → asS b (y + i) false (yearsS cp cm hm pm fc kd i n).1 R 0 = true
  | 0, y, n => by
    rw [fitC]
    constructor
    · intro h i hi
      have : i = 0 := by omega
      subst this
      rw [show y + ((0 : Nat) : Int) = y by omega]; exact h
    · intro h
      have := h 0 (by omega)
      rw [show y + ((0 : Nat) : Int) = y by omega] at this
      exact this
  | k + 1, y, n => by
    rw [fitC, Bool.and_eq_true, fitC_iff k (y + 1)]
    constructor
    · rintro ⟨h1, h2⟩ i hi
      cases i with
      | zero => rw [show y + ((0 : Nat) : Int) = y by omega]; exact h1
      | succ i =>
        have := h2 i (by omega)
        rw [show y + 1 + (i : Int) = y + ((i + 1 : Nat) : Int) by omega] at this
        exact this
    · intro h
      refine ⟨?_, fun i hi => ?_⟩
      · have := h 0 (by omega)
        rw [show y + ((0 : Nat) : Int) = y by omega] at this
        exact this
      · have := h (i + 1) (by omega)
        rw [show y + ((i + 1 : Nat) : Int) = y + 1 + (i : Int) by omega] at this
        exact this
theorem fit_eq {b : Nat → Int} {R : Nat} {n : Int → Int} (hN : NI pm hm n) (y : 0 ≤ n 0 ∧ n 0 ≤ 999) (hb : ∀ r, r < R → 0 ≤ b (3 * r) ∧ b (3 * r) ≤ 30) : fitR cp cm hm pm fc kd b R 31 0 n = (decide (n 0 + maxR b R 0 0 ≤ 999) && fitC cp cm hm pm fc kd b R (maxR b R 0 0).toNat 0 n) := by
  have mx := maxR_le (b := b) R 0 0
  have m30 : maxR b R 0 0 ≤ 30 := by
    rcases mx.2.2 with e | ⟨j, h1, h2, h3⟩
    · omega
    · have := hb j (by omega); omega
  have y0 : ∀ i, (yearsS cp cm hm pm fc kd i n).1 0 = n 0 + i := fun i => (yearsS_ok (cp := cp) (cm := cm) (fc := fc) (kd := kd) i n hN).2.1
  have key : fitR cp cm hm pm fc kd b R 31 0 n = true ↔ (decide (n 0 + maxR b R 0 0 ≤ 999) && fitC cp cm hm pm fc kd b R (maxR b R 0 0).toNat 0 n) = true := by
    rw [fitR_iff, Bool.and_eq_true, decide_eq_true_eq, fitC_iff]
    constructor
    · intro h
      refine ⟨?_, fun i hi => ?_⟩
      · rcases mx.2.2 with e | ⟨j, h1, h2, h3⟩
        · omega
        · have := (asS_iff R 0).mp (h (maxR b R 0 0).toNat (by omega)) j h1 h2 (by omega)
          have := this.1
          unfold lateB at this
          rw [y0] at this
          have := of_decide_eq_false this
          omega
      · refine (asS_iff R 0).mpr (fun j h1 h2 e => ⟨rfl, ?_⟩)
        exact ((asS_iff R 0).mp (h i (by omega)) j h1 h2 e).2
    · rintro ⟨h1, h2⟩ i hi
      refine (asS_iff R 0).mpr (fun j j1 j2 e => ?_)
      have le := mx.2.1 j j1 j2
      have hbj := hb j (by omega)
      refine ⟨?_, ((asS_iff R 0).mp (h2 i (by omega)) j j1 j2 e).2⟩
      unfold lateB
      rw [y0]
      exact decide_eq_false (by omega)
  cases h1 : fitR cp cm hm pm fc kd b R 31 0 n <;> cases h2 : (decide (n 0 + maxR b R 0 0 ≤ 999) && fitC cp cm hm pm fc kd b R (maxR b R 0 0).toNat 0 n)
  · rfl
  · exact absurd (key.mpr h2) (by rw [h1]; simp)
  · exact absurd (key.mp h1) (by rw [h2]; simp)
  · rfl
end FIT
section FITC
variable {d t : Nat} {pm hm : Int} {fc kd : Int → Int} {cp cm cf : List Int}
/-- the rows that the class has seen -/
def SeC (g : mm_H) (b : Nat → Int) (R : Nat) : Prop := fd g 204 2 = (R : Int) ∧ ∀ z, z < 3 * R → fd g 214 z = b z
/-- and the reference -/
def SeR (g : mm_H) (b : Nat → Int) (R : Nat) : Prop := fd g 264 67 = (R : Int) ∧ ∀ z, z < 3 * R → fd g 303 z = b z
/-- rows within bounds -/
def SeB (b : Nat → Int) (R : Nat) (pm : Int) : Prop := R ≤ 16 ∧ ∀ r, r < R → (0 ≤ b (3 * r) ∧ b (3 * r) ≤ 30) ∧ (0 ≤ b (3 * r + 1) ∧ b (3 * r + 1) < pm) ∧ (0 ≤ b (3 * r + 2) ∧ b (3 * r + 2) ≤ 99)
set_option maxHeartbeats 8000000 in
theorem C_seenAt {g : mm_H} {b : Nat → Int} {R r : Nat} {c : Int} (s : SeC g b R) (hR : R ≤ 16) (hr : r < R) (c0 : 0 ≤ c) (c1 : c < 3) : mm_M mm_T0 (d + 1) 29 [.ref 204, .int (iI (r : Nat)), .int (iI c)] g = some (some (.int (iI (b (3 * r + c.toNat)))), g) := by
  have e : (((r : Nat) : Int) * 3 + c).toNat = 3 * r + c.toNat := by omega
  have v := s.2 (3 * r + c.toNat) (by omega)
  rw [U_X0_seenAt]
  simp (disch := omega) only [iI_lit, jI_lit, iI_neg, jI_neg, iI_add, iI_sub, iI_mul, jI_add, jI_sub, jI_mul, rdI, rdL, iI_lt, iI_le, iI_eq, iI_nat, iI_b2_0, iI_b2_1, mm_bI_some, mm_bV_some, mm_bL_some, mm_bA_some, fd_wL, fd_wR, fl_wI, fl_wR, re_wI, re_wL, re_wC, ite_true, ite_false, not_true_eq_false, not_false_eq_true, lq_ge, lq_le, lq_gt, lq_lt, lq_eq, jI_lt, jI_le, jI_eq, if_pos, if_neg, e, v]
set_option maxHeartbeats 8000000 in
theorem C_asSeen_2 {g : mm_H} {b : Nat → Int} {R : Nat} {y : Int} {n : Int → Int} (s : SeC g b R) (B : SeB b R pm) (hS : SR g 205 pm hm fc kd n) (hN : NI pm hm n) (y0 : 0 ≤ y) (y1 : y < 1000) : ∀ (k r : Nat), r + k = R → mm_D (mm_M mm_T0 (d + 2)) cd_X0_isAsSeen 2 [.ref 204, .int (iI y), .int (iI (r : Nat))] [] g = some (some (.int (iI (b2 (asS b y false n k r = true)))), g)
  | 0, r, rk => by
    have s1 := s.1
    have B1 := B.1
    rw [asS, b2_t rfl, U_X0_isAsSeen_2]
    simp (disch := omega) only [iI_lit, jI_lit, iI_neg, jI_neg, iI_add, iI_sub, iI_mul, jI_add, jI_sub, jI_mul, rdI, rdL, iI_lt, iI_le, iI_eq, iI_nat, iI_b2_0, iI_b2_1, mm_bI_some, mm_bV_some, mm_bL_some, mm_bA_some, fd_wL, fd_wR, fl_wI, fl_wR, re_wI, re_wL, re_wC, ite_true, ite_false, not_true_eq_false, not_false_eq_true, lq_ge, lq_le, lq_gt, lq_lt, lq_eq, jI_lt, jI_le, jI_eq, if_pos, if_neg, s1]
  | k + 1, r, rk => by
    have s1 := s.1
    have B1 := B.1
    have Br := B.2 r (by omega)
    have h8 := hN.1
    have t0 := C_seenAt (d := d + 1) (c := 0) s B1 (r := r) (by omega) (by omega) (by omega)
    have t1 := C_seenAt (d := d + 1) (c := 1) s B1 (r := r) (by omega) (by omega) (by omega)
    have t2 := C_seenAt (d := d + 1) (c := 2) s B1 (r := r) (by omega) (by omega) (by omega)
    rw [show 3 * r + (0 : Int).toNat = 3 * r by omega] at t0
    rw [show 3 * r + (1 : Int).toNat = 3 * r + 1 by omega] at t1
    rw [show 3 * r + (2 : Int).toNat = 3 * r + 2 by omega] at t2
    have l := C_look (d := d) isS_205 hS h8.2 Br.2.1.1 Br.2.1.2
    have lb := (hN.2.2.1 _ Br.2.1.1 Br.2.1.2).2.1
    have e1 : ((r : Nat) : Int) + 1 = ((r + 1 : Nat) : Int) := by omega
    have ih := C_asSeen_2 s B hS hN y0 y1 k (r + 1) (by omega)
    rw [asS]
    by_cases c0 : b (3 * r) = y
    · by_cases c1 : n (2 + 3 * b (3 * r + 1)) = b (3 * r + 2)
      · rw [if_neg (by rintro ⟨_, z | z⟩; exact absurd z (by simp); exact z c1), ← ih]
        rw [U_X0_isAsSeen_2]
        simp (disch := omega) only [iI_lit, jI_lit, iI_neg, jI_neg, iI_add, iI_sub, iI_mul, jI_add, jI_sub, jI_mul, rdI, rdL, iI_lt, iI_le, iI_eq, iI_nat, iI_b2_0, iI_b2_1, mm_bI_some, mm_bV_some, mm_bL_some, mm_bA_some, fd_wL, fd_wR, fl_wI, fl_wR, re_wI, re_wL, re_wC, ite_true, ite_false, not_true_eq_false, not_false_eq_true, lq_ge, lq_le, lq_gt, lq_lt, lq_eq, jI_lt, jI_le, jI_eq, if_pos, if_neg, s1, t0, t1, t2, l, e1]
      · rw [if_pos ⟨c0, Or.inr c1⟩, b2_f (by simp)]
        rw [U_X0_isAsSeen_2]
        simp (disch := omega) only [iI_lit, jI_lit, iI_neg, jI_neg, iI_add, iI_sub, iI_mul, jI_add, jI_sub, jI_mul, rdI, rdL, iI_lt, iI_le, iI_eq, iI_nat, iI_b2_0, iI_b2_1, mm_bI_some, mm_bV_some, mm_bL_some, mm_bA_some, fd_wL, fd_wR, fl_wI, fl_wR, re_wI, re_wL, re_wC, ite_true, ite_false, not_true_eq_false, not_false_eq_true, lq_ge, lq_le, lq_gt, lq_lt, lq_eq, jI_lt, jI_le, jI_eq, if_pos, if_neg, s1, t0, t1, t2, l]
    · rw [if_neg (fun z => c0 z.1), ← ih]
      rw [U_X0_isAsSeen_2]
      simp (disch := omega) only [iI_lit, jI_lit, iI_neg, jI_neg, iI_add, iI_sub, iI_mul, jI_add, jI_sub, jI_mul, rdI, rdL, iI_lt, iI_le, iI_eq, iI_nat, iI_b2_0, iI_b2_1, mm_bI_some, mm_bV_some, mm_bL_some, mm_bA_some, fd_wL, fd_wR, fl_wI, fl_wR, re_wI, re_wL, re_wC, ite_true, ite_false, not_true_eq_false, not_false_eq_true, lq_ge, lq_le, lq_gt, lq_lt, lq_eq, jI_lt, jI_le, jI_eq, if_pos, if_neg, s1, t0, e1]
set_option maxHeartbeats 8000000 in
theorem C_max_4 {g : mm_H} {b : Nat → Int} {R : Nat} (s : SeC g b R) (B : SeB b R pm) (ht : mm_isT t) : ∀ (k r : Nat) (m : Int), r + k = R → (0 ≤ m ∧ m ≤ 30) → mm_D (mm_M mm_T0 (d + 1)) cd_X0_comesAsSeen 4 [.ref 204, .ref t, .int (iI m), .int (iI (r : Nat))] [] g = (if fd g 205 11 + maxR b k r m ≤ 999 then mm_D (mm_M mm_T0 (d + 1)) cd_X0_comesAsSeen 48 [.ref 204, .ref t, .int (iI (maxR b k r m)), .int (iI 0)] [] g else some (some (.int (iI 0)), g)) ∨ ¬ (0 ≤ fd g 205 11 ∧ fd g 205 11 ≤ 2000)
  | 0, r, m, rk, hm => by
    have s1 := s.1
    have B1 := B.1
    by_cases y : 0 ≤ fd g 205 11 ∧ fd g 205 11 ≤ 2000
    · left
      rw [maxR]
      rw [U_X0_comesAsSeen_4 ht]
      by_cases c : fd g 205 11 + m ≤ 999 <;> simp (disch := omega) only [iI_lit, jI_lit, iI_neg, jI_neg, iI_add, iI_sub, iI_mul, jI_add, jI_sub, jI_mul, rdI, rdL, iI_lt, iI_le, iI_eq, iI_nat, iI_b2_0, iI_b2_1, mm_bI_some, mm_bV_some, mm_bL_some, mm_bA_some, fd_wL, fd_wR, fl_wI, fl_wR, re_wI, re_wL, re_wC, ite_true, ite_false, not_true_eq_false, not_false_eq_true, lq_ge, lq_le, lq_gt, lq_lt, lq_eq, jI_lt, jI_le, jI_eq, if_pos, if_neg, s1]
    · exact Or.inr y
  | k + 1, r, m, rk, hm => by
    have s1 := s.1
    have B1 := B.1
    have Br := B.2 r (by omega)
    have t0 := C_seenAt (d := d) (c := 0) s B1 (r := r) (by omega) (by omega) (by omega)
    rw [show 3 * r + (0 : Int).toNat = 3 * r by omega] at t0
    have e1 : ((r : Nat) : Int) + 1 = ((r + 1 : Nat) : Int) := by omega
    rcases C_max_4 s B ht k (r + 1) (max m (b (3 * r))) (by omega) (by omega) with ih | ih
    · left
      rw [maxR, ← ih, U_X0_comesAsSeen_4 ht]
      simp (disch := omega) only [iI_lit, jI_lit, iI_neg, jI_neg, iI_add, iI_sub, iI_mul, jI_add, jI_sub, jI_mul, rdI, rdL, iI_lt, iI_le, iI_eq, iI_nat, iI_b2_0, iI_b2_1, mm_bI_some, mm_bV_some, mm_bL_some, mm_bA_some, fd_wL, fd_wR, fl_wI, fl_wR, re_wI, re_wL, re_wC, ite_true, ite_false, not_true_eq_false, not_false_eq_true, lq_ge, lq_le, lq_gt, lq_lt, lq_eq, jI_lt, jI_le, jI_eq, if_pos, if_neg, s1, t0, J_max, e1]
    · exact Or.inr ih
set_option maxHeartbeats 8000000 in
theorem C_comes_48 {b : Nat → Int} {R : Nat} {last : Int} (B : SeB b R pm) (ht : mm_isT t) (hF : FK pm fc kd) (l1 : last ≤ 30) : ∀ (k : Nat) (j : Int) (g : mm_H) (n : Int → Int) (ev : Evs), 0 ≤ j → j + k = last → SeC g b R → CT g t cp cm cf → SR g 205 pm hm fc kd n → NI pm hm n → (0 ≤ n 0 ∧ n 0 + k ≤ 999) → KeptC g 205 ev → ev.length + 18 * k < 9800000 → ∃ g', mm_D (mm_M mm_T0 (d + 5)) cd_X0_comesAsSeen 48 [.ref 204, .ref t, .int (iI last), .int (iI j)] [] g = some (some (.int (iI (b2 (fitC cp cm hm pm fc kd b R k j n = true)))), g') ∧ Kf (QY t 205) nL g g'
  | 0, j, g, n, ev, j0, jk, s, hC, hS, hN, y, hk, hl => by
    have a := C_asSeen_2 (d := d + 2) (y := j) s B hS hN j0 (by omega) R 0 (by omega)
    rw [show ((0 : Nat) : Int) = 0 from rfl] at a
    have a' : mm_M mm_T0 (d + 5) 28 [.ref 204, .int (iI j)] g = some (some (.int (iI (b2 (asS b j false n R 0 = true)))), g) := by
      rw [U_X0_isAsSeen]; exact a
    by_cases c : asS b j false n R 0 = true
    · have fin : ∃ g', mm_M mm_T0 (d + 5) 141 [.ref t, .ref 205, .int (iI 1)] g = some (none, g') ∧ Kf (QY t 205) nL g g' := by
        by_cases z : n 0 = 999
        · exact ⟨g, C_pass_end (d := d + 4) ht isS_205 (by omega) (by omega) (by rw [hS.2.2.1]; omega), Kf.refl⟩
        · obtain ⟨g', m1, m2, m3, m4, m5⟩ := C_tryYears (d := d) (N := 1) ht hF (by omega) (by omega) hC hS hk (by omega) hN (by omega)
          exact ⟨g', m1, m5⟩
      obtain ⟨g', m1, m5⟩ := fin
      rw [b2_t c] at a'
      refine ⟨g', ?_, m5⟩
      rw [fitC, b2_t c, U_X0_comesAsSeen_48 ht]
      simp (disch := omega) only [iI_lit, jI_lit, iI_neg, jI_neg, iI_add, iI_sub, iI_mul, jI_add, jI_sub, jI_mul, rdI, rdL, iI_lt, iI_le, iI_eq, iI_nat, iI_b2_0, iI_b2_1, mm_bI_some, mm_bV_some, mm_bL_some, mm_bA_some, fd_wL, fd_wR, fl_wI, fl_wR, re_wI, re_wL, re_wC, ite_true, ite_false, not_true_eq_false, not_false_eq_true, lq_ge, lq_le, lq_gt, lq_lt, lq_eq, jI_lt, jI_le, jI_eq, if_pos, if_neg, a', m1]
      rw [U_X0_comesAsSeen_48 ht]
      simp (disch := omega) only [iI_lit, jI_lit, iI_neg, jI_neg, iI_add, iI_sub, iI_mul, jI_add, jI_sub, jI_mul, rdI, rdL, iI_lt, iI_le, iI_eq, iI_nat, iI_b2_0, iI_b2_1, mm_bI_some, mm_bV_some, mm_bL_some, mm_bA_some, fd_wL, fd_wR, fl_wI, fl_wR, re_wI, re_wL, re_wC, ite_true, ite_false, not_true_eq_false, not_false_eq_true, lq_ge, lq_le, lq_gt, lq_lt, lq_eq, jI_lt, jI_le, jI_eq, if_pos, if_neg]
    · rw [b2_f c] at a'
      refine ⟨g, ?_, Kf.refl⟩
      rw [fitC, b2_f c, U_X0_comesAsSeen_48 ht]
      simp (disch := omega) only [iI_lit, jI_lit, iI_neg, jI_neg, iI_add, iI_sub, iI_mul, jI_add, jI_sub, jI_mul, rdI, rdL, iI_lt, iI_le, iI_eq, iI_nat, iI_b2_0, iI_b2_1, mm_bI_some, mm_bV_some, mm_bL_some, mm_bA_some, fd_wL, fd_wR, fl_wI, fl_wR, re_wI, re_wL, re_wC, ite_true, ite_false, not_true_eq_false, not_false_eq_true, lq_ge, lq_le, lq_gt, lq_lt, lq_eq, jI_lt, jI_le, jI_eq, if_pos, if_neg, a']
  | k + 1, j, g, n, ev, j0, jk, s, hC, hS, hN, y, hk, hl => by
    have tt := isT_or ht
    have a := C_asSeen_2 (d := d + 2) (y := j) s B hS hN j0 (by omega) R 0 (by omega)
    rw [show ((0 : Nat) : Int) = 0 from rfl] at a
    have a' : mm_M mm_T0 (d + 5) 28 [.ref 204, .int (iI j)] g = some (some (.int (iI (b2 (asS b j false n R 0 = true)))), g) := by
      rw [U_X0_isAsSeen]; exact a
    by_cases c : asS b j false n R 0 = true
    · obtain ⟨g1, m1, m2, m3, m4, m5⟩ := C_tryYears (d := d) (N := 1) ht hF (by omega) (by omega) hC hS hk (by omega) hN (by omega)
      rw [show (1 : Int).toNat = 1 from rfl, yearsS_1] at m2 m3
      have yo := yearS_ok (cp := cp) (cm := cm) (fc := fc) (kd := kd) hN
      obtain ⟨g', q1, q2⟩ := C_comes_48 B ht hF l1 k (j + 1) g1 _ _ (by omega) (by omega) ⟨(m5.1 _ _ (by unfold QY; omega)).trans s.1, fun z hz => (m5.1 _ _ (by unfold QY; omega)).trans (s.2 z hz)⟩ m4 m2 yo.1 (by omega) m3 (by rw [List.length_append]; omega)
      rw [b2_t c] at a'
      refine ⟨g', ?_, m5.trans q2⟩
      rw [fitC, c, Bool.true_and, ← q1, U_X0_comesAsSeen_48 ht]
      simp (disch := omega) only [iI_lit, jI_lit, iI_neg, jI_neg, iI_add, iI_sub, iI_mul, jI_add, jI_sub, jI_mul, rdI, rdL, iI_lt, iI_le, iI_eq, iI_nat, iI_b2_0, iI_b2_1, mm_bI_some, mm_bV_some, mm_bL_some, mm_bA_some, fd_wL, fd_wR, fl_wI, fl_wR, re_wI, re_wL, re_wC, ite_true, ite_false, not_true_eq_false, not_false_eq_true, lq_ge, lq_le, lq_gt, lq_lt, lq_eq, jI_lt, jI_le, jI_eq, if_pos, if_neg, a', m1]
    · rw [b2_f c] at a'
      refine ⟨g, ?_, Kf.refl⟩
      have c' : asS b j false n R 0 = false := by
        cases hh : asS b j false n R 0
        · rfl
        · exact absurd hh c
      rw [fitC, c', Bool.false_and, b2_f (by simp), U_X0_comesAsSeen_48 ht]
      simp (disch := omega) only [iI_lit, jI_lit, iI_neg, jI_neg, iI_add, iI_sub, iI_mul, jI_add, jI_sub, jI_mul, rdI, rdL, iI_lt, iI_le, iI_eq, iI_nat, iI_b2_0, iI_b2_1, mm_bI_some, mm_bV_some, mm_bL_some, mm_bA_some, fd_wL, fd_wR, fl_wI, fl_wR, re_wI, re_wL, re_wC, ite_true, ite_false, not_true_eq_false, not_false_eq_true, lq_ge, lq_le, lq_gt, lq_lt, lq_eq, jI_lt, jI_le, jI_eq, if_pos, if_neg, a']
set_option maxHeartbeats 8000000 in
theorem C_comes {b : Nat → Int} {R : Nat} {g : mm_H} {n : Int → Int} {ev : Evs} (s : SeC g b R) (B : SeB b R pm) (ht : mm_isT t) (hF : FK pm fc kd) (hC : CT g t cp cm cf) (hS : SR g 205 pm hm fc kd n) (hN : NI pm hm n) (y : 0 ≤ n 0 ∧ n 0 ≤ 999) (hk : KeptC g 205 ev) (hl : ev.length < 9700000) : ∃ g', mm_M mm_T0 (d + 6) 27 [.ref 204, .ref t] g = some (some (.int (iI (b2 (fitR cp cm hm pm fc kd b R 31 0 n = true)))), g') ∧ Kf (QY t 205) nL g g' := by
  have mx := maxR_le (b := b) R 0 0
  have m30 : maxR b R 0 0 ≤ 30 := by
    rcases mx.2.2 with e | ⟨j, h1, h2, h3⟩
    · omega
    · have := (B.2 j (by omega)).1; omega
  have e11 : fd g 205 11 = n 0 := hS.2.2.1
  have m4 := (C_max_4 (d := d + 4) s B ht R 0 0 (by omega) (by omega)).resolve_right (by omega)
  rw [e11, show ((0 : Nat) : Int) = 0 from rfl] at m4
  rw [fit_eq hN y (fun r hr => (B.2 r hr).1), U_X0_comesAsSeen ht]
  by_cases c : n 0 + maxR b R 0 0 ≤ 999
  · obtain ⟨g', q1, q2⟩ := C_comes_48 (d := d) (last := maxR b R 0 0) B ht hF m30 (maxR b R 0 0).toNat 0 g n ev (by omega) (by omega) s hC hS hN (by omega) hk (by omega)
    refine ⟨g', ?_, q2⟩
    rw [if_pos c] at m4
    rw [decide_eq_true c, Bool.true_and, ← q1]
    exact m4
  · refine ⟨g, ?_, Kf.refl⟩
    rw [if_neg c] at m4
    rw [decide_eq_false c, Bool.false_and, b2_f (by simp)]
    exact m4
/-! the reference -/
set_option maxHeartbeats 8000000 in
theorem R_asSeen_2 {g : mm_H} {b : Nat → Int} {R : Nat} {y : Int} {n : Int → Int} (s : SeR g b R) (B : SeB b R pm) (hr : RepR g n) (hN : NI pm hm n) (yy : 0 ≤ n 0 ∧ n 0 ≤ 2000) (y0 : 0 ≤ y) (y1 : y < 1000) : ∀ (k r : Nat), r + k = R → mm_D (mm_M mm_T0 (d + 1)) cd_X12_isAsSeen 2 [.ref 264, .int (iI y), .int (iI (r : Nat))] [] g = some (some (.int (iI (b2 (asS b y (lateB n) n k r = true)))), g)
  | 0, r, rk => by
    have s1 := s.1
    have B1 := B.1
    rw [asS, b2_t rfl, U_X12_isAsSeen_2]
    simp (disch := omega) only [iI_lit, jI_lit, iI_neg, jI_neg, iI_add, iI_sub, iI_mul, jI_add, jI_sub, jI_mul, rdI, rdL, iI_lt, iI_le, iI_eq, iI_nat, iI_b2_0, iI_b2_1, mm_bI_some, mm_bV_some, mm_bL_some, mm_bA_some, fd_wL, fd_wR, fl_wI, fl_wR, re_wI, re_wL, re_wC, ite_true, ite_false, not_true_eq_false, not_false_eq_true, lq_ge, lq_le, lq_gt, lq_lt, lq_eq, jI_lt, jI_le, jI_eq, if_pos, if_neg, s1]
  | k + 1, r, rk => by
    have s1 := s.1
    have B1 := B.1
    have Br := B.2 r (by omega)
    have h8 := hN.1
    have v0 := s.2 (3 * r) (by omega)
    have v1 := s.2 (3 * r + 1) (by omega)
    have v2 := s.2 (3 * r + 2) (by omega)
    have i0 : (3 * ((r : Nat) : Int)).toNat = 3 * r := by omega
    have i1 : (3 * ((r : Nat) : Int) + 1).toNat = 3 * r + 1 := by omega
    have i2 : (3 * ((r : Nat) : Int) + 2).toNat = 3 * r + 2 := by omega
    have z0 : fd g 300 0 = n 0 := hr 0 (by omega) (by omega)
    have z1 := hr (2 + 3 * b (3 * r + 1)) (by omega) (by omega)
    have lb := (hN.2.2.1 _ Br.2.1.1 Br.2.1.2).2.1
    have e1 : ((r : Nat) : Int) + 1 = ((r + 1 : Nat) : Int) := by omega
    have ih := R_asSeen_2 s B hr hN yy y0 y1 k (r + 1) (by omega)
    rw [asS]
    by_cases c0 : b (3 * r) = y
    · by_cases c2 : 999 < n 0
      · rw [if_pos ⟨c0, Or.inl (by unfold lateB; exact decide_eq_true c2)⟩, b2_f (by simp)]
        rw [U_X12_isAsSeen_2]
        simp (disch := omega) only [iI_lit, jI_lit, iI_neg, jI_neg, iI_add, iI_sub, iI_mul, jI_add, jI_sub, jI_mul, rdI, rdL, iI_lt, iI_le, iI_eq, iI_nat, iI_b2_0, iI_b2_1, mm_bI_some, mm_bV_some, mm_bL_some, mm_bA_some, fd_wL, fd_wR, fl_wI, fl_wR, re_wI, re_wL, re_wC, ite_true, ite_false, not_true_eq_false, not_false_eq_true, lq_ge, lq_le, lq_gt, lq_lt, lq_eq, jI_lt, jI_le, jI_eq, if_pos, if_neg, s1, i0, v0, z0]
      · by_cases c1 : n (2 + 3 * b (3 * r + 1)) = b (3 * r + 2)
        · rw [if_neg (by
            rintro ⟨_, z | z⟩
            · unfold lateB at z; exact c2 (of_decide_eq_true z)
            · exact z c1), ← ih]
          rw [U_X12_isAsSeen_2]
          simp (disch := omega) only [iI_lit, jI_lit, iI_neg, jI_neg, iI_add, iI_sub, iI_mul, jI_add, jI_sub, jI_mul, rdI, rdL, iI_lt, iI_le, iI_eq, iI_nat, iI_b2_0, iI_b2_1, mm_bI_some, mm_bV_some, mm_bL_some, mm_bA_some, fd_wL, fd_wR, fl_wI, fl_wR, re_wI, re_wL, re_wC, ite_true, ite_false, not_true_eq_false, not_false_eq_true, lq_ge, lq_le, lq_gt, lq_lt, lq_eq, jI_lt, jI_le, jI_eq, if_pos, if_neg, s1, i0, v0, z0, i1, v1, R_lookOf, z1, i2, v2, e1]
        · rw [if_pos ⟨c0, Or.inr c1⟩, b2_f (by simp)]
          rw [U_X12_isAsSeen_2]
          simp (disch := omega) only [iI_lit, jI_lit, iI_neg, jI_neg, iI_add, iI_sub, iI_mul, jI_add, jI_sub, jI_mul, rdI, rdL, iI_lt, iI_le, iI_eq, iI_nat, iI_b2_0, iI_b2_1, mm_bI_some, mm_bV_some, mm_bL_some, mm_bA_some, fd_wL, fd_wR, fl_wI, fl_wR, re_wI, re_wL, re_wC, ite_true, ite_false, not_true_eq_false, not_false_eq_true, lq_ge, lq_le, lq_gt, lq_lt, lq_eq, jI_lt, jI_le, jI_eq, if_pos, if_neg, s1, i0, v0, z0, i1, v1, R_lookOf, z1, i2, v2]
    · rw [if_neg (fun z => c0 z.1), ← ih]
      rw [U_X12_isAsSeen_2]
      simp (disch := omega) only [iI_lit, jI_lit, iI_neg, jI_neg, iI_add, iI_sub, iI_mul, jI_add, jI_sub, jI_mul, rdI, rdL, iI_lt, iI_le, iI_eq, iI_nat, iI_b2_0, iI_b2_1, mm_bI_some, mm_bV_some, mm_bL_some, mm_bA_some, fd_wL, fd_wR, fl_wI, fl_wR, re_wI, re_wL, re_wC, ite_true, ite_false, not_true_eq_false, not_false_eq_true, lq_ge, lq_le, lq_gt, lq_lt, lq_eq, jI_lt, jI_le, jI_eq, if_pos, if_neg, s1, i0, v0, e1]
/-- what ways the reference lays -/
def EF (w : Nat) : Nat → Nat → Prop := fun a k => a = 304 ∨ a = 305 ∨ (a = 264 ∧ k = 71) ∨ (a = 294 ∧ k + 1 = w)
set_option maxHeartbeats 8000000 in
theorem R_way_5 {w : Nat} {h : mm_H} {b : Nat → Int} {R : Nat} {v p : Int} {n0 : Int → Int} (B : SeB b R pm) (hF : FK pm fc kd) (h0 : RepR h n0) (h65 : fd h 264 65 < 62000000) (v0 : 0 ≤ v) (v1 : v < 10) (p0 : 0 ≤ p) (p1 : p < pm) : ∀ (k : Nat) (y B' : Int) (is : Bool) (g : mm_H) (n : Int → Int), 0 ≤ y → y + k = 31 → (0 ≤ B' ∧ B' + 18 * k < 9000000) → SeR g b R → TR (EF w) h g B' → RT g pm hm fc kd cp cm cf → RepR g n → NI pm hm n → (0 ≤ n 0 ∧ n 0 + k ≤ 2000) → (0 ≤ fd g 264 71 ∧ fd g 264 71 ≤ 20) → ∃ g', mm_D (mm_M mm_T0 (d + 6)) cd_X12_laysWay 5 [.ref 264, .int (iI v), .int (iI p), .int (iI (b2 (is = true))), .int (iI y)] [] g = some (none, g') ∧ TR (EF w) h g' (B' + 18 * k) ∧ RT g' pm hm fc kd cp cm cf ∧ RepR g' n0 ∧ (fd g' 305 v.toNat = b2 ((is && fitR cp cm hm pm fc kd b R k y n) = true) ∧ ∀ z, z ≠ v.toNat → fd g' 305 z = fd g 305 z) ∧ fd g' 264 71 = fd g 264 71 + b2 ((is && fitR cp cm hm pm fc kd b R k y n) = true) ∧ (∀ z : Nat, fd g' 304 z = if 31 * v + y ≤ z ∧ (z : Int) < 31 * v + 31 then (yearsS cp cm hm pm fc kd ((z : Int) - 31 * v - y).toNat n).1 (2 + 3 * p) else fd g 304 z) ∧ Kf (fun a k => a = 300 ∨ a = 304 ∨ a = 305 ∨ (a = 264 ∧ (k = 71 ∨ QS 264 k))) LE3 g g'
  | 0, y, B', is, g, n, y0, yk, hB, s, T, hT, hr, hN, yy, f71 => by
    obtain ⟨g1, m1, m2, m3, m4, m5⟩ := T.anew (d := d + 5) hT h0
    have f71' : fd g1 264 71 = fd g 264 71 := m5.1 _ _ (by omega)
    have e0 : (is && fitR cp cm hm pm fc kd b R 0 y n) = is := by rw [fitR, Bool.and_true]
    rw [e0, show B' + 18 * ((0 : Nat) : Int) = B' by omega]
    have ka : Kf (fun a k => a = 300 ∨ a = 304 ∨ a = 305 ∨ (a = 264 ∧ (k = 71 ∨ QS 264 k))) LE3 g g1 := m5.mono (fun a k q => Or.inl q) (fun a k q => q.elim)
    cases is with
    | false =>
      have kw : Kf (fun a _ => a = 305) nL g1 (wI g1 305 v.toNat (iI 0)) := Kf.refl.wI rfl
      refine ⟨wI g1 305 v.toNat (iI 0), ?_, m2.ext kw (by intro a k q; unfold EF; omega), m3.kf2 kw (by intro a j; unfold NR; omega), m4.kf kw (by intro j hj; omega), ⟨?_, fun z hz => ?_⟩, ?_, fun z => ?_, ka.trans (kw.mono (fun a k q => by omega) (fun a k q => q.elim))⟩
      · rw [b2_f (by simp), U_X12_laysWay_5]
        simp (disch := omega) only [iI_lit, jI_lit, iI_neg, jI_neg, iI_add, iI_sub, iI_mul, jI_add, jI_sub, jI_mul, rdI, rdL, iI_lt, iI_le, iI_eq, iI_nat, iI_b2_0, iI_b2_1, mm_bI_some, mm_bV_some, mm_bL_some, mm_bA_some, fd_wL, fd_wR, fl_wI, fl_wR, re_wI, re_wL, re_wC, ite_true, ite_false, not_true_eq_false, not_false_eq_true, lq_ge, lq_le, lq_gt, lq_lt, lq_eq, jI_lt, jI_le, jI_eq, if_pos, if_neg, m1]
        rw [if_pos (Or.inl trivial)]
      · rw [b2_f (by simp), fd_wI_same (by omega) (by omega)]
      · rw [fd_wI_col hz, m5.1 _ _ (by omega)]
      · rw [b2_f (by simp), fd_wI_row (by omega)]; omega
      · rw [if_neg (by omega), fd_wI_row (by omega), m5.1 _ _ (by omega)]
    | true =>
      have kw : Kf (fun a k => a = 305 ∨ (a = 264 ∧ k = 71)) nL g1 (wI (wI g1 305 v.toNat (iI 1)) 264 71 (iI (fd g 264 71 + 1))) := (Kf.refl.wI (by omega)).wI (by omega)
      refine ⟨wI (wI g1 305 v.toNat (iI 1)) 264 71 (iI (fd g 264 71 + 1)), ?_, m2.ext kw (by intro a k q; unfold EF; omega), m3.kf2 kw (by intro a j; unfold NR; omega), m4.kf kw (by intro j hj; omega), ⟨?_, fun z hz => ?_⟩, ?_, fun z => ?_, ka.trans (kw.mono (fun a k q => by omega) (fun a k q => q.elim))⟩
      · have f71'' : fd (wI g1 305 v.toNat (iI 1)) 264 71 = fd g 264 71 := (fd_wI_row (by omega)).trans f71'
        rw [b2_t rfl, U_X12_laysWay_5]
        simp (disch := omega) only [iI_lit, jI_lit, iI_neg, jI_neg, iI_add, iI_sub, iI_mul, jI_add, jI_sub, jI_mul, rdI, rdL, iI_lt, iI_le, iI_eq, iI_nat, iI_b2_0, iI_b2_1, mm_bI_some, mm_bV_some, mm_bL_some, mm_bA_some, fd_wL, fd_wR, fl_wI, fl_wR, re_wI, re_wL, re_wC, ite_true, ite_false, not_true_eq_false, not_false_eq_true, lq_ge, lq_le, lq_gt, lq_lt, lq_eq, jI_lt, jI_le, jI_eq, if_pos, if_neg, m1, f71'']
        rw [if_pos (Or.inr trivial)]
      · rw [b2_t rfl, fd_wI_row (by omega), fd_wI_same (by omega) (by omega)]
      · rw [fd_wI_row (by omega), fd_wI_col hz, m5.1 _ _ (by omega)]
      · rw [b2_t rfl, fd_wI_same (by omega) (by omega)]
      · rw [if_neg (by omega), fd_wI_row (by omega), fd_wI_row (by omega), m5.1 _ _ (by omega)]
  | k + 1, y, B', is, g, n, y0, yk, hB, s, T, hT, hr, hN, yy, f71 => by
    have h8 := hN.1
    have a := R_asSeen_2 (d := d + 4) (y := y) s B hr hN (by omega) y0 (by omega) R 0 (by omega)
    rw [show ((0 : Nat) : Int) = 0 from rfl] at a
    have a' : mm_M mm_T0 (d + 6) 267 [.ref 264, .int (iI y)] g = some (some (.int (iI (b2 (asS b y (lateB n) n R 0 = true)))), g) := by
      rw [U_X12_isAsSeen]; exact a
    have z := hr (2 + 3 * p) (by omega) (by omega)
    have lb := (hN.2.2.1 p p0 p1).2.1
    have kw : Kf (fun a _ => a = 304) nL g (wI g 304 (31 * v + y).toNat (iI (n (2 + 3 * p)))) := Kf.refl.wI rfl
    obtain ⟨g1, r1, r2, r3, r4, r5⟩ := (T.ext kw (by intro a k q; unfold EF; omega)).year (d := d) (by omega) hF (hT.kf2 kw (by intro a j; unfold NR; omega)) (hr.kf kw (by intro j hj; omega)) hN (by omega)
    have yo := yearS_ok (cp := cp) (cm := cm) (fc := fc) (kd := kd) hN
    have kk : Kf (fun a k => a = 300 ∨ a = 304 ∨ (a = 264 ∧ QS 264 k)) LE3 g g1 := Kf.trans (kw.mono (fun a k q => by omega) (fun a k q => q.elim)) (r5.monoQ (fun a k q => by unfold QS at q ⊢; omega))
    have f1 : fd g1 264 71 = fd g 264 71 := kk.1 _ _ (by unfold QS; omega)
    obtain ⟨g', q1, q2, q3, q4, q5, q6, q7, q8⟩ := R_way_5 B hF h0 h65 v0 v1 p0 p1 k (y + 1) (B' + 18) (is && asS b y (lateB n) n R 0) g1 _ (by omega) (by omega) (by omega) ⟨(kk.1 _ _ (by unfold QS; omega)).trans s.1, fun z hz => (kk.1 _ _ (by unfold QS; omega)).trans (s.2 z hz)⟩ r2 r3 r4 yo.1 (by omega) (by omega)
    have ea : ((is && asS b y (lateB n) n R 0) && fitR cp cm hm pm fc kd b R k (y + 1) (yearS cp cm hm pm fc kd n).1) = (is && fitR cp cm hm pm fc kd b R (k + 1) y n) := by
      rw [fitR, Bool.and_assoc]
    rw [ea] at q5 q6
    have eb : B' + 18 + 18 * (k : Int) = B' + 18 * ((k + 1 : Nat) : Int) := by omega
    rw [eb] at q2
    have k305 : ∀ z, fd g1 305 z = fd g 305 z := fun z => kk.1 _ _ (by unfold QS; omega)
    refine ⟨g', ?_, q2, q3, q4, ⟨q5.1, fun z hz => (q5.2 z hz).trans (k305 z)⟩, by omega, fun x => ?_, Kf.trans (kk.monoQ (fun a k q => by unfold QS at q ⊢; omega)) q8⟩
    · rw [U_X12_laysWay_5, ← q1]
      cases is with
      | false =>
        rw [Bool.false_and, b2_f (by simp)]
        simp (disch := omega) only [iI_lit, jI_lit, iI_neg, jI_neg, iI_add, iI_sub, iI_mul, jI_add, jI_sub, jI_mul, rdI, rdL, iI_lt, iI_le, iI_eq, iI_nat, iI_b2_0, iI_b2_1, mm_bI_some, mm_bV_some, mm_bL_some, mm_bA_some, fd_wL, fd_wR, fl_wI, fl_wR, re_wI, re_wL, re_wC, ite_true, ite_false, not_true_eq_false, not_false_eq_true, lq_ge, lq_le, lq_gt, lq_lt, lq_eq, jI_lt, jI_le, jI_eq, if_pos, if_neg, R_lookOf, z, r1]
      | true =>
        rw [Bool.true_and, b2_t rfl]
        by_cases c : asS b y (lateB n) n R 0 = true
        · rw [b2_t c] at a' ⊢
          simp (disch := omega) only [iI_lit, jI_lit, iI_neg, jI_neg, iI_add, iI_sub, iI_mul, jI_add, jI_sub, jI_mul, rdI, rdL, iI_lt, iI_le, iI_eq, iI_nat, iI_b2_0, iI_b2_1, mm_bI_some, mm_bV_some, mm_bL_some, mm_bA_some, fd_wL, fd_wR, fl_wI, fl_wR, re_wI, re_wL, re_wC, ite_true, ite_false, not_true_eq_false, not_false_eq_true, lq_ge, lq_le, lq_gt, lq_lt, lq_eq, jI_lt, jI_le, jI_eq, if_pos, if_neg, a', R_lookOf, z, r1]
        · rw [b2_f c] at a' ⊢
          simp (disch := omega) only [iI_lit, jI_lit, iI_neg, jI_neg, iI_add, iI_sub, iI_mul, jI_add, jI_sub, jI_mul, rdI, rdL, iI_lt, iI_le, iI_eq, iI_nat, iI_b2_0, iI_b2_1, mm_bI_some, mm_bV_some, mm_bL_some, mm_bA_some, fd_wL, fd_wR, fl_wI, fl_wR, re_wI, re_wL, re_wC, ite_true, ite_false, not_true_eq_false, not_false_eq_true, lq_ge, lq_le, lq_gt, lq_lt, lq_eq, jI_lt, jI_le, jI_eq, if_pos, if_neg, a', R_lookOf, z, r1]
    · rw [q7]
      by_cases c : 31 * v + (y + 1) ≤ (x : Int) ∧ (x : Int) < 31 * v + 31
      · rw [if_pos c, if_pos (by omega)]
        have e : ((x : Int) - 31 * v - y).toNat = ((x : Int) - 31 * v - (y + 1)).toNat + 1 := by omega
        rw [e]
        rfl
      · rw [if_neg c]
        have k304 : fd g1 304 x = fd (wI g 304 (31 * v + y).toNat (iI (n (2 + 3 * p)))) 304 x := r5.1 _ _ (by unfold QS; omega)
        rw [k304]
        by_cases c2 : (x : Int) = 31 * v + y
        · rw [if_pos (by omega), show x = (31 * v + y).toNat by omega, fd_wI_same (by omega) (by omega), show (((31 * v + y).toNat : Int) - 31 * v - y).toNat = 0 by omega]
          rfl
        · rw [if_neg (by omega), fd_wI_col (by omega)]
end FITC
