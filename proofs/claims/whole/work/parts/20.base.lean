/-! numbers as integers: every int of our heap is iI of one, every long jI of one -/
def iI (z : Int) : Int32 := Int32.ofInt z
def jI (z : Int) : Int64 := Int64.ofInt z
theorem iI_lit (n : Nat) : (OfNat.ofNat n : Int32) = iI (OfNat.ofNat n) := (Int32.ofInt_eq_ofNat (n := n)).symm
theorem jI_lit (n : Nat) : (OfNat.ofNat n : Int64) = jI (OfNat.ofNat n) := (Int64.ofInt_eq_ofNat (n := n)).symm
theorem iI_add (a b : Int) : iI a + iI b = iI (a + b) := (Int32.ofInt_add a b).symm
theorem iI_sub (a b : Int) : iI a - iI b = iI (a - b) := (Int32.ofInt_sub a b).symm
theorem iI_mul (a b : Int) : iI a * iI b = iI (a * b) := (Int32.ofInt_mul a b).symm
theorem iI_neg (a : Int) : - iI a = iI (- a) := (Int32.ofInt_neg a).symm
theorem jI_add (a b : Int) : jI a + jI b = jI (a + b) := (Int64.ofInt_add a b).symm
theorem jI_sub (a b : Int) : jI a - jI b = jI (a - b) := (Int64.ofInt_sub a b).symm
theorem jI_mul (a b : Int) : jI a * jI b = jI (a * b) := (Int64.ofInt_mul a b).symm
theorem jI_neg (a : Int) : - jI a = jI (- a) := (Int64.ofInt_neg a).symm
theorem iI_of (x : Int32) : iI x.toInt = x := Int32.ofInt_toInt x
theorem jI_of (x : Int64) : jI x.toInt = x := Int64.ofInt_toInt x
theorem iI_to {a : Int} (h1 : -2147483648 ≤ a) (h2 : a < 2147483648) : (iI a).toInt = a := Int32.toInt_ofInt_of_le h1 h2
theorem jI_to {a : Int} (h1 : -9223372036854775808 ≤ a) (h2 : a < 9223372036854775808) : (jI a).toInt = a := Int64.toInt_ofInt_of_le h1 h2
theorem i32_lo (x : Int32) : -2147483648 ≤ x.toInt := Int32.le_toInt x
theorem i32_hi (x : Int32) : x.toInt < 2147483648 := Int32.toInt_lt x
theorem i64_lo (x : Int64) : -9223372036854775808 ≤ x.toInt := Int64.le_toInt x
theorem i64_hi (x : Int64) : x.toInt < 9223372036854775808 := Int64.toInt_lt x
theorem iI_lt {a b : Int} (h1 : -2147483648 ≤ a) (h2 : a < 2147483648) (h3 : -2147483648 ≤ b) (h4 : b < 2147483648) : (iI a < iI b) = (a < b) := by
  rw [Int32.lt_iff_toInt_lt, iI_to h1 h2, iI_to h3 h4]
theorem iI_le {a b : Int} (h1 : -2147483648 ≤ a) (h2 : a < 2147483648) (h3 : -2147483648 ≤ b) (h4 : b < 2147483648) : (iI a ≤ iI b) = (a ≤ b) := by
  rw [Int32.le_iff_toInt_le, iI_to h1 h2, iI_to h3 h4]
theorem iI_eq {a b : Int} (h1 : -2147483648 ≤ a) (h2 : a < 2147483648) (h3 : -2147483648 ≤ b) (h4 : b < 2147483648) : (iI a = iI b) = (a = b) := by
  rw [← Int32.toInt_inj, iI_to h1 h2, iI_to h3 h4]
theorem jI_lt {a b : Int} (h1 : -9223372036854775808 ≤ a) (h2 : a < 9223372036854775808) (h3 : -9223372036854775808 ≤ b) (h4 : b < 9223372036854775808) : (jI a < jI b) = (a < b) := by
  rw [Int64.lt_iff_toInt_lt, jI_to h1 h2, jI_to h3 h4]
theorem jI_le {a b : Int} (h1 : -9223372036854775808 ≤ a) (h2 : a < 9223372036854775808) (h3 : -9223372036854775808 ≤ b) (h4 : b < 9223372036854775808) : (jI a ≤ jI b) = (a ≤ b) := by
  rw [Int64.le_iff_toInt_le, jI_to h1 h2, jI_to h3 h4]
theorem jI_eq {a b : Int} (h1 : -9223372036854775808 ≤ a) (h2 : a < 9223372036854775808) (h3 : -9223372036854775808 ≤ b) (h4 : b < 9223372036854775808) : (jI a = jI b) = (a = b) := by
  rw [← Int64.toInt_inj, jI_to h1 h2, jI_to h3 h4]
theorem iI_nat {a : Int} (h1 : -2147483648 ≤ a) (h2 : a < 2147483648) : (iI a).toNatClampNeg = a.toNat := by
  rw [← Int32.toNat_toInt, iI_to h1 h2]
theorem iI_jI {a : Int} (h1 : -2147483648 ≤ a) (h2 : a < 2147483648) : (iI a).toInt64 = jI a := by
  rw [← Int64.toInt_inj, Int32.toInt_toInt64, iI_to h1 h2, jI_to (by omega) (by omega)]
theorem jI_iI {a : Int} (h1 : -2147483648 ≤ a) (h2 : a < 2147483648) : (jI a).toInt32 = iI a := by
  rw [← iI_jI h1 h2, Int32.toInt32_toInt64]
theorem iI_div {a b : Int} (h1 : -2147483648 < a) (h2 : a < 2147483648) (h3 : -2147483648 ≤ b) (h4 : b < 2147483648) : iI a / iI b = iI (a.tdiv b) := by
  rw [← Int32.toInt_inj, Int32.toInt_div_of_ne_left, iI_to (by omega) h2, iI_to h3 h4]
  · have hb := Int.natAbs_tdiv_le_natAbs a b
    rw [iI_to (by omega) (by omega)]
  · intro e
    have := congrArg Int32.toInt e
    rw [iI_to (by omega) h2, Int32.toInt_minValue] at this
    omega
theorem jI_div {a b : Int} (h1 : -9223372036854775808 < a) (h2 : a < 9223372036854775808) (h3 : -9223372036854775808 ≤ b) (h4 : b < 9223372036854775808) : jI a / jI b = jI (a.tdiv b) := by
  rw [← Int64.toInt_inj, Int64.toInt_div_of_ne_left, jI_to (by omega) h2, jI_to h3 h4]
  · have hb := Int.natAbs_tdiv_le_natAbs a b
    rw [jI_to (by omega) (by omega)]
  · intro e
    have := congrArg Int64.toInt e
    rw [jI_to (by omega) h2, Int64.toInt_minValue] at this
    omega
theorem iI_inj {a b : Int} (h : a = b) : iI a = iI b := by rw [h]
theorem lq_ge {a b : Int} (h1 : -9223372036854775808 ≤ a) (h2 : a < 9223372036854775808) (h3 : -9223372036854775808 ≤ b) (h4 : b < 9223372036854775808) : (iI 0 ≤ lg_cmp (jI a) (jI b)) = (b ≤ a) := by
  rw [show iI 0 = (0 : Int32) from rfl, lg_cmp_ge, jI_le h3 h4 h1 h2]
theorem lq_le {a b : Int} (h1 : -9223372036854775808 ≤ a) (h2 : a < 9223372036854775808) (h3 : -9223372036854775808 ≤ b) (h4 : b < 9223372036854775808) : (lg_cmp (jI a) (jI b) ≤ iI 0) = (a ≤ b) := by
  rw [show iI 0 = (0 : Int32) from rfl, lg_cmp_le, jI_le h1 h2 h3 h4]
theorem lq_gt {a b : Int} (h1 : -9223372036854775808 ≤ a) (h2 : a < 9223372036854775808) (h3 : -9223372036854775808 ≤ b) (h4 : b < 9223372036854775808) : (iI 0 < lg_cmp (jI a) (jI b)) = (b < a) := by
  rw [show iI 0 = (0 : Int32) from rfl, lg_cmp_gt, jI_lt h3 h4 h1 h2]
theorem lq_lt {a b : Int} (h1 : -9223372036854775808 ≤ a) (h2 : a < 9223372036854775808) (h3 : -9223372036854775808 ≤ b) (h4 : b < 9223372036854775808) : (lg_cmp (jI a) (jI b) < iI 0) = (a < b) := by
  rw [show iI 0 = (0 : Int32) from rfl, lg_cmp_lt, jI_lt h1 h2 h3 h4]
theorem lq_eq {a b : Int} (h1 : -9223372036854775808 ≤ a) (h2 : a < 9223372036854775808) (h3 : -9223372036854775808 ≤ b) (h4 : b < 9223372036854775808) : (lg_cmp (jI a) (jI b) = iI 0) = (a = b) := by
  rw [show iI 0 = (0 : Int32) from rfl, lg_cmp_eq, jI_eq h1 h2 h3 h4]
/-! the heap's ints and longs as integers -/
def fd (h : mm_H) (a k : Nat) : Int := (h.1 a k).toInt
def fl (h : mm_H) (a k : Nat) : Int := (h.2.1 a k).toInt
theorem rdI (h : mm_H) (a k : Nat) : h.1 a k = iI (fd h a k) := (iI_of _).symm
theorem rdL (h : mm_H) (a k : Nat) : h.2.1 a k = jI (fl h a k) := (jI_of _).symm
theorem fd_lo (h : mm_H) (a k : Nat) : -2147483648 ≤ fd h a k := i32_lo _
theorem fd_hi (h : mm_H) (a k : Nat) : fd h a k < 2147483648 := i32_hi _
theorem fl_lo (h : mm_H) (a k : Nat) : -9223372036854775808 ≤ fl h a k := i64_lo _
theorem fl_hi (h : mm_H) (a k : Nat) : fl h a k < 9223372036854775808 := i64_hi _
theorem fd_wI (h : mm_H) (a k b j : Nat) (v : Int32) : fd (wI h a k v) b j = if b = a ∧ j = k then v.toInt else fd h b j := by
  unfold fd wI mm_u upd
  by_cases hb : b = a
  · subst hb
    by_cases hj : j = k
    · simp [hj]
    · simp [hj]
  · simp [hb]
theorem fd_wI_row {h : mm_H} {a k b j : Nat} {v : Int32} (hb : b ≠ a) : fd (wI h a k v) b j = fd h b j := by
  rw [fd_wI, if_neg (fun q => hb q.1)]
theorem fd_wI_col {h : mm_H} {a k b j : Nat} {v : Int32} (hj : j ≠ k) : fd (wI h a k v) b j = fd h b j := by
  rw [fd_wI, if_neg (fun q => hj q.2)]
theorem fd_wI_same {h : mm_H} {a k : Nat} {v : Int} (h1 : -2147483648 ≤ v) (h2 : v < 2147483648) : fd (wI h a k (iI v)) a k = v := by
  rw [fd_wI, if_pos ⟨rfl, rfl⟩, iI_to h1 h2]
theorem fd_wL (h : mm_H) (a k b j : Nat) (v : Int64) : fd (wL h a k v) b j = fd h b j := rfl
theorem fd_wR (h : mm_H) (a k b j v : Nat) : fd (wR h a k v) b j = fd h b j := rfl
theorem fl_wI (h : mm_H) (a k b j : Nat) (v : Int32) : fl (wI h a k v) b j = fl h b j := rfl
theorem fl_wR (h : mm_H) (a k b j v : Nat) : fl (wR h a k v) b j = fl h b j := rfl
theorem fl_wC (h : mm_H) (a0 a sp dp n b j : Nat) : fl (wC h a0 a sp dp n) b j = fl h b j := rfl
theorem fl_wL (h : mm_H) (a k b j : Nat) (v : Int64) : fl (wL h a k v) b j = if b = a ∧ j = k then v.toInt else fl h b j := by
  unfold fl wL mm_uL vp_updL
  by_cases hb : b = a
  · subst hb
    by_cases hj : j = k
    · simp [hj]
    · simp [hj]
  · simp [hb]
theorem fd_wC (h : mm_H) (a0 a n b j : Nat) : fd (wC h a0 a 0 0 n) b j = if b = a ∧ j < n then fd h a0 j else fd h b j := by
  unfold fd wC mm_cp va_cpy
  by_cases hb : b = a
  · subst hb
    by_cases hj : j < n
    · simp [hj]
    · simp [hj]
  · simp [hb]
theorem re_wI (h : mm_H) (a k : Nat) (v : Int32) : (wI h a k v).2.2 = h.2.2 := rfl
theorem re_wL (h : mm_H) (a k : Nat) (v : Int64) : (wL h a k v).2.2 = h.2.2 := rfl
theorem re_wC (h : mm_H) (a0 a sp dp n : Nat) : (wC h a0 a sp dp n).2.2 = h.2.2 := rfl
theorem re_wR (h : mm_H) (a k b j v : Nat) : (wR h a k v).2.2 b j = if b = a ∧ j = k then v else h.2.2 b j := by
  unfold wR mm_uR va_up
  by_cases hb : b = a
  · subst hb
    by_cases hj : j = k
    · simp [hj]
    · simp [hj]
  · simp [hb]
/-! what a method leaves as it was -/
/-- all ints but those of Q, all longs but those of L are kept; references are kept -/
def Kf (Q L : Nat → Nat → Prop) (h h' : mm_H) : Prop := (∀ a k, ¬ Q a k → fd h' a k = fd h a k) ∧ (∀ a k, ¬ L a k → fl h' a k = fl h a k) ∧ h'.2.2 = h.2.2
def nL : Nat → Nat → Prop := fun _ _ => False
theorem Kf.refl {Q L : Nat → Nat → Prop} {h : mm_H} : Kf Q L h h := ⟨fun _ _ _ => rfl, fun _ _ _ => rfl, rfl⟩
theorem Kf.trans {Q L : Nat → Nat → Prop} {h h1 h2 : mm_H} (x : Kf Q L h h1) (y : Kf Q L h1 h2) : Kf Q L h h2 := ⟨fun a k ha => (y.1 a k ha).trans (x.1 a k ha), fun a k ha => (y.2.1 a k ha).trans (x.2.1 a k ha), y.2.2.trans x.2.2⟩
theorem Kf.mono {Q L Q' L' : Nat → Nat → Prop} {h h1 : mm_H} (x : Kf Q L h h1) (hq : ∀ a k, Q a k → Q' a k) (hl : ∀ a k, L a k → L' a k) : Kf Q' L' h h1 := ⟨fun a k ha => x.1 a k (fun q => ha (hq a k q)), fun a k ha => x.2.1 a k (fun q => ha (hl a k q)), x.2.2⟩
theorem Kf.monoQ {Q L Q' : Nat → Nat → Prop} {h h1 : mm_H} (x : Kf Q L h h1) (hq : ∀ a k, Q a k → Q' a k) : Kf Q' L h h1 := x.mono hq (fun _ _ q => q)
theorem Kf.wI {Q L : Nat → Nat → Prop} {h h1 : mm_H} {a k : Nat} {v : Int32} (x : Kf Q L h h1) (ha : Q a k) : Kf Q L h (wI h1 a k v) := ⟨fun b j hb => by
  rw [fd_wI, if_neg (fun q => hb (by rw [q.1, q.2]; exact ha))]
  exact x.1 b j hb, x.2⟩
theorem Kf.wL {Q L : Nat → Nat → Prop} {h h1 : mm_H} {a k : Nat} {v : Int64} (x : Kf Q L h h1) (ha : L a k) : Kf Q L h (wL h1 a k v) := ⟨x.1, fun b j hb => by
  rw [fl_wL, if_neg (fun q => hb (by rw [q.1, q.2]; exact ha))]
  exact x.2.1 b j hb, x.2.2⟩
theorem Kf.wC {Q L : Nat → Nat → Prop} {h h1 : mm_H} {a0 a n : Nat} (x : Kf Q L h h1) (ha : ∀ k, k < n → Q a k) : Kf Q L h (wC h1 a0 a 0 0 n) := ⟨fun b j hb => by
  rw [fd_wC, if_neg (fun q => hb (by rw [q.1]; exact ha j q.2))]
  exact x.1 b j hb, x.2⟩
/-! truth as a number -/
def b2 (c : Prop) [Decidable c] : Int := if c then 1 else 0
theorem b2_le (c : Prop) [Decidable c] : 0 ≤ b2 c ∧ b2 c ≤ 1 := by
  unfold b2
  split <;> omega
theorem b2_t {c : Prop} [Decidable c] (h : c) : b2 c = 1 := if_pos h
theorem b2_f {c : Prop} [Decidable c] (h : ¬ c) : b2 c = 0 := if_neg h
theorem iI_b2_0 (c : Prop) [Decidable c] : (iI (b2 c) = iI 0) = ¬ c := by
  have := b2_le c
  rw [iI_eq (by omega) (by omega) (by omega) (by omega)]
  unfold b2
  by_cases h : c <;> simp [h]
theorem iI_b2_1 (c : Prop) [Decidable c] : (iI (b2 c) = iI 1) = c := by
  have := b2_le c
  rw [iI_eq (by omega) (by omega) (by omega) (by omega)]
  unfold b2
  by_cases h : c <;> simp [h]
theorem b2_zr (c : Prop) [Decidable c] (h : mm_H) : mm_zr (iI (b2 c)) h = some (some (.int (iI (b2 c))), h) := by
  by_cases x : c
  · rw [b2_t x]; rfl
  · rw [b2_f x]; rfl
/-! a few JDK ones -/
theorem J_max {d : Nat} {a b : Int} {h : mm_H} (al : -2147483648 ≤ a) (au : a < 2147483648) (bl : -2147483648 ≤ b) (bu : b < 2147483648) : mm_M mm_T0 (d + 1) 9 [.int (iI a), .int (iI b)] h = some (some (.int (iI (max a b))), h) := by
  simp only [U_J9_max_7cf53, iI_lt al au bl bu]
  split
  · rw [show max a b = b by omega]
  · rw [show max a b = a by omega]
theorem J_min {d : Nat} {a b : Int} {h : mm_H} (al : -2147483648 ≤ a) (au : a < 2147483648) (bl : -2147483648 ≤ b) (bu : b < 2147483648) : mm_M mm_T0 (d + 1) 11 [.int (iI a), .int (iI b)] h = some (some (.int (iI (min a b))), h) := by
  simp only [U_J9_min_7cf53, iI_lt bl bu al au]
  split
  · rw [show min a b = b by omega]
  · rw [show min a b = a by omega]
/-! sums over a stretch -/
def sumF (f : Int → Int) (p : Int) : Nat → Int
  | 0 => 0
  | k + 1 => f p + sumF f (p + 1) k
theorem sumF_congr {f g : Int → Int} : ∀ {k : Nat} {p : Int}, (∀ j, p ≤ j → j < p + k → f j = g j) → sumF f p k = sumF g p k
  | 0, _, _ => rfl
  | k + 1, p, h => by
    unfold sumF
    rw [h p (by omega) (by omega), sumF_congr (fun j h1 h2 => h j (by omega) (by omega))]
theorem sumF_le {f : Int → Int} {m : Int} : ∀ {k : Nat} {p : Int}, (∀ j, p ≤ j → j < p + k → 0 ≤ f j ∧ f j ≤ m) → 0 ≤ sumF f p k ∧ sumF f p k ≤ m * k
  | 0, _, _ => by simp [sumF]
  | k + 1, p, h => by
    unfold sumF
    have a := h p (by omega) (by omega)
    have b := sumF_le (f := f) (m := m) (k := k) (p := p + 1) (fun j h1 h2 => h j (by omega) (by omega))
    have e : m * ((k + 1 : Nat) : Int) = m * k + m := by
      rw [Int.natCast_add, Int.mul_add]
      simp
    omega
/-- a row with one place changed -/
def up (n : Int → Int) (k v : Int) : Int → Int := fun j => if j = k then v else n j
theorem up_same (n : Int → Int) (k v : Int) : up n k v k = v := if_pos rfl
theorem up_ne {n : Int → Int} {k v j : Int} (h : j ≠ k) : up n k v j = n j := if_neg h
