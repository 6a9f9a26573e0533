/-! rest -/
/-- the row with the first j people sparing as the set says -/
def sparS (n : Int → Int) (j : Int) (set : Nat) : Int → Int := fun z => if z % 3 = 0 ∧ 3 ≤ z ∧ z < 3 + 3 * j then ((set / 2 ^ (z / 3 - 1).toNat % 2 : Nat) : Int) else n z
section REST
variable {cp cm : List Int} {hm pm : Int} {fc kd n : Int → Int}
theorem sparS_0 {set : Nat} : sparS n 0 set = n := by
  funext z
  unfold sparS
  rw [if_neg (by omega)]
theorem sparS_s {set : Nat} {j : Int} (j0 : 0 ≤ j) : sparS n (j + 1) set = up (sparS n j set) (3 + 3 * j) ((set / 2 ^ j.toNat % 2 : Nat) : Int) := by
  funext z
  by_cases c : z = 3 + 3 * j
  · rw [c, up_same]
    unfold sparS
    rw [if_pos (by omega), show (3 + 3 * j) / 3 - 1 = j by omega]
  · rw [up_ne c]
    unfold sparS
    by_cases c2 : z % 3 = 0 ∧ 3 ≤ z ∧ z < 3 + 3 * j
    · rw [if_pos c2, if_pos (by omega)]
    · rw [if_neg c2, if_neg (by omega)]
theorem sparS_ne {set : Nat} {j z : Int} (h : z % 3 ≠ 0 ∨ z < 3 ∨ 3 + 3 * j ≤ z) : sparS n j set z = n z := by
  unfold sparS
  rw [if_neg (by omega)]
theorem sparS_NI {set : Nat} {j : Int} (hN : NI pm hm n) (j0 : 0 ≤ j) (j1 : j ≤ pm) : NI pm hm (sparS n j set) := by
  have h8 := hN.1
  refine ⟨hN.1, hN.2.1, fun p p0 p1 => ?_, fun p q p0 p1 q0 q1 pq => ?_, fun p q p0 p1 q0 q1 e => ?_⟩
  · have := hN.2.2.1 p p0 p1
    rw [sparS_ne (z := 1 + 3 * p) (by omega), sparS_ne (z := 2 + 3 * p) (by omega)]
    refine ⟨this.1, this.2.1, ?_⟩
    unfold sparS
    split
    · have : set / 2 ^ ((3 + 3 * p) / 3 - 1).toNat % 2 < 2 := Nat.mod_lt _ (by omega)
      omega
    · exact this.2.2
  · rw [sparS_ne (by omega)]
    exact hN.2.2.2.1 p q p0 p1 q0 q1 pq
  · rw [sparS_ne (by omega), sparS_ne (by omega)] at e
    exact hN.2.2.2.2 p q p0 p1 q0 q1 e
def outV (cp cm : List Int) (hm pm : Int) (fc kd n : Int → Int) (N : Int) (set : Nat) (p : Int) : Int := (yearsS cp cm hm pm fc kd N.toNat (sparS n pm set)).1 (2 + 3 * p)
theorem outV_b {N p : Int} {set : Nat} (hN : NI pm hm n) (p0 : 0 ≤ p) (p1 : p < pm) : 0 ≤ outV cp cm hm pm fc kd n N set p ∧ outV cp cm hm pm fc kd n N set p ≤ 99 := ((yearsS_ok (cp := cp) (cm := cm) (fc := fc) (kd := kd) N.toNat _ (sparS_NI hN hN.1.1 (Int.le_refl _))).1.2.2.1 p p0 p1).2.1
/-- nobody from p on, of k, would rather do otherwise -/
def arS (V : Nat → Int → Int) (set : Nat) : Nat → Nat → Bool
  | 0, _ => true
  | k + 1, p => if V set (p : Nat) < V (set ^^^ 2 ^ p) (p : Nat) then false else arS V set k (p + 1)
def xor0 (x j : Nat) : Bool := (iI (x : Nat) ^^^ ((1 : Int32) <<< (iI (j : Nat) &&& iI 31))) == iI ((x ^^^ 2 ^ j : Nat) : Int)
theorem xor1 : ∀ j, j < 8 → ∀ x, x < 256 → xor0 x j = true := by decide +kernel
theorem xor_tab {x j : Nat} (hx : x < 256) (hj : j < 8) : iI (x : Nat) ^^^ (iI 1 <<< (iI (j : Nat) &&& iI 31)) = iI ((x ^^^ 2 ^ j : Nat) : Int) := eq_of_beq (xor1 j hj x hx)
theorem xor_lt {m x j : Nat} (hx : x < 2 ^ m) (hj : j < m) : x ^^^ 2 ^ j < 2 ^ m := Nat.xor_lt_two_pow hx (Nat.pow_lt_pow_right (by omega) hj)
theorem p28 {m : Nat} (h : m ≤ 8) : 2 ^ m ≤ 256 := by
  have : ∀ m, m ≤ 8 → 2 ^ m ≤ 256 := by decide
  exact this m h
/-! the fewest, then the smallest -/
def Bst (A : Nat → Bool) (S : Nat) (r : Int) : Prop := (r = -1 ∧ ∀ s, s < S → A s = false) ∨ (0 ≤ r ∧ r.toNat < S ∧ A r.toNat = true ∧ ∀ s, s < S → A s = true → pc r.toNat < pc s ∨ (pc r.toNat = pc s ∧ r.toNat ≤ s))
theorem Bst.uni {A : Nat → Bool} {S : Nat} {r q : Int} (a : Bst A S r) (b : Bst A S q) : r = q := by
  rcases a with a | a
  · rcases b with b | b
    · omega
    · have := a.2 _ b.2.1
      rw [b.2.2.1] at this
      exact absurd this (by simp)
  · rcases b with b | b
    · have := b.2 _ a.2.1
      rw [a.2.2.1] at this
      exact absurd this (by simp)
    · have h1 := a.2.2.2 _ b.2.1 b.2.2.1
      have h2 := b.2.2.2 _ a.2.1 a.2.2.1
      omega
theorem refF_best {A : Nat → Bool} : ∀ (k j : Nat) (b : Int), Bst A j b → Bst A (j + k) (refF A k j b)
  | 0, j, b, h => h
  | k + 1, j, b, h => by
    rw [refF, show j + (k + 1) = j + 1 + k by omega]
    refine refF_best k (j + 1) _ ?_
    by_cases cA : A j = true
    · rcases h with h | h
      · rw [if_pos ⟨Or.inl h.1, cA⟩]
        refine Or.inr ⟨by omega, by omega, by rw [Int.toNat_natCast]; exact cA, fun s hs hA => ?_⟩
        rw [Int.toNat_natCast]
        by_cases c : s = j
        · rw [c]; exact Or.inr ⟨rfl, Nat.le_refl _⟩
        · have := h.2 s (by omega)
          rw [hA] at this
          exact absurd this (by simp)
      · by_cases cp : pc j < pc b.toNat
        · rw [if_pos ⟨Or.inr cp, cA⟩]
          refine Or.inr ⟨by omega, by omega, by rw [Int.toNat_natCast]; exact cA, fun s hs hA => ?_⟩
          rw [Int.toNat_natCast]
          by_cases c : s = j
          · rw [c]; exact Or.inr ⟨rfl, Nat.le_refl _⟩
          · have := h.2.2.2 s (by omega) hA
            omega
        · rw [if_neg (by rintro ⟨z | z, _⟩ <;> omega)]
          refine Or.inr ⟨h.1, by omega, h.2.2.1, fun s hs hA => ?_⟩
          by_cases c : s = j
          · rw [c]; omega
          · exact h.2.2.2 s (by omega) hA
    · rw [if_neg (fun z => cA z.2)]
      have fA : A j = false := by
        cases hh : A j
        · rfl
        · exact absurd hh cA
      rcases h with h | h
      · refine Or.inl ⟨h.1, fun s hs => ?_⟩
        by_cases c : s = j
        · rw [c]; exact fA
        · exact h.2 s (by omega)
      · refine Or.inr ⟨h.1, by omega, h.2.2.1, fun s hs hA => ?_⟩
        by_cases c : s = j
        · rw [c] at hA; exact absurd hA cA
        · exact h.2.2.2 s (by omega) hA
def srch (A : Nat → Bool) (c : Nat) (next : Int) : Nat → Nat → Int
  | 0, _ => next
  | k + 1, j => if pc j = c ∧ A j = true then (j : Int) else srch A c next k (j + 1)
def outS (A : Nat → Bool) (S : Nat) : Nat → Nat → Int
  | 0, _ => -1
  | k + 1, c => srch A c (outS A S k (c + 1)) S 0
theorem srch_best {A : Nat → Bool} {S c : Nat} {next : Int} (h0 : ∀ s, s < S → pc s < c → A s = false) (hn : (∀ s, s < S → pc s < c + 1 → A s = false) → Bst A S next) : ∀ (k j : Nat), j + k = S → (∀ s, s < j → pc s = c → A s = false) → Bst A S (srch A c next k j)
  | 0, j, jk, hj => hn (fun s hs hp => by
      by_cases e : pc s = c
      · exact hj s (by omega) e
      · exact h0 s hs (by omega))
  | k + 1, j, jk, hj => by
    rw [srch]
    by_cases cc : pc j = c ∧ A j = true
    · rw [if_pos cc]
      refine Or.inr ⟨by omega, by rw [Int.toNat_natCast]; omega, by rw [Int.toNat_natCast]; exact cc.2, fun s hs hA => ?_⟩
      rw [Int.toNat_natCast]
      by_cases e1 : pc s < c
      · have := h0 s hs e1
        rw [hA] at this
        exact absurd this (by simp)
      · by_cases e2 : pc s = c
        · right
          refine ⟨by omega, ?_⟩
          by_cases e3 : s < j
          · have := hj s e3 e2
            rw [hA] at this
            exact absurd this (by simp)
          · omega
        · left
          omega
    · rw [if_neg cc]
      refine srch_best h0 hn k (j + 1) (by omega) (fun s hs hp => ?_)
      by_cases e : s = j
      · rw [e] at hp ⊢
        cases hh : A j
        · rfl
        · exact absurd ⟨hp, hh⟩ cc
      · exact hj s (by omega) hp
theorem pc_le : ∀ m, m < 9 → ∀ s, s < 2 ^ m → pc s ≤ m := by decide +kernel
theorem outS_best {A : Nat → Bool} {m : Nat} (hm : m < 9) : ∀ (k c : Nat), c + k = m + 1 → (∀ s, s < 2 ^ m → pc s < c → A s = false) → Bst A (2 ^ m) (outS A (2 ^ m) k c)
  | 0, c, ck, h0 => Or.inl ⟨rfl, fun s hs => h0 s hs (by have := pc_le m hm s hs; omega)⟩
  | k + 1, c, ck, h0 => srch_best h0 (fun h1 => outS_best hm k (c + 1) (by omega) h1) (2 ^ m) 0 (by omega) (fun s hs _ => by omega)
theorem rest_eq {A : Nat → Bool} {m : Nat} (hm : m < 9) : outS A (2 ^ m) (m + 1) 0 = refF A (2 ^ m) 0 (-1) := by
  have a := outS_best (A := A) hm (m + 1) 0 (by omega) (fun s _ h => by omega)
  have b := refF_best (A := A) (2 ^ m) 0 (-1) (Or.inl ⟨rfl, fun s h => by omega⟩)
  rw [Nat.zero_add] at b
  exact a.uni b
end REST
section RESTC
variable {d t : Nat} {h : mm_H} {pm hm N : Int} {fc kd n : Int → Int} {cp cm cf : List Int} {ev : Evs}
set_option maxHeartbeats 8000000 in
theorem C_lookIn_53 {set : Nat} {p : Int} (ht : mm_isT t) (hN : NI pm hm n) (h2 : set < 256) : ∀ (k j : Nat) (g : mm_H), ((j + k : Nat) : Int) = pm → SR g 205 pm hm fc kd (sparS n (j : Nat) set) → fd g 13 10 = pm → ∃ g', mm_D (mm_M mm_T0 (d + 5)) cd_X0_lookIn 53 [.ref 204, .ref t, .ref 13, .int (iI N), .int (iI (set : Nat)), .int (iI p), .int (iI (j : Nat))] [] g = mm_bV (mm_M mm_T0 (d + 5) 141 [.ref t, .ref 205, .int (iI N)] g') (fun h1 => mm_D (mm_M mm_T0 (d + 5)) cd_X0_lookIn 96 [.ref 204, .null, .null, .null, .int (iI (set : Nat)), .int (iI p), .int (iI 0)] [] h1) ∧ SR g' 205 pm hm fc kd (sparS n pm set) ∧ Kf (fun a _ => a = 210) nL g g'
  | 0, j, g, jk, hS, e => by
    have h8 := hN.1
    have ej : ((j : Nat) : Int) = pm := by omega
    refine ⟨g, ?_, by rw [ej] at hS; exact hS, Kf.refl⟩
    rw [U_X0_lookIn_53 ht isS_13]
    simp (disch := omega) only [iI_lit, jI_lit, iI_neg, jI_neg, iI_add, iI_sub, iI_mul, jI_add, jI_sub, jI_mul, rdI, rdL, iI_lt, iI_le, iI_eq, iI_nat, iI_b2_0, iI_b2_1, mm_bI_some, mm_bV_some, mm_bL_some, mm_bA_some, fd_wL, fd_wR, fl_wI, fl_wR, re_wI, re_wL, re_wC, ite_true, ite_false, not_true_eq_false, not_false_eq_true, lq_ge, lq_le, lq_gt, lq_lt, lq_eq, jI_lt, jI_le, jI_eq, if_pos, if_neg, e]
  | k + 1, j, g, jk, hS, e => by
    have h8 := hN.1
    have sh := shr_tab (x := set) (j := j) (by omega) (by omega)
    have bb : set / 2 ^ j % 2 < 2 := Nat.mod_lt _ (by omega)
    have e10 : fd g 205 10 = pm := hS.1
    have ss := S_setSparing (d := d + 3) (h := g) (p := (j : Nat)) (x := ((set / 2 ^ j % 2 : Nat) : Int)) isS_205 (by omega) (by omega)
    rw [if_pos (by omega)] at ss
    have S2 := SR_spare (p := (j : Nat)) (v := ((set / 2 ^ j % 2 : Nat) : Int)) hS (by omega) (by omega) h8.2 (by omega) (by omega)
    have e1 : ((j : Nat) : Int) + 1 = ((j + 1 : Nat) : Int) := by omega
    have es : up (sparS n (j : Nat) set) (3 + 3 * (j : Nat)) ((set / 2 ^ j % 2 : Nat) : Int) = sparS n ((j + 1 : Nat) : Int) set := by
      rw [← e1, sparS_s (by omega), Int.toNat_natCast]
    rw [es] at S2
    obtain ⟨g', m1, m2, m3⟩ := C_lookIn_53 ht hN h2 k (j + 1) _ (by omega) S2 ((fd_wI_row (by omega)).trans e)
    refine ⟨g', ?_, m2, Kf.trans (Kf.refl.wI (by omega)) m3⟩
    rw [← m1, U_X0_lookIn_53 ht isS_13]
    simp (disch := omega) only [iI_lit, jI_lit, iI_neg, jI_neg, iI_add, iI_sub, iI_mul, jI_add, jI_sub, jI_mul, rdI, rdL, iI_lt, iI_le, iI_eq, iI_nat, iI_b2_0, iI_b2_1, mm_bI_some, mm_bV_some, mm_bL_some, mm_bA_some, fd_wL, fd_wR, fl_wI, fl_wR, re_wI, re_wL, re_wC, ite_true, ite_false, not_true_eq_false, not_false_eq_true, lq_ge, lq_le, lq_gt, lq_lt, lq_eq, jI_lt, jI_le, jI_eq, if_pos, if_neg, e, sh, ss, e1]
set_option maxHeartbeats 8000000 in
theorem C_lookIn_96 {set : Nat} {p : Int} {m : Int → Int} (ht : mm_isT t) (hS : SR h 205 pm hm fc kd m) (h8 : 0 ≤ pm ∧ pm ≤ 8) (h2 : set < 256) (p0 : 0 ≤ p) (p1 : p < 8) : ∀ (k j : Nat) (g : mm_H), j + k = 8 → Kf (fun a _ => a = 215) nL h g → ∃ g', mm_D (mm_M mm_T0 (d + 2)) cd_X0_lookIn 96 [.ref 204, .null, .null, .null, .int (iI (set : Nat)), .int (iI p), .int (iI (j : Nat))] [] g = some (some (.int (iI (fd g' 215 (8 * set + p.toNat)))), g') ∧ (∀ z, fd g' 215 z = if 8 * set + j ≤ z ∧ z < 8 * set + 8 then (if ((z - 8 * set : Nat) : Int) < pm then m (2 + 3 * ((z - 8 * set : Nat) : Int)) else 0) else fd g 215 z) ∧ Kf (fun a _ => a = 215) nL g g'
  | 0, j, g, jk, K => by
    refine ⟨g, ?_, fun z => by rw [if_neg (by omega)], Kf.refl⟩
    rw [U_X0_lookIn_96 ht isS_13]
    have e : (((set : Nat) : Int) * 8 + p).toNat = 8 * set + p.toNat := by omega
    simp (disch := omega) only [iI_lit, jI_lit, iI_neg, jI_neg, iI_add, iI_sub, iI_mul, jI_add, jI_sub, jI_mul, rdI, rdL, iI_lt, iI_le, iI_eq, iI_nat, iI_b2_0, iI_b2_1, mm_bI_some, mm_bV_some, mm_bL_some, mm_bA_some, fd_wL, fd_wR, fl_wI, fl_wR, re_wI, re_wL, re_wC, ite_true, ite_false, not_true_eq_false, not_false_eq_true, lq_ge, lq_le, lq_gt, lq_lt, lq_eq, jI_lt, jI_le, jI_eq, if_pos, if_neg, e]
  | k + 1, j, g, jk, K => by
    have e10 : fd g 205 10 = pm := (K.1 _ _ (by omega)).trans hS.1
    have l := S_lookOf (d := d) (h := g) (p := (j : Nat)) isS_205 (by omega) (by omega)
    have lv : (if 0 ≤ ((j : Nat) : Int) ∧ ((j : Nat) : Int) < fd g 205 10 ∧ ((j : Nat) : Int) < 8 then fd g (205 + 4) ((j : Nat) : Int).toNat else 0) = (if ((j : Nat) : Int) < pm then m (2 + 3 * (j : Nat)) else 0) := by
      rw [e10]
      by_cases c : ((j : Nat) : Int) < pm
      · rw [if_pos c, if_pos (by omega), K.1 _ _ (by omega)]
        exact (hS.2.2.2.1 (j : Nat) (by omega) c).2.2.2.1
      · rw [if_neg c, if_neg (by omega)]
    rw [lv] at l
    have e1 : ((j : Nat) : Int) + 1 = ((j + 1 : Nat) : Int) := by omega
    have ex : (((set : Nat) : Int) * 8 + (j : Nat)).toNat = 8 * set + j := by omega
    obtain ⟨g', m1, m2, m3⟩ := C_lookIn_96 ht hS h8 h2 p0 p1 k (j + 1) (wI g 215 (8 * set + j) (iI (if ((j : Nat) : Int) < pm then m (2 + 3 * (j : Nat)) else 0))) (by omega) (K.wI rfl)
    have bv : -2147483648 ≤ (if ((j : Nat) : Int) < pm then m (2 + 3 * (j : Nat)) else 0) ∧ (if ((j : Nat) : Int) < pm then m (2 + 3 * (j : Nat)) else 0) < 2147483648 := by
      rw [← lv]
      have := fd_lo g (205 + 4) ((j : Nat) : Int).toNat
      have := fd_hi g (205 + 4) ((j : Nat) : Int).toNat
      split <;> omega
    refine ⟨g', ?_, fun z => ?_, Kf.trans (Kf.refl.wI rfl) m3⟩
    · rw [← m1, U_X0_lookIn_96 ht isS_13]
      simp (disch := omega) only [iI_lit, jI_lit, iI_neg, jI_neg, iI_add, iI_sub, iI_mul, jI_add, jI_sub, jI_mul, rdI, rdL, iI_lt, iI_le, iI_eq, iI_nat, iI_b2_0, iI_b2_1, mm_bI_some, mm_bV_some, mm_bL_some, mm_bA_some, fd_wL, fd_wR, fl_wI, fl_wR, re_wI, re_wL, re_wC, ite_true, ite_false, not_true_eq_false, not_false_eq_true, lq_ge, lq_le, lq_gt, lq_lt, lq_eq, jI_lt, jI_le, jI_eq, if_pos, if_neg, l, ex, e1]
    · rw [m2]
      by_cases c : 8 * set + (j + 1) ≤ z ∧ z < 8 * set + 8
      · rw [if_pos c, if_pos (show 8 * set + j ≤ z ∧ z < 8 * set + 8 by omega)]
      · rw [if_neg c]
        by_cases c2 : z = 8 * set + j
        · rw [if_pos (show 8 * set + j ≤ z ∧ z < 8 * set + 8 by omega), c2, fd_wI_same bv.1 bv.2, show 8 * set + j - 8 * set = j by omega]
        · rw [if_neg (show ¬ (8 * set + j ≤ z ∧ z < 8 * set + 8) by omega), fd_wI_col c2]
/-- outcomes that are known are right -/
def OKn (V : Nat → Int → Int) (pm : Int) (g : mm_H) : Prop := ∀ s, s < 256 → fd g 216 s ≠ 0 → ∀ p, 0 ≤ p → p < pm → fd g 215 (8 * s + p.toNat) = V s p
set_option maxHeartbeats 8000000 in
theorem C_lookIn {set : Nat} {p : Int} {g : mm_H} (ht : mm_isT t) (hF : FK pm fc kd) (N1 : 0 ≤ N) (N2 : N ≤ 20) (hC : CT h t cp cm cf) (hS : SR h 13 pm hm fc kd n) (hk : KeptC h 13 ev) (hl : ev.length < 9800000) (hN : NI pm hm n) (y : 0 ≤ n 0 ∧ n 0 + N ≤ 999) (h2 : set < 256) (p0 : 0 ≤ p) (p1 : p < pm) (K : Kf (SC t) nL h g) (O : OKn (outV cp cm hm pm fc kd n N) pm g) : ∃ g', mm_M mm_T0 (d + 6) 23 [.ref 204, .ref t, .ref 13, .int (iI N), .int (iI (set : Nat)), .int (iI p)] g = some (some (.int (iI (outV cp cm hm pm fc kd n N set p))), g') ∧ Kf (SC t) nL h g' ∧ OKn (outV cp cm hm pm fc kd n N) pm g' := by
  have h8 := hN.1
  have h9 := hN.2.1
  have tt := isT_or ht
  have e10 : fd g 13 10 = pm := (K.1 _ _ (by unfold SC; omega)).trans hS.1
  have ep : (((set : Nat) : Int) * 8 + p).toNat = 8 * set + p.toNat := by omega
  have ns : ((set : Nat) : Int).toNat = set := by omega
  have := fd_lo g 216 set; have := fd_hi g 216 set
  rw [U_X0_lookIn ht isS_13]
  by_cases c : fd g 216 set = 0
  · have Kw : Kf (SC t) nL h (wI g 216 set (iI 1)) := K.wI (by unfold SC; omega)
    obtain ⟨g1, m1, m2, m3⟩ := C_copy (d := d + 4) (h := wI g 216 set (iI 1)) isS_205 isS_13 (by omega)
    have K1 : Kf (SC t) nL h g1 := Kw.trans (m3.monoQ (fun a k q => by unfold QSc at q; unfold SC; omega))
    have S1 : SR g1 205 pm hm fc kd n := m2.SR h8.2 h9.2 (hS.kf Kw (by intro a j a1 a2; unfold SC; omega))
    have KC1 : KeptC g1 205 ev := m2.Kept (hk.kf Kw (by intro a j a1 a2; unfold SC; omega))
    obtain ⟨g2, q1, q2, q3⟩ := C_lookIn_53 (d := d) (N := N) (p := p) ht hN h2 pm.toNat 0 g1 (by omega) (by rw [show ((0 : Nat) : Int) = 0 from rfl, sparS_0]; exact S1) ((K1.1 _ _ (by unfold SC; omega)).trans hS.1)
    have K2 : Kf (SC t) nL h g2 := K1.trans (q3.monoQ (fun a k q => by unfold SC; omega))
    have nn := sparS_NI (set := set) hN h8.1 (Int.le_refl pm)
    have n0 : sparS n pm set 0 = n 0 := sparS_ne (by omega)
    obtain ⟨g3, r1, r2, r3, r4, r5⟩ := C_tryYears (d := d) (N := N) ht hF N1 (by omega) (hC.kf3 K2 (by intro a j; unfold NC SC; omega)) q2 (KC1.congr (q3.1 _ _ (by omega)) (fun j => q3.1 _ _ (by omega))) (by omega) nn (by omega)
    have K3 : Kf (SC t) nL h g3 := K2.trans (r5.monoQ QY_SC)
    obtain ⟨g4, s1, s2, s3⟩ := C_lookIn_96 (d := d + 3) (set := set) (p := p) ht r2 h8 h2 p0 (by omega) 8 0 g3 (by omega) Kf.refl
    have k215 : ∀ z, fd g3 215 z = fd g 215 z := by
      intro z
      rw [r5.1 _ _ (by unfold QY; omega), q3.1 _ _ (by omega), m3.1 _ _ (by unfold QSc; omega), fd_wI_row (by omega)]
    have k216 : ∀ z, fd g4 216 z = fd (wI g 216 set (iI 1)) 216 z := by
      intro z
      rw [s3.1 _ _ (by omega), r5.1 _ _ (by unfold QY; omega), q3.1 _ _ (by omega), m3.1 _ _ (by unfold QSc; omega)]
    have val : fd g4 215 (8 * set + p.toNat) = outV cp cm hm pm fc kd n N set p := by
      rw [s2, if_pos (by omega), show 8 * set + p.toNat - 8 * set = p.toNat by omega, show ((p.toNat : Nat) : Int) = p by omega, if_pos p1]
      rfl
    refine ⟨g4, ?_, K3.trans (s3.monoQ (fun a k q => by unfold SC; omega)), fun s hs hn q q0 q1' => ?_⟩
    · rw [val] at s1
      rw [show ((0 : Nat) : Int) = 0 from rfl] at q1 s1
      simp (disch := omega) only [iI_lit, jI_lit, iI_neg, jI_neg, iI_add, iI_sub, iI_mul, jI_add, jI_sub, jI_mul, rdI, rdL, iI_lt, iI_le, iI_eq, iI_nat, iI_b2_0, iI_b2_1, mm_bI_some, mm_bV_some, mm_bL_some, mm_bA_some, fd_wL, fd_wR, fl_wI, fl_wR, re_wI, re_wL, re_wC, ite_true, ite_false, not_true_eq_false, not_false_eq_true, lq_ge, lq_le, lq_gt, lq_lt, lq_eq, jI_lt, jI_le, jI_eq, if_pos, if_neg, S_isPerson isS_13, e10, ns, c, m1, q1, r1, s1]
    · rw [s2]
      by_cases cs : s = set
      · rw [cs, if_pos (by omega), show 8 * set + q.toNat - 8 * set = q.toNat by omega, show ((q.toNat : Nat) : Int) = q by omega, if_pos q1']
        rfl
      · rw [if_neg (by omega), k215]
        rw [k216, fd_wI_col cs] at hn
        exact O s hs hn q q0 q1'
  · refine ⟨g, ?_, K, O⟩
    have v := O set h2 c p p0 p1
    simp (disch := omega) only [iI_lit, jI_lit, iI_neg, jI_neg, iI_add, iI_sub, iI_mul, jI_add, jI_sub, jI_mul, rdI, rdL, iI_lt, iI_le, iI_eq, iI_nat, iI_b2_0, iI_b2_1, mm_bI_some, mm_bV_some, mm_bL_some, mm_bA_some, fd_wL, fd_wR, fl_wI, fl_wR, re_wI, re_wL, re_wC, ite_true, ite_false, not_true_eq_false, not_false_eq_true, lq_ge, lq_le, lq_gt, lq_lt, lq_eq, jI_lt, jI_le, jI_eq, if_pos, if_neg, S_isPerson isS_13, e10, ns, ep, v]
set_option maxHeartbeats 8000000 in
theorem C_atRest_3 {set m : Nat} (ht : mm_isT t) (hF : FK pm fc kd) (N1 : 0 ≤ N) (N2 : N ≤ 20) (hC : CT h t cp cm cf) (hS : SR h 13 pm hm fc kd n) (hk : KeptC h 13 ev) (hl : ev.length < 9800000) (hN : NI pm hm n) (y : 0 ≤ n 0 ∧ n 0 + N ≤ 999) (em : pm.toNat = m) (h2 : set < 2 ^ m) : ∀ (k j : Nat) (g : mm_H), ((j + k : Nat) : Int) = pm → Kf (SC t) nL h g → OKn (outV cp cm hm pm fc kd n N) pm g → ∃ g', mm_D (mm_M mm_T0 (d + 6)) cd_X0_isAtRest 3 [.ref 204, .ref t, .ref 13, .int (iI N), .int (iI (set : Nat)), .int (iI (j : Nat)), .null] [] g = some (some (.int (iI (b2 (arS (outV cp cm hm pm fc kd n N) set k j = true)))), g') ∧ Kf (SC t) nL h g' ∧ OKn (outV cp cm hm pm fc kd n N) pm g'
  | 0, j, g, jk, K, O => by
    have h8 := hN.1
    have tt := isT_or ht
    have e10 : fd g 13 10 = pm := (K.1 _ _ (by unfold SC; omega)).trans hS.1
    refine ⟨g, ?_, K, O⟩
    rw [arS, b2_t rfl, U_X0_isAtRest_3 ht isS_13]
    simp (disch := omega) only [iI_lit, jI_lit, iI_neg, jI_neg, iI_add, iI_sub, iI_mul, jI_add, jI_sub, jI_mul, rdI, rdL, iI_lt, iI_le, iI_eq, iI_nat, iI_b2_0, iI_b2_1, mm_bI_some, mm_bV_some, mm_bL_some, mm_bA_some, fd_wL, fd_wR, fl_wI, fl_wR, re_wI, re_wL, re_wC, ite_true, ite_false, not_true_eq_false, not_false_eq_true, lq_ge, lq_le, lq_gt, lq_lt, lq_eq, jI_lt, jI_le, jI_eq, if_pos, if_neg, e10]
  | k + 1, j, g, jk, K, O => by
    have h8 := hN.1
    have tt := isT_or ht
    have lp := p28 (m := m) (by omega)
    have e10 : fd g 13 10 = pm := (K.1 _ _ (by unfold SC; omega)).trans hS.1
    have xl := xor_lt h2 (j := j) (by omega)
    have xt := xor_tab (x := set) (j := j) (by omega) (by omega)
    obtain ⟨g1, m1, m2, m3⟩ := C_lookIn (d := d) (set := set ^^^ 2 ^ j) (p := (j : Nat)) ht hF N1 N2 hC hS hk hl hN y (by omega) (by omega) (by omega) K O
    obtain ⟨g2, q1, q2, q3⟩ := C_lookIn (d := d) (set := set) (p := (j : Nat)) ht hF N1 N2 hC hS hk hl hN y (by omega) (by omega) (by omega) m2 m3
    have b1 := outV_b (cp := cp) (cm := cm) (fc := fc) (kd := kd) (N := N) (set := set) (p := (j : Nat)) hN (by omega) (by omega)
    have b2' := outV_b (cp := cp) (cm := cm) (fc := fc) (kd := kd) (N := N) (set := set ^^^ 2 ^ j) (p := (j : Nat)) hN (by omega) (by omega)
    have e1 : ((j : Nat) : Int) + 1 = ((j + 1 : Nat) : Int) := by omega
    by_cases c : outV cp cm hm pm fc kd n N set (j : Nat) < outV cp cm hm pm fc kd n N (set ^^^ 2 ^ j) (j : Nat)
    · refine ⟨g2, ?_, q2, q3⟩
      rw [arS, if_pos c, b2_f (by simp), U_X0_isAtRest_3 ht isS_13]
      simp (disch := omega) only [iI_lit, jI_lit, iI_neg, jI_neg, iI_add, iI_sub, iI_mul, jI_add, jI_sub, jI_mul, rdI, rdL, iI_lt, iI_le, iI_eq, iI_nat, iI_b2_0, iI_b2_1, mm_bI_some, mm_bV_some, mm_bL_some, mm_bA_some, fd_wL, fd_wR, fl_wI, fl_wR, re_wI, re_wL, re_wC, ite_true, ite_false, not_true_eq_false, not_false_eq_true, lq_ge, lq_le, lq_gt, lq_lt, lq_eq, jI_lt, jI_le, jI_eq, if_pos, if_neg, e10, xt, m1, q1]
    · obtain ⟨g', z1, z2, z3⟩ := C_atRest_3 ht hF N1 N2 hC hS hk hl hN y em h2 k (j + 1) g2 (by omega) q2 q3
      refine ⟨g', ?_, z2, z3⟩
      rw [arS, if_neg c, ← z1, U_X0_isAtRest_3 ht isS_13]
      simp (disch := omega) only [iI_lit, jI_lit, iI_neg, jI_neg, iI_add, iI_sub, iI_mul, jI_add, jI_sub, jI_mul, rdI, rdL, iI_lt, iI_le, iI_eq, iI_nat, iI_b2_0, iI_b2_1, mm_bI_some, mm_bV_some, mm_bL_some, mm_bA_some, fd_wL, fd_wR, fl_wI, fl_wR, re_wI, re_wL, re_wC, ite_true, ite_false, not_true_eq_false, not_false_eq_true, lq_ge, lq_le, lq_gt, lq_lt, lq_eq, jI_lt, jI_le, jI_eq, if_pos, if_neg, e10, xt, m1, q1, e1]
set_option maxHeartbeats 8000000 in
theorem C_rest_53 {m c : Nat} {next : Int} (ht : mm_isT t) (rt : h.2.2 0 10 = t) (hF : FK pm fc kd) (N1 : 0 ≤ N) (N2 : N ≤ 20) (hC : CT h t cp cm cf) (hS : SR h 13 pm hm fc kd n) (hk : KeptC h 13 ev) (hl : ev.length < 9800000) (hN : NI pm hm n) (y : 0 ≤ n 0 ∧ n 0 + N ≤ 999) (em : pm.toNat = m) (hc : c < 100) (cont : ∀ g, Kf (SC t) nL h g → OKn (outV cp cm hm pm fc kd n N) pm g → ∃ g', mm_D (mm_M mm_T0 (d + 7)) cd_X11_rest 39 [.ref 0, .int (iI N), .int (iI ((2 ^ m : Nat) : Int)), .int (iI ((c + 1 : Nat) : Int)), .null] [] g = some (some (.int (iI next)), g') ∧ Kf (SC t) nL h g') : ∀ (k j : Nat) (g : mm_H), j + k = 2 ^ m → Kf (SC t) nL h g → OKn (outV cp cm hm pm fc kd n N) pm g → ∃ g', mm_D (mm_M mm_T0 (d + 7)) cd_X11_rest 53 [.ref 0, .int (iI N), .int (iI ((2 ^ m : Nat) : Int)), .int (iI (c : Nat)), .int (iI (j : Nat))] [] g = some (some (.int (iI (srch (fun s => arS (outV cp cm hm pm fc kd n N) s m 0) c next k j))), g') ∧ Kf (SC t) nL h g'
  | 0, j, g, jk, K, O => by
    have h8 := hN.1
    have lp := p28 (m := m) (by omega)
    obtain ⟨g', m1, m2⟩ := cont g K O
    have e1 : ((c : Nat) : Int) + 1 = ((c + 1 : Nat) : Int) := by omega
    refine ⟨g', ?_, m2⟩
    rw [srch, ← m1, U_X11_rest_53]
    simp (disch := omega) only [iI_lit, jI_lit, iI_neg, jI_neg, iI_add, iI_sub, iI_mul, jI_add, jI_sub, jI_mul, rdI, rdL, iI_lt, iI_le, iI_eq, iI_nat, iI_b2_0, iI_b2_1, mm_bI_some, mm_bV_some, mm_bL_some, mm_bA_some, fd_wL, fd_wR, fl_wI, fl_wR, re_wI, re_wL, re_wC, ite_true, ite_false, not_true_eq_false, not_false_eq_true, lq_ge, lq_le, lq_gt, lq_lt, lq_eq, jI_lt, jI_le, jI_eq, if_pos, if_neg, e1]
  | k + 1, j, g, jk, K, O => by
    have h8 := hN.1
    have lp := p28 (m := m) (by omega)
    have pb : ∀ x, x < 512 → pc x < 10 := by decide +kernel
    have q1 := pb j (by omega)
    have j1 := fun d => J_bits (d := d) (h := g) (x := j) (by omega)
    have e1 : ((j : Nat) : Int) + 1 = ((j + 1 : Nat) : Int) := by omega
    by_cases c1 : pc j = c
    · obtain ⟨g1, m1, m2, m3⟩ := C_atRest_3 (d := d) (set := j) ht hF N1 N2 hC hS hk hl hN y em (by omega) m 0 g (by omega) K O
      have m1' : mm_M mm_T0 (d + 7) 22 [.ref 204, .ref t, .ref 13, .int (iI N), .int (iI (j : Nat))] g = some (some (.int (iI (b2 (arS (outV cp cm hm pm fc kd n N) j m 0 = true)))), g1) := by
        rw [U_X0_isAtRest ht isS_13]
        exact m1
      have rg : g.2.2 0 10 = t := by rw [K.2.2]; exact rt
      by_cases c2 : arS (outV cp cm hm pm fc kd n N) j m 0 = true
      · rw [b2_t c2] at m1'
        refine ⟨g1, ?_, m2⟩
        rw [srch, if_pos ⟨c1, c2⟩, U_X11_rest_53]
        simp (disch := omega) only [iI_lit, jI_lit, iI_neg, jI_neg, iI_add, iI_sub, iI_mul, jI_add, jI_sub, jI_mul, rdI, rdL, iI_lt, iI_le, iI_eq, iI_nat, iI_b2_0, iI_b2_1, mm_bI_some, mm_bV_some, mm_bL_some, mm_bA_some, fd_wL, fd_wR, fl_wI, fl_wR, re_wI, re_wL, re_wC, ite_true, ite_false, not_true_eq_false, not_false_eq_true, lq_ge, lq_le, lq_gt, lq_lt, lq_eq, jI_lt, jI_le, jI_eq, if_pos, if_neg, j1, c1, rg, m1']
      · rw [b2_f c2] at m1'
        obtain ⟨g', z1, z2⟩ := C_rest_53 ht rt hF N1 N2 hC hS hk hl hN y em hc cont k (j + 1) g1 (by omega) m2 m3
        refine ⟨g', ?_, z2⟩
        rw [srch, if_neg (fun z => c2 z.2), ← z1, U_X11_rest_53]
        simp (disch := omega) only [iI_lit, jI_lit, iI_neg, jI_neg, iI_add, iI_sub, iI_mul, jI_add, jI_sub, jI_mul, rdI, rdL, iI_lt, iI_le, iI_eq, iI_nat, iI_b2_0, iI_b2_1, mm_bI_some, mm_bV_some, mm_bL_some, mm_bA_some, fd_wL, fd_wR, fl_wI, fl_wR, re_wI, re_wL, re_wC, ite_true, ite_false, not_true_eq_false, not_false_eq_true, lq_ge, lq_le, lq_gt, lq_lt, lq_eq, jI_lt, jI_le, jI_eq, if_pos, if_neg, j1, c1, rg, m1', e1]
    · obtain ⟨g', z1, z2⟩ := C_rest_53 ht rt hF N1 N2 hC hS hk hl hN y em hc cont k (j + 1) g (by omega) K O
      refine ⟨g', ?_, z2⟩
      rw [srch, if_neg (fun z => c1 z.1), ← z1, U_X11_rest_53]
      simp (disch := omega) only [iI_lit, jI_lit, iI_neg, jI_neg, iI_add, iI_sub, iI_mul, jI_add, jI_sub, jI_mul, rdI, rdL, iI_lt, iI_le, iI_eq, iI_nat, iI_b2_0, iI_b2_1, mm_bI_some, mm_bV_some, mm_bL_some, mm_bA_some, fd_wL, fd_wR, fl_wI, fl_wR, re_wI, re_wL, re_wC, ite_true, ite_false, not_true_eq_false, not_false_eq_true, lq_ge, lq_le, lq_gt, lq_lt, lq_eq, jI_lt, jI_le, jI_eq, if_pos, if_neg, j1, e1]
set_option maxHeartbeats 8000000 in
theorem C_rest_39 {m : Nat} (ht : mm_isT t) (rt : h.2.2 0 10 = t) (hF : FK pm fc kd) (N1 : 0 ≤ N) (N2 : N ≤ 20) (hC : CT h t cp cm cf) (hS : SR h 13 pm hm fc kd n) (hk : KeptC h 13 ev) (hl : ev.length < 9800000) (hN : NI pm hm n) (y : 0 ≤ n 0 ∧ n 0 + N ≤ 999) (em : pm.toNat = m) : ∀ (k c : Nat) (g : mm_H), c + k = m + 1 → Kf (SC t) nL h g → OKn (outV cp cm hm pm fc kd n N) pm g → ∃ g', mm_D (mm_M mm_T0 (d + 7)) cd_X11_rest 39 [.ref 0, .int (iI N), .int (iI ((2 ^ m : Nat) : Int)), .int (iI (c : Nat)), .null] [] g = some (some (.int (iI (outS (fun s => arS (outV cp cm hm pm fc kd n N) s m 0) (2 ^ m) k c))), g') ∧ Kf (SC t) nL h g'
  | 0, c, g, ck, K, O => by
    have h8 := hN.1
    have tt := isT_or ht
    have e10 : fd g 13 10 = pm := (K.1 _ _ (by unfold SC; omega)).trans hS.1
    refine ⟨g, ?_, K⟩
    rw [outS]
    rw [U_X11_rest_39]
    simp (disch := omega) only [iI_lit, jI_lit, iI_neg, jI_neg, iI_add, iI_sub, iI_mul, jI_add, jI_sub, jI_mul, rdI, rdL, iI_lt, iI_le, iI_eq, iI_nat, iI_b2_0, iI_b2_1, mm_bI_some, mm_bV_some, mm_bL_some, mm_bA_some, fd_wL, fd_wR, fl_wI, fl_wR, re_wI, re_wL, re_wC, ite_true, ite_false, not_true_eq_false, not_false_eq_true, lq_ge, lq_le, lq_gt, lq_lt, lq_eq, jI_lt, jI_le, jI_eq, if_pos, if_neg, e10]
  | k + 1, c, g, ck, K, O => by
    have h8 := hN.1
    have tt := isT_or ht
    have e10 : fd g 13 10 = pm := (K.1 _ _ (by unfold SC; omega)).trans hS.1
    obtain ⟨g', z1, z2⟩ := C_rest_53 (d := d) (next := outS (fun s => arS (outV cp cm hm pm fc kd n N) s m 0) (2 ^ m) k (c + 1)) ht rt hF N1 N2 hC hS hk hl hN y em (c := c) (by omega) (fun g K O => C_rest_39 ht rt hF N1 N2 hC hS hk hl hN y em k (c + 1) g (by omega) K O) (2 ^ m) 0 g (by omega) K O
    refine ⟨g', ?_, z2⟩
    rw [show ((0 : Nat) : Int) = 0 from rfl] at z1
    rw [outS, ← z1, U_X11_rest_39]
    simp (disch := omega) only [iI_lit, jI_lit, iI_neg, jI_neg, iI_add, iI_sub, iI_mul, jI_add, jI_sub, jI_mul, rdI, rdL, iI_lt, iI_le, iI_eq, iI_nat, iI_b2_0, iI_b2_1, mm_bI_some, mm_bV_some, mm_bL_some, mm_bA_some, fd_wL, fd_wR, fl_wI, fl_wR, re_wI, re_wL, re_wC, ite_true, ite_false, not_true_eq_false, not_false_eq_true, lq_ge, lq_le, lq_gt, lq_lt, lq_eq, jI_lt, jI_le, jI_eq, if_pos, if_neg, e10]
set_option maxHeartbeats 8000000 in
theorem C_forget_2 : ∀ (k j : Nat) (g : mm_H), j + k = 256 → (∀ s, s < j → fd g 216 s = 0) → ∃ g', mm_D (mm_M mm_T0 d) cd_X0_forgetOutcomes 2 [.ref 204, .int (iI (j : Nat))] [] g = some (none, g') ∧ (∀ s, s < 256 → fd g' 216 s = 0) ∧ Kf (fun a _ => a = 216) nL g g'
  | 0, j, g, jk, hj => by
    refine ⟨g, ?_, fun s hs => hj s (by omega), Kf.refl⟩
    rw [U_X0_forgetOutcomes_2]
    simp (disch := omega) only [iI_lit, jI_lit, iI_neg, jI_neg, iI_add, iI_sub, iI_mul, jI_add, jI_sub, jI_mul, rdI, rdL, iI_lt, iI_le, iI_eq, iI_nat, iI_b2_0, iI_b2_1, mm_bI_some, mm_bV_some, mm_bL_some, mm_bA_some, fd_wL, fd_wR, fl_wI, fl_wR, re_wI, re_wL, re_wC, ite_true, ite_false, not_true_eq_false, not_false_eq_true, lq_ge, lq_le, lq_gt, lq_lt, lq_eq, jI_lt, jI_le, jI_eq, if_pos, if_neg]
  | k + 1, j, g, jk, hj => by
    have e1 : ((j : Nat) : Int) + 1 = ((j + 1 : Nat) : Int) := by omega
    obtain ⟨g', m1, m2, m3⟩ := C_forget_2 k (j + 1) (wI g 216 j (iI 0)) (by omega) (fun s hs => by
      by_cases c : s = j
      · rw [c, fd_wI_same (by omega) (by omega)]
      · rw [fd_wI_col c]; exact hj s (by omega))
    refine ⟨g', ?_, m2, Kf.trans (Kf.refl.wI rfl) m3⟩
    rw [U_X0_forgetOutcomes_2, ← m1]
    simp (disch := omega) only [iI_lit, jI_lit, iI_neg, jI_neg, iI_add, iI_sub, iI_mul, jI_add, jI_sub, jI_mul, rdI, rdL, iI_lt, iI_le, iI_eq, iI_nat, iI_b2_0, iI_b2_1, mm_bI_some, mm_bV_some, mm_bL_some, mm_bA_some, fd_wL, fd_wR, fl_wI, fl_wR, re_wI, re_wL, re_wC, ite_true, ite_false, not_true_eq_false, not_false_eq_true, lq_ge, lq_le, lq_gt, lq_lt, lq_eq, jI_lt, jI_le, jI_eq, if_pos, if_neg, e1, Int.toNat_natCast]
/-! and in the reference -/
def E302 : Nat → Nat → Prop := fun a _ => a = 302
set_option maxHeartbeats 8000000 in
theorem R_lays_18 {set : Nat} {B : Int} {h : mm_H} (hN : NI pm hm n) (h2 : set < 256) : ∀ (k j : Nat) (g : mm_H), ((j + k : Nat) : Int) = pm → TR E302 h g B → RT g pm hm fc kd cp cm cf → RepR g (sparS n (j : Nat) set) → ∃ g', mm_D (mm_M mm_T0 (d + 7)) cd_X12_laysThen 18 [.ref 264, .int (iI N), .int (iI (set : Nat)), .int (iI (j : Nat))] [] g = mm_bV (mm_M mm_T0 (d + 7) 234 [.ref 264, .int (iI N)] g') (fun h1 => mm_D (mm_M mm_T0 (d + 7)) cd_X12_laysThen 54 [.ref 264, .int (iI N), .int (iI (set : Nat)), .int (iI 0)] [] h1) ∧ TR E302 h g' B ∧ RT g' pm hm fc kd cp cm cf ∧ RepR g' (sparS n pm set) ∧ Kf (fun a k => a = 300 ∧ k < 89) nL g g'
  | 0, j, g, jk, T, hT, hr => by
    have h8 := hN.1
    have e40 : fd g 264 40 = pm := hT.1
    have ej : ((j : Nat) : Int) = pm := by omega
    refine ⟨g, ?_, T, hT, by rw [ej] at hr; exact hr, Kf.refl⟩
    rw [U_X12_laysThen_18]
    simp (disch := omega) only [iI_lit, jI_lit, iI_neg, jI_neg, iI_add, iI_sub, iI_mul, jI_add, jI_sub, jI_mul, rdI, rdL, iI_lt, iI_le, iI_eq, iI_nat, iI_b2_0, iI_b2_1, mm_bI_some, mm_bV_some, mm_bL_some, mm_bA_some, fd_wL, fd_wR, fl_wI, fl_wR, re_wI, re_wL, re_wC, ite_true, ite_false, not_true_eq_false, not_false_eq_true, lq_ge, lq_le, lq_gt, lq_lt, lq_eq, jI_lt, jI_le, jI_eq, if_pos, if_neg, e40]
  | k + 1, j, g, jk, T, hT, hr => by
    have h8 := hN.1
    have e40 : fd g 264 40 = pm := hT.1
    have sh := shr_tab (x := set) (j := j) (by omega) (by omega)
    have bb : set / 2 ^ j % 2 < 2 := Nat.mod_lt _ (by omega)
    have e1 : ((j : Nat) : Int) + 1 = ((j + 1 : Nat) : Int) := by omega
    have es : up (sparS n (j : Nat) set) (3 + 3 * (j : Nat)) ((set / 2 ^ j % 2 : Nat) : Int) = sparS n ((j + 1 : Nat) : Int) set := by
      rw [← e1, sparS_s (by omega), Int.toNat_natCast]
    have r2 := hr.w (z := 3 + 3 * (j : Nat)) (v := ((set / 2 ^ j % 2 : Nat) : Int)) (by omega) (by omega) (by omega)
    rw [es] at r2
    have kw : Kf (fun a k => a = 300 ∧ k < 89) nL g (wI g 300 (3 + 3 * ((j : Nat) : Int)).toNat (iI ((set / 2 ^ j % 2 : Nat) : Int))) := Kf.refl.wI (by omega)
    obtain ⟨g', m1, m2, m3, m4, m5⟩ := R_lays_18 hN h2 k (j + 1) _ (by omega) (T.st kw) (hT.kf2 kw (by intro a j; unfold NR; omega)) r2
    refine ⟨g', ?_, m2, m3, m4, kw.trans m5⟩
    rw [← m1, U_X12_laysThen_18]
    simp (disch := omega) only [iI_lit, jI_lit, iI_neg, jI_neg, iI_add, iI_sub, iI_mul, jI_add, jI_sub, jI_mul, rdI, rdL, iI_lt, iI_le, iI_eq, iI_nat, iI_b2_0, iI_b2_1, mm_bI_some, mm_bV_some, mm_bL_some, mm_bA_some, fd_wL, fd_wR, fl_wI, fl_wR, re_wI, re_wL, re_wC, ite_true, ite_false, not_true_eq_false, not_false_eq_true, lq_ge, lq_le, lq_gt, lq_lt, lq_eq, jI_lt, jI_le, jI_eq, if_pos, if_neg, e40, sh, e1]
set_option maxHeartbeats 8000000 in
theorem R_lays_54 {set : Nat} {B : Int} {h : mm_H} {m n0 : Int → Int} (h8 : 0 ≤ pm ∧ pm ≤ 8) (h0 : RepR h n0) (h2 : set < 256) : ∀ (k j : Nat) (g : mm_H), ((j + k : Nat) : Int) = pm → TR E302 h g B → RT g pm hm fc kd cp cm cf → RepR g m → ∃ g', mm_D (mm_M mm_T0 (d + 7)) cd_X12_laysThen 54 [.ref 264, .int (iI N), .int (iI (set : Nat)), .int (iI (j : Nat))] [] g = mm_D (mm_M mm_T0 (d + 7)) cd_X12_laysThen 6 [.ref 264, .int (iI N), .int (iI ((set + 1 : Nat) : Int)), .null] [] g' ∧ TR E302 h g' B ∧ RT g' pm hm fc kd cp cm cf ∧ RepR g' n0 ∧ (∀ z, fd g' 302 z = if 8 * set + j ≤ z ∧ (z : Int) < 8 * set + pm then m (2 + 3 * ((z - 8 * set : Nat) : Int)) else fd g 302 z)
  | 0, j, g, jk, T, hT, hr => by
    have e40 : fd g 264 40 = pm := hT.1
    obtain ⟨g', m1, m2, m3, m4, m5⟩ := T.anew (d := d + 6) hT h0
    have e1 : ((set : Nat) : Int) + 1 = ((set + 1 : Nat) : Int) := by omega
    refine ⟨g', ?_, m2, m3, m4, fun z => by rw [if_neg (by omega), m5.1 _ _ (by omega)]⟩
    rw [U_X12_laysThen_54]
    simp (disch := omega) only [iI_lit, jI_lit, iI_neg, jI_neg, iI_add, iI_sub, iI_mul, jI_add, jI_sub, jI_mul, rdI, rdL, iI_lt, iI_le, iI_eq, iI_nat, iI_b2_0, iI_b2_1, mm_bI_some, mm_bV_some, mm_bL_some, mm_bA_some, fd_wL, fd_wR, fl_wI, fl_wR, re_wI, re_wL, re_wC, ite_true, ite_false, not_true_eq_false, not_false_eq_true, lq_ge, lq_le, lq_gt, lq_lt, lq_eq, jI_lt, jI_le, jI_eq, if_pos, if_neg, e40, m1, e1]
  | k + 1, j, g, jk, T, hT, hr => by
    have e40 : fd g 264 40 = pm := hT.1
    have z := hr (2 + 3 * (j : Nat)) (by omega) (by omega)
    have bv : -2147483648 ≤ m (2 + 3 * (j : Nat)) ∧ m (2 + 3 * (j : Nat)) < 2147483648 := by
      rw [← z]
      exact ⟨fd_lo _ _ _, fd_hi _ _ _⟩
    have e1 : ((j : Nat) : Int) + 1 = ((j + 1 : Nat) : Int) := by omega
    have ex : (8 * ((set : Nat) : Int) + (j : Nat)).toNat = 8 * set + j := by omega
    have kw : Kf (fun a _ => a = 302) nL g (wI g 302 (8 * set + j) (iI (m (2 + 3 * (j : Nat))))) := Kf.refl.wI rfl
    obtain ⟨g', m1, m2, m3, m4, m5⟩ := R_lays_54 h8 h0 h2 k (j + 1) _ (by omega) (T.ext kw (by intro a k q; unfold E302; omega)) (hT.kf2 kw (by intro a j; unfold NR; omega)) (hr.kf kw (by intro j hj; omega))
    refine ⟨g', ?_, m2, m3, m4, fun x => ?_⟩
    · rw [← m1, U_X12_laysThen_54]
      simp (disch := omega) only [iI_lit, jI_lit, iI_neg, jI_neg, iI_add, iI_sub, iI_mul, jI_add, jI_sub, jI_mul, rdI, rdL, iI_lt, iI_le, iI_eq, iI_nat, iI_b2_0, iI_b2_1, mm_bI_some, mm_bV_some, mm_bL_some, mm_bA_some, fd_wL, fd_wR, fl_wI, fl_wR, re_wI, re_wL, re_wC, ite_true, ite_false, not_true_eq_false, not_false_eq_true, lq_ge, lq_le, lq_gt, lq_lt, lq_eq, jI_lt, jI_le, jI_eq, if_pos, if_neg, e40, R_lookOf, z, ex, e1]
    · rw [m5]
      by_cases c : 8 * set + (j + 1) ≤ x ∧ (x : Int) < 8 * set + pm
      · rw [if_pos c, if_pos (by omega)]
      · rw [if_neg c]
        by_cases c2 : x = 8 * set + j
        · rw [if_pos (by omega), c2, fd_wI_same bv.1 bv.2, show 8 * set + j - 8 * set = j by omega]
        · rw [if_neg (by omega), fd_wI_col c2]
set_option maxHeartbeats 8000000 in
theorem R_lays_6 {m : Nat} {h : mm_H} (hF : FK pm fc kd) (N1 : 0 ≤ N) (N2 : N ≤ 20) (h0 : RepR h n) (h65 : fd h 264 65 < 62000000) (hN : NI pm hm n) (y : 0 ≤ n 0 ∧ n 0 + N ≤ 999) (em : pm.toNat = m) : ∀ (k j : Nat) (B : Int) (g : mm_H), j + k = 2 ^ m → (0 ≤ B ∧ B + 360 * k ≤ 92160) → TR E302 h g B → RT g pm hm fc kd cp cm cf → RepR g n → (∀ s, s < j → ∀ p, 0 ≤ p → p < pm → fd g 302 (8 * s + p.toNat) = outV cp cm hm pm fc kd n N s p) → ∃ g', mm_D (mm_M mm_T0 (d + 7)) cd_X12_laysThen 6 [.ref 264, .int (iI N), .int (iI (j : Nat)), .null] [] g = some (none, g') ∧ Kf (QTb E302) LE3 h g' ∧ fd g' 264 64 = 0 ∧ (0 ≤ fd g' 264 65 ∧ fd g' 264 65 ≤ fd h 264 65 + 92160) ∧ fd g' 264 40 = pm ∧ (∀ s, s < 2 ^ m → ∀ p, 0 ≤ p → p < pm → fd g' 302 (8 * s + p.toNat) = outV cp cm hm pm fc kd n N s p)
  | 0, j, B, g, jk, hB, T, hT, hr, O => by
    have h8 := hN.1
    have lp := p28 (m := m) (by omega)
    have e40 : fd g 264 40 = ((m : Nat) : Int) := by rw [hT.1]; omega
    have sl := shl_tab (j := m) (by omega)
    obtain ⟨g', m1, m2, m3, m4, m5⟩ := T.back (d := d + 5)
    refine ⟨g', ?_, m2, m3, by omega, (m5.1 _ _ (by omega)).trans hT.1, fun s hs p p0 p1 => by rw [m5.1 _ _ (by omega)]; exact O s (by omega) p p0 p1⟩
    rw [U_X12_laysThen_6]
    simp (disch := omega) only [iI_lit, jI_lit, iI_neg, jI_neg, iI_add, iI_sub, iI_mul, jI_add, jI_sub, jI_mul, rdI, rdL, iI_lt, iI_le, iI_eq, iI_nat, iI_b2_0, iI_b2_1, mm_bI_some, mm_bV_some, mm_bL_some, mm_bA_some, fd_wL, fd_wR, fl_wI, fl_wR, re_wI, re_wL, re_wC, ite_true, ite_false, not_true_eq_false, not_false_eq_true, lq_ge, lq_le, lq_gt, lq_lt, lq_eq, jI_lt, jI_le, jI_eq, if_pos, if_neg, e40, sl, m1]
  | k + 1, j, B, g, jk, hB, T, hT, hr, O => by
    have h8 := hN.1
    have lp := p28 (m := m) (by omega)
    have e40 : fd g 264 40 = ((m : Nat) : Int) := by rw [hT.1]; omega
    have sl := shl_tab (j := m) (by omega)
    obtain ⟨g1, m1, m2, m3, m4, m5⟩ := R_lays_18 (d := d) (N := N) (set := j) hN (by omega) pm.toNat 0 g (by omega) T hT (by rw [show ((0 : Nat) : Int) = 0 from rfl, sparS_0]; exact hr)
    have nn := sparS_NI (set := j) hN h8.1 (Int.le_refl pm)
    have n0 : sparS n pm j 0 = n 0 := sparS_ne (by omega)
    obtain ⟨g2, q1, q2, q3, q4, q5⟩ := m2.years (d := d) (N := N) (by omega) hF N1 (by omega) m3 m4 nn (by omega)
    obtain ⟨g3, r1, r2, r3, r4, r5⟩ := R_lays_54 (d := d) (N := N) (set := j) h8 h0 (by omega) pm.toNat 0 g2 (by omega) q2 q3 q4
    have T3 : TR E302 h g3 (B + 360) := ⟨r2.1, r2.2.1, by have := r2.2.2; omega⟩
    have k302 : ∀ z, fd g2 302 z = fd g 302 z := fun z => (q5.1 _ _ (by unfold QS; omega)).trans (m5.1 _ _ (by omega))
    obtain ⟨g', z1, z2⟩ := R_lays_6 hF N1 N2 h0 h65 hN y em k (j + 1) (B + 360) g3 (by omega) (by omega) T3 r3 r4 (fun s hs p p0 p1 => by
      rw [r5]
      by_cases c : s = j
      · rw [c, if_pos (by omega), show 8 * j + p.toNat - 8 * j = p.toNat by omega, show ((p.toNat : Nat) : Int) = p by omega]
        rfl
      · rw [if_neg (by omega), k302]
        exact O s (by omega) p p0 p1)
    refine ⟨g', ?_, z2⟩
    rw [show ((0 : Nat) : Int) = 0 from rfl] at m1 r1
    rw [U_X12_laysThen_6, ← z1]
    simp (disch := omega) only [iI_lit, jI_lit, iI_neg, jI_neg, iI_add, iI_sub, iI_mul, jI_add, jI_sub, jI_mul, rdI, rdL, iI_lt, iI_le, iI_eq, iI_nat, iI_b2_0, iI_b2_1, mm_bI_some, mm_bV_some, mm_bL_some, mm_bA_some, fd_wL, fd_wR, fl_wI, fl_wR, re_wI, re_wL, re_wC, ite_true, ite_false, not_true_eq_false, not_false_eq_true, lq_ge, lq_le, lq_gt, lq_lt, lq_eq, jI_lt, jI_le, jI_eq, if_pos, if_neg, e40, sl, m1, q1, r1]
set_option maxHeartbeats 8000000 in
theorem R_isRest_2 {set m : Nat} {V : Nat → Int → Int} (h8 : 0 ≤ pm ∧ pm ≤ 8) (e40 : fd h 264 40 = pm) (em : pm.toNat = m) (h2 : set < 2 ^ m) (O : ∀ s, s < 2 ^ m → ∀ p, 0 ≤ p → p < pm → fd h 302 (8 * s + p.toNat) = V s p) : ∀ (k j : Nat), ((j + k : Nat) : Int) = pm → mm_D (mm_M mm_T0 d) cd_X12_isRest 2 [.ref 264, .int (iI (set : Nat)), .int (iI (j : Nat))] [] h = some (some (.int (iI (b2 (arS V set k j = true)))), h)
  | 0, j, jk => by
    rw [arS, b2_t rfl, U_X12_isRest_2]
    simp (disch := omega) only [iI_lit, jI_lit, iI_neg, jI_neg, iI_add, iI_sub, iI_mul, jI_add, jI_sub, jI_mul, rdI, rdL, iI_lt, iI_le, iI_eq, iI_nat, iI_b2_0, iI_b2_1, mm_bI_some, mm_bV_some, mm_bL_some, mm_bA_some, fd_wL, fd_wR, fl_wI, fl_wR, re_wI, re_wL, re_wC, ite_true, ite_false, not_true_eq_false, not_false_eq_true, lq_ge, lq_le, lq_gt, lq_lt, lq_eq, jI_lt, jI_le, jI_eq, if_pos, if_neg, e40]
  | k + 1, j, jk => by
    have lp := p28 (m := m) (by omega)
    have xl := xor_lt h2 (j := j) (by omega)
    have xt := xor_tab (x := set) (j := j) (by omega) (by omega)
    have e1 : ((j : Nat) : Int) + 1 = ((j + 1 : Nat) : Int) := by omega
    have v1 := O set h2 (j : Nat) (by omega) (by omega)
    have v2 := O (set ^^^ 2 ^ j) xl (j : Nat) (by omega) (by omega)
    rw [Int.toNat_natCast] at v1 v2
    have i1 : (8 * ((set : Nat) : Int) + (j : Nat)).toNat = 8 * set + j := by omega
    have i2 : (8 * (((set ^^^ 2 ^ j) : Nat) : Int) + (j : Nat)).toNat = 8 * (set ^^^ 2 ^ j) + j := by omega
    have b1 : -2147483648 ≤ V set (j : Nat) ∧ V set (j : Nat) < 2147483648 := by rw [← v1]; exact ⟨fd_lo _ _ _, fd_hi _ _ _⟩
    have b2' : -2147483648 ≤ V (set ^^^ 2 ^ j) (j : Nat) ∧ V (set ^^^ 2 ^ j) (j : Nat) < 2147483648 := by rw [← v2]; exact ⟨fd_lo _ _ _, fd_hi _ _ _⟩
    rw [arS]
    by_cases c : V set (j : Nat) < V (set ^^^ 2 ^ j) (j : Nat)
    · rw [if_pos c, b2_f (by simp)]
      rw [U_X12_isRest_2]
      simp (disch := omega) only [iI_lit, jI_lit, iI_neg, jI_neg, iI_add, iI_sub, iI_mul, jI_add, jI_sub, jI_mul, rdI, rdL, iI_lt, iI_le, iI_eq, iI_nat, iI_b2_0, iI_b2_1, mm_bI_some, mm_bV_some, mm_bL_some, mm_bA_some, fd_wL, fd_wR, fl_wI, fl_wR, re_wI, re_wL, re_wC, ite_true, ite_false, not_true_eq_false, not_false_eq_true, lq_ge, lq_le, lq_gt, lq_lt, lq_eq, jI_lt, jI_le, jI_eq, if_pos, if_neg, e40, xt, i1, i2, v1, v2]
    · rw [if_neg c, ← R_isRest_2 h8 e40 em h2 O k (j + 1) (by omega)]
      rw [U_X12_isRest_2]
      simp (disch := omega) only [iI_lit, jI_lit, iI_neg, jI_neg, iI_add, iI_sub, iI_mul, jI_add, jI_sub, jI_mul, rdI, rdL, iI_lt, iI_le, iI_eq, iI_nat, iI_b2_0, iI_b2_1, mm_bI_some, mm_bV_some, mm_bL_some, mm_bA_some, fd_wL, fd_wR, fl_wI, fl_wR, re_wI, re_wL, re_wC, ite_true, ite_false, not_true_eq_false, not_false_eq_true, lq_ge, lq_le, lq_gt, lq_lt, lq_eq, jI_lt, jI_le, jI_eq, if_pos, if_neg, e40, xt, i1, i2, v1, v2, e1]
set_option maxHeartbeats 8000000 in
theorem R_rest_29 {m : Nat} {V : Nat → Int → Int} (h8 : 0 ≤ pm ∧ pm ≤ 8) (e40 : fd h 264 40 = pm) (em : pm.toNat = m) (O : ∀ s, s < 2 ^ m → ∀ p, 0 ≤ p → p < pm → fd h 302 (8 * s + p.toNat) = V s p) : ∀ (k j : Nat) (b : Int), j + k = 2 ^ m → -1 ≤ b → b < ((2 ^ m : Nat) : Int) → mm_D (mm_M mm_T0 (d + 1)) cd_X12_rest 29 [.ref 264, .null, .int (iI b), .int (iI (j : Nat))] [] h = some (some (.int (iI (refF (fun s => arS V s m 0) k j b))), h)
  | 0, j, b, jk, b0, b1 => by
    have lp := p28 (m := m) (by omega)
    have e40' : fd h 264 40 = ((m : Nat) : Int) := by omega
    have sl := shl_tab (j := m) (by omega)
    rw [refF]
    rw [U_X12_rest_29]
    simp (disch := omega) only [iI_lit, jI_lit, iI_neg, jI_neg, iI_add, iI_sub, iI_mul, jI_add, jI_sub, jI_mul, rdI, rdL, iI_lt, iI_le, iI_eq, iI_nat, iI_b2_0, iI_b2_1, mm_bI_some, mm_bV_some, mm_bL_some, mm_bA_some, fd_wL, fd_wR, fl_wI, fl_wR, re_wI, re_wL, re_wC, ite_true, ite_false, not_true_eq_false, not_false_eq_true, lq_ge, lq_le, lq_gt, lq_lt, lq_eq, jI_lt, jI_le, jI_eq, if_pos, if_neg, e40', sl]
  | k + 1, j, b, jk, b0, b1 => by
    have lp := p28 (m := m) (by omega)
    have e40' : fd h 264 40 = ((m : Nat) : Int) := by omega
    have sl := shl_tab (j := m) (by omega)
    have pb : ∀ x, x < 512 → pc x < 10 := by decide +kernel
    have q1 := pb j (by omega)
    have e1 : ((j : Nat) : Int) + 1 = ((j + 1 : Nat) : Int) := by omega
    have ir : mm_M mm_T0 (d + 1) 263 [.ref 264, .int (iI (j : Nat))] h = some (some (.int (iI (b2 (arS V j m 0 = true)))), h) := by
      rw [U_X12_isRest]
      exact R_isRest_2 h8 e40 em (by omega) O m 0 (by omega)
    rw [refF]
    by_cases cb : b = -1
    · by_cases cA : arS V j m 0 = true
      · rw [b2_t cA] at ir
        rw [if_pos ⟨Or.inl cb, cA⟩, ← R_rest_29 h8 e40 em O k (j + 1) (j : Nat) (by omega) (by omega) (by omega)]
        rw [U_X12_rest_29]
        simp (disch := omega) only [iI_lit, jI_lit, iI_neg, jI_neg, iI_add, iI_sub, iI_mul, jI_add, jI_sub, jI_mul, rdI, rdL, iI_lt, iI_le, iI_eq, iI_nat, iI_b2_0, iI_b2_1, mm_bI_some, mm_bV_some, mm_bL_some, mm_bA_some, fd_wL, fd_wR, fl_wI, fl_wR, re_wI, re_wL, re_wC, ite_true, ite_false, not_true_eq_false, not_false_eq_true, lq_ge, lq_le, lq_gt, lq_lt, lq_eq, jI_lt, jI_le, jI_eq, if_pos, if_neg, e40', sl, ir, e1]
      · rw [b2_f cA] at ir
        rw [if_neg (fun z => cA z.2), ← R_rest_29 h8 e40 em O k (j + 1) b (by omega) b0 b1]
        rw [U_X12_rest_29]
        simp (disch := omega) only [iI_lit, jI_lit, iI_neg, jI_neg, iI_add, iI_sub, iI_mul, jI_add, jI_sub, jI_mul, rdI, rdL, iI_lt, iI_le, iI_eq, iI_nat, iI_b2_0, iI_b2_1, mm_bI_some, mm_bV_some, mm_bL_some, mm_bA_some, fd_wL, fd_wR, fl_wI, fl_wR, re_wI, re_wL, re_wC, ite_true, ite_false, not_true_eq_false, not_false_eq_true, lq_ge, lq_le, lq_gt, lq_lt, lq_eq, jI_lt, jI_le, jI_eq, if_pos, if_neg, e40', sl, ir, e1]
    · have j1 := R_bits (d := d) (h := h) (x := j) (by omega)
      have j2 := R_bits (d := d) (h := h) (x := b.toNat) (by omega)
      rw [show ((b.toNat : Nat) : Int) = b by omega] at j2
      have q2 := pb b.toNat (by omega)
      by_cases cp' : pc j < pc b.toNat
      · by_cases cA : arS V j m 0 = true
        · rw [b2_t cA] at ir
          rw [if_pos ⟨Or.inr cp', cA⟩, ← R_rest_29 h8 e40 em O k (j + 1) (j : Nat) (by omega) (by omega) (by omega)]
          rw [U_X12_rest_29]
          simp (disch := omega) only [iI_lit, jI_lit, iI_neg, jI_neg, iI_add, iI_sub, iI_mul, jI_add, jI_sub, jI_mul, rdI, rdL, iI_lt, iI_le, iI_eq, iI_nat, iI_b2_0, iI_b2_1, mm_bI_some, mm_bV_some, mm_bL_some, mm_bA_some, fd_wL, fd_wR, fl_wI, fl_wR, re_wI, re_wL, re_wC, ite_true, ite_false, not_true_eq_false, not_false_eq_true, lq_ge, lq_le, lq_gt, lq_lt, lq_eq, jI_lt, jI_le, jI_eq, if_pos, if_neg, e40', sl, j1, j2, ir, e1]
        · rw [b2_f cA] at ir
          rw [if_neg (fun z => cA z.2), ← R_rest_29 h8 e40 em O k (j + 1) b (by omega) b0 b1]
          rw [U_X12_rest_29]
          simp (disch := omega) only [iI_lit, jI_lit, iI_neg, jI_neg, iI_add, iI_sub, iI_mul, jI_add, jI_sub, jI_mul, rdI, rdL, iI_lt, iI_le, iI_eq, iI_nat, iI_b2_0, iI_b2_1, mm_bI_some, mm_bV_some, mm_bL_some, mm_bA_some, fd_wL, fd_wR, fl_wI, fl_wR, re_wI, re_wL, re_wC, ite_true, ite_false, not_true_eq_false, not_false_eq_true, lq_ge, lq_le, lq_gt, lq_lt, lq_eq, jI_lt, jI_le, jI_eq, if_pos, if_neg, e40', sl, j1, j2, ir, e1]
      · rw [if_neg (by rintro ⟨z | z, _⟩; exact cb z; exact cp' z), ← R_rest_29 h8 e40 em O k (j + 1) b (by omega) b0 b1]
        rw [U_X12_rest_29]
        simp (disch := omega) only [iI_lit, jI_lit, iI_neg, jI_neg, iI_add, iI_sub, iI_mul, jI_add, jI_sub, jI_mul, rdI, rdL, iI_lt, iI_le, iI_eq, iI_nat, iI_b2_0, iI_b2_1, mm_bI_some, mm_bV_some, mm_bL_some, mm_bA_some, fd_wL, fd_wR, fl_wI, fl_wR, re_wI, re_wL, re_wC, ite_true, ite_false, not_true_eq_false, not_false_eq_true, lq_ge, lq_le, lq_gt, lq_lt, lq_eq, jI_lt, jI_le, jI_eq, if_pos, if_neg, e40', sl, j1, j2, e1]
end RESTC
section RESTK
variable {a : Int}
set_option maxHeartbeats 8000000 in
theorem K_rest (al : -2147483648 ≤ a) (au : a < 2147483648) : CallI 166 264 [.int (iI a)] := by
  intro d h i I hi
  have I0 := I
  obtain ⟨t, st, pm, hm, fc, kd, cp, cm, cf, n, ev, past, M, W, H, S, P, N⟩ := I
  have W0 := W
  obtain ⟨w1, w2, w3, w4, w5, w6, w7, w8, w9, w10, w11, w12, w13⟩ := W
  have tt := isT_or w1.1
  have h8 := w5.1
  have e53 : fd h 264 53 = st := w2.2.2.1
  have e12 : fd h 0 12 = st := w2.2.1
  have st1 := w2.1
  have e11 : fd h 13 11 = n 0 := w8.2.2.1
  have e0 : fd h 300 0 = n 0 := w4 0 (by omega) (by omega)
  by_cases c0 : st = 1 ∧ (1 ≤ a ∧ a ≤ 20) ∧ n 0 + a ≤ 999
  · obtain ⟨h0, p1, p2, p3⟩ := C_forget_2 (d := d + 38) 256 0 h (by omega) (fun s hs => by omega)
    have K0 : Kf (SC t) nL h h0 := p3.monoQ (fun a k q => by unfold SC; omega)
    obtain ⟨h1, q1, q2⟩ := C_rest_39 (d := d + 32) (N := a) (m := pm.toNat) w1.1 w1.2.1 w6 (by omega) (by omega) (w2.2.2.2.2 c0.1) w8 w10.1 (by omega) w5 (by omega) rfl (pm.toNat + 1) 0 h0 (by omega) K0 (fun s hs z => absurd (p2 s hs) z)
    have T1 : RT h1 pm hm fc kd cp cm cf := w3.kf2 q2 (by intro a j; unfold NR SC; omega)
    have R1 : RepR h1 n := w4.kf q2 (by intro j hj; unfold SC; omega)
    have f65 : fd h1 264 65 = fd h 264 65 := q2.1 _ _ (by unfold SC; omega)
    obtain ⟨r1, r2, r3, r4, r5, r6⟩ := TR.begin (d := d + 37) (E := E302) (h := h1) (by omega) T1 R1
    have lp := p28 (m := pm.toNat) (by omega)
    have tp := two_pos pm.toNat
    obtain ⟨g, u1, u2, u3, u4, u5, u6⟩ := R_lays_6 (d := d + 31) (N := a) (m := pm.toNat) w6 (by omega) (by omega) R1 (by omega) w5 (by omega) rfl (2 ^ pm.toNat) 0 0 r1 (by omega) (by omega) r3 r4 r5 (fun s hs => by omega)
    have fin := R_rest_29 (d := d + 38) h8 u5 rfl u6 (2 ^ pm.toNat) 0 (-1) (by omega) (by omega) (by omega)
    refine ⟨iI (outS (fun s => arS (outV cp cm hm pm fc kd n a) s pm.toNat 0) (2 ^ pm.toNat) (pm.toNat + 1) 0), h1, g, ?_, ?_, Inv.tri M W0 H S P N q2 u2 (fun a k e => Or.inl (by unfold E302 at e; omega)) u3 u4 (by omega) hi⟩
    · have f10 : fd h0 13 10 = ((pm.toNat : Nat) : Int) := by rw [K0.1 _ _ (by unfold SC; omega), w8.1]; omega
      have sl := shl_tab (j := pm.toNat) (by omega)
      rw [show ((0 : Nat) : Int) = 0 from rfl] at p1 q1
      rw [U_X11_rest]
      simp (disch := omega) only [iI_lit, jI_lit, iI_neg, jI_neg, iI_add, iI_sub, iI_mul, jI_add, jI_sub, jI_mul, rdI, rdL, iI_lt, iI_le, iI_eq, iI_nat, iI_b2_0, iI_b2_1, mm_bI_some, mm_bV_some, mm_bL_some, mm_bA_some, fd_wL, fd_wR, fl_wI, fl_wR, re_wI, re_wL, re_wC, ite_true, ite_false, not_true_eq_false, not_false_eq_true, lq_ge, lq_le, lq_gt, lq_lt, lq_eq, jI_lt, jI_le, jI_eq, if_pos, if_neg, e12, C_canPass, e11, U_X0_forgetOutcomes, p1, f10, sl, q1]
    · have f53 : fd h1 264 53 = st := (q2.1 _ _ (by unfold SC; omega)).trans e53
      have f0 : fd h1 300 0 = n 0 := R1 0 (by omega) (by omega)
      rw [show ((0 : Nat) : Int) = 0 from rfl] at u1 fin
      rw [rest_eq (by omega), U_X12_rest]
      simp (disch := omega) only [iI_lit, jI_lit, iI_neg, jI_neg, iI_add, iI_sub, iI_mul, jI_add, jI_sub, jI_mul, rdI, rdL, iI_lt, iI_le, iI_eq, iI_nat, iI_b2_0, iI_b2_1, mm_bI_some, mm_bV_some, mm_bL_some, mm_bA_some, fd_wL, fd_wR, fl_wI, fl_wR, re_wI, re_wL, re_wC, ite_true, ite_false, not_true_eq_false, not_false_eq_true, lq_ge, lq_le, lq_gt, lq_lt, lq_eq, jI_lt, jI_le, jI_eq, if_pos, if_neg, f53, R_isAhead, f0, U_X12_laysThen, r2, u1, fin]
  · refine ⟨iI (-1), h, h, ?_, ?_, I0.next hi⟩
    · rw [U_X11_rest]
      by_cases z : st = 0 <;> simp (disch := omega) only [iI_lit, jI_lit, iI_neg, jI_neg, iI_add, iI_sub, iI_mul, jI_add, jI_sub, jI_mul, rdI, rdL, iI_lt, iI_le, iI_eq, iI_nat, iI_b2_0, iI_b2_1, mm_bI_some, mm_bV_some, mm_bL_some, mm_bA_some, fd_wL, fd_wR, fl_wI, fl_wR, re_wI, re_wL, re_wC, ite_true, ite_false, not_true_eq_false, not_false_eq_true, lq_ge, lq_le, lq_gt, lq_lt, lq_eq, jI_lt, jI_le, jI_eq, if_pos, if_neg, e12, C_canPass, e11]
    · rw [U_X12_rest]
      by_cases z : st = 0 <;> simp (disch := omega) only [iI_lit, jI_lit, iI_neg, jI_neg, iI_add, iI_sub, iI_mul, jI_add, jI_sub, jI_mul, rdI, rdL, iI_lt, iI_le, iI_eq, iI_nat, iI_b2_0, iI_b2_1, mm_bI_some, mm_bV_some, mm_bL_some, mm_bA_some, fd_wL, fd_wR, fl_wI, fl_wR, re_wI, re_wL, re_wC, ite_true, ite_false, not_true_eq_false, not_false_eq_true, lq_ge, lq_le, lq_gt, lq_lt, lq_eq, jI_lt, jI_le, jI_eq, if_pos, if_neg, e53, R_isAhead, e0]
end RESTK
