/-! parted -/
def shr0 (x j : Nat) : Bool := ((iI (x : Nat) >>> (iI (j : Nat) &&& iI 31)) &&& iI 1) == iI ((x / 2 ^ j % 2 : Nat) : Int)
theorem shr1 : ∀ j, j < 10 → ∀ x, x < 1024 → shr0 x j = true := by decide +kernel
theorem shr_tab {x j : Nat} (hx : x < 1024) (hj : j < 10) : (iI (x : Nat) >>> (iI (j : Nat) &&& iI 31)) &&& iI 1 = iI ((x / 2 ^ j % 2 : Nat) : Int) := eq_of_beq (shr1 j hj x hx)
theorem shl_tab0 : ∀ j, j < 9 → ((1 : Int32) <<< (iI (j : Nat) &&& iI 31)) = iI ((2 ^ j : Nat) : Int) := by decide +kernel
theorem shl_tab {j : Nat} (hj : j < 9) : (iI 1 <<< (iI (j : Nat) &&& iI 31)) = iI ((2 ^ j : Nat) : Int) := shl_tab0 j hj
theorem bit_hi : ∀ m, m < 10 → ∀ b, b < 2 ^ m → (2 ^ m + b) / 2 ^ m % 2 = 1 := by decide +kernel
theorem bit_z : ∀ m, m < 10 → ∀ b, b < 2 ^ m → b / 2 ^ m % 2 = 0 := by decide +kernel
theorem bit_lo : ∀ m, m < 10 → ∀ j, j < m → ∀ b, b < 2 ^ m → (2 ^ m + b) / 2 ^ j % 2 = b / 2 ^ j % 2 := by decide +kernel
theorem setN_bit {f : Int → Int} (hf : ∀ k, 0 ≤ f k ∧ f k ≤ 1) : ∀ m, m ≤ 10 → ∀ j, j < m → ((setN f m / 2 ^ j % 2 : Nat) : Int) = f (j : Nat)
  | 0, _, j, hj => by omega
  | m + 1, hm, j, hj => by
    have l := setN_lt (f := f) m
    have b := hf (m : Nat)
    by_cases c : f (m : Nat) = 1
    · have e : setN f (m + 1) = 2 ^ m + setN f m := by
        show (if f (m : Nat) = 1 then _ else _) = _
        rw [if_pos c]
      rw [e]
      by_cases cj : j = m
      · rw [cj, bit_hi m (by omega) _ l, c]
        rfl
      · rw [bit_lo m (by omega) j (by omega) _ l]
        exact setN_bit hf m (by omega) j (by omega)
    · have e : setN f (m + 1) = setN f m := by
        show (if f (m : Nat) = 1 then _ else _) = _
        rw [if_neg c]
      rw [e]
      by_cases cj : j = m
      · rw [cj, bit_z m (by omega) _ l]
        omega
      · exact setN_bit hf m (by omega) j (by omega)
def andm (x : Nat) : Bool := ((iI (x : Nat) &&& (iI (x : Nat) - iI 1)) == iI ((x &&& (x - 1) : Nat) : Int)) && (decide (x &&& (x - 1) < x)) && (pc x == pc (x &&& (x - 1)) + 1)
theorem andm_tab : ∀ x, x < 512 → x = 0 ∨ andm x = true := by decide +kernel
set_option maxHeartbeats 8000000 in
theorem R_bits_4 {d : Nat} {h : mm_H} : ∀ (k x : Nat) (a : Int), x ≤ k → x < 512 → mm_D (mm_M mm_T0 d) cd_X12_bits 4 [.null, .int (iI a), .int (iI (x : Nat))] [] h = some (some (.int (iI (a + (pc x : Nat)))), h)
  | 0, x, a, hx, _ => by
    have : x = 0 := by omega
    subst this
    rw [U_X12_bits_4]
    simp (disch := omega) only [iI_lit, jI_lit, iI_neg, jI_neg, iI_add, iI_sub, iI_mul, jI_add, jI_sub, jI_mul, rdI, rdL, iI_lt, iI_le, iI_eq, iI_nat, iI_b2_0, iI_b2_1, mm_bI_some, mm_bV_some, mm_bL_some, mm_bA_some, fd_wL, fd_wR, fl_wI, fl_wR, re_wI, re_wL, re_wC, ite_true, ite_false, not_true_eq_false, not_false_eq_true, lq_ge, lq_le, lq_gt, lq_lt, lq_eq, jI_lt, jI_le, jI_eq, if_pos, if_neg]
    rw [show ((pc 0 : Nat) : Int) = 0 from rfl, Int.add_zero]
  | k + 1, x, a, hx, h5 => by
    rw [U_X12_bits_4]
    by_cases c : x = 0
    · subst c
      simp (disch := omega) only [iI_lit, jI_lit, iI_neg, jI_neg, iI_add, iI_sub, iI_mul, jI_add, jI_sub, jI_mul, rdI, rdL, iI_lt, iI_le, iI_eq, iI_nat, iI_b2_0, iI_b2_1, mm_bI_some, mm_bV_some, mm_bL_some, mm_bA_some, fd_wL, fd_wR, fl_wI, fl_wR, re_wI, re_wL, re_wC, ite_true, ite_false, not_true_eq_false, not_false_eq_true, lq_ge, lq_le, lq_gt, lq_lt, lq_eq, jI_lt, jI_le, jI_eq, if_pos, if_neg]
      rw [show ((pc 0 : Nat) : Int) = 0 from rfl, Int.add_zero]
    · have t := (andm_tab x h5).resolve_left c
      unfold andm at t
      rw [Bool.and_eq_true, Bool.and_eq_true] at t
      have t1 := eq_of_beq t.1.1
      have t2 := of_decide_eq_true t.1.2
      have t3 : pc x = pc (x &&& (x - 1)) + 1 := eq_of_beq t.2
      rw [show (0 : Int32) = iI 0 from rfl, show (1 : Int32) = iI 1 from rfl, if_neg (by rw [iI_eq (by omega) (by omega) (by omega) (by omega)]; omega), t1, iI_add, R_bits_4 (d := d) k _ _ (by omega) (by omega), show a + 1 + ((pc (x &&& (x - 1)) : Nat) : Int) = a + ((pc x : Nat) : Int) by rw [t3]; omega]
set_option maxHeartbeats 8000000 in
theorem R_bits {d : Nat} {h : mm_H} {x : Nat} (hx : x < 512) : mm_M mm_T0 (d + 1) 239 [.int (iI (x : Nat))] h = some (some (.int (iI ((pc x : Nat) : Int))), h) := by
  have := R_bits_4 (d := d) (h := h) x x 0 (Nat.le_refl _) hx
  rw [Int.zero_add] at this
  rw [U_X12_bits]
  exact this
/-- no feud from house p on, of k, that the set leaves be -/
def pS (f : Int → Int) (n : Int → Int) (pm : Int) (set : Nat) : Nat → Int → Bool
  | 0, _ => true
  | k + 1, p => if f p = 1 ∧ set / 2 ^ (who n pm p).toNat % 2 = 0 ∧ set / 2 ^ (who n pm (p + 1)).toNat % 2 = 0 then false else pS f n pm set k (p + 1)
section PARTED
variable {d t s : Nat} {h : mm_H} {pm hm : Int} {fc kd n : Int → Int} {cp cm cf : List Int}
theorem fbS_who {p : Int} (h1 : fbS cf pm fc kd n p = 1) : who n pm p ≠ -1 ∧ who n pm (p + 1) ≠ -1 := by
  unfold fbS at h1
  by_cases c : who n pm p = -1 ∨ who n pm (p + 1) = -1
  · rw [if_pos c] at h1
    omega
  · omega
set_option maxHeartbeats 8000000 in
theorem C_parts_2 {set : Nat} (hs : mm_isS s) (hS : SR h s pm hm fc kd n) (hN : NI pm hm n) (h2 : set < 512) : ∀ (k p : Nat), ((p + k : Nat) : Int) = hm → mm_D (mm_M mm_T0 (d + 2)) cd_X0_parts 2 [.ref s, .int (iI ((setN (fbS cf pm fc kd n) hm.toNat : Nat) : Int)), .int (iI (set : Nat)), .int (iI (p : Nat)), .null, .null, .null] [] h = some (some (.int (iI (b2 (pS (fbS cf pm fc kd n) n pm set k (p : Nat) = true)))), h)
  | 0, p, pk => by
    have h9 := hN.2.1
    have e9 : fd h s 9 = hm := hS.2.1
    rw [pS, b2_t rfl, U_X0_parts_2 hs]
    simp (disch := omega) only [iI_lit, jI_lit, iI_neg, jI_neg, iI_add, iI_sub, iI_mul, jI_add, jI_sub, jI_mul, rdI, rdL, iI_lt, iI_le, iI_eq, iI_nat, iI_b2_0, iI_b2_1, mm_bI_some, mm_bV_some, mm_bL_some, mm_bA_some, fd_wL, fd_wR, fl_wI, fl_wR, re_wI, re_wL, re_wC, ite_true, ite_false, not_true_eq_false, not_false_eq_true, lq_ge, lq_le, lq_gt, lq_lt, lq_eq, jI_lt, jI_le, jI_eq, if_pos, if_neg, e9]
  | k + 1, p, pk => by
    have h9 := hN.2.1
    have h8 := hN.1
    have e9 : fd h s 9 = hm := hS.2.1
    have w1 := C_who (d := d) hs hS hN (a := (p : Nat)) (by omega) (by omega)
    have w2 := C_who (d := d) hs hS hN (a := (p : Nat) + 1) (by omega) (by omega)
    have b1 := who_b (n := n) (h := (p : Nat)) h8.1
    have b2' := who_b (n := n) (h := (p : Nat) + 1) h8.1
    have ih := C_parts_2 hs hS hN h2 k (p + 1) (by omega)
    rw [show ((p + 1 : Nat) : Int) = (p : Nat) + 1 by omega] at ih
    have sb := setN_bit (f := fbS cf pm fc kd n) (fun k => fbS_b) hm.toNat (by omega) p (by omega)
    have sl := setN_lt (f := fbS cf pm fc kd n) hm.toNat
    have lp := p29 (m := hm.toNat) (by omega)
    have sh := shr_tab (x := setN (fbS cf pm fc kd n) hm.toNat) (j := p) (by omega) (by omega)
    rw [sb] at sh
    have fb := fbS_b (cf := cf) (pm := pm) (fc := fc) (kd := kd) (n := n) (k := (p : Nat))
    rw [pS]
    by_cases c0 : who n pm (p : Nat) = -1 ∨ who n pm ((p : Nat) + 1) = -1
    · have z : fbS cf pm fc kd n (p : Nat) ≠ 1 := fun z => by
        have := fbS_who z
        omega
      rw [if_neg (by omega), ← ih]
      rw [U_X0_parts_2 hs]
      by_cases c1 : who n pm (p : Nat) = -1 <;> simp (disch := omega) only [iI_lit, jI_lit, iI_neg, jI_neg, iI_add, iI_sub, iI_mul, jI_add, jI_sub, jI_mul, rdI, rdL, iI_lt, iI_le, iI_eq, iI_nat, iI_b2_0, iI_b2_1, mm_bI_some, mm_bV_some, mm_bL_some, mm_bA_some, fd_wL, fd_wR, fl_wI, fl_wR, re_wI, re_wL, re_wC, ite_true, ite_false, not_true_eq_false, not_false_eq_true, lq_ge, lq_le, lq_gt, lq_lt, lq_eq, jI_lt, jI_le, jI_eq, if_pos, if_neg, e9, w1, w2]
    · have w := who_ne hN (fun e => c0 (Or.inl e)) (fun e => c0 (Or.inr e))
      have s1 := shr_tab (x := set) (j := (who n pm (p : Nat)).toNat) (by omega) (by omega)
      have s2 := shr_tab (x := set) (j := (who n pm ((p : Nat) + 1)).toNat) (by omega) (by omega)
      rw [show (((who n pm (p : Nat)).toNat : Nat) : Int) = who n pm (p : Nat) by omega] at s1
      rw [show (((who n pm ((p : Nat) + 1)).toNat : Nat) : Int) = who n pm ((p : Nat) + 1) by omega] at s2
      have q1 : set / 2 ^ (who n pm (p : Nat)).toNat % 2 < 2 := Nat.mod_lt _ (by omega)
      have q2 : set / 2 ^ (who n pm ((p : Nat) + 1)).toNat % 2 < 2 := Nat.mod_lt _ (by omega)
      by_cases c1 : fbS cf pm fc kd n (p : Nat) = 1
      · by_cases c2 : set / 2 ^ (who n pm (p : Nat)).toNat % 2 = 0
        · by_cases c3 : set / 2 ^ (who n pm ((p : Nat) + 1)).toNat % 2 = 0
          · rw [if_pos ⟨c1, c2, c3⟩, b2_f (by simp)]
            rw [U_X0_parts_2 hs]
            simp (disch := omega) only [iI_lit, jI_lit, iI_neg, jI_neg, iI_add, iI_sub, iI_mul, jI_add, jI_sub, jI_mul, rdI, rdL, iI_lt, iI_le, iI_eq, iI_nat, iI_b2_0, iI_b2_1, mm_bI_some, mm_bV_some, mm_bL_some, mm_bA_some, fd_wL, fd_wR, fl_wI, fl_wR, re_wI, re_wL, re_wC, ite_true, ite_false, not_true_eq_false, not_false_eq_true, lq_ge, lq_le, lq_gt, lq_lt, lq_eq, jI_lt, jI_le, jI_eq, if_pos, if_neg, e9, w1, w2, sh, s1, s2]
          · rw [if_neg (by omega), ← ih]
            rw [U_X0_parts_2 hs]
            simp (disch := omega) only [iI_lit, jI_lit, iI_neg, jI_neg, iI_add, iI_sub, iI_mul, jI_add, jI_sub, jI_mul, rdI, rdL, iI_lt, iI_le, iI_eq, iI_nat, iI_b2_0, iI_b2_1, mm_bI_some, mm_bV_some, mm_bL_some, mm_bA_some, fd_wL, fd_wR, fl_wI, fl_wR, re_wI, re_wL, re_wC, ite_true, ite_false, not_true_eq_false, not_false_eq_true, lq_ge, lq_le, lq_gt, lq_lt, lq_eq, jI_lt, jI_le, jI_eq, if_pos, if_neg, e9, w1, w2, sh, s1, s2]
        · rw [if_neg (by omega), ← ih]
          rw [U_X0_parts_2 hs]
          simp (disch := omega) only [iI_lit, jI_lit, iI_neg, jI_neg, iI_add, iI_sub, iI_mul, jI_add, jI_sub, jI_mul, rdI, rdL, iI_lt, iI_le, iI_eq, iI_nat, iI_b2_0, iI_b2_1, mm_bI_some, mm_bV_some, mm_bL_some, mm_bA_some, fd_wL, fd_wR, fl_wI, fl_wR, re_wI, re_wL, re_wC, ite_true, ite_false, not_true_eq_false, not_false_eq_true, lq_ge, lq_le, lq_gt, lq_lt, lq_eq, jI_lt, jI_le, jI_eq, if_pos, if_neg, e9, w1, w2, sh, s1, s2]
      · rw [if_neg (by omega), ← ih]
        rw [U_X0_parts_2 hs]
        simp (disch := omega) only [iI_lit, jI_lit, iI_neg, jI_neg, iI_add, iI_sub, iI_mul, jI_add, jI_sub, jI_mul, rdI, rdL, iI_lt, iI_le, iI_eq, iI_nat, iI_b2_0, iI_b2_1, mm_bI_some, mm_bV_some, mm_bL_some, mm_bA_some, fd_wL, fd_wR, fl_wI, fl_wR, re_wI, re_wL, re_wC, ite_true, ite_false, not_true_eq_false, not_false_eq_true, lq_ge, lq_le, lq_gt, lq_lt, lq_eq, jI_lt, jI_le, jI_eq, if_pos, if_neg, e9, w1, w2, sh]
set_option maxHeartbeats 8000000 in
theorem R_peace_2 {set : Nat} (hN : NI pm hm n) (hF : FK pm fc kd) (y : 0 ≤ n 0 ∧ n 0 ≤ 2000) (h2 : set < 512) : ∀ (k : Nat) (p : Int) (h : mm_H), 0 ≤ p → p + k = hm → RT h pm hm fc kd cp cm cf → RepR h n → ∃ h', mm_D (mm_M mm_T0 (d + 5)) cd_X12_isPeace 2 [.ref 264, .int (iI (set : Nat)), .int (iI p)] [] h = some (some (.int (iI (b2 (pS (fbS cf pm fc kd n) n pm set k p = true)))), h') ∧ Kf QP LE3 h h'
  | 0, p, h, p0, pk, hT, hr => by
    have h9 := hN.2.1
    have e38 : fd h 264 38 = hm := hT.2.1
    refine ⟨h, ?_, Kf.refl⟩
    rw [pS, b2_t rfl, U_X12_isPeace_2]
    simp (disch := omega) only [iI_lit, jI_lit, iI_neg, jI_neg, iI_add, iI_sub, iI_mul, jI_add, jI_sub, jI_mul, rdI, rdL, iI_lt, iI_le, iI_eq, iI_nat, iI_b2_0, iI_b2_1, mm_bI_some, mm_bV_some, mm_bL_some, mm_bA_some, fd_wL, fd_wR, fl_wI, fl_wR, re_wI, re_wL, re_wC, ite_true, ite_false, not_true_eq_false, not_false_eq_true, lq_ge, lq_le, lq_gt, lq_lt, lq_eq, jI_lt, jI_le, jI_eq, if_pos, if_neg, e38]
  | k + 1, p, h, p0, pk, hT, hr => by
    have h9 := hN.2.1
    have h8 := hN.1
    have e38 : fd h 264 38 = hm := hT.2.1
    by_cases c0 : hm ≤ p + 1
    · refine ⟨h, ?_, Kf.refl⟩
      have kz : k = 0 := by omega
      subst kz
      have z : fbS cf pm fc kd n p = 0 := by
        unfold fbS
        rw [if_pos (Or.inr (who_out hN (by omega)))]
      rw [pS, if_neg (by omega), pS, b2_t rfl, U_X12_isPeace_2]
      simp (disch := omega) only [iI_lit, jI_lit, iI_neg, jI_neg, iI_add, iI_sub, iI_mul, jI_add, jI_sub, jI_mul, rdI, rdL, iI_lt, iI_le, iI_eq, iI_nat, iI_b2_0, iI_b2_1, mm_bI_some, mm_bV_some, mm_bL_some, mm_bA_some, fd_wL, fd_wR, fl_wI, fl_wR, re_wI, re_wL, re_wC, ite_true, ite_false, not_true_eq_false, not_false_eq_true, lq_ge, lq_le, lq_gt, lq_lt, lq_eq, jI_lt, jI_le, jI_eq, if_pos, if_neg, e38]
    · obtain ⟨h1, m1, m2⟩ := R_feudAt (d := d) hT hr hN hF y p0 (by omega)
      have T1 := hT.qp m2
      have R1 := hr.qp m2
      have fb := fbS_b (cf := cf) (pm := pm) (fc := fc) (kd := kd) (n := n) (k := p)
      have ea : (if who n pm p = -1 ∨ who n pm (p + 1) = -1 then (-1 : Int) else fzS cf fc kd n (who n pm p) (who n pm (p + 1))) = 1 ↔ fbS cf pm fc kd n p = 1 := by
        unfold fbS
        split <;> omega
      have bd : -1 ≤ (if who n pm p = -1 ∨ who n pm (p + 1) = -1 then (-1 : Int) else fzS cf fc kd n (who n pm p) (who n pm (p + 1))) ∧ (if who n pm p = -1 ∨ who n pm (p + 1) = -1 then (-1 : Int) else fzS cf fc kd n (who n pm p) (who n pm (p + 1))) ≤ 1 := by
        have := fzS_b (cf := cf) (fc := fc) (kd := kd) (n := n) (a := who n pm p) (b := who n pm (p + 1))
        split <;> omega
      generalize (if who n pm p = -1 ∨ who n pm (p + 1) = -1 then (-1 : Int) else fzS cf fc kd n (who n pm p) (who n pm (p + 1))) = v at *
      obtain ⟨h', q1, q2⟩ := R_peace_2 hN hF y h2 k (p + 1) h1 (by omega) (by omega) T1 R1
      by_cases c1 : v = 1
      · have e1 := ea.mp c1
        have w0 := fbS_who e1
        have w := who_ne hN w0.1 w0.2
        have u1 := R_who (d := d + 3) R1 T1.1 h8 (a := p) (by omega) (by omega)
        have u2 := R_who (d := d + 3) R1 T1.1 h8 (a := p + 1) (by omega) (by omega)
        have s1 := shr_tab (x := set) (j := (who n pm p).toNat) (by omega) (by omega)
        have s2 := shr_tab (x := set) (j := (who n pm (p + 1)).toNat) (by omega) (by omega)
        rw [show (((who n pm p).toNat : Nat) : Int) = who n pm p by omega] at s1
        rw [show (((who n pm (p + 1)).toNat : Nat) : Int) = who n pm (p + 1) by omega] at s2
        have r1 : set / 2 ^ (who n pm p).toNat % 2 < 2 := Nat.mod_lt _ (by omega)
        have r2 : set / 2 ^ (who n pm (p + 1)).toNat % 2 < 2 := Nat.mod_lt _ (by omega)
        by_cases c2 : set / 2 ^ (who n pm p).toNat % 2 = 0
        · by_cases c3 : set / 2 ^ (who n pm (p + 1)).toNat % 2 = 0
          · refine ⟨h1, ?_, m2⟩
            rw [pS, if_pos ⟨e1, c2, c3⟩, b2_f (by simp), U_X12_isPeace_2]
            simp (disch := omega) only [iI_lit, jI_lit, iI_neg, jI_neg, iI_add, iI_sub, iI_mul, jI_add, jI_sub, jI_mul, rdI, rdL, iI_lt, iI_le, iI_eq, iI_nat, iI_b2_0, iI_b2_1, mm_bI_some, mm_bV_some, mm_bL_some, mm_bA_some, fd_wL, fd_wR, fl_wI, fl_wR, re_wI, re_wL, re_wC, ite_true, ite_false, not_true_eq_false, not_false_eq_true, lq_ge, lq_le, lq_gt, lq_lt, lq_eq, jI_lt, jI_le, jI_eq, if_pos, if_neg, e38, m1, u1, u2, s1, s2]
          · refine ⟨h', ?_, m2.trans q2⟩
            rw [pS, if_neg (by omega), ← q1, U_X12_isPeace_2]
            simp (disch := omega) only [iI_lit, jI_lit, iI_neg, jI_neg, iI_add, iI_sub, iI_mul, jI_add, jI_sub, jI_mul, rdI, rdL, iI_lt, iI_le, iI_eq, iI_nat, iI_b2_0, iI_b2_1, mm_bI_some, mm_bV_some, mm_bL_some, mm_bA_some, fd_wL, fd_wR, fl_wI, fl_wR, re_wI, re_wL, re_wC, ite_true, ite_false, not_true_eq_false, not_false_eq_true, lq_ge, lq_le, lq_gt, lq_lt, lq_eq, jI_lt, jI_le, jI_eq, if_pos, if_neg, e38, m1, u1, u2, s1, s2]
        · refine ⟨h', ?_, m2.trans q2⟩
          rw [pS, if_neg (by omega), ← q1, U_X12_isPeace_2]
          simp (disch := omega) only [iI_lit, jI_lit, iI_neg, jI_neg, iI_add, iI_sub, iI_mul, jI_add, jI_sub, jI_mul, rdI, rdL, iI_lt, iI_le, iI_eq, iI_nat, iI_b2_0, iI_b2_1, mm_bI_some, mm_bV_some, mm_bL_some, mm_bA_some, fd_wL, fd_wR, fl_wI, fl_wR, re_wI, re_wL, re_wC, ite_true, ite_false, not_true_eq_false, not_false_eq_true, lq_ge, lq_le, lq_gt, lq_lt, lq_eq, jI_lt, jI_le, jI_eq, if_pos, if_neg, e38, m1, u1, u2, s1, s2]
      · have e1 : fbS cf pm fc kd n p ≠ 1 := fun e => c1 (ea.mpr e)
        refine ⟨h', ?_, m2.trans q2⟩
        rw [pS, if_neg (by omega), ← q1, U_X12_isPeace_2]
        simp (disch := omega) only [iI_lit, jI_lit, iI_neg, jI_neg, iI_add, iI_sub, iI_mul, jI_add, jI_sub, jI_mul, rdI, rdL, iI_lt, iI_le, iI_eq, iI_nat, iI_b2_0, iI_b2_1, mm_bI_some, mm_bV_some, mm_bL_some, mm_bA_some, fd_wL, fd_wR, fl_wI, fl_wR, re_wI, re_wL, re_wC, ite_true, ite_false, not_true_eq_false, not_false_eq_true, lq_ge, lq_le, lq_gt, lq_lt, lq_eq, jI_lt, jI_le, jI_eq, if_pos, if_neg, e38, m1]
/-! the smallest of the fewest -/
def refF (A : Nat → Bool) : Nat → Nat → Int → Int
  | 0, _, b => b
  | k + 1, j, b => refF A k (j + 1) (if (b = -1 ∨ pc j < pc b.toNat) ∧ A j = true then (j : Int) else b)
def clsF (A : Nat → Bool) : Nat → Nat → Int → Int
  | 0, _, b => b
  | k + 1, j, b => clsF A k (j + 1) (if pc j < pc b.toNat ∧ A j = true then (j : Int) else b)
theorem pc_full : ∀ m, m < 9 → ∀ j, j < 2 ^ m - 1 → pc j < pc (2 ^ m - 1) := by decide +kernel
theorem two_pos (m : Nat) : 0 < 2 ^ m := Nat.pow_pos (by omega)
theorem fold_eq {A : Nat → Bool} {m : Nat} (hm : m < 9) (hA : A (2 ^ m - 1) = true) : ∀ (k j : Nat) (b c : Int), j + k = 2 ^ m → ((b = -1 ∧ c = ((2 ^ m - 1 : Nat) : Int) ∧ j < 2 ^ m) ∨ (b = c ∧ 0 ≤ b)) → clsF A k j c = refF A k j b
  | 0, j, b, c, jk, r => by
    rcases r with r | r
    · omega
    · exact r.1.symm
  | k + 1, j, b, c, jk, r => by
    have tp := two_pos m
    rw [clsF, refF]
    rcases r with r | r
    · rw [r.2.1, r.1]
      rw [show (((2 ^ m - 1 : Nat) : Int)).toNat = 2 ^ m - 1 by omega]
      by_cases cA : A j = true
      · rw [if_pos (show ((-1 : Int) = -1 ∨ _) ∧ A j = true from ⟨Or.inl rfl, cA⟩)]
        by_cases cj : j < 2 ^ m - 1
        · rw [if_pos ⟨pc_full m hm j cj, cA⟩]
          exact fold_eq hm hA k (j + 1) _ _ (by omega) (Or.inr ⟨rfl, by omega⟩)
        · have ej : j = 2 ^ m - 1 := by omega
          have : (if pc j < pc (2 ^ m - 1) ∧ A j = true then (j : Int) else ((2 ^ m - 1 : Nat) : Int)) = (j : Int) := by
            rw [ej]
            split <;> rfl
          rw [this]
          exact fold_eq hm hA k (j + 1) _ _ (by omega) (Or.inr ⟨rfl, by omega⟩)
      · have cj : j < 2 ^ m - 1 := by
          have : j ≠ 2 ^ m - 1 := fun e => cA (by rw [e]; exact hA)
          omega
        rw [if_neg (fun z => cA z.2), if_neg (fun z => cA z.2)]
        exact fold_eq hm hA k (j + 1) _ _ (by omega) (Or.inl ⟨rfl, rfl, by omega⟩)
    · rw [← r.1]
      have e : ((b = -1 ∨ pc j < pc b.toNat) ∧ A j = true) ↔ (pc j < pc b.toNat ∧ A j = true) := by
        constructor
        · rintro ⟨x | x, z⟩
          · omega
          · exact ⟨x, z⟩
        · rintro ⟨x, z⟩
          exact ⟨Or.inr x, z⟩
      by_cases cc : pc j < pc b.toNat ∧ A j = true
      · rw [if_pos cc, if_pos (e.mpr cc)]
        exact fold_eq hm hA k (j + 1) _ _ (by omega) (Or.inr ⟨rfl, by omega⟩)
      · rw [if_neg cc, if_neg (fun z => cc (e.mp z))]
        exact fold_eq hm hA k (j + 1) _ _ (by omega) (Or.inr ⟨rfl, r.2⟩)
set_option maxHeartbeats 8000000 in
theorem C_fewest_23 {m : Nat} (ht : mm_isT t) (hs : mm_isS s) (hS : SR h s pm hm fc kd n) (hN : NI pm hm n) (em : pm.toNat = m) : ∀ (k j : Nat) (b : Int), j + k = 2 ^ m → 0 ≤ b → b < ((2 ^ m : Nat) : Int) → mm_D (mm_M mm_T0 (d + 3)) cd_X0_fewestToPart 23 [.null, .null, .ref s, .int (iI ((setN (fbS cf pm fc kd n) hm.toNat : Nat) : Int)), .int (iI ((2 ^ m : Nat) : Int)), .int (iI b), .int (iI (j : Nat))] [] h = some (some (.int (iI (clsF (fun z => pS (fbS cf pm fc kd n) n pm z hm.toNat 0) k j b))), h)
  | 0, j, b, jk, b0, b1 => by
    have h8 := hN.1
    have lp := p29 (m := m) (by omega)
    rw [clsF]
    rw [U_X0_fewestToPart_23 ht hs]
    simp (disch := omega) only [iI_lit, jI_lit, iI_neg, jI_neg, iI_add, iI_sub, iI_mul, jI_add, jI_sub, jI_mul, rdI, rdL, iI_lt, iI_le, iI_eq, iI_nat, iI_b2_0, iI_b2_1, mm_bI_some, mm_bV_some, mm_bL_some, mm_bA_some, fd_wL, fd_wR, fl_wI, fl_wR, re_wI, re_wL, re_wC, ite_true, ite_false, not_true_eq_false, not_false_eq_true, lq_ge, lq_le, lq_gt, lq_lt, lq_eq, jI_lt, jI_le, jI_eq, if_pos, if_neg]
  | k + 1, j, b, jk, b0, b1 => by
    have h8 := hN.1
    have h9 := hN.2.1
    have lp := p29 (m := m) (by omega)
    have j1 := J_bits (d := d + 2) (h := h) (x := j) (by omega)
    have j2 := J_bits (d := d + 2) (h := h) (x := b.toNat) (by omega)
    rw [show ((b.toNat : Nat) : Int) = b by omega] at j2
    have pp : mm_M mm_T0 (d + 3) 20 [.ref s, .int (iI ((setN (fbS cf pm fc kd n) hm.toNat : Nat) : Int)), .int (iI (j : Nat))] h = some (some (.int (iI (b2 (pS (fbS cf pm fc kd n) n pm j hm.toNat 0 = true)))), h) := by
      rw [U_X0_parts hs]
      exact C_parts_2 hs hS hN (by omega) hm.toNat 0 (by omega)
    have pb : ∀ x, x < 512 → pc x < 10 := by decide +kernel
    have q1 := pb j (by omega)
    have q2 := pb b.toNat (by omega)
    have e1 : ((j : Nat) : Int) + 1 = ((j + 1 : Nat) : Int) := by omega
    rw [clsF]
    by_cases c1 : pc j < pc b.toNat
    · by_cases c2 : pS (fbS cf pm fc kd n) n pm j hm.toNat 0 = true
      · rw [b2_t c2] at pp
        rw [if_pos ⟨c1, c2⟩, ← C_fewest_23 ht hs hS hN em k (j + 1) (j : Nat) (by omega) (by omega) (by omega)]
        rw [U_X0_fewestToPart_23 ht hs]
        simp (disch := omega) only [iI_lit, jI_lit, iI_neg, jI_neg, iI_add, iI_sub, iI_mul, jI_add, jI_sub, jI_mul, rdI, rdL, iI_lt, iI_le, iI_eq, iI_nat, iI_b2_0, iI_b2_1, mm_bI_some, mm_bV_some, mm_bL_some, mm_bA_some, fd_wL, fd_wR, fl_wI, fl_wR, re_wI, re_wL, re_wC, ite_true, ite_false, not_true_eq_false, not_false_eq_true, lq_ge, lq_le, lq_gt, lq_lt, lq_eq, jI_lt, jI_le, jI_eq, if_pos, if_neg, j1, j2, pp, e1]
      · rw [b2_f c2] at pp
        rw [if_neg (fun z => c2 z.2), ← C_fewest_23 ht hs hS hN em k (j + 1) b (by omega) b0 b1]
        rw [U_X0_fewestToPart_23 ht hs]
        simp (disch := omega) only [iI_lit, jI_lit, iI_neg, jI_neg, iI_add, iI_sub, iI_mul, jI_add, jI_sub, jI_mul, rdI, rdL, iI_lt, iI_le, iI_eq, iI_nat, iI_b2_0, iI_b2_1, mm_bI_some, mm_bV_some, mm_bL_some, mm_bA_some, fd_wL, fd_wR, fl_wI, fl_wR, re_wI, re_wL, re_wC, ite_true, ite_false, not_true_eq_false, not_false_eq_true, lq_ge, lq_le, lq_gt, lq_lt, lq_eq, jI_lt, jI_le, jI_eq, if_pos, if_neg, j1, j2, pp, e1]
    · rw [if_neg (fun z => c1 z.1), ← C_fewest_23 ht hs hS hN em k (j + 1) b (by omega) b0 b1]
      rw [U_X0_fewestToPart_23 ht hs]
      simp (disch := omega) only [iI_lit, jI_lit, iI_neg, jI_neg, iI_add, iI_sub, iI_mul, jI_add, jI_sub, jI_mul, rdI, rdL, iI_lt, iI_le, iI_eq, iI_nat, iI_b2_0, iI_b2_1, mm_bI_some, mm_bV_some, mm_bL_some, mm_bA_some, fd_wL, fd_wR, fl_wI, fl_wR, re_wI, re_wL, re_wC, ite_true, ite_false, not_true_eq_false, not_false_eq_true, lq_ge, lq_le, lq_gt, lq_lt, lq_eq, jI_lt, jI_le, jI_eq, if_pos, if_neg, j1, j2, e1]
set_option maxHeartbeats 8000000 in
theorem R_parted_4 {m : Nat} (hN : NI pm hm n) (hF : FK pm fc kd) (y : 0 ≤ n 0 ∧ n 0 ≤ 2000) (em : pm.toNat = m) : ∀ (k j : Nat) (b : Int) (h : mm_H), j + k = 2 ^ m → -1 ≤ b → b < ((2 ^ m : Nat) : Int) → RT h pm hm fc kd cp cm cf → RepR h n → ∃ h', mm_D (mm_M mm_T0 (d + 6)) cd_X12_parted 4 [.ref 264, .int (iI b), .int (iI (j : Nat))] [] h = some (some (.int (iI (refF (fun z => pS (fbS cf pm fc kd n) n pm z hm.toNat 0) k j b))), h') ∧ Kf QP LE3 h h'
  | 0, j, b, h, jk, b0, b1, hT, hr => by
    have h8 := hN.1
    have lp := p29 (m := m) (by omega)
    have e40 : fd h 264 40 = ((m : Nat) : Int) := by rw [hT.1]; omega
    have sl := shl_tab (j := m) (by omega)
    refine ⟨h, ?_, Kf.refl⟩
    rw [refF]
    rw [U_X12_parted_4]
    simp (disch := omega) only [iI_lit, jI_lit, iI_neg, jI_neg, iI_add, iI_sub, iI_mul, jI_add, jI_sub, jI_mul, rdI, rdL, iI_lt, iI_le, iI_eq, iI_nat, iI_b2_0, iI_b2_1, mm_bI_some, mm_bV_some, mm_bL_some, mm_bA_some, fd_wL, fd_wR, fl_wI, fl_wR, re_wI, re_wL, re_wC, ite_true, ite_false, not_true_eq_false, not_false_eq_true, lq_ge, lq_le, lq_gt, lq_lt, lq_eq, jI_lt, jI_le, jI_eq, if_pos, if_neg, e40, sl]
  | k + 1, j, b, h, jk, b0, b1, hT, hr => by
    have h8 := hN.1
    have h9 := hN.2.1
    have lp := p29 (m := m) (by omega)
    have e40 : fd h 264 40 = ((m : Nat) : Int) := by rw [hT.1]; omega
    have sl := shl_tab (j := m) (by omega)
    have pb : ∀ x, x < 512 → pc x < 10 := by decide +kernel
    have q1 := pb j (by omega)
    have e1 : ((j : Nat) : Int) + 1 = ((j + 1 : Nat) : Int) := by omega
    obtain ⟨g, m1, m2⟩ := R_peace_2 (d := d) (set := j) hN hF y (by omega) hm.toNat 0 h (by omega) (by omega) hT hr
    have m1' : mm_M mm_T0 (d + 6) 260 [.ref 264, .int (iI (j : Nat))] h = some (some (.int (iI (b2 (pS (fbS cf pm fc kd n) n pm j hm.toNat 0 = true)))), g) := by
      rw [U_X12_isPeace]
      exact m1
    have T1 := hT.qp m2
    have R1 := hr.qp m2
    obtain ⟨ga, a1, a2⟩ := R_parted_4 hN hF y em k (j + 1) (j : Nat) g (by omega) (by omega) (by omega) T1 R1
    obtain ⟨gb, c1, c2⟩ := R_parted_4 hN hF y em k (j + 1) b g (by omega) b0 b1 T1 R1
    obtain ⟨gc, d1, d2⟩ := R_parted_4 hN hF y em k (j + 1) b h (by omega) b0 b1 hT hr
    rw [refF]
    by_cases cb : b = -1
    · by_cases cA : pS (fbS cf pm fc kd n) n pm j hm.toNat 0 = true
      · rw [b2_t cA] at m1'
        refine ⟨ga, ?_, m2.trans a2⟩
        rw [if_pos ⟨Or.inl cb, cA⟩, ← a1]
        rw [U_X12_parted_4]
        simp (disch := omega) only [iI_lit, jI_lit, iI_neg, jI_neg, iI_add, iI_sub, iI_mul, jI_add, jI_sub, jI_mul, rdI, rdL, iI_lt, iI_le, iI_eq, iI_nat, iI_b2_0, iI_b2_1, mm_bI_some, mm_bV_some, mm_bL_some, mm_bA_some, fd_wL, fd_wR, fl_wI, fl_wR, re_wI, re_wL, re_wC, ite_true, ite_false, not_true_eq_false, not_false_eq_true, lq_ge, lq_le, lq_gt, lq_lt, lq_eq, jI_lt, jI_le, jI_eq, if_pos, if_neg, e40, sl, m1', e1]
      · rw [b2_f cA] at m1'
        refine ⟨gb, ?_, m2.trans c2⟩
        rw [if_neg (fun z => cA z.2), ← c1]
        rw [U_X12_parted_4]
        simp (disch := omega) only [iI_lit, jI_lit, iI_neg, jI_neg, iI_add, iI_sub, iI_mul, jI_add, jI_sub, jI_mul, rdI, rdL, iI_lt, iI_le, iI_eq, iI_nat, iI_b2_0, iI_b2_1, mm_bI_some, mm_bV_some, mm_bL_some, mm_bA_some, fd_wL, fd_wR, fl_wI, fl_wR, re_wI, re_wL, re_wC, ite_true, ite_false, not_true_eq_false, not_false_eq_true, lq_ge, lq_le, lq_gt, lq_lt, lq_eq, jI_lt, jI_le, jI_eq, if_pos, if_neg, e40, sl, m1', e1]
    · have j1 := R_bits (d := d + 5) (h := h) (x := j) (by omega)
      have j2 := R_bits (d := d + 5) (h := h) (x := b.toNat) (by omega)
      rw [show ((b.toNat : Nat) : Int) = b by omega] at j2
      have q2 := pb b.toNat (by omega)
      by_cases cp' : pc j < pc b.toNat
      · by_cases cA : pS (fbS cf pm fc kd n) n pm j hm.toNat 0 = true
        · rw [b2_t cA] at m1'
          refine ⟨ga, ?_, m2.trans a2⟩
          rw [if_pos ⟨Or.inr cp', cA⟩, ← a1]
          rw [U_X12_parted_4]
          simp (disch := omega) only [iI_lit, jI_lit, iI_neg, jI_neg, iI_add, iI_sub, iI_mul, jI_add, jI_sub, jI_mul, rdI, rdL, iI_lt, iI_le, iI_eq, iI_nat, iI_b2_0, iI_b2_1, mm_bI_some, mm_bV_some, mm_bL_some, mm_bA_some, fd_wL, fd_wR, fl_wI, fl_wR, re_wI, re_wL, re_wC, ite_true, ite_false, not_true_eq_false, not_false_eq_true, lq_ge, lq_le, lq_gt, lq_lt, lq_eq, jI_lt, jI_le, jI_eq, if_pos, if_neg, e40, sl, j1, j2, m1', e1]
        · rw [b2_f cA] at m1'
          refine ⟨gb, ?_, m2.trans c2⟩
          rw [if_neg (fun z => cA z.2), ← c1]
          rw [U_X12_parted_4]
          simp (disch := omega) only [iI_lit, jI_lit, iI_neg, jI_neg, iI_add, iI_sub, iI_mul, jI_add, jI_sub, jI_mul, rdI, rdL, iI_lt, iI_le, iI_eq, iI_nat, iI_b2_0, iI_b2_1, mm_bI_some, mm_bV_some, mm_bL_some, mm_bA_some, fd_wL, fd_wR, fl_wI, fl_wR, re_wI, re_wL, re_wC, ite_true, ite_false, not_true_eq_false, not_false_eq_true, lq_ge, lq_le, lq_gt, lq_lt, lq_eq, jI_lt, jI_le, jI_eq, if_pos, if_neg, e40, sl, j1, j2, m1', e1]
      · refine ⟨gc, ?_, d2⟩
        rw [if_neg (by rintro ⟨z | z, _⟩; exact cb z; exact cp' z), ← d1]
        rw [U_X12_parted_4]
        simp (disch := omega) only [iI_lit, jI_lit, iI_neg, jI_neg, iI_add, iI_sub, iI_mul, jI_add, jI_sub, jI_mul, rdI, rdL, iI_lt, iI_le, iI_eq, iI_nat, iI_b2_0, iI_b2_1, mm_bI_some, mm_bV_some, mm_bL_some, mm_bA_some, fd_wL, fd_wR, fl_wI, fl_wR, re_wI, re_wL, re_wC, ite_true, ite_false, not_true_eq_false, not_false_eq_true, lq_ge, lq_le, lq_gt, lq_lt, lq_eq, jI_lt, jI_le, jI_eq, if_pos, if_neg, e40, sl, j1, j2, e1]
theorem bit_all : ∀ m, m < 9 → ∀ j, j < m → (2 ^ m - 1) / 2 ^ j % 2 = 1 := by decide +kernel
theorem pS_full {f : Int → Int} {m : Nat} (hN : NI pm hm n) (em : pm.toNat = m) (hf : ∀ p, f p = 1 → who n pm p ≠ -1) : ∀ (k : Nat) (p : Int), pS f n pm (2 ^ m - 1) k p = true
  | 0, p => rfl
  | k + 1, p => by
    have h8 := hN.1
    have b1 := who_b (n := n) (h := p) h8.1
    rw [pS, if_neg]
    · exact pS_full hN em hf k (p + 1)
    · rintro ⟨x, z, _⟩
      have := hf p x
      rw [bit_all m (by omega) _ (by omega)] at z
      omega
end PARTED
set_option maxHeartbeats 8000000 in
theorem K_parted : CallI 165 261 [] := by
  intro d h i I hi
  obtain ⟨t, st, pm, hm, fc, kd, cp, cm, cf, n, ev, past, M, W, H, S, P, N⟩ := I
  have W0 := W
  obtain ⟨w1, w2, w3, w4, w5, w6, w7, w8, w9, w10, w11, w12, w13⟩ := W
  have tt := isT_or w1.1
  have h8 := w5.1
  have h9 := w5.2.1
  have hc : hm ≠ 0 → CT h t cp cm cf := fun z => w2.2.2.2.2 (by have := w2.1; have := w2.2.2.2.1; omega)
  obtain ⟨h1, p1, p2⟩ := C_feudBits (d := d + 33) w1.1 isS_13 hc w8 w5 w6 (by omega)
  have k1 : Kf (fun a k => QW t a k ∨ QP a k) LE3 h h1 := p2.mono (fun a k q => Or.inl q) (fun a k q => q.elim)
  have T1 : RT h1 pm hm fc kd cp cm cf := w3.kf2 p2 (by intro a j; unfold NR QW; omega)
  have R1 : RepR h1 n := w4.kf p2 (by intro j hj; unfold QW; omega)
  have S1 : SR h1 13 pm hm fc kd n := w8.kf p2 (by intro a j a1 a2; unfold QW; omega)
  have lp := p29 (m := pm.toNat) (by omega)
  have tp := two_pos pm.toNat
  have c1 := C_fewest_23 (d := d + 35) (cf := cf) w1.1 isS_13 S1 w5 rfl (2 ^ pm.toNat) 0 (((2 ^ pm.toNat - 1 : Nat) : Int)) (by omega) (by omega) (by omega)
  obtain ⟨h2, q1, q2⟩ := R_parted_4 (d := d + 33) (cf := cf) w5 w6 (by omega) rfl (2 ^ pm.toNat) 0 (-1) h1 (by omega) (by omega) (by omega) T1 R1
  have fe := fold_eq (A := fun z => pS (fbS cf pm fc kd n) n pm z hm.toNat 0) (m := pm.toNat) (by omega) (pS_full w5 rfl (fun p hp => (fbS_who hp).1) _ _) (2 ^ pm.toNat) 0 (-1) (((2 ^ pm.toNat - 1 : Nat) : Int)) (by omega) (Or.inl ⟨rfl, rfl, tp⟩)
  refine ⟨iI (refF (fun z => pS (fbS cf pm fc kd n) n pm z hm.toNat 0) (2 ^ pm.toNat) 0 (-1)), h1, h2, ?_, ?_, Inv.scr2 M W0 H S P N (k1.trans (q2.monoQ (fun a k q => Or.inr q))) hi⟩
  · have rt := w1.2.1
    have f10 : fd h1 13 10 = ((pm.toNat : Nat) : Int) := by rw [S1.1]; omega
    have sl := shl_tab (j := pm.toNat) (by omega)
    have em : ((2 ^ pm.toNat : Nat) : Int) - 1 = ((2 ^ pm.toNat - 1 : Nat) : Int) := by omega
    rw [← fe, U_X11_parted]
    simp (disch := omega) only [iI_lit, jI_lit, iI_neg, jI_neg, iI_add, iI_sub, iI_mul, jI_add, jI_sub, jI_mul, rdI, rdL, iI_lt, iI_le, iI_eq, iI_nat, iI_b2_0, iI_b2_1, mm_bI_some, mm_bV_some, mm_bL_some, mm_bA_some, fd_wL, fd_wR, fl_wI, fl_wR, re_wI, re_wL, re_wC, ite_true, ite_false, not_true_eq_false, not_false_eq_true, lq_ge, lq_le, lq_gt, lq_lt, lq_eq, jI_lt, jI_le, jI_eq, if_pos, if_neg, rt, U_X0_fewestToPart w1.1 isS_13, p1, f10, sl, em]
    rw [show iI 0 = iI ((0 : Nat) : Int) from rfl, c1, mm_bI_some]
  · rw [U_X12_parted]
    exact q1
