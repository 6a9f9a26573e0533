/-! chance -/
def drawV (x : Int) : Int := (1103515245 * x + 12345) % 2147483648
theorem drawV_b (x : Int) : 0 ≤ drawV x ∧ drawV x < 2147483648 := by
  unfold drawV
  omega
theorem and31 (z : Int) : (iI z &&& iI 2147483647).toInt = z % 2147483648 := by
  have e : (iI z &&& iI 2147483647).toInt = (BitVec.ofInt 32 z &&& 2147483647#32).toInt := rfl
  have n : (BitVec.ofInt 32 z &&& 2147483647#32).toNat = (z % 2147483648).toNat := by
    rw [BitVec.toNat_and, BitVec.toNat_ofInt]
    have := Nat.and_two_pow_sub_one_eq_mod (z % ((2 ^ 32 : Nat) : Int)).toNat 31
    rw [show (2147483647#32).toNat = 2 ^ 31 - 1 from rfl, this]
    omega
  rw [e, BitVec.toInt_eq_toNat_of_lt (by omega), n]
  omega
theorem and31i (z : Int) : iI z &&& iI 2147483647 = iI (z % 2147483648) := by
  rw [← iI_of (iI z &&& iI 2147483647), and31]
section CHANCE
variable {d t : Nat} {h : mm_H} {m x : Int}
set_option maxHeartbeats 8000000 in
theorem C_draw (e : fd h 0 13 = x) (x0 : 0 ≤ x) (x1 : x < 2147483648) (m0 : 0 < m) (m1 : m < 1000) : mm_M mm_T0 (d + 1) 186 [.ref 0, .int (iI m)] h = some (some (.int (iI (drawV x / 64 % m))), wI h 0 13 (iI (drawV x))) := by
  have b := drawV_b x
  have w : iI (1103515245 * x + 12345) &&& iI 2147483647 = iI (drawV x) := and31i _
  have d1 : (drawV x).tdiv 64 = drawV x / 64 := Int.tdiv_eq_ediv_of_nonneg b.1
  have d2 : (drawV x / 64).tdiv m = drawV x / 64 / m := Int.tdiv_eq_ediv_of_nonneg (by omega)
  have d3 : drawV x / 64 - drawV x / 64 / m * m = drawV x / 64 % m := by
    have := Int.emod_def (drawV x / 64) m
    rw [Int.mul_comm] at this
    omega
  rw [U_X11_draw]
  simp (disch := omega) only [iI_lit, jI_lit, iI_neg, jI_neg, iI_add, iI_sub, iI_mul, jI_add, jI_sub, jI_mul, rdI, rdL, iI_lt, iI_le, iI_eq, iI_nat, iI_b2_0, iI_b2_1, mm_bI_some, mm_bV_some, mm_bL_some, mm_bA_some, fd_wL, fd_wR, fl_wI, fl_wR, re_wI, re_wL, re_wC, ite_true, ite_false, not_true_eq_false, not_false_eq_true, lq_ge, lq_le, lq_gt, lq_lt, lq_eq, jI_lt, jI_le, jI_eq, if_pos, if_neg, e, w, fd_wI_same, iI_div, d1, d2, d3]
set_option maxHeartbeats 8000000 in
theorem R_draw (e : fl h 264 75 = x) (x0 : 0 ≤ x) (x1 : x < 2147483648) (m0 : 0 < m) (m1 : m < 1000) : mm_M mm_T0 (d + 1) 283 [.ref 264, .int (iI m)] h = some (some (.int (iI (drawV x / 64 % m))), wL h 264 75 (jI (drawV x))) := by
  have b := drawV_b x
  have d0 : 1103515245 * x + 12345 - (1103515245 * x + 12345).tdiv 2147483648 * 2147483648 = drawV x := by
    rw [Int.tdiv_eq_ediv_of_nonneg (by omega)]
    unfold drawV
    omega
  have d1 : (drawV x).tdiv 64 = drawV x / 64 := Int.tdiv_eq_ediv_of_nonneg b.1
  have d2 : (drawV x / 64).tdiv m = drawV x / 64 / m := Int.tdiv_eq_ediv_of_nonneg (by omega)
  have d3 : drawV x / 64 - drawV x / 64 / m * m = drawV x / 64 % m := by
    have := Int.emod_def (drawV x / 64) m
    rw [Int.mul_comm] at this
    omega
  have mb : 0 ≤ drawV x / 64 % m ∧ drawV x / 64 % m < m := ⟨Int.emod_nonneg _ (by omega), Int.emod_lt_of_pos _ m0⟩
  have fs : fl (wL h 264 75 (jI (drawV x))) 264 75 = drawV x := by
    rw [fl_wL, if_pos ⟨rfl, rfl⟩, jI_to (by omega) (by omega)]
  rw [U_X12_drawOf]
  simp (disch := omega) only [iI_lit, jI_lit, iI_neg, jI_neg, iI_add, iI_sub, iI_mul, jI_add, jI_sub, jI_mul, rdI, rdL, iI_lt, iI_le, iI_eq, iI_nat, iI_b2_0, iI_b2_1, mm_bI_some, mm_bV_some, mm_bL_some, mm_bA_some, fd_wL, fd_wR, fl_wI, fl_wR, re_wI, re_wL, re_wC, ite_true, ite_false, not_true_eq_false, not_false_eq_true, lq_ge, lq_le, lq_gt, lq_lt, lq_eq, jI_lt, jI_le, jI_eq, if_pos, if_neg, iI_jI, e, jI_div, d0, fs, d1, d2, d3, jI_iI]
/-- one chance: drawn, row, slips -/
def slipS (pm sl x : Int) (n : Int → Int) : Int × (Int → Int) × Int :=
  if sl ≤ drawV x / 64 % 100 ∨ pm = 0 then (drawV x, n, 0)
  else (drawV (drawV (drawV x)), up n (2 + 3 * (drawV (drawV x) / 64 % pm)) (drawV (drawV (drawV x)) / 64 % 100), 1)
theorem slipS_ok {pm hm sl x : Int} {n : Int → Int} (hN : NI pm hm n) : (0 ≤ (slipS pm sl x n).1 ∧ (slipS pm sl x n).1 < 2147483648) ∧ NI pm hm (slipS pm sl x n).2.1 ∧ (slipS pm sl x n).2.1 0 = n 0 ∧ (0 ≤ (slipS pm sl x n).2.2 ∧ (slipS pm sl x n).2.2 ≤ 1) := by
  have h8 := hN.1
  unfold slipS
  by_cases c : sl ≤ drawV x / 64 % 100 ∨ pm = 0
  · rw [if_pos c]
    exact ⟨drawV_b x, hN, rfl, by show (0 : Int) ≤ 0 ∧ (0 : Int) ≤ 1; omega⟩
  · rw [if_neg c]
    have mb : 0 ≤ drawV (drawV x) / 64 % pm ∧ drawV (drawV x) / 64 % pm < pm := ⟨Int.emod_nonneg _ (by omega), Int.emod_lt_of_pos _ (by omega)⟩
    exact ⟨drawV_b _, NI_look hN (by omega) (by omega) mb.1 mb.2, up_ne (by omega), by show (0 : Int) ≤ 1 ∧ (1 : Int) ≤ 1; omega⟩
def chS (cp cm : List Int) (hm pm sl : Int) (fc kd : Int → Int) : Nat → Int → (Int → Int) → Int × (Int → Int) × Int × Evs
  | 0, x, n => (x, n, 0, [])
  | k + 1, x, n =>
    let r := slipS pm sl x n
    let y := yearS cp cm hm pm fc kd r.2.1
    let u := chS cp cm hm pm sl fc kd k r.1 y.1
    (u.1, u.2.1, r.2.2 + u.2.2.1, y.2 ++ u.2.2.2)
theorem chS_ok {cp cm : List Int} {hm pm sl : Int} {fc kd : Int → Int} : ∀ (k : Nat) (x : Int) (n : Int → Int), NI pm hm n → (0 ≤ x ∧ x < 2147483648) → (0 ≤ n 0 ∧ n 0 + k ≤ 2000) → (0 ≤ (chS cp cm hm pm sl fc kd k x n).1 ∧ (chS cp cm hm pm sl fc kd k x n).1 < 2147483648) ∧ NI pm hm (chS cp cm hm pm sl fc kd k x n).2.1 ∧ (chS cp cm hm pm sl fc kd k x n).2.1 0 = n 0 + k ∧ EvOK (chS cp cm hm pm sl fc kd k x n).2.2.2 ∧ (chS cp cm hm pm sl fc kd k x n).2.2.2.length ≤ 18 * k
  | 0, x, n, hN, hx, y => ⟨hx, hN, by simp [chS], EvOK.nil, by simp [chS]⟩
  | k + 1, x, n, hN, hx, y => by
    have a := slipS_ok (sl := sl) (x := x) hN
    have b := yearS_ok (cp := cp) (cm := cm) (fc := fc) (kd := kd) a.2.1
    have e := yearS_ev (cp := cp) (cm := cm) (fc := fc) (kd := kd) a.2.1 (by omega)
    have c := chS_ok (cp := cp) (cm := cm) (sl := sl) (fc := fc) (kd := kd) k _ _ b.1 a.1 (by omega)
    unfold chS
    refine ⟨c.1, c.2.1, ?_, e.app c.2.2.2.1, ?_⟩
    · rw [c.2.2.1, b.2.1, a.2.2.1]
      omega
    · simp only [List.length_append]
      omega
def QYd (t : Nat) : Nat → Nat → Prop := fun a k => QY t 13 a k ∨ (a = 0 ∧ k = 13)
set_option maxHeartbeats 8000000 in
theorem C_slip {pm hm sl : Int} {fc kd n : Int → Int} (ht : mm_isT t) (rt : h.2.2 0 10 = t) (hS : SR h 13 pm hm fc kd n) (hN : NI pm hm n) (e : fd h 0 13 = x) (x0 : 0 ≤ x) (x1 : x < 2147483648) (es : fd h t 3 = sl) (s0 : 0 ≤ sl ∧ sl ≤ 100) : ∃ g, mm_M mm_T0 (d + 3) 185 [.ref 0] h = some (some (.int (iI (slipS pm sl x n).2.2)), g) ∧ SR g 13 pm hm fc kd (slipS pm sl x n).2.1 ∧ fd g 0 13 = (slipS pm sl x n).1 ∧ Kf (fun a k => a = 17 ∨ (a = 0 ∧ k = 13)) nL h g := by
  have tt := isT_or ht
  have sh := sh_T ht
  have h8 := hN.1
  have e10 : fd h 13 10 = pm := hS.1
  have b := drawV_b x
  have b' := drawV_b (drawV x)
  have b'' := drawV_b (drawV (drawV x))
  have d1 := C_draw (d := d + 1) (m := 100) e x0 x1 (by omega) (by omega)
  have f1 : fd (wI h 0 13 (iI (drawV x))) 0 13 = drawV x := fd_wI_same (by omega) (by omega)
  have f2 : fd (wI h 0 13 (iI (drawV x))) t 3 = sl := (fd_wI_row (by omega)).trans es
  have f3 : fd (wI h 0 13 (iI (drawV x))) 13 10 = pm := (fd_wI_row (by omega)).trans e10
  have S1 : SR (wI h 0 13 (iI (drawV x))) 13 pm hm fc kd n := hS.congr (fun a j a1 a2 => fd_wI_row (by omega))
  have m1 : 0 ≤ drawV x / 64 % 100 ∧ drawV x / 64 % 100 < 100 := by omega
  rw [U_X11_slipOnce]
  unfold slipS
  by_cases c1 : sl ≤ drawV x / 64 % 100
  · refine ⟨wI h 0 13 (iI (drawV x)), ?_, ?_, ?_, ?_⟩
    · simp (disch := omega) only [iI_lit, jI_lit, iI_neg, jI_neg, iI_add, iI_sub, iI_mul, jI_add, jI_sub, jI_mul, rdI, rdL, iI_lt, iI_le, iI_eq, iI_nat, iI_b2_0, iI_b2_1, mm_bI_some, mm_bV_some, mm_bL_some, mm_bA_some, fd_wL, fd_wR, fl_wI, fl_wR, re_wI, re_wL, re_wC, ite_true, ite_false, not_true_eq_false, not_false_eq_true, lq_ge, lq_le, lq_gt, lq_lt, lq_eq, jI_lt, jI_le, jI_eq, if_pos, if_neg, d1, rt, sh, f2]
    · rw [if_pos (Or.inl c1)]; exact S1
    · rw [if_pos (Or.inl c1)]; exact f1
    · exact Kf.refl.wI (by omega)
  · by_cases c2 : pm = 0
    · refine ⟨wI h 0 13 (iI (drawV x)), ?_, ?_, ?_, ?_⟩
      · simp (disch := omega) only [iI_lit, jI_lit, iI_neg, jI_neg, iI_add, iI_sub, iI_mul, jI_add, jI_sub, jI_mul, rdI, rdL, iI_lt, iI_le, iI_eq, iI_nat, iI_b2_0, iI_b2_1, mm_bI_some, mm_bV_some, mm_bL_some, mm_bA_some, fd_wL, fd_wR, fl_wI, fl_wR, re_wI, re_wL, re_wC, ite_true, ite_false, not_true_eq_false, not_false_eq_true, lq_ge, lq_le, lq_gt, lq_lt, lq_eq, jI_lt, jI_le, jI_eq, if_pos, if_neg, d1, rt, sh, f2, f3]
      · rw [if_pos (Or.inr c2)]; exact S1
      · rw [if_pos (Or.inr c2)]; exact f1
      · exact Kf.refl.wI (by omega)
    · have c3 : ¬ (sl ≤ drawV x / 64 % 100 ∨ pm = 0) := by omega
      have mb : 0 ≤ drawV (drawV x) / 64 % pm ∧ drawV (drawV x) / 64 % pm < pm := ⟨Int.emod_nonneg _ (by omega), Int.emod_lt_of_pos _ (by omega)⟩
      have d2 := C_draw (d := d + 1) (m := pm) f1 b.1 b.2 (by omega) (by omega)
      have f4 : fd (wI (wI h 0 13 (iI (drawV x))) 0 13 (iI (drawV (drawV x)))) 0 13 = drawV (drawV x) := fd_wI_same (by omega) (by omega)
      have d3 := C_draw (d := d + 1) (m := 100) f4 b'.1 b'.2 (by omega) (by omega)
      have f6 : fd (wI (wI (wI h 0 13 (iI (drawV x))) 0 13 (iI (drawV (drawV x)))) 0 13 (iI (drawV (drawV (drawV x))))) 13 10 = pm := by
        rw [fd_wI_row (by omega), fd_wI_row (by omega), fd_wI_row (by omega)]; exact e10
      have sl' := S_setLook (d := d) (h := wI (wI (wI h 0 13 (iI (drawV x))) 0 13 (iI (drawV (drawV x)))) 0 13 (iI (drawV (drawV (drawV x))))) (p := drawV (drawV x) / 64 % pm) (x := drawV (drawV (drawV x)) / 64 % 100) isS_13 (by omega) (by omega)
      rw [if_pos (by rw [f6]; omega)] at sl'
      have S3 : SR (wI (wI (wI h 0 13 (iI (drawV x))) 0 13 (iI (drawV (drawV x)))) 0 13 (iI (drawV (drawV (drawV x))))) 13 pm hm fc kd n := hS.congr (fun a j a1 a2 => by rw [fd_wI_row (by omega), fd_wI_row (by omega), fd_wI_row (by omega)])
      refine ⟨wI (wI (wI (wI h 0 13 (iI (drawV x))) 0 13 (iI (drawV (drawV x)))) 0 13 (iI (drawV (drawV (drawV x))))) (13 + 4) (drawV (drawV x) / 64 % pm).toNat (iI (drawV (drawV (drawV x)) / 64 % 100)), ?_, ?_, ?_, ?_⟩
      · simp (disch := omega) only [iI_lit, jI_lit, iI_neg, jI_neg, iI_add, iI_sub, iI_mul, jI_add, jI_sub, jI_mul, rdI, rdL, iI_lt, iI_le, iI_eq, iI_nat, iI_b2_0, iI_b2_1, mm_bI_some, mm_bV_some, mm_bL_some, mm_bA_some, fd_wL, fd_wR, fl_wI, fl_wR, re_wI, re_wL, re_wC, ite_true, ite_false, not_true_eq_false, not_false_eq_true, lq_ge, lq_le, lq_gt, lq_lt, lq_eq, jI_lt, jI_le, jI_eq, if_pos, if_neg, d1, rt, sh, f2, f3, d2, d3, sl']
      · rw [if_neg c3]
        exact SR_look S3 mb.1 mb.2 h8.2 (by omega) (by omega)
      · rw [if_neg c3, fd_wI_row (by omega), fd_wI_same (by omega) (by omega)]
      · exact (((Kf.refl.wI (by omega)).wI (by omega)).wI (by omega)).wI (by omega)
set_option maxHeartbeats 8000000 in
theorem C_chance_39 {pm hm sl N : Int} {fc kd : Int → Int} {cp cm cf : List Int} (ht : mm_isT t) (hF : FK pm fc kd) (N2 : N < 1000) (s0 : 0 ≤ sl ∧ sl ≤ 100) : ∀ (k : Nat) (j y x : Int) (h : mm_H) (n : Int → Int) (ev : Evs), 0 ≤ j → j + k = N → (0 ≤ y ∧ y ≤ j) → h.2.2 0 10 = t → fd h t 3 = sl → fd h 0 13 = x → (0 ≤ x ∧ x < 2147483648) → CT h t cp cm cf → SR h 13 pm hm fc kd n → NI pm hm n → (0 ≤ n 0 ∧ n 0 + k ≤ 999) → KeptC h 13 ev → ev.length + 18 * k < 9800000 → ∃ g, mm_D (mm_M mm_T0 (d + 5)) cd_X11_chance 39 [.ref 0, .int (iI N), .int (iI y), .int (iI j)] [] h = some (some (.int (iI (y + (chS cp cm hm pm sl fc kd k x n).2.2.1))), g) ∧ SR g 13 pm hm fc kd (chS cp cm hm pm sl fc kd k x n).2.1 ∧ KeptC g 13 (ev ++ (chS cp cm hm pm sl fc kd k x n).2.2.2) ∧ fd g 0 13 = (chS cp cm hm pm sl fc kd k x n).1 ∧ Kf (QYd t) nL h g
  | 0, j, y, x, h, n, ev, j0, jk, hy, rt, es, e, hx, hC, hS, hN, hn, hk, hl => by
    refine ⟨h, ?_, hS, ?_, e, Kf.refl⟩
    · rw [U_X11_chance_39]
      show _ = some (some (Value.int (iI (y + 0))), h)
      simp (disch := omega) only [iI_lit, jI_lit, iI_neg, jI_neg, iI_add, iI_sub, iI_mul, jI_add, jI_sub, jI_mul, rdI, rdL, iI_lt, iI_le, iI_eq, iI_nat, iI_b2_0, iI_b2_1, mm_bI_some, mm_bV_some, mm_bL_some, mm_bA_some, fd_wL, fd_wR, fl_wI, fl_wR, re_wI, re_wL, re_wC, ite_true, ite_false, not_true_eq_false, not_false_eq_true, lq_ge, lq_le, lq_gt, lq_lt, lq_eq, jI_lt, jI_le, jI_eq, if_pos, if_neg]
      rw [Int.add_zero]
    · show KeptC h 13 (ev ++ [])
      rw [List.append_nil]; exact hk
  | k + 1, j, y, x, h, n, ev, j0, jk, hy, rt, es, e, hx, hC, hS, hN, hn, hk, hl => by
    have tt := isT_or ht
    have sh := sh_T ht
    obtain ⟨g, a1, a2, a3, a4⟩ := C_slip (d := d + 2) ht rt hS hN e hx.1 hx.2 es s0
    have ok := slipS_ok (sl := sl) (x := x) hN
    have C1 : CT g t cp cm cf := hC.kf3 a4 (by intro a j; unfold NC; omega)
    have K1 : KeptC g 13 ev := hk.congr (a4.1 _ _ (by omega)) (fun j => a4.1 _ _ (by omega))
    obtain ⟨g2, b1, b2', b3, b4⟩ := C_pass (d := d) (N := 1) ht isS_13 hF (by omega) (by omega) C1 a2 ok.2.1 (by omega) K1 (by omega)
    have one : yearsS cp cm hm pm fc kd (1 : Int).toNat (slipS pm sl x n).2.1 = yearS cp cm hm pm fc kd (slipS pm sl x n).2.1 := by
      show yearsS cp cm hm pm fc kd 1 (slipS pm sl x n).2.1 = _
      unfold yearsS
      simp only [yearsS, List.append_nil]
    rw [one] at b2' b3
    have yo := yearS_ok (cp := cp) (cm := cm) (fc := fc) (kd := kd) ok.2.1
    have rt1 : g.2.2 0 10 = t := by rw [a4.2.2]; exact rt
    have rt2 : g2.2.2 0 10 = t := by rw [b4.2.2]; exact rt1
    have kk : Kf (QYd t) nL h g2 := Kf.trans (a4.monoQ (fun a k q => by unfold QYd QY; omega)) (b4.monoQ (fun a k q => Or.inl q))
    obtain ⟨g3, c1, c2, c3, c4, c5⟩ := C_chance_39 ht hF N2 s0 k (j + 1) (y + (slipS pm sl x n).2.2) (slipS pm sl x n).1 g2 _ _ (by omega) (by omega) (by omega) rt2 (by rw [kk.1 t 3 (by unfold QYd QY; omega)]; exact es) (by rw [b4.1 0 13 (by unfold QY; omega)]; exact a3) ok.1 ((hC.kf3 kk (by intro a j; unfold NC QYd QY; omega))) b2' yo.1 (by omega) b3 (by rw [List.length_append]; omega)
    refine ⟨g3, ?_, c2, ?_, c4, Kf.trans kk c5⟩
    · rw [U_X11_chance_39]
      have e1 : y + (chS cp cm hm pm sl fc kd (k + 1) x n).2.2.1 = y + (slipS pm sl x n).2.2 + (chS cp cm hm pm sl fc kd k (slipS pm sl x n).1 (yearS cp cm hm pm fc kd (slipS pm sl x n).2.1).1).2.2.1 := by
        show y + ((slipS pm sl x n).2.2 + (chS cp cm hm pm sl fc kd k (slipS pm sl x n).1 (yearS cp cm hm pm fc kd (slipS pm sl x n).2.1).1).2.2.1) = _
        omega
      rw [e1, ← c1]
      simp (disch := omega) only [iI_lit, jI_lit, iI_neg, jI_neg, iI_add, iI_sub, iI_mul, jI_add, jI_sub, jI_mul, rdI, rdL, iI_lt, iI_le, iI_eq, iI_nat, iI_b2_0, iI_b2_1, mm_bI_some, mm_bV_some, mm_bL_some, mm_bA_some, fd_wL, fd_wR, fl_wI, fl_wR, re_wI, re_wL, re_wC, ite_true, ite_false, not_true_eq_false, not_false_eq_true, lq_ge, lq_le, lq_gt, lq_lt, lq_eq, jI_lt, jI_le, jI_eq, if_pos, if_neg, a1, rt1, sh, b1]
    · show KeptC g3 13 (ev ++ ((yearS cp cm hm pm fc kd (slipS pm sl x n).2.1).2 ++ _))
      rw [← List.append_assoc]; exact c3
/-- what a chance of the reference changes -/
def LCh : Nat → Nat → Prop := fun a k => a = 334 ∨ (a = 264 ∧ k = 75)
set_option maxHeartbeats 8000000 in
theorem R_chance_32 {pm hm sl N : Int} {fc kd : Int → Int} {cp cm cf : List Int} (hF : FK pm fc kd) (N2 : N < 1000) (s0 : 0 ≤ sl ∧ sl ≤ 100) : ∀ (k : Nat) (j y x : Int) (h : mm_H) (n : Int → Int) (ev : Evs), 0 ≤ j → j + k = N → (0 ≤ y ∧ y ≤ j) → fd h 264 47 = sl → fl h 264 75 = x → (0 ≤ x ∧ x < 2147483648) → RT h pm hm fc kd cp cm cf → RepR h n → NI pm hm n → (0 ≤ n 0 ∧ n 0 + k ≤ 999) → fd h 264 64 = 0 → KeptR h ev → (0 ≤ fd h 264 65 ∧ fd h 264 65 + 18 * k < 80000000) → ∃ g, mm_D (mm_M mm_T0 (d + 6)) cd_X12_chance 32 [.ref 264, .int (iI N), .int (iI y), .int (iI j), .null] [] h = some (some (.int (iI (y + (chS cp cm hm pm sl fc kd k x n).2.2.1))), g) ∧ RepR g (chS cp cm hm pm sl fc kd k x n).2.1 ∧ KeptR g (ev ++ (chS cp cm hm pm sl fc kd k x n).2.2.2) ∧ fl g 264 75 = (chS cp cm hm pm sl fc kd k x n).1 ∧ Kf QS LCh h g ∧ (0 ≤ fd g 264 65 ∧ fd g 264 65 ≤ fd h 264 65 + 18 * k)
  | 0, j, y, x, h, n, ev, j0, jk, hy, es, e, hx, hT, hR, hN, hn, e64, hk, h65 => by
    refine ⟨h, ?_, hR, ?_, e, Kf.refl, by omega⟩
    · rw [U_X12_chance_32]
      show _ = some (some (Value.int (iI (y + 0))), h)
      simp (disch := omega) only [iI_lit, jI_lit, iI_neg, jI_neg, iI_add, iI_sub, iI_mul, jI_add, jI_sub, jI_mul, rdI, rdL, iI_lt, iI_le, iI_eq, iI_nat, iI_b2_0, iI_b2_1, mm_bI_some, mm_bV_some, mm_bL_some, mm_bA_some, fd_wL, fd_wR, fl_wI, fl_wR, re_wI, re_wL, re_wC, ite_true, ite_false, not_true_eq_false, not_false_eq_true, lq_ge, lq_le, lq_gt, lq_lt, lq_eq, jI_lt, jI_le, jI_eq, if_pos, if_neg]
      rw [Int.add_zero]
    · show KeptR h (ev ++ [])
      rw [List.append_nil]; exact hk
  | k + 1, j, y, x, h, n, ev, j0, jk, hy, es, e, hx, hT, hR, hN, hn, e64, hk, h65 => by
    have h8 := hN.1
    have b := drawV_b x
    have b' := drawV_b (drawV x)
    have b'' := drawV_b (drawV (drawV x))
    have e40 : fd h 264 40 = pm := hT.1
    have ok := slipS_ok (sl := sl) (x := x) hN
    have d1 := fun d => R_draw (d := d) (m := 100) e hx.1 hx.2 (by omega) (by omega)
    have m1 : 0 ≤ drawV x / 64 % 100 ∧ drawV x / 64 % 100 < 100 := by omega
    -- the year behind a slip
    have go : ∀ (g : mm_H), Kf (fun a k => a = 300 ∧ k < 89) LCh h g → RepR g (slipS pm sl x n).2.1 → fl g 264 75 = (slipS pm sl x n).1 → ∃ g3, mm_bV (mm_M mm_T0 (d + 6) 233 [.ref 264] g) (fun h3 => mm_D (mm_M mm_T0 (d + 6)) cd_X12_chance 32 [.ref 264, .int (iI N), .int (iI (y + (slipS pm sl x n).2.2)), .int (iI (j + 1)), .null] [] h3) = some (some (.int (iI (y + (chS cp cm hm pm sl fc kd (k + 1) x n).2.2.1))), g3) ∧ RepR g3 (chS cp cm hm pm sl fc kd (k + 1) x n).2.1 ∧ KeptR g3 (ev ++ (chS cp cm hm pm sl fc kd (k + 1) x n).2.2.2) ∧ fl g3 264 75 = (chS cp cm hm pm sl fc kd (k + 1) x n).1 ∧ Kf QS LCh h g3 ∧ (0 ≤ fd g3 264 65 ∧ fd g3 264 65 ≤ fd h 264 65 + 18 * ((k + 1 : Nat) : Int)) := by
      intro g kg rg lg
      have f65 : fd g 264 65 = fd h 264 65 := kg.1 _ _ (by omega)
      have f64 : fd g 264 64 = 0 := (kg.1 _ _ (by omega)).trans e64
      have Tg : RT g pm hm fc kd cp cm cf := hT.kf2 kg (by intro a j; unfold NR; omega)
      have Kg : KeptR g ev := hk.congr (fun z hz => kg.1 300 z (by omega))
      obtain ⟨g2, q1, q2⟩ := R_yearGoes (d := d) hF Tg rg ok.2.1 (by omega) (by omega) (fun _ => Kg)
      have q64 := q2.e64
      obtain ⟨q3, q4, q5, q6, q7⟩ := q2
      have yo := yearS_ok (cp := cp) (cm := cm) (fc := fc) (kd := kd) ok.2.1
      obtain ⟨g3, c1, c2, c3, c4, c5, c6⟩ := R_chance_32 hF N2 s0 k (j + 1) (y + (slipS pm sl x n).2.2) (slipS pm sl x n).1 g2 _ _ (by omega) (by omega) (by omega) (by rw [q4.1 264 47 (by unfold QS; omega), kg.1 264 47 (by omega)]; exact es) (by rw [q4.2.1 264 75 (by unfold LE3; omega)]; exact lg) ok.1 (Tg.kf2 q4 (by intro a j; unfold NR QS; omega)) q3 yo.1 (by omega) (by rw [q64]; exact f64) (q6 f64) (by omega)
      refine ⟨g3, ?_, c2, ?_, c4, ?_, ?_⟩
      · have ee : y + (slipS pm sl x n).2.2 + (chS cp cm hm pm sl fc kd k (slipS pm sl x n).1 (yearS cp cm hm pm fc kd (slipS pm sl x n).2.1).1).2.2.1 = y + (chS cp cm hm pm sl fc kd (k + 1) x n).2.2.1 := by
          show _ = y + ((slipS pm sl x n).2.2 + (chS cp cm hm pm sl fc kd k (slipS pm sl x n).1 (yearS cp cm hm pm fc kd (slipS pm sl x n).2.1).1).2.2.1)
          omega
        rw [q1, mm_bV_some, c1, ee]
      · show KeptR g3 (ev ++ ((yearS cp cm hm pm fc kd (slipS pm sl x n).2.1).2 ++ _))
        rw [← List.append_assoc]; exact c3
      · exact Kf.trans (kg.monoQ (fun a k q => Or.inl q.1)) (Kf.trans (q4.mono (fun a k q => q) (fun a k q => Or.inl q)) c5)
      · omega
    have k1 : ∀ v : Int64, Kf (fun a k => a = 300 ∧ k < 89) LCh h (wL h 264 75 v) := fun v => Kf.refl.wL (Or.inr ⟨rfl, rfl⟩)
    have fs : ∀ (g : mm_H) (z : Int), 0 ≤ z → z < 2147483648 → fl (wL g 264 75 (jI z)) 264 75 = z := by
      intro g z z0 z1
      rw [fl_wL, if_pos ⟨rfl, rfl⟩, jI_to (by omega) (by omega)]
    have R1 : ∀ v : Int64, RepR (wL h 264 75 v) n := fun v => hR
    by_cases c1 : sl ≤ drawV x / 64 % 100
    · have es' : slipS pm sl x n = (drawV x, n, 0) := by unfold slipS; rw [if_pos (Or.inl c1)]
      rw [es'] at go
      obtain ⟨g3, w1, w2⟩ := go _ (k1 (jI (drawV x))) (R1 _) (fs _ _ b.1 b.2)
      refine ⟨g3, ?_, w2⟩
      rw [← w1, U_X12_chance_32]
      simp (disch := omega) only [iI_lit, jI_lit, iI_neg, jI_neg, iI_add, iI_sub, iI_mul, jI_add, jI_sub, jI_mul, rdI, rdL, iI_lt, iI_le, iI_eq, iI_nat, iI_b2_0, iI_b2_1, mm_bI_some, mm_bV_some, mm_bL_some, mm_bA_some, fd_wL, fd_wR, fl_wI, fl_wR, re_wI, re_wL, re_wC, ite_true, ite_false, not_true_eq_false, not_false_eq_true, lq_ge, lq_le, lq_gt, lq_lt, lq_eq, jI_lt, jI_le, jI_eq, if_pos, if_neg, d1, es, Int.add_zero]
    · by_cases c2 : pm = 0
      · have es' : slipS pm sl x n = (drawV x, n, 0) := by unfold slipS; rw [if_pos (Or.inr c2)]
        rw [es'] at go
        obtain ⟨g3, w1, w2⟩ := go _ (k1 (jI (drawV x))) (R1 _) (fs _ _ b.1 b.2)
        refine ⟨g3, ?_, w2⟩
        rw [← w1, U_X12_chance_32]
        simp (disch := omega) only [iI_lit, jI_lit, iI_neg, jI_neg, iI_add, iI_sub, iI_mul, jI_add, jI_sub, jI_mul, rdI, rdL, iI_lt, iI_le, iI_eq, iI_nat, iI_b2_0, iI_b2_1, mm_bI_some, mm_bV_some, mm_bL_some, mm_bA_some, fd_wL, fd_wR, fl_wI, fl_wR, re_wI, re_wL, re_wC, ite_true, ite_false, not_true_eq_false, not_false_eq_true, lq_ge, lq_le, lq_gt, lq_lt, lq_eq, jI_lt, jI_le, jI_eq, if_pos, if_neg, d1, es, e40, Int.add_zero]
      · have es' : slipS pm sl x n = (drawV (drawV (drawV x)), up n (2 + 3 * (drawV (drawV x) / 64 % pm)) (drawV (drawV (drawV x)) / 64 % 100), 1) := by unfold slipS; rw [if_neg (by omega)]
        rw [es'] at go
        have mb : 0 ≤ drawV (drawV x) / 64 % pm ∧ drawV (drawV x) / 64 % pm < pm := ⟨Int.emod_nonneg _ (by omega), Int.emod_lt_of_pos _ (by omega)⟩
        have d2 := fun d => R_draw (d := d) (m := pm) (fs h _ b.1 b.2) b.1 b.2 (by omega) (by omega)
        have d3 := fun d => R_draw (d := d) (m := 100) (fs (wL h 264 75 (jI (drawV x))) _ b'.1 b'.2) b'.1 b'.2 (by omega) (by omega)
        obtain ⟨g3, w1, w2⟩ := go (wI (wL (wL (wL h 264 75 (jI (drawV x))) 264 75 (jI (drawV (drawV x)))) 264 75 (jI (drawV (drawV (drawV x))))) 300 (2 + 3 * (drawV (drawV x) / 64 % pm)).toNat (iI (drawV (drawV (drawV x)) / 64 % 100))) ((((k1 _).wL (Or.inr ⟨rfl, rfl⟩)).wL (Or.inr ⟨rfl, rfl⟩)).wI (by omega)) (RepR.w (h := wL (wL (wL h 264 75 (jI (drawV x))) 264 75 (jI (drawV (drawV x)))) 264 75 (jI (drawV (drawV (drawV x))))) hR (by omega) (by omega) (by omega)) (by rw [fl_wI]; exact fs _ _ b''.1 b''.2)
        refine ⟨g3, ?_, w2⟩
        rw [← w1, U_X12_chance_32]
        simp (disch := omega) only [iI_lit, jI_lit, iI_neg, jI_neg, iI_add, iI_sub, iI_mul, jI_add, jI_sub, jI_mul, rdI, rdL, iI_lt, iI_le, iI_eq, iI_nat, iI_b2_0, iI_b2_1, mm_bI_some, mm_bV_some, mm_bL_some, mm_bA_some, fd_wL, fd_wR, fl_wI, fl_wR, re_wI, re_wL, re_wC, ite_true, ite_false, not_true_eq_false, not_false_eq_true, lq_ge, lq_le, lq_gt, lq_lt, lq_eq, jI_lt, jI_le, jI_eq, if_pos, if_neg, d1, es, e40, d2, d3]
end CHANCE
section CHANCE2
variable {a : Int}
theorem IvM.kf2 {h h' : mm_H} {Q L : Nat → Nat → Prop} (I : IvM h) (k : Kf Q L h h') (q : ∀ a j, NM a j → ¬ (a = 0 ∧ j = 13) → ¬ Q a j) (e : fd h' 0 13 = fl h' 264 75 ∧ 0 ≤ fl h' 264 75) : IvM h' := by
  obtain ⟨a1, a2, a3, a4, a5, a6, a7⟩ := I
  have z : ∀ a j, NM a j → ¬ (a = 0 ∧ j = 13) → fd h' a j = fd h a j := fun a j x y => k.1 a j (q a j x y)
  have e1 : fd h' 264 1 = fd h 264 1 := z 264 1 (by unfold NM; omega) (by omega)
  refine ⟨?_, ?_, ?_, ⟨?_, ?_⟩, ?_, e.1, e.2⟩
  · rw [e1, z 1 1 (by unfold NM; omega) (by omega)]; exact a1
  · rw [e1]; exact a2
  · rw [e1]
    intro j hj
    rw [z 2 j (by unfold NM; omega) (by omega), z 265 j (by unfold NM; omega) (by omega)]
    exact a3 j hj
  · rw [z 3 5 (by unfold NM; omega) (by omega), z 264 7 (by unfold NM; omega) (by omega)]; exact a4.1
  · rw [z 3 6 (by unfold NM; omega) (by omega), z 264 8 (by unfold NM; omega) (by omega)]; exact a4.2
  · intro j hj
    rw [z 229 j (by unfold NM; omega) (by omega), z 266 j (by unfold NM; omega) (by omega)]
    exact a5 j hj
set_option maxHeartbeats 8000000 in
theorem K_chance (al : -2147483648 ≤ a) (au : a < 2147483648) : CallI 175 284 [.int (iI a)] := by
  intro d h i I hi
  have I0 := I
  obtain ⟨t, st, pm, hm, fc, kd, cp, cm, cf, n, ev, past, M, W, H, S, P, N⟩ := I
  have W0 := W
  obtain ⟨w1, w2, w3, w4, w5, w6, w7, w8, w9, w10, w11, w12, w13⟩ := W
  have tt := isT_or w1.1
  have h8 := w5.1
  have e53 : fd h 264 53 = st := w2.2.2.1
  have e12 : fd h 0 12 = st := w2.2.1
  have st1 := w2.1
  have e11 : fd h 13 11 = n 0 := w8.2.2.1
  have e0 : fd h 300 0 = n 0 := w4 0 (by omega) (by omega)
  by_cases c1 : st = 1 ∧ (1 ≤ a ∧ a ≤ 100) ∧ n 0 + a ≤ 999
  · obtain ⟨h1, p1, p2, p3⟩ := H_push (d := d + 37) H w8 w10.1 w4 w10.2.1 w5 w7 w10.2.2.1 w10.2.2.2
    have S1 : SR h1 13 pm hm fc kd n := w8.kf p2 (by intro a j a1 a2; unfold QHc; omega)
    have K1 : KeptC h1 13 ev := w10.1.kf p2 (by intro a j a1 a2; unfold QHc; omega)
    have C1 : CT h1 t cp cm cf := (w2.2.2.2.2 c1.1).kf3 p2 (by intro a j; unfold NC QHc; omega)
    have m6 := M.2.2.2.2.2.1
    have m7 := M.2.2.2.2.2.2
    have := fd_lo h 0 13; have := fd_hi h 0 13
    have hx : 0 ≤ fl h 264 75 ∧ fl h 264 75 < 2147483648 := by omega
    obtain ⟨g, q1, q2, q3, q5, q4⟩ := C_chance_39 (d := d + 34) (N := a) (sl := fd h 264 47) (cf := cf) w1.1 w6 (by omega) w12.2 a.toNat 0 0 (fl h 264 75) h1 n ev (by omega) (by omega) (by omega) (by rw [p2.2.2]; exact w1.2.1) (by rw [p2.1 t 3 (by unfold QHc; omega)]; exact w12.1) (by rw [p2.1 0 13 (by unfold QHc; omega)]; exact m6) hx C1 S1 w5 (by omega) K1 (by omega)
    obtain ⟨h2, r1, r2', r3⟩ := p3 _ _ _ q4 (by intro a j; unfold QYd QY; omega)
    have kg : ∀ x j, 264 ≤ x → fd g x j = fd h x j := fun x j hx => (q4.1 x j (by unfold QYd QY; omega)).trans (p2.1 x j (by unfold QHc; omega))
    have k12 : Kf (fun a k => QHc a k ∨ QYd t a k ∨ QHr a k) nL h h2 := Kf.trans (p2.monoQ (fun a k q => Or.inl q)) (Kf.trans (q4.monoQ (fun a k q => Or.inr (Or.inl q))) (r2'.monoQ (fun a k q => Or.inr (Or.inr q))))
    have T2 : RT h2 pm hm fc kd cp cm cf := w3.kf2 k12 (by intro a j; unfold NR QHc QYd QY QHr; omega)
    have R2 : RepR h2 n := w4.kf k12 (by intro j hj; unfold QHc QYd QY QHr; omega)
    have z64 : fd h2 264 64 = 0 := (k12.1 264 64 (by unfold QHc QYd QY QHr; omega)).trans w9
    have z65 : fd h2 264 65 = fd h 264 65 := k12.1 264 65 (by unfold QHc QYd QY QHr; omega)
    have KR2 : KeptR h2 ev := w10.2.1.congr (fun k hk => k12.1 300 k (by unfold QHc QYd QY QHr; omega))
    obtain ⟨h3, s1, s2, s3, s4, s5, s6⟩ := R_chance_32 (d := d + 33) (N := a) (sl := fd h 264 47) (cf := cf) w6 (by omega) w12.2 a.toNat 0 0 (fl h 264 75) h2 n ev (by omega) (by omega) (by omega) (k12.1 264 47 (by unfold QHc QYd QY QHr; omega)) (k12.2.1 264 75 (fun q => q)) hx T2 R2 w5 (by omega) z64 KR2 (by omega)
    have ok := chS_ok (cp := cp) (cm := cm) (sl := fd h 264 47) (fc := fc) (kd := kd) a.toNat (fl h 264 75) n w5 hx (by omega)
    have k4 : Kf (fun a k => a = 300 ∨ (a = 264 ∧ (k = 108 ∨ k = 54 ∨ (57 ≤ k ∧ k ≤ 65)))) (fun a k => a = 334 ∨ (a = 264 ∧ k = 75)) h2 h3 := s5.mono (fun a k q => by unfold QS at q; omega) (fun a k q => q)
    have kall : Kf (fun a k => (QHc a k ∨ QYd t a k ∨ QHr a k) ∨ QS a k) LCh h h3 := Kf.trans (k12.mono (fun a k q => Or.inl q) (fun a k q => q.elim)) (s5.monoQ (fun a k q => Or.inr q))
    have l1 : ((ev ++ (chS cp cm hm pm (fd h 264 47) fc kd a.toNat (fl h 264 75) n).2.2.2).length : Int) = ev.length + (chS cp cm hm pm (fd h 264 47) fc kd a.toNat (fl h 264 75) n).2.2.2.length := by rw [List.length_append]; omega
    have M3 : IvM h3 := M.kf2 kall (by intro a j; unfold NM QHc QYd QY QHr QS; omega) (by rw [s4, s5.1 0 13 (by unfold QS; omega), r2'.1 0 13 (by unfold QHr; omega), q5]; exact ⟨rfl, ok.1.1⟩)
    refine ⟨iI (0 + (chS cp cm hm pm (fd h 264 47) fc kd a.toNat (fl h 264 75) n).2.2.1), g, h3, ?_, ?_, Inv.act M3 W0 S P N hi p2 (q4.monoQ (fun a k q => q)) r2' r3 k4 q2 q3 s2 s3 ok.2.1 (by omega) (w10.2.2.1.app ok.2.2.2.1) (by omega) (by rw [s5.1 264 64 (by unfold QS; omega)]; exact z64) (by omega)⟩
    · rw [U_X11_chance]
      simp (disch := omega) only [iI_lit, jI_lit, iI_neg, jI_neg, iI_add, iI_sub, iI_mul, jI_add, jI_sub, jI_mul, rdI, rdL, iI_lt, iI_le, iI_eq, iI_nat, iI_b2_0, iI_b2_1, mm_bI_some, mm_bV_some, mm_bL_some, mm_bA_some, fd_wL, fd_wR, fl_wI, fl_wR, re_wI, re_wL, re_wC, ite_true, ite_false, not_true_eq_false, not_false_eq_true, lq_ge, lq_le, lq_gt, lq_lt, lq_eq, jI_lt, jI_le, jI_eq, if_pos, if_neg, e12, C_canPass, e11, p1, q1]
    · have f53 : fd g 264 53 = st := (kg _ _ (by omega)).trans e53
      have f0 : fd g 300 0 = n 0 := (kg _ _ (by omega)).trans e0
      rw [U_X12_chance]
      simp (disch := omega) only [iI_lit, jI_lit, iI_neg, jI_neg, iI_add, iI_sub, iI_mul, jI_add, jI_sub, jI_mul, rdI, rdL, iI_lt, iI_le, iI_eq, iI_nat, iI_b2_0, iI_b2_1, mm_bI_some, mm_bV_some, mm_bL_some, mm_bA_some, fd_wL, fd_wR, fl_wI, fl_wR, re_wI, re_wL, re_wC, ite_true, ite_false, not_true_eq_false, not_false_eq_true, lq_ge, lq_le, lq_gt, lq_lt, lq_eq, jI_lt, jI_le, jI_eq, if_pos, if_neg, f53, R_isAhead, f0, r1, s1]
  · refine ⟨iI (-1), wI h 229 3 (iI (fd h 229 3 + 1)), _, ?_, ?_, I0.ref (k := 3) (by omega) hi⟩
    · rw [U_X11_chance]
      by_cases z : st = 0 <;> simp (disch := omega) only [iI_lit, jI_lit, iI_neg, jI_neg, iI_add, iI_sub, iI_mul, jI_add, jI_sub, jI_mul, rdI, rdL, iI_lt, iI_le, iI_eq, iI_nat, iI_b2_0, iI_b2_1, mm_bI_some, mm_bV_some, mm_bL_some, mm_bA_some, fd_wL, fd_wR, fl_wI, fl_wR, re_wI, re_wL, re_wC, ite_true, ite_false, not_true_eq_false, not_false_eq_true, lq_ge, lq_le, lq_gt, lq_lt, lq_eq, jI_lt, jI_le, jI_eq, if_pos, if_neg, e12, C_canPass, e11, C_ref3]
    · have k264 : ∀ x, fd (wI h 229 3 (iI (fd h 229 3 + 1))) 264 x = fd h 264 x := fun x => fd_wI_row (by omega)
      have k38 := k264 38
      have k40 := k264 40
      have k0 : fd (wI h 229 3 (iI (fd h 229 3 + 1))) 300 0 = n 0 := (fd_wI_row (by omega)).trans e0
      rw [U_X12_chance]
      by_cases z : st = 0 <;> simp (disch := omega) only [iI_lit, jI_lit, iI_neg, jI_neg, iI_add, iI_sub, iI_mul, jI_add, jI_sub, jI_mul, rdI, rdL, iI_lt, iI_le, iI_eq, iI_nat, iI_b2_0, iI_b2_1, mm_bI_some, mm_bV_some, mm_bL_some, mm_bA_some, fd_wL, fd_wR, fl_wI, fl_wR, re_wI, re_wL, re_wC, ite_true, ite_false, not_true_eq_false, not_false_eq_true, lq_ge, lq_le, lq_gt, lq_lt, lq_eq, jI_lt, jI_le, jI_eq, if_pos, if_neg, k264, e53, R_isAhead, k0, R_ref3, fd_wI_row]
end CHANCE2
