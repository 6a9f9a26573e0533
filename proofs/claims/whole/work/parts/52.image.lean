/-! image -/
def chk (l : List Int) : Int := l.foldl (fun c v => (3 * c + v) % 251) 149
theorem chk_snoc (l : List Int) (v : Int) : chk (l ++ [v]) = (3 * chk l + v) % 251 := by
  unfold chk
  rw [List.foldl_append]
  rfl
theorem fold_b : ∀ (l : List Int) (c : Int), 0 ≤ c → c ≤ 250 → 0 ≤ l.foldl (fun c v => (3 * c + v) % 251) c ∧ l.foldl (fun c v => (3 * c + v) % 251) c ≤ 250
  | [], c, h1, h2 => ⟨h1, h2⟩
  | v :: l, c, h1, h2 => fold_b l ((3 * c + v) % 251) (by omega) (by omega)
theorem chk_b (l : List Int) : 0 ≤ chk l ∧ chk l ≤ 250 := fold_b l 149 (by omega) (by omega)
def WrC (g : mm_H) (l : List Int) : Prop := fd g 218 1 = (l.length : Int) ∧ fd g 218 2 = chk l ∧ ∀ j v, l[j]? = some v → fd g 219 j = v
def WrR (g : mm_H) (l : List Int) : Prop := fd g 264 112 = (l.length : Int) ∧ ∀ j v, l[j]? = some v → fd g 335 j = v
theorem snoc_at {l : List Int} {v w : Int} {j : Nat} (h : (l ++ [v])[j]? = some w) : (j < l.length ∧ l[j]? = some w) ∨ (j = l.length ∧ v = w) := by
  by_cases c : j < l.length
  · rw [List.getElem?_append_left c] at h
    exact Or.inl ⟨c, h⟩
  · rw [List.getElem?_append_right (by omega)] at h
    by_cases e : j - l.length = 0
    · rw [e] at h
      exact Or.inr ⟨by omega, by simpa using h⟩
    · have : ([v] : List Int)[j - l.length]? = none := by
        rw [List.getElem?_eq_none]
        simp
        omega
      rw [this] at h
      exact absurd h (by simp)
section IMG
variable {d : Nat} {g : mm_H} {l : List Int} {v : Int}
set_option maxHeartbeats 8000000 in
theorem C_add (w : WrC g l) (hl : l.length < 83) (v0 : 0 ≤ v) (v1 : v ≤ 2000) : ∃ g', mm_M mm_T0 (d + 1) 66 [.ref 218, .int (iI v)] g = some (none, g') ∧ WrC g' (l ++ [v]) ∧ Kf (fun a _ => a = 218 ∨ a = 219) nL g g' := by
  obtain ⟨w1, w2, w3⟩ := w
  have cb := chk_b l
  have et : 3 * chk l + v - (3 * chk l + v).tdiv 251 * 251 = (3 * chk l + v) % 251 := by
    rw [Int.tdiv_eq_ediv_of_nonneg (by omega)]
    omega
  have en : ((l.length : Nat) : Int).toNat = l.length := by omega
  refine ⟨wI (wI (wI g 219 l.length (iI v)) 218 1 (iI ((l.length : Int) + 1))) 218 2 (iI ((3 * chk l + v) % 251)), ?_, ⟨?_, ?_, fun j x hx => ?_⟩, ((Kf.refl.wI (by omega)).wI (by omega)).wI (by omega)⟩
  · have f1 : fd (wI g 219 l.length (iI v)) 218 1 = (l.length : Int) := (fd_wI_row (by omega)).trans w1
    have f2 : fd (wI (wI g 219 l.length (iI v)) 218 1 (iI ((l.length : Int) + 1))) 218 2 = chk l := by
      rw [fd_wI_col (by omega), fd_wI_row (by omega)]; exact w2
    rw [U_X4_add]
    simp (disch := omega) only [iI_lit, jI_lit, iI_neg, jI_neg, iI_add, iI_sub, iI_mul, jI_add, jI_sub, jI_mul, rdI, rdL, iI_lt, iI_le, iI_eq, iI_nat, iI_b2_0, iI_b2_1, mm_bI_some, mm_bV_some, mm_bL_some, mm_bA_some, fd_wL, fd_wR, fl_wI, fl_wR, re_wI, re_wL, re_wC, ite_true, ite_false, not_true_eq_false, not_false_eq_true, lq_ge, lq_le, lq_gt, lq_lt, lq_eq, jI_lt, jI_le, jI_eq, if_pos, if_neg, w1, en, f1, f2, iI_div, et]
  · rw [fd_wI_col (by omega), fd_wI_same (by omega) (by omega), List.length_append]
    rfl
  · rw [fd_wI_same (by omega) (by omega), chk_snoc]
  · rw [fd_wI_row (by omega), fd_wI_row (by omega)]
    rcases snoc_at hx with q | q
    · rw [fd_wI_col (by omega)]; exact w3 j x q.2
    · rw [q.1, fd_wI_same (by omega) (by omega)]; exact q.2
set_option maxHeartbeats 8000000 in
theorem R_writes (w : WrR g l) (hl : l.length < 83) (v0 : 0 ≤ v) (v1 : v ≤ 2000) : ∃ g', mm_M mm_T0 (d + 1) 315 [.ref 264, .int (iI v)] g = some (none, g') ∧ WrR g' (l ++ [v]) ∧ Kf (fun a k => a = 335 ∨ (a = 264 ∧ k = 112)) nL g g' := by
  obtain ⟨w1, w3⟩ := w
  have en : ((l.length : Nat) : Int).toNat = l.length := by omega
  refine ⟨wI (wI g 335 l.length (iI v)) 264 112 (iI ((l.length : Int) + 1)), ?_, ⟨?_, fun j x hx => ?_⟩, (Kf.refl.wI (by omega)).wI (by omega)⟩
  · have f1 : fd (wI g 335 l.length (iI v)) 264 112 = (l.length : Int) := (fd_wI_row (by omega)).trans w1
    rw [U_X12_writes]
    simp (disch := omega) only [iI_lit, jI_lit, iI_neg, jI_neg, iI_add, iI_sub, iI_mul, jI_add, jI_sub, jI_mul, rdI, rdL, iI_lt, iI_le, iI_eq, iI_nat, iI_b2_0, iI_b2_1, mm_bI_some, mm_bV_some, mm_bL_some, mm_bA_some, fd_wL, fd_wR, fl_wI, fl_wR, re_wI, re_wL, re_wC, ite_true, ite_false, not_true_eq_false, not_false_eq_true, lq_ge, lq_le, lq_gt, lq_lt, lq_eq, jI_lt, jI_le, jI_eq, if_pos, if_neg, w1, en, f1]
  · rw [fd_wI_same (by omega) (by omega), List.length_append]
    rfl
  · rw [fd_wI_row (by omega)]
    rcases snoc_at hx with q | q
    · rw [fd_wI_col (by omega)]; exact w3 j x q.2
    · rw [q.1, fd_wI_same (by omega) (by omega)]; exact q.2
/-- p's thoughts from j on, of k -/
def thL (n : Int → Int) (p : Int) : Nat → Int → List Int
  | 0, _ => []
  | k + 1, j => if j = p then thL n p k (j + 1) else n (25 + 8 * p + j) :: thL n p k (j + 1)
def pL (n : Int → Int) (pm : Int) : Nat → Int → List Int
  | 0, _ => []
  | k + 1, p => [n (1 + 3 * p)] ++ ([n (2 + 3 * p)] ++ ([n (3 + 3 * p)] ++ (thL n p pm.toNat 0 ++ pL n pm k (p + 1))))
theorem thL_len {n : Int → Int} {p : Int} : ∀ (k : Nat) (j : Int), (thL n p k j).length = if j ≤ p ∧ p < j + k then k - 1 else k
  | 0, j => by
    rw [if_neg (by omega)]
    rfl
  | k + 1, j => by
    rw [thL]
    by_cases c : j = p
    · rw [if_pos c, thL_len k (j + 1), if_neg (by omega), if_pos (by omega)]
      omega
    · rw [if_neg c, List.length_cons, thL_len k (j + 1)]
      by_cases c2 : j + 1 ≤ p ∧ p < j + 1 + k
      · rw [if_pos c2, if_pos (by omega)]
        omega
      · rw [if_neg c2, if_neg (by omega)]
theorem pL_len {n : Int → Int} {pm : Int} (h8 : 0 ≤ pm ∧ pm ≤ 8) : ∀ (k : Nat) (p : Int), 0 ≤ p → p + k = pm → (pL n pm k p).length = k * (pm.toNat + 2)
  | 0, p, p0, pk => by simp [pL]
  | k + 1, p, p0, pk => by
    rw [pL]
    simp only [List.length_append, List.length_cons, List.length_nil]
    rw [thL_len, if_pos (by omega), pL_len h8 k (p + 1) (by omega) (by omega), Nat.succ_mul]
    omega
def imgL (n : Int → Int) (pm : Int) : List Int := [n 0 / 256] ++ ([n 0 % 256] ++ pL n pm pm.toNat 0)
theorem sq_b {pm : Int} (h8 : 0 ≤ pm ∧ pm ≤ 8) : pm.toNat * (pm.toNat + 2) ≤ 80 := by
  have : ∀ m, m < 9 → m * (m + 2) ≤ 80 := by decide
  exact this pm.toNat (by omega)
variable {pm hm : Int} {fc kd n : Int → Int} {h : mm_H}
set_option maxHeartbeats 8000000 in
theorem C_wr_75 {p : Int} (hN : NI pm hm n) (p0 : 0 ≤ p) (p1 : p < pm) : ∀ (k : Nat) (j : Int) (g : mm_H) (l : List Int), 0 ≤ j → j + k = pm → SR g 13 pm hm fc kd n → WrC g l → l.length + k ≤ 83 → ∃ g', mm_D (mm_M mm_T0 (d + 1)) cd_X4_write 75 [.ref 218, .ref 13, .int (iI p), .int (iI j)] [] g = mm_D (mm_M mm_T0 (d + 1)) cd_X4_write 38 [.ref 218, .ref 13, .int (iI (p + 1)), .null] [] g' ∧ WrC g' (l ++ thL n p k j) ∧ Kf (fun a _ => a = 218 ∨ a = 219) nL g g'
  | 0, j, g, l, j0, jk, hS, w, hl => by
    have h8 := hN.1
    have e10 : fd g 13 10 = pm := hS.1
    refine ⟨g, ?_, by rw [thL, List.append_nil]; exact w, Kf.refl⟩
    rw [U_X4_write_75 isS_13]
    simp (disch := omega) only [iI_lit, jI_lit, iI_neg, jI_neg, iI_add, iI_sub, iI_mul, jI_add, jI_sub, jI_mul, rdI, rdL, iI_lt, iI_le, iI_eq, iI_nat, iI_b2_0, iI_b2_1, mm_bI_some, mm_bV_some, mm_bL_some, mm_bA_some, fd_wL, fd_wR, fl_wI, fl_wR, re_wI, re_wL, re_wC, ite_true, ite_false, not_true_eq_false, not_false_eq_true, lq_ge, lq_le, lq_gt, lq_lt, lq_eq, jI_lt, jI_le, jI_eq, if_pos, if_neg, e10]
  | k + 1, j, g, l, j0, jk, hS, w, hl => by
    have h8 := hN.1
    have e10 : fd g 13 10 = pm := hS.1
    by_cases c : j = p
    · obtain ⟨g', m1, m2, m3⟩ := C_wr_75 hN p0 p1 k (j + 1) g l (by omega) (by omega) hS w (by omega)
      refine ⟨g', ?_, by rw [thL, if_pos c]; exact m2, m3⟩
      rw [U_X4_write_75 isS_13, ← m1]
      simp (disch := omega) only [iI_lit, jI_lit, iI_neg, jI_neg, iI_add, iI_sub, iI_mul, jI_add, jI_sub, jI_mul, rdI, rdL, iI_lt, iI_le, iI_eq, iI_nat, iI_b2_0, iI_b2_1, mm_bI_some, mm_bV_some, mm_bL_some, mm_bA_some, fd_wL, fd_wR, fl_wI, fl_wR, re_wI, re_wL, re_wC, ite_true, ite_false, not_true_eq_false, not_false_eq_true, lq_ge, lq_le, lq_gt, lq_lt, lq_eq, jI_lt, jI_le, jI_eq, if_pos, if_neg, e10]
    · have tb := hN.2.2.2.1 p j p0 p1 j0 (by omega) (fun e => c e.symm)
      have th := C_think (d := d) isS_13 hS h8.2 p0 p1 j0 (by omega) (fun e => c e.symm)
      obtain ⟨g1, a1, a2, a3⟩ := C_add (d := d) (v := n (25 + 8 * p + j)) w (by omega) tb.1 (by omega)
      obtain ⟨g', m1, m2, m3⟩ := C_wr_75 hN p0 p1 k (j + 1) g1 (l ++ [n (25 + 8 * p + j)]) (by omega) (by omega) (hS.kf a3 (by intro a j a1 a2; omega)) a2 (by rw [List.length_append, List.length_singleton]; omega)
      rw [List.append_assoc, List.singleton_append] at m2
      refine ⟨g', ?_, by rw [thL, if_neg c]; exact m2, a3.trans m3⟩
      rw [U_X4_write_75 isS_13, ← m1]
      simp (disch := omega) only [iI_lit, jI_lit, iI_neg, jI_neg, iI_add, iI_sub, iI_mul, jI_add, jI_sub, jI_mul, rdI, rdL, iI_lt, iI_le, iI_eq, iI_nat, iI_b2_0, iI_b2_1, mm_bI_some, mm_bV_some, mm_bL_some, mm_bA_some, fd_wL, fd_wR, fl_wI, fl_wR, re_wI, re_wL, re_wC, ite_true, ite_false, not_true_eq_false, not_false_eq_true, lq_ge, lq_le, lq_gt, lq_lt, lq_eq, jI_lt, jI_le, jI_eq, if_pos, if_neg, e10, th, a1]
set_option maxHeartbeats 8000000 in
theorem C_wr_38 (hN : NI pm hm n) : ∀ (k : Nat) (p : Int) (g : mm_H) (l : List Int), 0 ≤ p → p + k = pm → SR g 13 pm hm fc kd n → WrC g l → l.length + k * (pm.toNat + 2) < 83 → ∃ g', mm_D (mm_M mm_T0 (d + 2)) cd_X4_write 38 [.ref 218, .ref 13, .int (iI p), .null] [] g = some (some (.int (iI ((l ++ pL n pm k p).length + 1 : Nat))), g') ∧ WrC g' (l ++ pL n pm k p ++ [chk (l ++ pL n pm k p)]) ∧ Kf (fun a _ => a = 218 ∨ a = 219) nL g g'
  | 0, p, g, l, p0, pk, hS, w, hl => by
    have h8 := hN.1
    have e10 : fd g 13 10 = pm := hS.1
    have cb := chk_b l
    obtain ⟨g1, a1, a2, a3⟩ := C_add (d := d + 1) (v := chk l) w (by omega) cb.1 (by omega)
    have f1 := a2.1
    have w2 := w.2.1
    rw [List.length_append, List.length_singleton] at f1
    refine ⟨g1, ?_, by rw [pL, List.append_nil]; exact a2, a3⟩
    rw [U_X4_write_38 isS_13, pL, List.append_nil]
    simp (disch := omega) only [iI_lit, jI_lit, iI_neg, jI_neg, iI_add, iI_sub, iI_mul, jI_add, jI_sub, jI_mul, rdI, rdL, iI_lt, iI_le, iI_eq, iI_nat, iI_b2_0, iI_b2_1, mm_bI_some, mm_bV_some, mm_bL_some, mm_bA_some, fd_wL, fd_wR, fl_wI, fl_wR, re_wI, re_wL, re_wC, ite_true, ite_false, not_true_eq_false, not_false_eq_true, lq_ge, lq_le, lq_gt, lq_lt, lq_eq, jI_lt, jI_le, jI_eq, if_pos, if_neg, e10, w2, a1, f1]
  | k + 1, p, g, l, p0, pk, hS, w, hl => by
    have h8 := hN.1
    have h9 := hN.2.1
    have e10 : fd g 13 10 = pm := hS.1
    have hb := hN.2.2.1 p p0 (by omega)
    have hl' : l.length + (k * (pm.toNat + 2) + (pm.toNat + 2)) < 83 := by rw [Nat.succ_mul] at hl; exact hl
    have t1 := C_home (d := d) isS_13 hS h8.2 p0 (by omega)
    obtain ⟨g1, a1, a2, a3⟩ := C_add (d := d + 1) (v := n (1 + 3 * p)) w (by omega) hb.1.1 (by omega)
    have S1 : SR g1 13 pm hm fc kd n := hS.kf a3 (by intro a j a1 a2; omega)
    have t2 := C_look (d := d) isS_13 S1 h8.2 p0 (by omega)
    obtain ⟨g2, b1, b2', b3⟩ := C_add (d := d + 1) (v := n (2 + 3 * p)) a2 (by rw [List.length_append, List.length_singleton]; omega) hb.2.1.1 (by omega)
    have S2 : SR g2 13 pm hm fc kd n := S1.kf b3 (by intro a j a1 a2; omega)
    have t3 := C_spare (d := d) isS_13 S2 h8.2 p0 (by omega)
    obtain ⟨g3, c1, c2, c3⟩ := C_add (d := d + 1) (v := n (3 + 3 * p)) b2' (by simp only [List.length_append, List.length_singleton]; omega) hb.2.2.1 (by omega)
    have S3 : SR g3 13 pm hm fc kd n := S2.kf c3 (by intro a j a1 a2; omega)
    have tl := thL_len (n := n) (p := p) pm.toNat 0
    rw [if_pos (by omega)] at tl
    obtain ⟨g4, d1, d2, d3⟩ := C_wr_75 (d := d + 1) (p := p) hN p0 (by omega) pm.toNat 0 g3 _ (by omega) (by omega) S3 c2 (by simp only [List.length_append, List.length_singleton]; omega)
    obtain ⟨g', m1, m2, m3⟩ := C_wr_38 hN k (p + 1) g4 _ (by omega) (by omega) (S3.kf d3 (by intro a j a1 a2; omega)) d2 (by simp only [List.length_append, List.length_singleton]; omega)
    have ea : l ++ [n (1 + 3 * p)] ++ [n (2 + 3 * p)] ++ [n (3 + 3 * p)] ++ thL n p pm.toNat 0 ++ pL n pm k (p + 1) = l ++ pL n pm (k + 1) p := by
      rw [pL]
      simp only [List.append_assoc]
    rw [ea] at m1 m2
    refine ⟨g', ?_, m2, a3.trans (b3.trans (c3.trans (d3.trans m3)))⟩
    rw [U_X4_write_38 isS_13, ← m1, ← d1]
    simp (disch := omega) only [iI_lit, jI_lit, iI_neg, jI_neg, iI_add, iI_sub, iI_mul, jI_add, jI_sub, jI_mul, rdI, rdL, iI_lt, iI_le, iI_eq, iI_nat, iI_b2_0, iI_b2_1, mm_bI_some, mm_bV_some, mm_bL_some, mm_bA_some, fd_wL, fd_wR, fl_wI, fl_wR, re_wI, re_wL, re_wC, ite_true, ite_false, not_true_eq_false, not_false_eq_true, lq_ge, lq_le, lq_gt, lq_lt, lq_eq, jI_lt, jI_le, jI_eq, if_pos, if_neg, e10, t1, a1, t2, b1, t3, c1]
set_option maxHeartbeats 8000000 in
theorem C_image (hS : SR h 13 pm hm fc kd n) (hN : NI pm hm n) (y : 0 ≤ n 0 ∧ n 0 ≤ 999) : ∃ g', mm_M mm_T0 (d + 3) 65 [.ref 218, .ref 13] h = some (some (.int (iI ((imgL n pm).length + 1 : Nat))), g') ∧ WrC g' (imgL n pm ++ [chk (imgL n pm)]) ∧ Kf (fun a _ => a = 218 ∨ a = 219) nL h g' := by
  have h8 := hN.1
  have sq := sq_b h8
  have K0 : Kf (fun a _ => a = 218 ∨ a = 219) nL h (wI (wI h 218 1 (iI 0)) 218 2 (iI 149)) := (Kf.refl.wI (by omega)).wI (by omega)
  have w0 : WrC (wI (wI h 218 1 (iI 0)) 218 2 (iI 149)) [] := ⟨by rw [fd_wI_col (by omega), fd_wI_same (by omega) (by omega)]; rfl, by rw [fd_wI_same (by omega) (by omega)]; rfl, fun j v hv => by simp at hv⟩
  have e11 : fd (wI (wI h 218 1 (iI 0)) 218 2 (iI 149)) 13 11 = n 0 := (K0.1 _ _ (by omega)).trans hS.2.2.1
  have td : (n 0).tdiv 256 = n 0 / 256 := Int.tdiv_eq_ediv_of_nonneg y.1
  obtain ⟨g1, a1, a2, a3⟩ := C_add (d := d + 1) (v := n 0 / 256) w0 (by simp) (by omega) (by omega)
  have f11 : fd g1 13 11 = n 0 := (a3.1 _ _ (by omega)).trans e11
  have tm : n 0 - n 0 / 256 * 256 = n 0 % 256 := by omega
  obtain ⟨g2, b1, b2', b3⟩ := C_add (d := d + 1) (v := n 0 % 256) a2 (by simp) (by omega) (by omega)
  have K2 := K0.trans (a3.trans b3)
  obtain ⟨g', m1, m2, m3⟩ := C_wr_38 (d := d) hN pm.toNat 0 g2 _ (by omega) (by omega) (hS.kf K2 (by intro a j a1 a2; omega)) b2' (by simp only [List.length_append, List.length_singleton, List.length_nil]; omega)
  have ea : [] ++ [n 0 / 256] ++ [n 0 % 256] ++ pL n pm pm.toNat 0 = imgL n pm := by
    unfold imgL
    simp only [List.nil_append, List.append_assoc]
  rw [ea] at m1 m2
  refine ⟨g', ?_, m2, K2.trans m3⟩
  rw [U_X4_write isS_13, ← m1]
  simp (disch := omega) only [iI_lit, jI_lit, iI_neg, jI_neg, iI_add, iI_sub, iI_mul, jI_add, jI_sub, jI_mul, rdI, rdL, iI_lt, iI_le, iI_eq, iI_nat, iI_b2_0, iI_b2_1, mm_bI_some, mm_bV_some, mm_bL_some, mm_bA_some, fd_wL, fd_wR, fl_wI, fl_wR, re_wI, re_wL, re_wC, ite_true, ite_false, not_true_eq_false, not_false_eq_true, lq_ge, lq_le, lq_gt, lq_lt, lq_eq, jI_lt, jI_le, jI_eq, if_pos, if_neg, e11, iI_div, td, a1, f11, tm, b1]
/-! the reference -/
set_option maxHeartbeats 8000000 in
theorem R_im_74 {p : Int} (hN : NI pm hm n) (p0 : 0 ≤ p) (p1 : p < pm) : ∀ (k : Nat) (j : Int) (g : mm_H) (l : List Int), 0 ≤ j → j + k = pm → RepR g n → fd g 264 40 = pm → WrR g l → l.length + k ≤ 83 → ∃ g', mm_D (mm_M mm_T0 (d + 1)) cd_X12_image 74 [.ref 264, .int (iI p), .int (iI j)] [] g = mm_D (mm_M mm_T0 (d + 1)) cd_X12_image 35 [.ref 264, .int (iI (p + 1)), .null] [] g' ∧ WrR g' (l ++ thL n p k j) ∧ Kf (fun a k => a = 335 ∨ (a = 264 ∧ k = 112)) nL g g'
  | 0, j, g, l, j0, jk, hr, e40, w, hl => by
    have h8 := hN.1
    refine ⟨g, ?_, by rw [thL, List.append_nil]; exact w, Kf.refl⟩
    rw [U_X12_image_74]
    simp (disch := omega) only [iI_lit, jI_lit, iI_neg, jI_neg, iI_add, iI_sub, iI_mul, jI_add, jI_sub, jI_mul, rdI, rdL, iI_lt, iI_le, iI_eq, iI_nat, iI_b2_0, iI_b2_1, mm_bI_some, mm_bV_some, mm_bL_some, mm_bA_some, fd_wL, fd_wR, fl_wI, fl_wR, re_wI, re_wL, re_wC, ite_true, ite_false, not_true_eq_false, not_false_eq_true, lq_ge, lq_le, lq_gt, lq_lt, lq_eq, jI_lt, jI_le, jI_eq, if_pos, if_neg, e40]
  | k + 1, j, g, l, j0, jk, hr, e40, w, hl => by
    have h8 := hN.1
    by_cases c : j = p
    · obtain ⟨g', m1, m2, m3⟩ := R_im_74 hN p0 p1 k (j + 1) g l (by omega) (by omega) hr e40 w (by omega)
      refine ⟨g', ?_, by rw [thL, if_pos c]; exact m2, m3⟩
      rw [U_X12_image_74, ← m1]
      simp (disch := omega) only [iI_lit, jI_lit, iI_neg, jI_neg, iI_add, iI_sub, iI_mul, jI_add, jI_sub, jI_mul, rdI, rdL, iI_lt, iI_le, iI_eq, iI_nat, iI_b2_0, iI_b2_1, mm_bI_some, mm_bV_some, mm_bL_some, mm_bA_some, fd_wL, fd_wR, fl_wI, fl_wR, re_wI, re_wL, re_wC, ite_true, ite_false, not_true_eq_false, not_false_eq_true, lq_ge, lq_le, lq_gt, lq_lt, lq_eq, jI_lt, jI_le, jI_eq, if_pos, if_neg, e40]
    · have tb := hN.2.2.2.1 p j p0 p1 j0 (by omega) (fun e => c e.symm)
      have z := hr (25 + 8 * p + j) (by omega) (by omega)
      obtain ⟨g1, a1, a2, a3⟩ := R_writes (d := d) (v := n (25 + 8 * p + j)) w (by omega) tb.1 (by omega)
      obtain ⟨g', m1, m2, m3⟩ := R_im_74 hN p0 p1 k (j + 1) g1 (l ++ [n (25 + 8 * p + j)]) (by omega) (by omega) (hr.kf a3 (by intro j hj; omega)) ((a3.1 _ _ (by omega)).trans e40) a2 (by rw [List.length_append, List.length_singleton]; omega)
      rw [List.append_assoc, List.singleton_append] at m2
      refine ⟨g', ?_, by rw [thL, if_neg c]; exact m2, a3.trans m3⟩
      rw [U_X12_image_74, ← m1]
      simp (disch := omega) only [iI_lit, jI_lit, iI_neg, jI_neg, iI_add, iI_sub, iI_mul, jI_add, jI_sub, jI_mul, rdI, rdL, iI_lt, iI_le, iI_eq, iI_nat, iI_b2_0, iI_b2_1, mm_bI_some, mm_bV_some, mm_bL_some, mm_bA_some, fd_wL, fd_wR, fl_wI, fl_wR, re_wI, re_wL, re_wC, ite_true, ite_false, not_true_eq_false, not_false_eq_true, lq_ge, lq_le, lq_gt, lq_lt, lq_eq, jI_lt, jI_le, jI_eq, if_pos, if_neg, e40, R_thoughtOf, z, a1]
set_option maxHeartbeats 8000000 in
theorem R_checked_6 {a0 n0 : Nat} {N : Int} (ha : mm_sh a0 = (1, n0)) (hn : n0 ≤ 1600) : ∀ (r : List Int) (k : Nat) (c : Int), ((k + r.length : Nat) : Int) = N → k + r.length ≤ n0 → (∀ j v, r[j]? = some v → fd h a0 (k + j) = v ∧ 0 ≤ v ∧ v ≤ 2000) → (0 ≤ c ∧ c ≤ 250) → mm_D (mm_M mm_T0 d) cd_X12_checked 6 [.ref a0, .int (iI N), .int (iI c), .int (iI (k : Nat))] [] h = some (some (.int (iI (r.foldl (fun c v => (3 * c + v) % 251) c))), h)
  | [], k, c, hk, hl, hv, hc => by
    rw [List.length_nil] at hk hl
    rw [U_X12_checked_6 ha]
    simp (disch := omega) only [iI_lit, jI_lit, iI_neg, jI_neg, iI_add, iI_sub, iI_mul, jI_add, jI_sub, jI_mul, rdI, rdL, iI_lt, iI_le, iI_eq, iI_nat, iI_b2_0, iI_b2_1, mm_bI_some, mm_bV_some, mm_bL_some, mm_bA_some, fd_wL, fd_wR, fl_wI, fl_wR, re_wI, re_wL, re_wC, ite_true, ite_false, not_true_eq_false, not_false_eq_true, lq_ge, lq_le, lq_gt, lq_lt, lq_eq, jI_lt, jI_le, jI_eq, if_pos, if_neg, List.foldl_nil]
  | v :: r, k, c, hk, hl, hv, hc => by
    have x := hv 0 v rfl
    rw [Nat.add_zero] at x
    rw [List.length_cons] at hk hl
    have et : 3 * c + v - (3 * c + v).tdiv 251 * 251 = (3 * c + v) % 251 := by
      rw [Int.tdiv_eq_ediv_of_nonneg (by omega)]
      omega
    have en : ((k : Nat) : Int).toNat = k := by omega
    have e1 : ((k : Nat) : Int) + 1 = ((k + 1 : Nat) : Int) := by omega
    have x1 := x.1
    rw [List.foldl_cons, ← R_checked_6 (N := N) ha hn r (k + 1) _ (by omega) (by omega) (fun j w hw => by
      have := hv (j + 1) w (by simpa using hw)
      rw [show k + 1 + j = k + (j + 1) by omega]
      exact this) (by omega), U_X12_checked_6 ha]
    simp (disch := omega) only [iI_lit, jI_lit, iI_neg, jI_neg, iI_add, iI_sub, iI_mul, jI_add, jI_sub, jI_mul, rdI, rdL, iI_lt, iI_le, iI_eq, iI_nat, iI_b2_0, iI_b2_1, mm_bI_some, mm_bV_some, mm_bL_some, mm_bA_some, fd_wL, fd_wR, fl_wI, fl_wR, re_wI, re_wL, re_wC, ite_true, ite_false, not_true_eq_false, not_false_eq_true, lq_ge, lq_le, lq_gt, lq_lt, lq_eq, jI_lt, jI_le, jI_eq, if_pos, if_neg, en, x1, iI_div, et, e1]
theorem sh_335 : mm_sh 335 = (1, 83) := by decide
theorem sh_265 : mm_sh 265 = (1, 1600) := by decide
set_option maxHeartbeats 8000000 in
theorem R_im_45 {p : Int} (hN : NI pm hm n) (hr : RepR g n) (w : WrR g l) (hl : l.length + 3 ≤ 83) (p0 : 0 ≤ p) (p1 : p < pm) : ∃ g', mm_D (mm_M mm_T0 (d + 1)) cd_X12_image 45 [.ref 264, .int (iI p), .int (iI 0)] [] g = mm_D (mm_M mm_T0 (d + 1)) cd_X12_image 74 [.ref 264, .int (iI p), .int (iI 0)] [] g' ∧ WrR g' (l ++ [n (1 + 3 * p)] ++ [n (2 + 3 * p)] ++ [n (3 + 3 * p)]) ∧ Kf (fun a k => a = 335 ∨ (a = 264 ∧ k = 112)) nL g g' := by
  have h8 := hN.1
  have h9 := hN.2.1
  have hb := hN.2.2.1 p p0 p1
  have z1 : fd g 300 (1 + 3 * p).toNat = n (1 + 3 * p) := hr (1 + 3 * p) (by omega) (by omega)
  obtain ⟨g1, a1, a2, a3⟩ := R_writes (d := d) (v := n (1 + 3 * p)) w (by omega) hb.1.1 (by omega)
  have z2 : fd g1 300 (2 + 3 * p).toNat = n (2 + 3 * p) := (a3.1 _ _ (by omega)).trans (hr (2 + 3 * p) (by omega) (by omega))
  obtain ⟨g2, b1, b2', b3⟩ := R_writes (d := d) (v := n (2 + 3 * p)) a2 (by rw [List.length_append, List.length_singleton]; omega) hb.2.1.1 (by omega)
  have z3 : fd g2 300 (3 + 3 * p).toNat = n (3 + 3 * p) := (b3.1 _ _ (by omega)).trans ((a3.1 _ _ (by omega)).trans (hr (3 + 3 * p) (by omega) (by omega)))
  obtain ⟨g3, c1, c2, c3⟩ := R_writes (d := d) (v := n (3 + 3 * p)) b2' (by simp only [List.length_append, List.length_singleton]; omega) hb.2.2.1 (by omega)
  have i0 : 1 + 3 * p + 0 = 1 + 3 * p := by omega
  have i1 : 1 + 3 * p + 1 = 2 + 3 * p := by omega
  have i2 : 1 + 3 * p + 2 = 3 + 3 * p := by omega
  have o1 : (0 : Int) + 1 = 1 := by omega
  have o2 : (1 : Int) + 1 = 2 := by omega
  have o3 : (2 : Int) + 1 = 3 := by omega
  refine ⟨g3, ?_, c2, a3.trans (b3.trans c3)⟩
  rw [U_X12_image_45]
  simp (disch := omega) only [iI_lit, jI_lit, iI_neg, jI_neg, iI_add, iI_sub, iI_mul, jI_add, jI_sub, jI_mul, rdI, rdL, iI_lt, iI_le, iI_eq, iI_nat, iI_b2_0, iI_b2_1, mm_bI_some, mm_bV_some, mm_bL_some, mm_bA_some, fd_wL, fd_wR, fl_wI, fl_wR, re_wI, re_wL, re_wC, ite_true, ite_false, not_true_eq_false, not_false_eq_true, lq_ge, lq_le, lq_gt, lq_lt, lq_eq, jI_lt, jI_le, jI_eq, if_pos, if_neg, i0, z1, a1, o1]
  rw [U_X12_image_45]
  simp (disch := omega) only [iI_lit, jI_lit, iI_neg, jI_neg, iI_add, iI_sub, iI_mul, jI_add, jI_sub, jI_mul, rdI, rdL, iI_lt, iI_le, iI_eq, iI_nat, iI_b2_0, iI_b2_1, mm_bI_some, mm_bV_some, mm_bL_some, mm_bA_some, fd_wL, fd_wR, fl_wI, fl_wR, re_wI, re_wL, re_wC, ite_true, ite_false, not_true_eq_false, not_false_eq_true, lq_ge, lq_le, lq_gt, lq_lt, lq_eq, jI_lt, jI_le, jI_eq, if_pos, if_neg, i1, z2, b1, o2]
  rw [U_X12_image_45]
  simp (disch := omega) only [iI_lit, jI_lit, iI_neg, jI_neg, iI_add, iI_sub, iI_mul, jI_add, jI_sub, jI_mul, rdI, rdL, iI_lt, iI_le, iI_eq, iI_nat, iI_b2_0, iI_b2_1, mm_bI_some, mm_bV_some, mm_bL_some, mm_bA_some, fd_wL, fd_wR, fl_wI, fl_wR, re_wI, re_wL, re_wC, ite_true, ite_false, not_true_eq_false, not_false_eq_true, lq_ge, lq_le, lq_gt, lq_lt, lq_eq, jI_lt, jI_le, jI_eq, if_pos, if_neg, i2, z3, c1, o3]
  rw [U_X12_image_45]
  simp (disch := omega) only [iI_lit, jI_lit, iI_neg, jI_neg, iI_add, iI_sub, iI_mul, jI_add, jI_sub, jI_mul, rdI, rdL, iI_lt, iI_le, iI_eq, iI_nat, iI_b2_0, iI_b2_1, mm_bI_some, mm_bV_some, mm_bL_some, mm_bA_some, fd_wL, fd_wR, fl_wI, fl_wR, re_wI, re_wL, re_wC, ite_true, ite_false, not_true_eq_false, not_false_eq_true, lq_ge, lq_le, lq_gt, lq_lt, lq_eq, jI_lt, jI_le, jI_eq, if_pos, if_neg]
set_option maxHeartbeats 8000000 in
theorem R_im_35 (hN : NI pm hm n) (y : 0 ≤ n 0 ∧ n 0 ≤ 999) : ∀ (k : Nat) (p : Int) (g : mm_H) (l : List Int), 0 ≤ p → p + k = pm → RepR g n → fd g 264 40 = pm → WrR g l → (∀ v ∈ l, 0 ≤ v ∧ v ≤ 2000) → l.length + k * (pm.toNat + 2) < 83 → ∃ g', mm_D (mm_M mm_T0 (d + 2)) cd_X12_image 35 [.ref 264, .int (iI p), .null] [] g = some (some (.int (iI ((l ++ pL n pm k p).length + 1 : Nat))), g') ∧ WrR g' (l ++ pL n pm k p ++ [chk (l ++ pL n pm k p)]) ∧ Kf (fun a k => a = 335 ∨ (a = 264 ∧ k = 112)) nL g g'
  | 0, p, g, l, p0, pk, hr, e40, w, hv, hl => by
    have h8 := hN.1
    have cb := chk_b l
    have ck := R_checked_6 (d := d + 1) (h := g) (N := (l.length : Int)) sh_335 (by omega) l 0 149 (by omega) (by omega) (fun j v e => ⟨by rw [Nat.zero_add]; exact w.2 j v e, hv v (List.mem_of_getElem? e)⟩) (by omega)
    have ck' : mm_M mm_T0 (d + 2) 314 [.ref 335, .int (iI (l.length : Int))] g = some (some (.int (iI (chk l))), g) := by
      rw [U_X12_checked sh_335, show (149 : Int32) = iI 149 from rfl, show (0 : Int32) = iI ((0 : Nat) : Int) from rfl]
      exact ck
    obtain ⟨g1, a1, a2, a3⟩ := R_writes (d := d + 1) (v := chk l) w (by omega) cb.1 (by omega)
    have f1 := a2.1
    have w1 := w.1
    rw [List.length_append, List.length_singleton] at f1
    refine ⟨g1, ?_, by rw [pL, List.append_nil]; exact a2, a3⟩
    rw [U_X12_image_35, pL, List.append_nil]
    simp (disch := omega) only [iI_lit, jI_lit, iI_neg, jI_neg, iI_add, iI_sub, iI_mul, jI_add, jI_sub, jI_mul, rdI, rdL, iI_lt, iI_le, iI_eq, iI_nat, iI_b2_0, iI_b2_1, mm_bI_some, mm_bV_some, mm_bL_some, mm_bA_some, fd_wL, fd_wR, fl_wI, fl_wR, re_wI, re_wL, re_wC, ite_true, ite_false, not_true_eq_false, not_false_eq_true, lq_ge, lq_le, lq_gt, lq_lt, lq_eq, jI_lt, jI_le, jI_eq, if_pos, if_neg, e40, w1, ck', a1, f1]
  | k + 1, p, g, l, p0, pk, hr, e40, w, hv, hl => by
    have h8 := hN.1
    have h9 := hN.2.1
    have hb := hN.2.2.1 p p0 (by omega)
    have hl' : l.length + (k * (pm.toNat + 2) + (pm.toNat + 2)) < 83 := by rw [Nat.succ_mul] at hl; exact hl
    obtain ⟨g3, c1, c2, c3⟩ := R_im_45 (d := d + 1) (p := p) hN hr w (by omega) p0 (by omega)
    have tl := thL_len (n := n) (p := p) pm.toNat 0
    rw [if_pos (by omega)] at tl
    obtain ⟨g4, d1, d2, d3⟩ := R_im_74 (d := d + 1) (p := p) hN p0 (by omega) pm.toNat 0 g3 _ (by omega) (by omega) (hr.kf c3 (by intro j hj; omega)) ((c3.1 _ _ (by omega)).trans e40) c2 (by simp only [List.length_append, List.length_singleton]; omega)
    have tv : ∀ (k : Nat) (j : Int), 0 ≤ j → j + k ≤ pm → ∀ v ∈ thL n p k j, 0 ≤ v ∧ v ≤ 2000 := by
      intro k
      induction k with
      | zero => intro j _ _ v hv; simp [thL] at hv
      | succ k ih =>
        intro j j0 jk v hv
        rw [thL] at hv
        by_cases c : j = p
        · rw [if_pos c] at hv
          exact ih (j + 1) (by omega) (by omega) v hv
        · rw [if_neg c, List.mem_cons] at hv
          rcases hv with q | q
          · have := hN.2.2.2.1 p j p0 (by omega) j0 (by omega) (fun e => c e.symm)
            rw [q]; omega
          · exact ih (j + 1) (by omega) (by omega) v q
    obtain ⟨g', m1, m2, m3⟩ := R_im_35 hN y k (p + 1) g4 _ (by omega) (by omega) ((hr.kf c3 (by intro j hj; omega)).kf d3 (by intro j hj; omega)) ((d3.1 _ _ (by omega)).trans ((c3.1 _ _ (by omega)).trans e40)) d2 (fun v hv' => by
      rcases List.mem_append.mp hv' with q | q
      · rcases List.mem_append.mp q with q | q
        · rcases List.mem_append.mp q with q | q
          · rcases List.mem_append.mp q with q | q
            · exact hv v q
            · rw [List.mem_singleton] at q; rw [q]; omega
          · rw [List.mem_singleton] at q; rw [q]; omega
        · rw [List.mem_singleton] at q; rw [q]; omega
      · exact tv pm.toNat 0 (by omega) (by omega) v q) (by simp only [List.length_append, List.length_singleton]; omega)
    have ea : l ++ [n (1 + 3 * p)] ++ [n (2 + 3 * p)] ++ [n (3 + 3 * p)] ++ thL n p pm.toNat 0 ++ pL n pm k (p + 1) = l ++ pL n pm (k + 1) p := by
      rw [pL]
      simp only [List.append_assoc]
    rw [ea] at m1 m2
    refine ⟨g', ?_, m2, c3.trans (d3.trans m3)⟩
    rw [U_X12_image_35, ← m1, ← d1, ← c1]
    simp (disch := omega) only [iI_lit, jI_lit, iI_neg, jI_neg, iI_add, iI_sub, iI_mul, jI_add, jI_sub, jI_mul, rdI, rdL, iI_lt, iI_le, iI_eq, iI_nat, iI_b2_0, iI_b2_1, mm_bI_some, mm_bV_some, mm_bL_some, mm_bA_some, fd_wL, fd_wR, fl_wI, fl_wR, re_wI, re_wL, re_wC, ite_true, ite_false, not_true_eq_false, not_false_eq_true, lq_ge, lq_le, lq_gt, lq_lt, lq_eq, jI_lt, jI_le, jI_eq, if_pos, if_neg, e40]
set_option maxHeartbeats 8000000 in
theorem R_image (hr : RepR h n) (e40 : fd h 264 40 = pm) (hN : NI pm hm n) (y : 0 ≤ n 0 ∧ n 0 ≤ 999) : ∃ g', mm_M mm_T0 (d + 3) 316 [.ref 264] h = some (some (.int (iI ((imgL n pm).length + 1 : Nat))), g') ∧ WrR g' (imgL n pm ++ [chk (imgL n pm)]) ∧ Kf (fun a k => a = 335 ∨ (a = 264 ∧ k = 112)) nL h g' := by
  have h8 := hN.1
  have sq := sq_b h8
  have K0 : Kf (fun a k => a = 335 ∨ (a = 264 ∧ k = 112)) nL h (wI h 264 112 (iI 0)) := Kf.refl.wI (by omega)
  have w0 : WrR (wI h 264 112 (iI 0)) [] := ⟨by rw [fd_wI_same (by omega) (by omega)]; rfl, fun j v hv => by simp at hv⟩
  have e11 : fd (wI h 264 112 (iI 0)) 300 0 = n 0 := (K0.1 _ _ (by omega)).trans (hr 0 (by omega) (by omega))
  have td : (n 0).tdiv 256 = n 0 / 256 := Int.tdiv_eq_ediv_of_nonneg y.1
  obtain ⟨g1, a1, a2, a3⟩ := R_writes (d := d + 1) (v := n 0 / 256) w0 (by simp) (by omega) (by omega)
  have f11 : fd g1 300 0 = n 0 := (a3.1 _ _ (by omega)).trans e11
  have tm : n 0 - n 0 / 256 * 256 = n 0 % 256 := by omega
  obtain ⟨g2, b1, b2', b3⟩ := R_writes (d := d + 1) (v := n 0 % 256) a2 (by simp) (by omega) (by omega)
  have K2 := K0.trans (a3.trans b3)
  obtain ⟨g', m1, m2, m3⟩ := R_im_35 (d := d) hN y pm.toNat 0 g2 _ (by omega) (by omega) (hr.kf K2 (by intro j hj; omega)) ((K2.1 _ _ (by omega)).trans e40) b2' (by
    intro v hv
    rw [List.nil_append] at hv
    rcases List.mem_append.mp hv with q | q <;> rw [List.mem_singleton] at q <;> rw [q] <;> omega) (by simp only [List.length_append, List.length_singleton, List.length_nil]; omega)
  have ea : [] ++ [n 0 / 256] ++ [n 0 % 256] ++ pL n pm pm.toNat 0 = imgL n pm := by
    unfold imgL
    simp only [List.nil_append, List.append_assoc]
  rw [ea] at m1 m2
  refine ⟨g', ?_, m2, K2.trans m3⟩
  rw [U_X12_image, ← m1]
  simp (disch := omega) only [iI_lit, jI_lit, iI_neg, jI_neg, iI_add, iI_sub, iI_mul, jI_add, jI_sub, jI_mul, rdI, rdL, iI_lt, iI_le, iI_eq, iI_nat, iI_b2_0, iI_b2_1, mm_bI_some, mm_bV_some, mm_bL_some, mm_bA_some, fd_wL, fd_wR, fl_wI, fl_wR, re_wI, re_wL, re_wC, ite_true, ite_false, not_true_eq_false, not_false_eq_true, lq_ge, lq_le, lq_gt, lq_lt, lq_eq, jI_lt, jI_le, jI_eq, if_pos, if_neg, e11, iI_div, td, a1, f11, tm, b1]
end IMG
set_option maxHeartbeats 8000000 in
theorem K_image : CallI 179 316 [] := by
  intro d h i I hi
  obtain ⟨t, st, pm, hm, fc, kd, cp, cm, cf, n, ev, past, M, W, H, S, P, N⟩ := I
  have W0 := W
  obtain ⟨w1, w2, w3, w4, w5, w6, w7, w8, w9, w10, w11, w12, w13⟩ := W
  have tt := isT_or w1.1
  have h8 := w5.1
  have sq := sq_b h8
  obtain ⟨h1, p1, p2, p3⟩ := C_image (d := d + 36) w8 w5 w7
  obtain ⟨h2, q1, q2, q3⟩ := R_image (d := d + 37) (w4.kf p3 (by intro j hj; omega)) ((p3.1 _ _ (by omega)).trans w3.1) w5 w7
  have k2 : Kf (fun a k => a = 218 ∨ a = 219 ∨ a = 335 ∨ (a = 264 ∧ k = 112)) nL h h2 := Kf.trans (p3.monoQ (fun a k q => by omega)) (q3.monoQ (fun a k q => by omega))
  have len : (imgL n pm ++ [chk (imgL n pm)]).length ≤ 83 := by
    unfold imgL
    simp only [List.length_append, List.length_singleton, List.length_cons, List.length_nil]
    rw [pL_len h8 pm.toNat 0 (by omega) (by omega)]
    omega
  have c1 : fd h2 218 1 = ((imgL n pm ++ [chk (imgL n pm)]).length : Int) := (q3.1 _ _ (by omega)).trans p2.1
  have r1 : fd h2 264 112 = ((imgL n pm ++ [chk (imgL n pm)]).length : Int) := q2.1
  refine ⟨iI ((imgL n pm).length + 1 : Nat), h1, h2, ?_, q1, ⟨t, st, pm, hm, fc, kd, cp, cm, cf, n, ev, past, M.kf k2 (by intro a j; unfold NM; omega) (fun q => q), W0.kf k2 (by intro a j; unfold NW NC NR; omega) ((k2.1 _ _ (by omega)).trans w9) (by rw [k2.1 _ _ (by omega)]; omega) (by omega) hi, H.kf k2 (by intro a j; unfold NH; omega) (by omega), S.kf k2 (by intro a j; unfold NS; omega), ⟨by omega, by omega, fun k hk => ?_⟩, N.kf k2 (by intro a j; unfold Nnm; omega) (fun j hj q => q)⟩⟩
  · rw [U_X11_image, p1, mm_bI_some]
  · have hx : ∃ v, (imgL n pm ++ [chk (imgL n pm)])[k]? = some v := ⟨(imgL n pm ++ [chk (imgL n pm)])[k]'(by omega), List.getElem?_eq_getElem _⟩
    obtain ⟨v, hv⟩ := hx
    rw [q3.1 219 k (by omega), p2.2.2 k v hv, q2.2 k v hv]
