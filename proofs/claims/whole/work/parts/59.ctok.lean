/-! how the class reads text -/
/-- the class's words, by their numbers -/
def allW : List (List Int) := [wordL 267, wordL 268, wordL 269, wordL 270, wordL 271, wordL 272, wordL 273, wordL 274, wordL 275, wordL 276, wordL 277, wordL 278, wordL 279, wordL 280, wordL 281, wordL 282, wordL 283, wordL 284, wordL 285, wordL 286, wordL 287, wordL 288, wordL 289, wordL 290, wordL 291, wordL 307, wordL 308, wordL 309, wordL 310, wordL 311, wordL 312]
def txtOf : List (List Int) → List Int
  | [] => []
  | w :: r => w ++ (32 :: txtOf r)
theorem txt_eq : mm_txt = (txtOf allW).map iI := by decide +kernel
theorem txt_len : (txtOf allW).length = mm_txt.length := by
  rw [txt_eq, List.length_map]
theorem txt_n : (txtOf allW).length < 1000 := by decide +kernel
theorem txt_b : ∀ x ∈ txtOf allW, 0 ≤ x ∧ x ≤ 127 := by decide +kernel
section JTXT
variable {d : Nat} {h : mm_H}
theorem J_ci {i n : Int32} (h0 : ¬ i < 0) (h1 : i < n) : mm_M mm_T0 (d + 1) 4 [.int i, .int n] h = some (none, h) := by
  refine (mm_M_eq (ls := [.int i, .int n]) rfl (Nat.le_of_ble_eq_true rfl) rfl h).trans ?_
  rw [mm_D_step (f := s_chk) rfl]
  show mm_next _ _ (if i < 0 then none else if i < n then some (.inr (none, h)) else none) = _
  rw [if_neg h0, if_pos h1]
  rfl
theorem J_len : mm_M mm_T0 (d + 2) 0 [.ref 336] h = some (some (.int (iI ((txtOf allW).length : Nat))), h) := by
  rw [U_J0_length_8abf5, U_J0_coder_7d493]
  have e1 : mm_nr .byte 0 h = some (some (.int 0), h) := rfl
  have e2 : (Int32.ofNat mm_txt.length) >>> ((0 : Int32) &&& 31) = iI ((txtOf allW).length : Nat) := by decide +kernel
  rw [e1, mm_bI_some, e2]
theorem chr_nr : ∀ x, x < 128 → narrow .char (.int (iI (x : Nat))) = .int (iI (x : Nat)) ∧ (((iI (x : Nat)) &&& 255).toUInt32 % 65536).toInt32 = iI (x : Nat) := by decide +kernel
theorem J_chr {i : Nat} (hi : i < (txtOf allW).length) : mm_M mm_T0 (d + 3) 1 [.ref 336, .int (iI (i : Nat))] h = some (some (.int (iI ((txtOf allW).getD i 0))), h) := by
  have tn := txt_n
  have gd : mm_txt.getD i 0 = iI ((txtOf allW).getD i 0) := by
    rw [txt_eq, List.getD_eq_getElem?_getD, List.getD_eq_getElem?_getD, List.getElem?_map, List.getElem?_eq_getElem hi]
    rfl
  have vb : 0 ≤ (txtOf allW).getD i 0 ∧ (txtOf allW).getD i 0 ≤ 127 := by
    rw [List.getD_eq_getElem?_getD, List.getElem?_eq_getElem hi]
    exact txt_b _ (List.getElem_mem hi)
  obtain ⟨x, hx⟩ : ∃ x : Nat, (txtOf allW).getD i 0 = (x : Int) := ⟨((txtOf allW).getD i 0).toNat, by omega⟩
  rw [hx] at gd vb ⊢
  have cn := chr_nr x (by omega)
  have nr : mm_nr .char (iI (x : Nat)) h = some (some (.int (iI (x : Nat))), h) := by
    unfold mm_nr
    rw [if_pos cn.1]
  have l1 : ¬ iI (i : Nat) < 0 := by
    rw [show (0 : Int32) = iI 0 from rfl, iI_lt (by omega) (by omega) (by omega) (by omega)]
    omega
  have on : Int32.ofNat mm_txt.length = iI ((txtOf allW).length : Nat) := by
    rw [← txt_len]
    exact (Int32.ofInt_eq_ofNat (n := (txtOf allW).length)).symm
  have l2 : iI (i : Nat) < Int32.ofNat mm_txt.length := by
    rw [on, iI_lt (by omega) (by omega) (by omega) (by omega)]
    omega
  have nn : (iI (i : Nat)).toNatClampNeg = i := by
    rw [iI_nat (by omega) (by omega)]
    omega
  rw [U_J0_charAt_5068e, U_J0_isLatin1_aae02, mm_bI_some, if_neg (by decide), U_J1_charAt_3b067, J_ci l1 l2, mm_bV_some, nn, if_neg (by rw [← txt_len]; intro z; rcases z with z | z; exact l1 z; omega), gd, cn.2, nr, mm_bI_some, nr]
end JTXT
/-- the number of the first of the words that stands from s to e -/
def findW (b : Nat → Int) (s e : Nat) : List (List Int) → Int → Int
  | [], _ => -1
  | w :: r, k => if e = s + w.length ∧ mtW b w s = true then k else findW b s e r (k + 1)
section CTOK
variable {d : Nat} {g : mm_H} {b : Nat → Int} {E : Nat}
/-- the text, in the class -/
abbrev TxC (g : mm_H) (b : Nat → Int) (E : Nat) : Prop := TpC g b E
set_option maxHeartbeats 8000000 in
theorem C_isLetter {x : Int} (x1 : -1 ≤ x) (x2 : x ≤ 255) : mm_M mm_T0 (d + 1) 97 [.int (iI x)] g = some (some (.int (iI (b2 (isLt x = true)))), g) := by
  rw [U_X6_isLetter]
  by_cases c : 97 ≤ x ∧ x ≤ 122
  · rw [b2_t (isLt_iff.mpr c)]
    simp (disch := omega) only [iI_lit, jI_lit, iI_neg, jI_neg, iI_add, iI_sub, iI_mul, jI_add, jI_sub, jI_mul, rdI, rdL, iI_lt, iI_le, iI_eq, iI_nat, iI_b2_0, iI_b2_1, mm_bI_some, mm_bV_some, mm_bL_some, mm_bA_some, fd_wL, fd_wR, fl_wI, fl_wR, re_wI, re_wL, re_wC, ite_true, ite_false, not_true_eq_false, not_false_eq_true, lq_ge, lq_le, lq_gt, lq_lt, lq_eq, jI_lt, jI_le, jI_eq, if_pos, if_neg]
  · rw [b2_f (fun z => c (isLt_iff.mp z))]
    by_cases c2 : x < 97 <;> simp (disch := omega) only [iI_lit, jI_lit, iI_neg, jI_neg, iI_add, iI_sub, iI_mul, jI_add, jI_sub, jI_mul, rdI, rdL, iI_lt, iI_le, iI_eq, iI_nat, iI_b2_0, iI_b2_1, mm_bI_some, mm_bV_some, mm_bL_some, mm_bA_some, fd_wL, fd_wR, fl_wI, fl_wR, re_wI, re_wL, re_wC, ite_true, ite_false, not_true_eq_false, not_false_eq_true, lq_ge, lq_le, lq_gt, lq_lt, lq_eq, jI_lt, jI_le, jI_eq, if_pos, if_neg]
set_option maxHeartbeats 8000000 in
theorem C_isDigit {x : Int} (x1 : -1 ≤ x) (x2 : x ≤ 255) : mm_M mm_T0 (d + 1) 98 [.int (iI x)] g = some (some (.int (iI (b2 (isDg x = true)))), g) := by
  rw [U_X6_isDigit]
  by_cases c : 48 ≤ x ∧ x ≤ 57
  · rw [b2_t (isDg_iff.mpr c)]
    simp (disch := omega) only [iI_lit, jI_lit, iI_neg, jI_neg, iI_add, iI_sub, iI_mul, jI_add, jI_sub, jI_mul, rdI, rdL, iI_lt, iI_le, iI_eq, iI_nat, iI_b2_0, iI_b2_1, mm_bI_some, mm_bV_some, mm_bL_some, mm_bA_some, fd_wL, fd_wR, fl_wI, fl_wR, re_wI, re_wL, re_wC, ite_true, ite_false, not_true_eq_false, not_false_eq_true, lq_ge, lq_le, lq_gt, lq_lt, lq_eq, jI_lt, jI_le, jI_eq, if_pos, if_neg]
  · rw [b2_f (fun z => c (isDg_iff.mp z))]
    by_cases c2 : x < 48 <;> simp (disch := omega) only [iI_lit, jI_lit, iI_neg, jI_neg, iI_add, iI_sub, iI_mul, jI_add, jI_sub, jI_mul, rdI, rdL, iI_lt, iI_le, iI_eq, iI_nat, iI_b2_0, iI_b2_1, mm_bI_some, mm_bV_some, mm_bL_some, mm_bA_some, fd_wL, fd_wR, fl_wI, fl_wR, re_wI, re_wL, re_wC, ite_true, ite_false, not_true_eq_false, not_false_eq_true, lq_ge, lq_le, lq_gt, lq_lt, lq_eq, jI_lt, jI_le, jI_eq, if_pos, if_neg]
set_option maxHeartbeats 8000000 in
theorem C_isBlank {x : Int} (x1 : -1 ≤ x) (x2 : x ≤ 255) : mm_M mm_T0 (d + 1) 96 [.int (iI x)] g = some (some (.int (iI (b2 (isBl x = true)))), g) := by
  rw [U_X6_isBlank]
  by_cases c : x = 10 ∨ x = 32
  · rw [b2_t (show isBl x = true from decide_eq_true c)]
    by_cases c1 : x = 10 <;> simp (disch := omega) only [iI_lit, jI_lit, iI_neg, jI_neg, iI_add, iI_sub, iI_mul, jI_add, jI_sub, jI_mul, rdI, rdL, iI_lt, iI_le, iI_eq, iI_nat, iI_b2_0, iI_b2_1, mm_bI_some, mm_bV_some, mm_bL_some, mm_bA_some, fd_wL, fd_wR, fl_wI, fl_wR, re_wI, re_wL, re_wC, ite_true, ite_false, not_true_eq_false, not_false_eq_true, lq_ge, lq_le, lq_gt, lq_lt, lq_eq, jI_lt, jI_le, jI_eq, if_pos, if_neg]
  · rw [b2_f (show ¬ isBl x = true from fun z => c (of_decide_eq_true z))]
    simp (disch := omega) only [iI_lit, jI_lit, iI_neg, jI_neg, iI_add, iI_sub, iI_mul, jI_add, jI_sub, jI_mul, rdI, rdL, iI_lt, iI_le, iI_eq, iI_nat, iI_b2_0, iI_b2_1, mm_bI_some, mm_bV_some, mm_bL_some, mm_bA_some, fd_wL, fd_wR, fl_wI, fl_wR, re_wI, re_wL, re_wC, ite_true, ite_false, not_true_eq_false, not_false_eq_true, lq_ge, lq_le, lq_gt, lq_lt, lq_eq, jI_lt, jI_le, jI_eq, if_pos, if_neg]
set_option maxHeartbeats 8000000 in
theorem C_blanks (T : TpC g b E) (hE : E ≤ 1600) : ∀ (k p : Nat), k = E - p → p ≤ E → mm_D (mm_M mm_T0 (d + 1)) cd_X6_afterBlanks 2 [.ref 3, .null, .int (iI (p : Nat))] [] g = some (some (.int (iI (tS b E p : Nat))), g)
  | 0, p, hk, hp => by
    have t1 := T.1
    have st : tS b E p = p := run_stop (by omega)
    rw [st, U_X6_afterBlanks_2, U_X8_size]
    simp (disch := omega) only [iI_lit, jI_lit, iI_neg, jI_neg, iI_add, iI_sub, iI_mul, jI_add, jI_sub, jI_mul, rdI, rdL, iI_lt, iI_le, iI_eq, iI_nat, iI_b2_0, iI_b2_1, mm_bI_some, mm_bV_some, mm_bL_some, mm_bA_some, fd_wL, fd_wR, fl_wI, fl_wR, re_wI, re_wL, re_wC, ite_true, ite_false, not_true_eq_false, not_false_eq_true, lq_ge, lq_le, lq_gt, lq_lt, lq_eq, jI_lt, jI_le, jI_eq, if_pos, if_neg, t1]
  | k + 1, p, hk, hp => by
    have t1 := T.1
    have y := C_byte (d := d) (f := p) T (by omega) hE
    have tb := (T.2 p (by omega)).2
    have bl := C_isBlank (d := d) (g := g) (x := b p) (by omega) (by omega)
    have e1 : ((p : Nat) : Int) + 1 = ((p + 1 : Nat) : Int) := by omega
    by_cases c : isBl (b p) = true
    · have st : tS b E p = tS b E (p + 1) := run_step ⟨by omega, c⟩
      rw [b2_t c] at bl
      rw [st, ← C_blanks T hE k (p + 1) (by omega) (by omega), U_X6_afterBlanks_2, U_X8_size]
      simp (disch := omega) only [iI_lit, jI_lit, iI_neg, jI_neg, iI_add, iI_sub, iI_mul, jI_add, jI_sub, jI_mul, rdI, rdL, iI_lt, iI_le, iI_eq, iI_nat, iI_b2_0, iI_b2_1, mm_bI_some, mm_bV_some, mm_bL_some, mm_bA_some, fd_wL, fd_wR, fl_wI, fl_wR, re_wI, re_wL, re_wC, ite_true, ite_false, not_true_eq_false, not_false_eq_true, lq_ge, lq_le, lq_gt, lq_lt, lq_eq, jI_lt, jI_le, jI_eq, if_pos, if_neg, t1, y, bl, e1]
    · have st : tS b E p = p := run_stop (fun z => c z.2)
      rw [b2_f c] at bl
      rw [st, U_X6_afterBlanks_2, U_X8_size]
      simp (disch := omega) only [iI_lit, jI_lit, iI_neg, jI_neg, iI_add, iI_sub, iI_mul, jI_add, jI_sub, jI_mul, rdI, rdL, iI_lt, iI_le, iI_eq, iI_nat, iI_b2_0, iI_b2_1, mm_bI_some, mm_bV_some, mm_bL_some, mm_bA_some, fd_wL, fd_wR, fl_wI, fl_wR, re_wI, re_wL, re_wC, ite_true, ite_false, not_true_eq_false, not_false_eq_true, lq_ge, lq_le, lq_gt, lq_lt, lq_eq, jI_lt, jI_le, jI_eq, if_pos, if_neg, t1, y, bl]
set_option maxHeartbeats 8000000 in
theorem C_letters (T : TpC g b E) (hE : E ≤ 1600) : ∀ (k p : Nat), k = E - p → p ≤ E → mm_D (mm_M mm_T0 (d + 1)) cd_X6_afterLetters 2 [.ref 3, .null, .int (iI (p : Nat))] [] g = some (some (.int (iI (tL b E p : Nat))), g)
  | 0, p, hk, hp => by
    have t1 := T.1
    have st : tL b E p = p := run_stop (by omega)
    rw [st, U_X6_afterLetters_2, U_X8_size]
    simp (disch := omega) only [iI_lit, jI_lit, iI_neg, jI_neg, iI_add, iI_sub, iI_mul, jI_add, jI_sub, jI_mul, rdI, rdL, iI_lt, iI_le, iI_eq, iI_nat, iI_b2_0, iI_b2_1, mm_bI_some, mm_bV_some, mm_bL_some, mm_bA_some, fd_wL, fd_wR, fl_wI, fl_wR, re_wI, re_wL, re_wC, ite_true, ite_false, not_true_eq_false, not_false_eq_true, lq_ge, lq_le, lq_gt, lq_lt, lq_eq, jI_lt, jI_le, jI_eq, if_pos, if_neg, t1]
  | k + 1, p, hk, hp => by
    have t1 := T.1
    have y := C_byte (d := d) (f := p) T (by omega) hE
    have tb := (T.2 p (by omega)).2
    have bl := C_isLetter (d := d) (g := g) (x := b p) (by omega) (by omega)
    have e1 : ((p : Nat) : Int) + 1 = ((p + 1 : Nat) : Int) := by omega
    by_cases c : isLt (b p) = true
    · have st : tL b E p = tL b E (p + 1) := run_step ⟨by omega, c⟩
      rw [b2_t c] at bl
      rw [st, ← C_letters T hE k (p + 1) (by omega) (by omega), U_X6_afterLetters_2, U_X8_size]
      simp (disch := omega) only [iI_lit, jI_lit, iI_neg, jI_neg, iI_add, iI_sub, iI_mul, jI_add, jI_sub, jI_mul, rdI, rdL, iI_lt, iI_le, iI_eq, iI_nat, iI_b2_0, iI_b2_1, mm_bI_some, mm_bV_some, mm_bL_some, mm_bA_some, fd_wL, fd_wR, fl_wI, fl_wR, re_wI, re_wL, re_wC, ite_true, ite_false, not_true_eq_false, not_false_eq_true, lq_ge, lq_le, lq_gt, lq_lt, lq_eq, jI_lt, jI_le, jI_eq, if_pos, if_neg, t1, y, bl, e1]
    · have st : tL b E p = p := run_stop (fun z => c z.2)
      rw [b2_f c] at bl
      rw [st, U_X6_afterLetters_2, U_X8_size]
      simp (disch := omega) only [iI_lit, jI_lit, iI_neg, jI_neg, iI_add, iI_sub, iI_mul, jI_add, jI_sub, jI_mul, rdI, rdL, iI_lt, iI_le, iI_eq, iI_nat, iI_b2_0, iI_b2_1, mm_bI_some, mm_bV_some, mm_bL_some, mm_bA_some, fd_wL, fd_wR, fl_wI, fl_wR, re_wI, re_wL, re_wC, ite_true, ite_false, not_true_eq_false, not_false_eq_true, lq_ge, lq_le, lq_gt, lq_lt, lq_eq, jI_lt, jI_le, jI_eq, if_pos, if_neg, t1, y, bl]
set_option maxHeartbeats 8000000 in
theorem C_digits (T : TpC g b E) (hE : E ≤ 1600) : ∀ (k p : Nat), k = E - p → p ≤ E → mm_D (mm_M mm_T0 (d + 1)) cd_X6_afterDigits 2 [.ref 3, .null, .int (iI (p : Nat))] [] g = some (some (.int (iI (tD b E p : Nat))), g)
  | 0, p, hk, hp => by
    have t1 := T.1
    have st : tD b E p = p := run_stop (by omega)
    rw [st, U_X6_afterDigits_2, U_X8_size]
    simp (disch := omega) only [iI_lit, jI_lit, iI_neg, jI_neg, iI_add, iI_sub, iI_mul, jI_add, jI_sub, jI_mul, rdI, rdL, iI_lt, iI_le, iI_eq, iI_nat, iI_b2_0, iI_b2_1, mm_bI_some, mm_bV_some, mm_bL_some, mm_bA_some, fd_wL, fd_wR, fl_wI, fl_wR, re_wI, re_wL, re_wC, ite_true, ite_false, not_true_eq_false, not_false_eq_true, lq_ge, lq_le, lq_gt, lq_lt, lq_eq, jI_lt, jI_le, jI_eq, if_pos, if_neg, t1]
  | k + 1, p, hk, hp => by
    have t1 := T.1
    have y := C_byte (d := d) (f := p) T (by omega) hE
    have tb := (T.2 p (by omega)).2
    have bl := C_isDigit (d := d) (g := g) (x := b p) (by omega) (by omega)
    have e1 : ((p : Nat) : Int) + 1 = ((p + 1 : Nat) : Int) := by omega
    by_cases c : isDg (b p) = true
    · have st : tD b E p = tD b E (p + 1) := run_step ⟨by omega, c⟩
      rw [b2_t c] at bl
      rw [st, ← C_digits T hE k (p + 1) (by omega) (by omega), U_X6_afterDigits_2, U_X8_size]
      simp (disch := omega) only [iI_lit, jI_lit, iI_neg, jI_neg, iI_add, iI_sub, iI_mul, jI_add, jI_sub, jI_mul, rdI, rdL, iI_lt, iI_le, iI_eq, iI_nat, iI_b2_0, iI_b2_1, mm_bI_some, mm_bV_some, mm_bL_some, mm_bA_some, fd_wL, fd_wR, fl_wI, fl_wR, re_wI, re_wL, re_wC, ite_true, ite_false, not_true_eq_false, not_false_eq_true, lq_ge, lq_le, lq_gt, lq_lt, lq_eq, jI_lt, jI_le, jI_eq, if_pos, if_neg, t1, y, bl, e1]
    · have st : tD b E p = p := run_stop (fun z => c z.2)
      rw [b2_f c] at bl
      rw [st, U_X6_afterDigits_2, U_X8_size]
      simp (disch := omega) only [iI_lit, jI_lit, iI_neg, jI_neg, iI_add, iI_sub, iI_mul, jI_add, jI_sub, jI_mul, rdI, rdL, iI_lt, iI_le, iI_eq, iI_nat, iI_b2_0, iI_b2_1, mm_bI_some, mm_bV_some, mm_bL_some, mm_bA_some, fd_wL, fd_wR, fl_wI, fl_wR, re_wI, re_wL, re_wC, ite_true, ite_false, not_true_eq_false, not_false_eq_true, lq_ge, lq_le, lq_gt, lq_lt, lq_eq, jI_lt, jI_le, jI_eq, if_pos, if_neg, t1, y, bl]
set_option maxHeartbeats 8000000 in
/-- the rest r of a word's letters, from place q on -/
theorem C_wf_in {s e : Nat} {k : Int} (T : TpC g b E) (hE : E ≤ 1600) (he : e ≤ E) (hs : s ≤ e) (k0 : 0 ≤ k) (k1 : k < 100) : ∀ (r : List Int) (q i : Nat) (like : Bool), (∀ x ∈ r, 97 ≤ x ∧ x ≤ 122) → i + r.length < (txtOf allW).length → (∀ j v, (r ++ [32])[j]? = some v → (txtOf allW).getD (i + j) 0 = v) → q + r.length ≤ 3000 → mm_D (mm_M mm_T0 (d + 3)) cd_X6_wordFrom 11 [.ref 3, .int (iI (s : Nat)), .int (iI (e : Nat)), .int (iI k), .int (iI (q : Nat)), .int (iI (b2 (like = true))), .int (iI (i : Nat)), .null] [] g = if like = true ∧ e = q + r.length ∧ (∀ j, j < r.length → b (q + j) = r.getD j 0) then some (some (.int (iI k)), g) else mm_D (mm_M mm_T0 (d + 3)) cd_X6_wordFrom 11 [.ref 3, .int (iI (s : Nat)), .int (iI (e : Nat)), .int (iI (k + 1)), .int (iI (s : Nat)), .int (iI 1), .int (iI ((i + r.length + 1 : Nat) : Int)), .null] [] g
  | [], q, i, like, hr, hi, ht, hq => by
    have tn := txt_n
    rw [List.length_nil] at hi ⊢
    have ch := J_chr (d := d) (h := g) (i := i) (by omega)
    have c32 := ht 0 32 rfl
    rw [Nat.add_zero] at c32
    rw [c32] at ch
    have ln := J_len (d := d + 1) (h := g)
    have e1 : ((i : Nat) : Int) + 1 = ((i + 0 + 1 : Nat) : Int) := by omega
    rw [U_X6_wordFrom_11]
    cases like with
    | false =>
      rw [if_neg (by simp), b2_f (by simp)]
      simp (disch := omega) only [iI_lit, jI_lit, iI_neg, jI_neg, iI_add, iI_sub, iI_mul, jI_add, jI_sub, jI_mul, rdI, rdL, iI_lt, iI_le, iI_eq, iI_nat, iI_b2_0, iI_b2_1, mm_bI_some, mm_bV_some, mm_bL_some, mm_bA_some, fd_wL, fd_wR, fl_wI, fl_wR, re_wI, re_wL, re_wC, ite_true, ite_false, not_true_eq_false, not_false_eq_true, lq_ge, lq_le, lq_gt, lq_lt, lq_eq, jI_lt, jI_le, jI_eq, if_pos, if_neg, ln, ch, e1]
    | true =>
      rw [b2_t rfl]
      by_cases c : e = q
      · rw [if_pos ⟨rfl, by omega, fun j hj => by omega⟩]
        simp (disch := omega) only [iI_lit, jI_lit, iI_neg, jI_neg, iI_add, iI_sub, iI_mul, jI_add, jI_sub, jI_mul, rdI, rdL, iI_lt, iI_le, iI_eq, iI_nat, iI_b2_0, iI_b2_1, mm_bI_some, mm_bV_some, mm_bL_some, mm_bA_some, fd_wL, fd_wR, fl_wI, fl_wR, re_wI, re_wL, re_wC, ite_true, ite_false, not_true_eq_false, not_false_eq_true, lq_ge, lq_le, lq_gt, lq_lt, lq_eq, jI_lt, jI_le, jI_eq, if_pos, if_neg, ln, ch]
      · rw [if_neg (fun z => c (by have := z.2.1; omega))]
        simp (disch := omega) only [iI_lit, jI_lit, iI_neg, jI_neg, iI_add, iI_sub, iI_mul, jI_add, jI_sub, jI_mul, rdI, rdL, iI_lt, iI_le, iI_eq, iI_nat, iI_b2_0, iI_b2_1, mm_bI_some, mm_bV_some, mm_bL_some, mm_bA_some, fd_wL, fd_wR, fl_wI, fl_wR, re_wI, re_wL, re_wC, ite_true, ite_false, not_true_eq_false, not_false_eq_true, lq_ge, lq_le, lq_gt, lq_lt, lq_eq, jI_lt, jI_le, jI_eq, if_pos, if_neg, ln, ch, e1]
  | x :: r, q, i, like, hr, hi, ht, hq => by
    have tn := txt_n
    rw [List.length_cons] at hi
    have ch := J_chr (d := d) (h := g) (i := i) (by omega)
    have cx := ht 0 x rfl
    rw [Nat.add_zero] at cx
    rw [cx] at ch
    have xb := hr x (List.mem_cons_self)
    have ln := J_len (d := d + 1) (h := g)
    have e1 : ((i : Nat) : Int) + 1 = ((i + 1 : Nat) : Int) := by omega
    have eq : ((q : Nat) : Int) + 1 = ((q + 1 : Nat) : Int) := by omega
    rw [List.length_cons] at hq
    have nx := fun lk => C_wf_in (k := k) T hE he hs k0 k1 r (q + 1) (i + 1) lk (fun y hy => hr y (List.mem_cons_of_mem _ hy)) (by omega) (fun j v hv => by
      have := ht (j + 1) v (by simpa using hv)
      rw [show i + 1 + j = i + (j + 1) by omega]
      exact this) (by omega)
    have el : i + 1 + r.length + 1 = i + (x :: r).length + 1 := by rw [List.length_cons]; omega
    rw [el] at nx
    by_cases c1 : like = true ∧ q < e ∧ b q = x
    · have n1 := nx true
      have y := C_byte (d := d + 2) (f := q) T (by omega) hE
      rw [c1.2.2] at y
      have ee : (like = true ∧ e = q + (x :: r).length ∧ (∀ j, j < (x :: r).length → b (q + j) = (x :: r).getD j 0)) ↔ (true = true ∧ e = q + 1 + r.length ∧ (∀ j, j < r.length → b (q + 1 + j) = r.getD j 0)) := by
        rw [List.length_cons]
        constructor
        · rintro ⟨_, z2, z3⟩
          refine ⟨rfl, by omega, fun j hj => ?_⟩
          have := z3 (j + 1) (by omega)
          rw [show q + (j + 1) = q + 1 + j by omega] at this
          simpa using this
        · rintro ⟨_, z2, z3⟩
          refine ⟨c1.1, by omega, fun j hj => ?_⟩
          cases j with
          | zero => simpa using c1.2.2
          | succ j =>
            have := z3 j (by omega)
            rw [show q + 1 + j = q + (j + 1) by omega] at this
            simpa using this
      rw [c1.1, b2_t rfl, U_X6_wordFrom_11]
      rw [b2_t rfl] at n1
      by_cases z : true = true ∧ e = q + 1 + r.length ∧ (∀ j, j < r.length → b (q + 1 + j) = r.getD j 0)
      · rw [if_pos z] at n1
        rw [if_pos (c1.1 ▸ ee.mpr z), ← n1]
        simp (disch := omega) only [iI_lit, jI_lit, iI_neg, jI_neg, iI_add, iI_sub, iI_mul, jI_add, jI_sub, jI_mul, rdI, rdL, iI_lt, iI_le, iI_eq, iI_nat, iI_b2_0, iI_b2_1, mm_bI_some, mm_bV_some, mm_bL_some, mm_bA_some, fd_wL, fd_wR, fl_wI, fl_wR, re_wI, re_wL, re_wC, ite_true, ite_false, not_true_eq_false, not_false_eq_true, lq_ge, lq_le, lq_gt, lq_lt, lq_eq, jI_lt, jI_le, jI_eq, if_pos, if_neg, ln, ch, y, e1, eq]
      · rw [if_neg z] at n1
        rw [if_neg (fun w => z (ee.mp ⟨c1.1, w.2⟩)), ← n1]
        simp (disch := omega) only [iI_lit, jI_lit, iI_neg, jI_neg, iI_add, iI_sub, iI_mul, jI_add, jI_sub, jI_mul, rdI, rdL, iI_lt, iI_le, iI_eq, iI_nat, iI_b2_0, iI_b2_1, mm_bI_some, mm_bV_some, mm_bL_some, mm_bA_some, fd_wL, fd_wR, fl_wI, fl_wR, re_wI, re_wL, re_wC, ite_true, ite_false, not_true_eq_false, not_false_eq_true, lq_ge, lq_le, lq_gt, lq_lt, lq_eq, jI_lt, jI_le, jI_eq, if_pos, if_neg, ln, ch, y, e1, eq]
    · have n0 := nx false
      rw [if_neg (by simp), b2_f (by simp)] at n0
      have no : ¬ (like = true ∧ e = q + (x :: r).length ∧ (∀ j, j < (x :: r).length → b (q + j) = (x :: r).getD j 0)) := by
        rintro ⟨z1, z2, z3⟩
        rw [List.length_cons] at z2 z3
        have := z3 0 (by omega)
        exact c1 ⟨z1, by omega, by simpa using this⟩
      rw [if_neg no, ← n0, U_X6_wordFrom_11]
      cases like with
      | false =>
        rw [b2_f (by simp)]
        simp (disch := omega) only [iI_lit, jI_lit, iI_neg, jI_neg, iI_add, iI_sub, iI_mul, jI_add, jI_sub, jI_mul, rdI, rdL, iI_lt, iI_le, iI_eq, iI_nat, iI_b2_0, iI_b2_1, mm_bI_some, mm_bV_some, mm_bL_some, mm_bA_some, fd_wL, fd_wR, fl_wI, fl_wR, re_wI, re_wL, re_wC, ite_true, ite_false, not_true_eq_false, not_false_eq_true, lq_ge, lq_le, lq_gt, lq_lt, lq_eq, jI_lt, jI_le, jI_eq, if_pos, if_neg, ln, ch, e1, eq]
      | true =>
        rw [b2_t rfl]
        by_cases c2 : q < e
        · have y := C_byte (d := d + 2) (f := q) T (by omega) hE
          have yb := (T.2 q (by omega)).2
          have c3 : b q ≠ x := fun z => c1 ⟨rfl, c2, z⟩
          simp (disch := omega) only [iI_lit, jI_lit, iI_neg, jI_neg, iI_add, iI_sub, iI_mul, jI_add, jI_sub, jI_mul, rdI, rdL, iI_lt, iI_le, iI_eq, iI_nat, iI_b2_0, iI_b2_1, mm_bI_some, mm_bV_some, mm_bL_some, mm_bA_some, fd_wL, fd_wR, fl_wI, fl_wR, re_wI, re_wL, re_wC, ite_true, ite_false, not_true_eq_false, not_false_eq_true, lq_ge, lq_le, lq_gt, lq_lt, lq_eq, jI_lt, jI_le, jI_eq, if_pos, if_neg, ln, ch, y, e1, eq]
        · simp (disch := omega) only [iI_lit, jI_lit, iI_neg, jI_neg, iI_add, iI_sub, iI_mul, jI_add, jI_sub, jI_mul, rdI, rdL, iI_lt, iI_le, iI_eq, iI_nat, iI_b2_0, iI_b2_1, mm_bI_some, mm_bV_some, mm_bL_some, mm_bA_some, fd_wL, fd_wR, fl_wI, fl_wR, re_wI, re_wL, re_wC, ite_true, ite_false, not_true_eq_false, not_false_eq_true, lq_ge, lq_le, lq_gt, lq_lt, lq_eq, jI_lt, jI_le, jI_eq, if_pos, if_neg, ln, ch, e1, eq]
set_option maxHeartbeats 8000000 in
theorem C_wf {s e : Nat} (T : TpC g b E) (hE : E ≤ 1600) (he : e ≤ E) (hs : s ≤ e) : ∀ (ws : List (List Int)) (k : Int) (i : Nat), (∀ w ∈ ws, (∀ x ∈ w, 97 ≤ x ∧ x ≤ 122) ∧ w.length ≤ 7) → 0 ≤ k → k + ws.length ≤ 50 → i + (txtOf ws).length = (txtOf allW).length → (∀ j v, (txtOf ws)[j]? = some v → (txtOf allW).getD (i + j) 0 = v) → mm_D (mm_M mm_T0 (d + 3)) cd_X6_wordFrom 11 [.ref 3, .int (iI (s : Nat)), .int (iI (e : Nat)), .int (iI k), .int (iI (s : Nat)), .int (iI 1), .int (iI (i : Nat)), .null] [] g = some (some (.int (iI (findW b s e ws k))), g)
  | [], k, i, hw, k0, k1, hi, ht => by
    have tn := txt_n
    have ln := J_len (d := d + 1) (h := g)
    have hi' : i = (txtOf allW).length := hi
    rw [findW, U_X6_wordFrom_11]
    simp (disch := omega) only [iI_lit, jI_lit, iI_neg, jI_neg, iI_add, iI_sub, iI_mul, jI_add, jI_sub, jI_mul, rdI, rdL, iI_lt, iI_le, iI_eq, iI_nat, iI_b2_0, iI_b2_1, mm_bI_some, mm_bV_some, mm_bL_some, mm_bA_some, fd_wL, fd_wR, fl_wI, fl_wR, re_wI, re_wL, re_wC, ite_true, ite_false, not_true_eq_false, not_false_eq_true, lq_ge, lq_le, lq_gt, lq_lt, lq_eq, jI_lt, jI_le, jI_eq, if_pos, if_neg, ln]
  | w :: r, k, i, hw, k0, k1, hi, ht => by
    have tn := txt_n
    have ww := hw w (List.mem_cons_self)
    have et : txtOf (w :: r) = (w ++ [32]) ++ txtOf r := by
      rw [txtOf, List.append_assoc]
      rfl
    have lt : (txtOf (w :: r)).length = w.length + 1 + (txtOf r).length := by
      rw [et, List.length_append, List.length_append, List.length_singleton]
    rw [List.length_cons] at k1
    have a := C_wf_in (d := d) (k := k) T hE he hs k0 (by omega) w s i true ww.1 (by omega) (fun j v hv => ht j v (by
      rw [et, List.getElem?_append_left]
      · exact hv
      · by_cases c : j < (w ++ [32]).length
        · exact c
        · rw [List.getElem?_eq_none (by omega)] at hv
          exact absurd hv (by simp))) (by omega)
    rw [b2_t rfl] at a
    rw [a, findW]
    by_cases c : e = s + w.length ∧ mtW b w s = true
    · rw [if_pos c, if_pos ⟨rfl, c.1, of_decide_eq_true c.2⟩]
    · rw [if_neg c, if_neg (fun z => c ⟨z.2.1, decide_eq_true z.2.2⟩)]
      exact C_wf T hE he hs r (k + 1) (i + w.length + 1) (fun w' h' => hw w' (List.mem_cons_of_mem _ h')) (by omega) (by omega) (by omega) (fun j v hv => by
        have := ht (w.length + 1 + j) v (by
          rw [et, List.getElem?_append_right (by rw [List.length_append, List.length_singleton]; omega), List.length_append, List.length_singleton, show w.length + 1 + j - (w.length + 1) = j by omega]
          exact hv)
        rw [show i + w.length + 1 + j = i + (w.length + 1 + j) by omega]
        exact this)
theorem allW_ok : ∀ w ∈ allW, (∀ x ∈ w, 97 ≤ x ∧ x ≤ 122) ∧ w.length ≤ 7 := by decide +kernel
theorem allW_len : allW.length = 31 := rfl
set_option maxHeartbeats 8000000 in
theorem C_wordFrom {s e : Nat} (T : TpC g b E) (hE : E ≤ 1600) (he : e ≤ E) (hs : s ≤ e) : mm_M mm_T0 (d + 4) 94 [.ref 3, .int (iI (s : Nat)), .int (iI (e : Nat))] g = some (some (.int (iI (findW b s e allW 0))), g) := by
  have a := C_wf (d := d) (s := s) (e := e) T hE he hs allW 0 0 allW_ok (by omega) (by rw [allW_len]; omega) (by omega) (fun j v hv => by
    rw [Nat.zero_add, List.getD_eq_getElem?_getD, hv]
    rfl)
  rw [U_X6_wordFrom]
  exact a
theorem findW_b {s e : Nat} : ∀ (ws : List (List Int)) (k : Int), 0 ≤ k → -1 ≤ findW b s e ws k ∧ findW b s e ws k < k + ws.length + 1
  | [], k, h => by rw [findW]; omega
  | w :: r, k, h => by
    rw [findW, List.length_cons]
    split
    · omega
    · have := findW_b r (k + 1) (by omega) (s := s) (e := e)
      omega
set_option maxHeartbeats 8000000 in
theorem C_num_14 {last : Nat} (T : TpC g b E) (hE : E ≤ 1600) (hl : last ≤ E) : ∀ (k p : Nat) (v : Int), p + k = last → k ≤ 4 → (∀ j, p ≤ j → j < last → 48 ≤ b j ∧ b j ≤ 57) → 0 ≤ v → v < 10 ^ (4 - k) → mm_D (mm_M mm_T0 (d + 1)) cd_X6_numberFrom 14 [.ref 3, .null, .null, .int (iI (last : Nat)), .int (iI v), .int (iI (p : Nat))] [] g = some (some (.int (iI (numF b k p v))), g)
  | 0, p, v, pk, hk, hd, v0, v1 => by
    rw [numF, U_X6_numberFrom_14]
    simp (disch := omega) only [iI_lit, jI_lit, iI_neg, jI_neg, iI_add, iI_sub, iI_mul, jI_add, jI_sub, jI_mul, rdI, rdL, iI_lt, iI_le, iI_eq, iI_nat, iI_b2_0, iI_b2_1, mm_bI_some, mm_bV_some, mm_bL_some, mm_bA_some, fd_wL, fd_wR, fl_wI, fl_wR, re_wI, re_wL, re_wC, ite_true, ite_false, not_true_eq_false, not_false_eq_true, lq_ge, lq_le, lq_gt, lq_lt, lq_eq, jI_lt, jI_le, jI_eq, if_pos, if_neg]
  | k + 1, p, v, pk, hk, hd, v0, v1 => by
    have y := C_byte (d := d) (f := p) T (by omega) hE
    have dg := hd p (by omega) (by omega)
    have e1 : ((p : Nat) : Int) + 1 = ((p + 1 : Nat) : Int) := by omega
    have p4 : (10 : Int) ^ (4 - (k + 1)) ≤ 1000 := by
      have : ∀ m, m < 4 → (10 : Int) ^ (4 - (m + 1)) ≤ 1000 := by decide
      exact this k (by omega)
    have pw : (10 : Int) ^ (4 - k) = 10 ^ (4 - (k + 1)) * 10 := by
      rw [show 4 - k = (4 - (k + 1)) + 1 by omega, Int.pow_succ]
    rw [numF, ← C_num_14 T hE hl k (p + 1) (10 * v + b p - 48) (by omega) (by omega) (fun j h1 h2 => hd j (by omega) h2) (by omega) (by rw [pw]; omega), U_X6_numberFrom_14]
    simp (disch := omega) only [iI_lit, jI_lit, iI_neg, jI_neg, iI_add, iI_sub, iI_mul, jI_add, jI_sub, jI_mul, rdI, rdL, iI_lt, iI_le, iI_eq, iI_nat, iI_b2_0, iI_b2_1, mm_bI_some, mm_bV_some, mm_bL_some, mm_bA_some, fd_wL, fd_wR, fl_wI, fl_wR, re_wI, re_wL, re_wC, ite_true, ite_false, not_true_eq_false, not_false_eq_true, lq_ge, lq_le, lq_gt, lq_lt, lq_eq, jI_lt, jI_le, jI_eq, if_pos, if_neg, y, e1]
end CTOK
