/-! the class's next token -/
def tkK (b : Nat → Int) (E p : Nat) (gl : Bool) : Int := if tB b E p = -1 then 0 else if isLt (tB b E p) = true then (if tG b E p gl = true then 4 else 1) else if isDg (tB b E p) = true then (if tG b E p gl = true then 4 else 2) else 3
def tE (b : Nat → Int) (E p : Nat) : Nat := if tB b E p = -1 then tS b E p else if isLt (tB b E p) = true then tL b E (tS b E p) else if isDg (tB b E p) = true then tD b E (tS b E p) else tS b E p + 1
def tkV (b : Nat → Int) (E p : Nat) : Int := if isLt (tB b E p) = true then findW b (tS b E p) (tL b E (tS b E p)) allW 0 else if isDg (tB b E p) = true then numF b (min (tD b E (tS b E p)) (tS b E p + 4) - tS b E p) (tS b E p) 0 else tB b E p
/-- the class stands at p, its next token known -/
def CS0 (g : mm_H) (b : Nat → Int) (E p : Nat) (gl : Bool) : Prop := TpC g b E ∧ E ≤ 1600 ∧ p ≤ E ∧ fd g 3 2 = (tS b E p : Int) ∧ fd g 3 1 = tkK b E p gl ∧ fd g 3 3 = (tE b E p : Int) ∧ (tB b E p ≠ -1 → fd g 3 4 = tkV b E p)
def QTc : Nat → Nat → Prop := fun a k => a = 3 ∧ (1 ≤ k ∧ k ≤ 4)
section CADV
variable {d : Nat} {g : mm_H} {b : Nat → Int} {E p : Nat} {gl : Bool}
theorem tE_le (hp : p ≤ E) : tE b E p ≤ E := by
  have le := tS_le (b := b) (E := E) hp
  unfold tE
  by_cases c : tB b E p = -1
  · rw [if_pos c]; exact le
  · rw [if_neg c]
    have lt : tS b E p < E := by
      unfold tB at c
      by_cases z : tS b E p < E
      · exact z
      · rw [if_neg z] at c; exact absurd rfl c
    split
    · exact run_le le
    · split
      · exact run_le le
      · omega
theorem rdE {h : mm_H} {a k : Nat} {v : Int} (e : fd h a k = v) : h.1 a k = iI v := by rw [rdI, e]
theorem fE {c : Prop} (h : ¬ c) : c = False := eq_false h
theorem tE' {c : Prop} (h : c) : c = True := eq_true h
theorem iI_ne {a b : Int} (h1 : -2147483648 ≤ a) (h2 : a < 2147483648) (h3 : -2147483648 ≤ b) (h4 : b < 2147483648) (h : a ≠ b) : (iI a = iI b) = False := by
  rw [iI_eq h1 h2 h3 h4]
  exact eq_false h
theorem iI_sm {a b : Int} (h : a = b) : (iI a = iI b) = True := by
  rw [h]
  exact eq_true rfl
theorem i10 : (iI 1 = iI 0) = False := iI_ne (by omega) (by omega) (by omega) (by omega) (by omega)
theorem i00 : (iI 0 = iI 0) = True := eq_true rfl
theorem i11 : (iI 1 = iI 1) = True := eq_true rfl
theorem i22 : (iI 2 = iI 2) = True := eq_true rfl
theorem i21 : (iI 2 = iI 1) = False := iI_ne (by omega) (by omega) (by omega) (by omega) (by omega)
theorem i31 : (iI 3 = iI 1) = False := iI_ne (by omega) (by omega) (by omega) (by omega) (by omega)
theorem i32' : (iI 3 = iI 2) = False := iI_ne (by omega) (by omega) (by omega) (by omega) (by omega)
theorem i01 : (iI 0 = iI 1) = False := iI_ne (by omega) (by omega) (by omega) (by omega) (by omega)
theorem i02 : (iI 0 = iI 2) = False := iI_ne (by omega) (by omega) (by omega) (by omega) (by omega)
set_option maxHeartbeats 4000000 in
theorem C_advance {K : Int} (T : TpC g b E) (hE : E ≤ 1600) (hp : p ≤ E) (k0 : 0 ≤ K) (k4 : K ≤ 4) (e1 : fd g 3 1 = K) (e3 : fd g 3 3 = (p : Int)) : ∃ g', mm_M mm_T0 (d + 5) 75 [.ref 3] g = some (none, g') ∧ CS0 g' b E p (decide (K = 1 ∨ K = 2)) ∧ Kf QTc nL g g' := by
  have le := tS_le (b := b) (E := E) hp
  have ge := tS_ge (b := b) (E := E) (p := p)
  have bl : mm_M mm_T0 (d + 4) 91 [.ref 3, .int (iI (p : Nat))] g = some (some (.int (iI (tS b E p : Nat))), g) := by
    rw [U_X6_afterBlanks]
    exact C_blanks (d := d + 2) T hE (E - p) p rfl hp
  have a1 := rdE e1
  have a3 := rdE e3
  generalize hs : tS b E p = s at *
  have f2 : fd (wI g 3 2 (iI (s : Nat))) 3 2 = (s : Int) := fd_wI_same (by omega) (by omega)
  have r2 := rdE f2
  have T1 : TpC (wI g 3 2 (iI (s : Nat))) b E := T.kf (Q := fun a _ => a = 3) (Lq := nL) (Kf.refl.wI rfl) (by omega) (by intro j; omega)
  have by' := C_byteAt (d := d + 3) (h := wI g 3 2 (iI (s : Nat))) (L := (E : Int)) (k := (s : Nat)) T1.1 (by omega) (by omega) (by omega) (by omega)
  have tbv : (if 0 ≤ ((s : Nat) : Int) ∧ ((s : Nat) : Int) < (E : Int) then fd (wI g 3 2 (iI (s : Nat))) 2 ((s : Nat) : Int).toNat else -1) = tB b E p := by
    unfold tB
    rw [hs]
    by_cases c : s < E
    · rw [if_pos (by omega), if_pos c, show ((s : Nat) : Int).toNat = s by omega]
      exact (T1.2 s c).1
    · rw [if_neg (by omega), if_neg c]
  rw [tbv] at by'
  have tbb : -1 ≤ tB b E p ∧ tB b E p ≤ 255 := by
    unfold tB
    rw [hs]
    split
    · rename_i c
      have := T.2 s c
      omega
    · omega
  have lst : tB b E p ≠ -1 → s < E := by
    intro z
    unfold tB at z
    rw [hs] at z
    by_cases c : s < E
    · exact c
    · rw [if_neg c] at z; exact absurd rfl z
  have gld : tG b E p (decide (K = 1 ∨ K = 2)) = decide ((K = 1 ∨ K = 2) ∧ s = p) := by
    unfold tG
    rw [hs]
    by_cases c1 : K = 1 ∨ K = 2
    · rw [decide_eq_true c1, Bool.true_and]
      by_cases c2 : s = p
      · rw [decide_eq_true c2, decide_eq_true (show (K = 1 ∨ K = 2) ∧ s = p from ⟨c1, c2⟩)]
      · rw [decide_eq_false c2, decide_eq_false (fun z => c2 z.2)]
    · rw [decide_eq_false c1, Bool.false_and, decide_eq_false (fun z => c1 z.1)]
  have sp : (iI (s : Nat) = iI (p : Nat)) = (s = p) := by
    rw [iI_eq (by omega) (by omega) (by omega) (by omega)]
    exact propext ⟨fun h => by omega, fun h => by omega⟩
  have K1 : (iI K = iI 1) = (K = 1) := iI_eq (by omega) (by omega) (by omega) (by omega)
  have K2 : (iI K = iI 2) = (K = 2) := iI_eq (by omega) (by omega) (by omega) (by omega)
  by_cases c0 : tB b E p = -1
  · have kk : tkK b E p (decide (K = 1 ∨ K = 2)) = 0 := by unfold tkK; rw [if_pos c0]
    have ke : tE b E p = s := by unfold tE; rw [if_pos c0, hs]
    rw [c0] at by'
    have x2 : fd (wI (wI g 3 2 (iI (s : Nat))) 3 1 (iI 0)) 3 2 = (s : Int) := by rw [fd_wI_col (by omega)]; exact f2
    have y1 : fd (wI (wI (wI g 3 2 (iI (s : Nat))) 3 1 (iI 0)) 3 3 (iI (s : Nat))) 3 1 = 0 := by rw [fd_wI_col (by omega), fd_wI_same (by omega) (by omega)]
    have y2 : fd (wI (wI (wI g 3 2 (iI (s : Nat))) 3 1 (iI 0)) 3 3 (iI (s : Nat))) 3 2 = (s : Int) := by rw [fd_wI_col (by omega)]; exact x2
    have rx2 := rdE x2
    have ry1 := rdE y1
    have ry2 := rdE y2
    have KK : Kf QTc nL g (wI (wI (wI (wI g 3 2 (iI (s : Nat))) 3 1 (iI 0)) 3 3 (iI (s : Nat))) 3 1 (iI 0)) := (((Kf.refl.wI (by unfold QTc; omega)).wI (by unfold QTc; omega)).wI (by unfold QTc; omega)).wI (by unfold QTc; omega)
    refine ⟨wI (wI (wI (wI g 3 2 (iI (s : Nat))) 3 1 (iI 0)) 3 3 (iI (s : Nat))) 3 1 (iI 0), ?_, ⟨T.kf KK (by unfold QTc; omega) (by intro j; unfold QTc; omega), hE, hp, ?_, ?_, ?_, fun z => absurd c0 z⟩, KK⟩
    · have nn : (iI (-1) = iI (-1)) = True := eq_true rfl
      rw [U_X6_advance]
      by_cases q1 : K = 1
      · by_cases q3 : s = p
        · have sp3 : (iI (s : Nat) = iI (p : Nat)) = True := by rw [sp]; exact eq_true q3
          have q3' : (s = p) = True := eq_true q3
          simp only [iI_lit, iI_neg, a1, a3, K1, K2, sp3, bl, mm_bI_some, r2, by', nn, rx2, ry1, ry2, i01, i02, not_true_eq_false, not_false_eq_true, if_true, if_false, ite_true, ite_false, q1, q3']
        · have sp3 : (iI (s : Nat) = iI (p : Nat)) = False := by rw [sp]; exact eq_false q3
          have q3' : (s = p) = False := eq_false q3
          simp only [iI_lit, iI_neg, a1, a3, K1, K2, sp3, bl, mm_bI_some, r2, by', nn, rx2, ry1, ry2, i01, i02, not_true_eq_false, not_false_eq_true, if_true, if_false, ite_true, ite_false, q1, q3']
      · by_cases q2 : K = 2
        · by_cases q3 : s = p
          · have sp3 : (iI (s : Nat) = iI (p : Nat)) = True := by rw [sp]; exact eq_true q3
            have q3' : (s = p) = True := eq_true q3
            simp only [iI_lit, iI_neg, a1, a3, K1, K2, sp3, bl, mm_bI_some, r2, by', nn, rx2, ry1, ry2, i01, i02, i21, i22, not_true_eq_false, not_false_eq_true, if_true, if_false, ite_true, ite_false, q2, q3']
          · have sp3 : (iI (s : Nat) = iI (p : Nat)) = False := by rw [sp]; exact eq_false q3
            have q3' : (s = p) = False := eq_false q3
            simp only [iI_lit, iI_neg, a1, a3, K1, K2, sp3, bl, mm_bI_some, r2, by', nn, rx2, ry1, ry2, i01, i02, i21, i22, not_true_eq_false, not_false_eq_true, if_true, if_false, ite_true, ite_false, q2, q3']
        · simp only [iI_lit, iI_neg, a1, a3, K1, K2, sp, bl, mm_bI_some, r2, by', nn, rx2, ry1, ry2, not_true_eq_false, not_false_eq_true, if_true, if_false, ite_true, ite_false, q1, q2]
    · rw [hs, fd_wI_col (by omega), fd_wI_col (by omega), fd_wI_col (by omega), fd_wI_same (by omega) (by omega)]
    · rw [kk, fd_wI_same (by omega) (by omega)]
    · rw [ke, fd_wI_col (by omega), fd_wI_same (by omega) (by omega)]
  · have sE := lst c0
    have nn : (iI (tB b E p) = iI (-1)) = False := iI_ne (by omega) (by omega) (by omega) (by omega) c0
    by_cases cl : isLt (tB b E p) = true
    · have ila := C_isLetter (d := d + 3) (g := wI g 3 2 (iI (s : Nat))) (x := tB b E p) tbb.1 tbb.2
      rw [b2_t cl] at ila
      have tle : tL b E s ≤ E := run_le (by omega)
      have tge : s ≤ tL b E s := run_ge
      have T2 : TpC (wI (wI g 3 2 (iI (s : Nat))) 3 1 (iI 1)) b E := T1.kf (Q := fun a _ => a = 3) (Lq := nL) (Kf.refl.wI rfl) (by omega) (by intro j; omega)
      have x2 : fd (wI (wI g 3 2 (iI (s : Nat))) 3 1 (iI 1)) 3 2 = (s : Int) := by rw [fd_wI_col (by omega)]; exact f2
      have la : mm_M mm_T0 (d + 4) 92 [.ref 3, .int (iI (s : Nat))] (wI (wI g 3 2 (iI (s : Nat))) 3 1 (iI 1)) = some (some (.int (iI (tL b E s : Nat))), wI (wI g 3 2 (iI (s : Nat))) 3 1 (iI 1)) := by
        rw [U_X6_afterLetters]
        exact C_letters (d := d + 2) T2 hE (E - s) s rfl (by omega)
      have T3 : TpC (wI (wI (wI g 3 2 (iI (s : Nat))) 3 1 (iI 1)) 3 3 (iI (tL b E s : Nat))) b E := T2.kf (Q := fun a _ => a = 3) (Lq := nL) (Kf.refl.wI rfl) (by omega) (by intro j; omega)
      have z2 : fd (wI (wI (wI g 3 2 (iI (s : Nat))) 3 1 (iI 1)) 3 3 (iI (tL b E s : Nat))) 3 2 = (s : Int) := by rw [fd_wI_col (by omega)]; exact x2
      have z3 : fd (wI (wI (wI g 3 2 (iI (s : Nat))) 3 1 (iI 1)) 3 3 (iI (tL b E s : Nat))) 3 3 = ((tL b E s : Nat) : Int) := fd_wI_same (by omega) (by omega)
      have wf := C_wordFrom (d := d) (s := s) (e := tL b E s) T3 hE tle tge
      have fb := findW_b (b := b) (s := s) (e := tL b E s) allW 0 (by omega)
      rw [allW_len] at fb
      generalize hv : findW b s (tL b E s) allW 0 = v at *
      have y1 : fd (wI (wI (wI (wI g 3 2 (iI (s : Nat))) 3 1 (iI 1)) 3 3 (iI (tL b E s : Nat))) 3 4 (iI v)) 3 1 = 1 := by rw [fd_wI_col (by omega), fd_wI_col (by omega), fd_wI_same (by omega) (by omega)]
      have y2 : fd (wI (wI (wI (wI g 3 2 (iI (s : Nat))) 3 1 (iI 1)) 3 3 (iI (tL b E s : Nat))) 3 4 (iI v)) 3 2 = (s : Int) := by rw [fd_wI_col (by omega)]; exact z2
      have rx2 := rdE x2
      have rz2 := rdE z2
      have rz3 := rdE z3
      have ry1 := rdE y1
      have ry2 := rdE y2
      have Kg3 : Kf QTc nL g (wI (wI (wI (wI g 3 2 (iI (s : Nat))) 3 1 (iI 1)) 3 3 (iI (tL b E s : Nat))) 3 4 (iI v)) := (((Kf.refl.wI (by unfold QTc; omega)).wI (by unfold QTc; omega)).wI (by unfold QTc; omega)).wI (by unfold QTc; omega)
      have kk : tkK b E p (decide (K = 1 ∨ K = 2)) = if (K = 1 ∨ K = 2) ∧ s = p then 4 else 1 := by
        unfold tkK
        rw [if_neg c0, if_pos cl, gld]
        by_cases z : (K = 1 ∨ K = 2) ∧ s = p
        · rw [if_pos z, if_pos (decide_eq_true z)]
        · rw [if_neg z, if_neg (fun y => z (of_decide_eq_true y))]
      have ke : tE b E p = tL b E s := by unfold tE; rw [if_neg c0, if_pos cl, hs]
      have kv : tkV b E p = v := by unfold tkV; rw [if_pos cl, hs]; exact hv
      refine ⟨wI (wI (wI (wI (wI g 3 2 (iI (s : Nat))) 3 1 (iI 1)) 3 3 (iI (tL b E s : Nat))) 3 4 (iI v)) 3 1 (iI (if (K = 1 ∨ K = 2) ∧ s = p then 4 else 1)), ?_, ?_, Kg3.wI (by unfold QTc; omega)⟩
      · rw [U_X6_advance]
        by_cases q1 : K = 1
        · by_cases q3 : s = p
          · have sp3 : (iI (s : Nat) = iI (p : Nat)) = True := by rw [sp]; exact eq_true q3
            have q3' : (s = p) = True := eq_true q3
            simp only [iI_lit, iI_neg, a1, a3, K1, K2, sp3, bl, mm_bI_some, r2, by', nn, ila, i10, rx2, la, rz2, rz3, wf, ry1, ry2, i11, not_true_eq_false, not_false_eq_true, if_true, if_false, ite_true, ite_false, q1, q3', true_or, and_true, and_false]
          · have sp3 : (iI (s : Nat) = iI (p : Nat)) = False := by rw [sp]; exact eq_false q3
            have q3' : (s = p) = False := eq_false q3
            simp only [iI_lit, iI_neg, a1, a3, K1, K2, sp3, bl, mm_bI_some, r2, by', nn, ila, i10, rx2, la, rz2, rz3, wf, ry1, ry2, i11, not_true_eq_false, not_false_eq_true, if_true, if_false, ite_true, ite_false, q1, q3', true_or, and_true, and_false]
        · by_cases q2 : K = 2
          · by_cases q3 : s = p
            · have sp3 : (iI (s : Nat) = iI (p : Nat)) = True := by rw [sp]; exact eq_true q3
              have q3' : (s = p) = True := eq_true q3
              simp only [iI_lit, iI_neg, a1, a3, K1, K2, sp3, bl, mm_bI_some, r2, by', nn, ila, i10, rx2, la, rz2, rz3, wf, ry1, ry2, i11, i21, i22, not_true_eq_false, not_false_eq_true, if_true, if_false, ite_true, ite_false, q2, q3', or_true, and_true, and_false]
            · have sp3 : (iI (s : Nat) = iI (p : Nat)) = False := by rw [sp]; exact eq_false q3
              have q3' : (s = p) = False := eq_false q3
              simp only [iI_lit, iI_neg, a1, a3, K1, K2, sp3, bl, mm_bI_some, r2, by', nn, ila, i10, rx2, la, rz2, rz3, wf, ry1, ry2, i11, i21, i22, not_true_eq_false, not_false_eq_true, if_true, if_false, ite_true, ite_false, q2, q3', or_true, and_true, and_false]
          · simp only [iI_lit, iI_neg, a1, a3, K1, K2, sp, bl, mm_bI_some, r2, by', nn, ila, i10, rx2, la, rz2, rz3, wf, ry1, ry2, i11, not_true_eq_false, not_false_eq_true, if_true, if_false, ite_true, ite_false, q1, q2, or_self, false_and]
      · refine ⟨T.kf (Q := QTc) (Lq := nL) (Kg3.wI (by unfold QTc; omega)) (by unfold QTc; omega) (by intro j; unfold QTc; omega), hE, hp, ?_, ?_, ?_, fun _ => ?_⟩
        · rw [hs, fd_wI_col (by omega)]; exact y2
        · rw [kk, fd_wI_same]
          · split <;> omega
          · split <;> omega
        · rw [ke, fd_wI_col (by omega), fd_wI_col (by omega)]; exact z3
        · rw [kv, fd_wI_col (by omega), fd_wI_same (by omega) (by omega)]
    · have ila := C_isLetter (d := d + 3) (g := wI g 3 2 (iI (s : Nat))) (x := tB b E p) tbb.1 tbb.2
      rw [b2_f cl] at ila
      have ida := C_isDigit (d := d + 3) (g := wI g 3 2 (iI (s : Nat))) (x := tB b E p) tbb.1 tbb.2
      by_cases cd : isDg (tB b E p) = true
      · rw [b2_t cd] at ida
        have tle : tD b E s ≤ E := run_le (by omega)
        have tge : s ≤ tD b E s := run_ge
        have T2 : TpC (wI (wI g 3 2 (iI (s : Nat))) 3 1 (iI 2)) b E := T1.kf (Q := fun a _ => a = 3) (Lq := nL) (Kf.refl.wI rfl) (by omega) (by intro j; omega)
        have x2 : fd (wI (wI g 3 2 (iI (s : Nat))) 3 1 (iI 2)) 3 2 = (s : Int) := by rw [fd_wI_col (by omega)]; exact f2
        have la : mm_M mm_T0 (d + 4) 93 [.ref 3, .int (iI (s : Nat))] (wI (wI g 3 2 (iI (s : Nat))) 3 1 (iI 2)) = some (some (.int (iI (tD b E s : Nat))), wI (wI g 3 2 (iI (s : Nat))) 3 1 (iI 2)) := by
          rw [U_X6_afterDigits]
          exact C_digits (d := d + 2) T2 hE (E - s) s rfl (by omega)
        have T3 : TpC (wI (wI (wI g 3 2 (iI (s : Nat))) 3 1 (iI 2)) 3 3 (iI (tD b E s : Nat))) b E := T2.kf (Q := fun a _ => a = 3) (Lq := nL) (Kf.refl.wI rfl) (by omega) (by intro j; omega)
        have z2 : fd (wI (wI (wI g 3 2 (iI (s : Nat))) 3 1 (iI 2)) 3 3 (iI (tD b E s : Nat))) 3 2 = (s : Int) := by rw [fd_wI_col (by omega)]; exact x2
        have z3 : fd (wI (wI (wI g 3 2 (iI (s : Nat))) 3 1 (iI 2)) 3 3 (iI (tD b E s : Nat))) 3 3 = ((tD b E s : Nat) : Int) := fd_wI_same (by omega) (by omega)
        have dgs : ∀ j, s ≤ j → j < tD b E s → 48 ≤ b j ∧ b j ≤ 57 := fun j h1 h2 => isDg_iff.mp (run_in h1 h2).2
        have mn : min ((tD b E s : Nat) : Int) ((s : Int) + 4) = ((min (tD b E s) (s + 4) : Nat) : Int) := by omega
        have n14 := C_num_14 (d := d + 2) (last := min (tD b E s) (s + 4)) T3 hE (by omega) (min (tD b E s) (s + 4) - s) s 0 (by omega) (by omega) (fun j h1 h2 => dgs j h1 (by omega)) (by omega) (by
          have : ∀ m, m ≤ 4 → (0 : Int) < 10 ^ (4 - m) := by decide
          exact this _ (by omega))
        have nv := numF_lt (b := b) (min (tD b E s) (s + 4) - s) s 0 1 (fun j h1 h2 => dgs j h1 (by omega)) (by omega) (by omega)
        have p4 : (1 : Int) * 10 ^ (min (tD b E s) (s + 4) - s) ≤ 10000 := by
          have : ∀ m, m ≤ 4 → (1 : Int) * 10 ^ m ≤ 10000 := by decide
          exact this _ (by omega)
        have vb : 0 ≤ numF b (min (tD b E s) (s + 4) - s) s 0 ∧ numF b (min (tD b E s) (s + 4) - s) s 0 < 10000 := ⟨nv.1, Int.lt_of_lt_of_le nv.2 p4⟩
        clear nv p4
        have nf : mm_M mm_T0 (d + 4) 95 [.ref 3, .int (iI (s : Nat)), .int (iI (tD b E s : Nat))] (wI (wI (wI g 3 2 (iI (s : Nat))) 3 1 (iI 2)) 3 3 (iI (tD b E s : Nat))) = some (some (.int (iI (numF b (min (tD b E s) (s + 4) - s) s 0))), wI (wI (wI g 3 2 (iI (s : Nat))) 3 1 (iI 2)) 3 3 (iI (tD b E s : Nat))) := by
          have jm := J_min (d := d + 2) (a := ((tD b E s : Nat) : Int)) (b := (s : Int) + 4) (h := wI (wI (wI g 3 2 (iI (s : Nat))) 3 1 (iI 2)) 3 3 (iI (tD b E s : Nat))) (by omega) (by omega) (by omega) (by omega)
          rw [mn] at jm
          rw [U_X6_numberFrom, ← n14]
          simp only [iI_lit, iI_add, jm, mm_bI_some]
        clear n14
        generalize hv : numF b (min (tD b E s) (s + 4) - s) s 0 = v at *
        have y1 : fd (wI (wI (wI (wI g 3 2 (iI (s : Nat))) 3 1 (iI 2)) 3 3 (iI (tD b E s : Nat))) 3 4 (iI v)) 3 1 = 2 := by rw [fd_wI_col (by omega), fd_wI_col (by omega), fd_wI_same (by omega) (by omega)]
        have y2 : fd (wI (wI (wI (wI g 3 2 (iI (s : Nat))) 3 1 (iI 2)) 3 3 (iI (tD b E s : Nat))) 3 4 (iI v)) 3 2 = (s : Int) := by rw [fd_wI_col (by omega)]; exact z2
        have rx2 := rdE x2
        have rz2 := rdE z2
        have rz3 := rdE z3
        have ry1 := rdE y1
        have ry2 := rdE y2
        have Kg3 : Kf QTc nL g (wI (wI (wI (wI g 3 2 (iI (s : Nat))) 3 1 (iI 2)) 3 3 (iI (tD b E s : Nat))) 3 4 (iI v)) := (((Kf.refl.wI (by unfold QTc; omega)).wI (by unfold QTc; omega)).wI (by unfold QTc; omega)).wI (by unfold QTc; omega)
        have kk : tkK b E p (decide (K = 1 ∨ K = 2)) = if (K = 1 ∨ K = 2) ∧ s = p then 4 else 2 := by
          unfold tkK
          rw [if_neg c0, if_neg cl, if_pos cd, gld]
          by_cases z : (K = 1 ∨ K = 2) ∧ s = p
          · rw [if_pos z, if_pos (decide_eq_true z)]
          · rw [if_neg z, if_neg (fun y => z (of_decide_eq_true y))]
        have ke : tE b E p = tD b E s := by unfold tE; rw [if_neg c0, if_neg cl, if_pos cd, hs]
        have kv : tkV b E p = v := by unfold tkV; rw [if_neg cl, if_pos cd, hs]; exact hv
        refine ⟨wI (wI (wI (wI (wI g 3 2 (iI (s : Nat))) 3 1 (iI 2)) 3 3 (iI (tD b E s : Nat))) 3 4 (iI v)) 3 1 (iI (if (K = 1 ∨ K = 2) ∧ s = p then 4 else 2)), ?_, ?_, Kg3.wI (by unfold QTc; omega)⟩
        · rw [U_X6_advance]
          by_cases q1 : K = 1
          · by_cases q3 : s = p
            · have sp3 : (iI (s : Nat) = iI (p : Nat)) = True := by rw [sp]; exact eq_true q3
              have q3' : (s = p) = True := eq_true q3
              simp only [iI_lit, iI_neg, a1, a3, K1, K2, sp3, bl, mm_bI_some, r2, by', nn, ila, ida, i00, i10, rx2, la, rz2, rz3, nf, ry1, ry2, i11, i21, i22, not_true_eq_false, not_false_eq_true, if_true, if_false, ite_true, ite_false, q1, q3', true_or, and_true, and_false]
            · have sp3 : (iI (s : Nat) = iI (p : Nat)) = False := by rw [sp]; exact eq_false q3
              have q3' : (s = p) = False := eq_false q3
              simp only [iI_lit, iI_neg, a1, a3, K1, K2, sp3, bl, mm_bI_some, r2, by', nn, ila, ida, i00, i10, rx2, la, rz2, rz3, nf, ry1, ry2, i11, i21, i22, not_true_eq_false, not_false_eq_true, if_true, if_false, ite_true, ite_false, q1, q3', true_or, and_true, and_false]
          · by_cases q2 : K = 2
            · by_cases q3 : s = p
              · have sp3 : (iI (s : Nat) = iI (p : Nat)) = True := by rw [sp]; exact eq_true q3
                have q3' : (s = p) = True := eq_true q3
                simp only [iI_lit, iI_neg, a1, a3, K1, K2, sp3, bl, mm_bI_some, r2, by', nn, ila, ida, i00, i10, rx2, la, rz2, rz3, nf, ry1, ry2, i11, i21, i22, not_true_eq_false, not_false_eq_true, if_true, if_false, ite_true, ite_false, q2, q3', or_true, and_true, and_false]
              · have sp3 : (iI (s : Nat) = iI (p : Nat)) = False := by rw [sp]; exact eq_false q3
                have q3' : (s = p) = False := eq_false q3
                simp only [iI_lit, iI_neg, a1, a3, K1, K2, sp3, bl, mm_bI_some, r2, by', nn, ila, ida, i00, i10, rx2, la, rz2, rz3, nf, ry1, ry2, i11, i21, i22, not_true_eq_false, not_false_eq_true, if_true, if_false, ite_true, ite_false, q2, q3', or_true, and_true, and_false]
            · simp only [iI_lit, iI_neg, a1, a3, K1, K2, sp, bl, mm_bI_some, r2, by', nn, ila, ida, i00, i10, rx2, la, rz2, rz3, nf, ry1, ry2, i11, i21, i22, not_true_eq_false, not_false_eq_true, if_true, if_false, ite_true, ite_false, q1, q2, or_self, false_and]
        · refine ⟨T.kf (Q := QTc) (Lq := nL) (Kg3.wI (by unfold QTc; omega)) (by unfold QTc; omega) (by intro j; unfold QTc; omega), hE, hp, ?_, ?_, ?_, fun _ => ?_⟩
          · rw [hs, fd_wI_col (by omega)]; exact y2
          · rw [kk, fd_wI_same]
            · split <;> omega
            · split <;> omega
          · rw [ke, fd_wI_col (by omega), fd_wI_col (by omega)]; exact z3
          · rw [kv, fd_wI_col (by omega), fd_wI_same (by omega) (by omega)]
      · rw [b2_f cd] at ida
        have x2 : fd (wI (wI g 3 2 (iI (s : Nat))) 3 1 (iI 3)) 3 2 = (s : Int) := by rw [fd_wI_col (by omega)]; exact f2
        generalize hv : tB b E p = v at *
        have y1 : fd (wI (wI (wI (wI g 3 2 (iI (s : Nat))) 3 1 (iI 3)) 3 3 (iI ((s : Int) + 1))) 3 4 (iI v)) 3 1 = 3 := by rw [fd_wI_col (by omega), fd_wI_col (by omega), fd_wI_same (by omega) (by omega)]
        have y2 : fd (wI (wI (wI (wI g 3 2 (iI (s : Nat))) 3 1 (iI 3)) 3 3 (iI ((s : Int) + 1))) 3 4 (iI v)) 3 2 = (s : Int) := by rw [fd_wI_col (by omega), fd_wI_col (by omega)]; exact x2
        have rx2 := rdE x2
        have ry1 := rdE y1
        have ry2 := rdE y2
        have Kg3 : Kf QTc nL g (wI (wI (wI (wI g 3 2 (iI (s : Nat))) 3 1 (iI 3)) 3 3 (iI ((s : Int) + 1))) 3 4 (iI v)) := (((Kf.refl.wI (by unfold QTc; omega)).wI (by unfold QTc; omega)).wI (by unfold QTc; omega)).wI (by unfold QTc; omega)
        have kk : tkK b E p (decide (K = 1 ∨ K = 2)) = 3 := by
          unfold tkK
          rw [hv, if_neg c0, if_neg cl, if_neg cd]
        have ke : tE b E p = s + 1 := by unfold tE; rw [hv, if_neg c0, if_neg cl, if_neg cd, hs]
        have kv : tkV b E p = v := by unfold tkV; rw [hv, if_neg cl, if_neg cd]
        refine ⟨wI (wI (wI (wI (wI g 3 2 (iI (s : Nat))) 3 1 (iI 3)) 3 3 (iI ((s : Int) + 1))) 3 4 (iI v)) 3 1 (iI 3), ?_, ?_, Kg3.wI (by unfold QTc; omega)⟩
        · rw [U_X6_advance]
          by_cases q1 : K = 1
          · by_cases q3 : s = p
            · have sp3 : (iI (s : Nat) = iI (p : Nat)) = True := by rw [sp]; exact eq_true q3
              have q3' : (s = p) = True := eq_true q3
              simp only [iI_lit, iI_neg, iI_add, a1, a3, K1, K2, sp3, bl, mm_bI_some, r2, by', nn, ila, ida, i00, rx2, ry1, ry2, i31, i32', not_true_eq_false, not_false_eq_true, if_true, if_false, ite_true, ite_false, q1, q3']
            · have sp3 : (iI (s : Nat) = iI (p : Nat)) = False := by rw [sp]; exact eq_false q3
              have q3' : (s = p) = False := eq_false q3
              simp only [iI_lit, iI_neg, iI_add, a1, a3, K1, K2, sp3, bl, mm_bI_some, r2, by', nn, ila, ida, i00, rx2, ry1, ry2, i31, i32', not_true_eq_false, not_false_eq_true, if_true, if_false, ite_true, ite_false, q1, q3']
          · by_cases q2 : K = 2
            · by_cases q3 : s = p
              · have sp3 : (iI (s : Nat) = iI (p : Nat)) = True := by rw [sp]; exact eq_true q3
                have q3' : (s = p) = True := eq_true q3
                simp only [iI_lit, iI_neg, iI_add, a1, a3, K1, K2, sp3, bl, mm_bI_some, r2, by', nn, ila, ida, i00, rx2, ry1, ry2, i31, i32', i21, i22, not_true_eq_false, not_false_eq_true, if_true, if_false, ite_true, ite_false, q2, q3']
              · have sp3 : (iI (s : Nat) = iI (p : Nat)) = False := by rw [sp]; exact eq_false q3
                have q3' : (s = p) = False := eq_false q3
                simp only [iI_lit, iI_neg, iI_add, a1, a3, K1, K2, sp3, bl, mm_bI_some, r2, by', nn, ila, ida, i00, rx2, ry1, ry2, i31, i32', i21, i22, not_true_eq_false, not_false_eq_true, if_true, if_false, ite_true, ite_false, q2, q3']
            · simp only [iI_lit, iI_neg, iI_add, a1, a3, K1, K2, sp, bl, mm_bI_some, r2, by', nn, ila, ida, i00, rx2, ry1, ry2, i31, i32', not_true_eq_false, not_false_eq_true, if_true, if_false, ite_true, ite_false, q1, q2]
        · refine ⟨T.kf (Q := QTc) (Lq := nL) (Kg3.wI (by unfold QTc; omega)) (by unfold QTc; omega) (by intro j; unfold QTc; omega), hE, hp, ?_, ?_, ?_, fun _ => ?_⟩
          · rw [hs, fd_wI_col (by omega)]; exact y2
          · rw [kk, fd_wI_same (by omega) (by omega)]
          · rw [ke, fd_wI_col (by omega), fd_wI_col (by omega), fd_wI_same (by omega) (by omega)]
            omega
          · rw [kv, fd_wI_col (by omega), fd_wI_same (by omega) (by omega)]
end CADV
