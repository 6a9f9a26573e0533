section CRE
variable {d : Nat} {g : mm_H} {b : Nat → Int} {E p : Nat} {gl : Bool} {cc L : Nat} {w : Int} {C : List Int}
theorem CRes_zr {X : mm_X} {r : RR} (h : CRes b E cc L w g X C r) : mm_bI X (fun v h => mm_zr v h) = X := by
  cases r with
  | inl f =>
    obtain ⟨g', a1, _⟩ := h
    rw [a1]
    rfl
  | inr x =>
    obtain ⟨g', a1, _⟩ := h
    rw [a1]
    rfl
theorem valN_11 {v : Int} (h : valN w v = 11) : v = 5 := by
  unfold valN at h
  repeat' split at h
  all_goals omega
theorem valN_12 {v : Int} (h : valN w v = 12) : v = 14 := by
  unfold valN at h
  repeat' split at h
  all_goals omega
theorem iL_t {a b : Int} (h1 : -2147483648 ≤ a) (h2 : a < 2147483648) (h3 : -2147483648 ≤ b) (h4 : b < 2147483648) (h : a < b) : (iI a < iI b) = True := by
  rw [iI_lt h1 h2 h3 h4]
  exact eq_true h
theorem iL_f {a b : Int} (h1 : -2147483648 ≤ a) (h2 : a < 2147483648) (h3 : -2147483648 ≤ b) (h4 : b < 2147483648) (h : ¬ a < b) : (iI a < iI b) = False := by
  rw [iI_lt h1 h2 h3 h4]
  exact eq_false h
theorem iG_t {a b : Int} (h1 : -2147483648 ≤ a) (h2 : a < 2147483648) (h3 : -2147483648 ≤ b) (h4 : b < 2147483648) (h : a ≤ b) : (iI a ≤ iI b) = True := by
  rw [iI_le h1 h2 h3 h4]
  exact eq_true h
theorem iG_f {a b : Int} (h1 : -2147483648 ≤ a) (h2 : a < 2147483648) (h3 : -2147483648 ≤ b) (h4 : b < 2147483648) (h : ¬ a ≤ b) : (iI a ≤ iI b) = False := by
  rw [iI_le h1 h2 h3 h4]
  exact eq_false h
theorem bI_eq {X : mm_X} {v : Int32} {h : mm_H} {k : Int32 → mm_H → mm_X} (e : X = some (some (.int v), h)) : mm_bI X k = k v h := by
  rw [e]
  rfl
theorem bL_eq {X : mm_X} {v : Int64} {h : mm_H} {k : Int64 → mm_H → mm_X} (e : X = some (some (.long v), h)) : mm_bL X k = k v h := by
  rw [e]
  rfl
theorem bV_eq {X : mm_X} {h : mm_H} {k : mm_H → mm_X} (e : X = some (none, h)) : mm_bV X k = k h := by
  rw [e]
  rfl
theorem ix_1 {h : mm_H} {a k m : Nat} {n : Nat} (e : fd h a k = (n : Int) + 1) (hn : n < m) (hm : m ≤ 2000) : (h.1 a k - iI 1).toNatClampNeg = n ∧ (h.1 a k - iI 1 < iI 0) = False ∧ (m ≤ (h.1 a k - iI 1).toNatClampNeg) = False := by
  have r := rdE e
  rw [r, iI_sub, show (n : Int) + 1 - 1 = (n : Int) by omega, iI_nat (by omega) (by omega), iL_f (by omega) (by omega) (by omega) (by omega) (by omega)]
  exact ⟨by omega, rfl, eq_false (by omega)⟩
set_option maxHeartbeats 8000000 in
theorem C_pair {n o : Nat} (h1 : Cl1 b E cc L w n) (hE : E ≤ 1600) (X : CX g b E p gl cc L w C) (hp : p ≤ E) (hL : L + C.length ≤ p) (ho : o ≤ 6) (hn : 4 * (E - p) + 1 ≤ n + 1) (hD : 3 * (6 - o) ≤ d) (cw : wno b E p gl ≠ -2) {v : Int} (hv : v = 5 ∨ v = 6) : CRes b E cc L w g (mm_M mm_T0 (d + 7) 57 [.ref 11, .int (iI (o : Nat)), .int (iI (tc v))] g) C (fSign b E 40 (tL b E (tS b E p)) (if o < 6 then fThen (rd b E w n 1 (o + 1) (tS b E (tL b E (tS b E p)) + 1) false 0 []) (fun q _ c1 => fSign b E 44 q (fThen (rd b E w n 1 (o + 1) (tS b E q + 1) false 0 []) (fun r _ c2 => fSign b E 41 r (.inr (tS b E r + 1, false, c1 ++ c2 ++ [v]))))) else .inl (4, (tS b E (tL b E (tS b E p)) : Int)))) := by
  have ge := tS_ge (b := b) (E := E) (p := p)
  have l := tL_in (wno_w cw).1
  obtain ⟨g1, a1, S1, k1⟩ := C_advW (d := d + 1) X.1 cw
  have X1 := X.tok S1 k1
  have tb := tc_b (v := v) (by omega) (by omega)
  generalize tL b E (tS b E p) = r at *
  have ge1 := tS_ge (b := b) (E := E) (p := r)
  have kP := C_isSign (d := d + 5) (x := 40) X1.1 (by omega) (by omega) (by omega)
  unfold fSign
  by_cases c1 : tB b E r = 40
  · rw [if_pos c1]
    rw [b2_t c1] at kP
    have lt1 := tB_in c1 (by decide)
    by_cases o6 : o < 6
    · rw [if_pos o6]
      have mo := (C_mayOpen (d := d + 3) X1.1 ho).1 o6
      obtain ⟨g2, a2, S2, k2⟩ := C_advS (d := d + 1) (x := 40) X1.1 c1 (by omega) (by omega) (by omega)
      have X2 := X1.tok S2 k2
      have e1 : ((o : Nat) : Int) + 1 = ((o + 1 : Nat) : Int) := by omega
      have ih := h1 (o + 1) (tS b E r + 1) false (d + 6) g2 C 0 [] (by omega) (by omega) (by omega) (by omega) X2 (by omega)
      have ok := (Ok_all (b := b) (w := w) hE n).2.1 (o + 1) (tS b E r + 1) false 0 [] (by omega) (by omega)
      revert ih ok
      cases rd b E w n 1 (o + 1) (tS b E r + 1) false 0 [] with
      | inl f =>
        intro ih ok
        obtain ⟨g3, b1, b2', b3, b4, b5⟩ := ih
        refine ⟨g3, ?_, b2', b3, b4, (kTF k1).trans ((kTF k2).trans b5)⟩
        rw [U_X2_readPair]
        simp only [iI_lit, iI_neg, iI_add, mm_bI_some, mm_bV_some, mm_bL_some, mm_bA_some, ↓reduceIte, i10, i00, i11, eq_self, not_true_eq_false, not_false_eq_true, ite_true, ite_false, if_true, if_false, and_true, true_and, and_false, false_and, and_self, or_self, or_false, false_or, or_true, true_or, a1, kP, mo, a2, e1, b1]
      | inr y =>
        intro ih ok
        obtain ⟨g3, b1, X3, k3⟩ := ih
        have o1 : tS b E r + 1 + 1 ≤ y.1 := ok.1
        have o2 : y.1 ≤ E := ok.2.1
        have o3 : y.2.2.length + (tS b E r + 1) ≤ 0 + y.1 := ok.2.2
        have ge2 := tS_ge (b := b) (E := E) (p := y.1)
        have ts := C_takeSign (d := d) (x := 44) X3.1 (by omega) (by omega) (by omega)
        show CRes b E cc L w g _ C (if tB b E y.1 = 44 then _ else _)
        by_cases c2 : tB b E y.1 = 44
        · rw [if_pos c2]
          obtain ⟨g4, d1, S4, k4⟩ := ts.1 c2
          have X4 := X3.tok S4 k4
          have lt2 := tB_in c2 (by decide)
          have le4 : L + (C ++ y.2.2).length ≤ tS b E y.1 + 1 := by
            rw [List.length_append]
            omega
          have ih2 := h1 (o + 1) (tS b E y.1 + 1) false (d + 6) g4 (C ++ y.2.2) 0 [] (by omega) (by omega) (by omega) (by omega) X4 le4
          have ok2 := (Ok_all (b := b) (w := w) hE n).2.1 (o + 1) (tS b E y.1 + 1) false 0 [] (by omega) (by omega)
          revert ih2 ok2
          cases rd b E w n 1 (o + 1) (tS b E y.1 + 1) false 0 [] with
          | inl f =>
            intro ih2 ok2
            obtain ⟨g5, f1, f2, f3, f4, f5⟩ := ih2
            refine ⟨g5, ?_, f2, f3, f4, (kTF k1).trans ((kTF k2).trans (k3.trans ((kTF k4).trans f5)))⟩
            rw [U_X2_readPair]
            simp only [iI_lit, iI_neg, iI_add, mm_bI_some, mm_bV_some, mm_bL_some, mm_bA_some, ↓reduceIte, i10, i00, i11, eq_self, not_true_eq_false, not_false_eq_true, ite_true, ite_false, if_true, if_false, and_true, true_and, and_false, false_and, and_self, or_self, or_false, false_or, or_true, true_or, a1, kP, mo, a2, e1, b1, d1, f1]
          | inr z =>
            intro ih2 ok2
            obtain ⟨g5, f1, X5, k5⟩ := ih2
            have q1 : tS b E y.1 + 1 + 1 ≤ z.1 := ok2.1
            have q2 : z.1 ≤ E := ok2.2.1
            have q3 : z.2.2.length + (tS b E y.1 + 1) ≤ 0 + z.1 := ok2.2.2
            have ge3 := tS_ge (b := b) (E := E) (p := z.1)
            have sh := X5.sh
            have rf := X5.2.1.2.1
            obtain ⟨g6, i1, i2, i3⟩ := C_addc (d := d + 5) (v := v) X5.2.1.2.2 X5.2.2 (by rw [List.length_append, List.length_append]; omega) (by omega) (by omega)
            have X6 := X5.cod i2 i3
            have ts2 := C_takeSign (d := d) (x := 41) X6.1 (by omega) (by omega) (by omega)
            show CRes b E cc L w g _ C (if tB b E z.1 = 41 then _ else _)
            by_cases c3 : tB b E z.1 = 41
            · rw [if_pos c3]
              obtain ⟨g7, j1, S7, k7⟩ := ts2.1 c3
              have X7 := X6.tok S7 k7
              rw [List.append_assoc, List.append_assoc] at X7
              refine ⟨g7, ?_, by rw [List.append_assoc]; exact X7, (kTF k1).trans ((kTF k2).trans (k3.trans ((kTF k4).trans (k5.trans ((kAF i3).trans (kTF k7))))))⟩
              rw [U_X2_readPair]
              simp only [iI_lit, iI_neg, iI_add, mm_bI_some, mm_bV_some, mm_bL_some, mm_bA_some, ↓reduceIte, i10, i00, i11, eq_self, not_true_eq_false, not_false_eq_true, ite_true, ite_false, if_true, if_false, and_true, true_and, and_false, false_and, and_self, or_self, or_false, false_or, or_true, true_or, a1, kP, mo, a2, e1, b1, d1, f1, rf, sh, i1, j1, zr_1]
            · rw [if_neg c3]
              have j1 := ts2.2 c3
              have bd := X6.badT (k := 1) q2 (by omega) (by omega)
              refine ⟨_, ?_, bd.1, bd.2.1, bd.2.2.1, (kTF k1).trans ((kTF k2).trans (k3.trans ((kTF k4).trans (k5.trans ((kAF i3).trans bd.2.2.2)))))⟩
              rw [U_X2_readPair]
              simp only [iI_lit, iI_neg, iI_add, mm_bI_some, mm_bV_some, mm_bL_some, mm_bA_some, ↓reduceIte, i10, i00, i11, eq_self, not_true_eq_false, not_false_eq_true, ite_true, ite_false, if_true, if_false, and_true, true_and, and_false, false_and, and_self, or_self, or_false, false_or, or_true, true_or, a1, kP, mo, a2, e1, b1, d1, f1, rf, sh, i1, j1, zr_0]
        · rw [if_neg c2]
          have d1 := ts.2 c2
          have bd := X3.badT (k := 1) o2 (by omega) (by omega)
          refine ⟨_, ?_, bd.1, bd.2.1, bd.2.2.1, (kTF k1).trans ((kTF k2).trans (k3.trans bd.2.2.2))⟩
          rw [U_X2_readPair]
          simp only [iI_lit, iI_neg, iI_add, mm_bI_some, mm_bV_some, mm_bL_some, mm_bA_some, ↓reduceIte, i10, i00, i11, eq_self, not_true_eq_false, not_false_eq_true, ite_true, ite_false, if_true, if_false, and_true, true_and, and_false, false_and, and_self, or_self, or_false, false_or, or_true, true_or, a1, kP, mo, a2, e1, b1, d1]
    · rw [if_neg o6]
      have mo := (C_mayOpen (d := d + 3) X1.1 ho).2 o6
      have bd := X1.badT (k := 4) l.2 (by omega) (by omega)
      refine ⟨_, ?_, bd.1, bd.2.1, bd.2.2.1, (kTF k1).trans bd.2.2.2⟩
      rw [U_X2_readPair]
      simp only [iI_lit, iI_neg, iI_add, mm_bI_some, mm_bV_some, mm_bL_some, mm_bA_some, ↓reduceIte, i10, i00, i11, eq_self, not_true_eq_false, not_false_eq_true, ite_true, ite_false, if_true, if_false, and_true, true_and, and_false, false_and, and_self, or_self, or_false, false_or, or_true, true_or, a1, kP, mo]
  · rw [if_neg c1]
    rw [b2_f c1] at kP
    have u := C_unexp (d := d + 4) X1.1
    have bd := X1.badT (k := 1) l.2 (by omega) (by omega)
    refine ⟨_, ?_, bd.1, bd.2.1, bd.2.2.1, (kTF k1).trans bd.2.2.2⟩
    rw [U_X2_readPair]
    simp only [iI_lit, iI_neg, iI_add, mm_bI_some, mm_bV_some, mm_bL_some, mm_bA_some, ↓reduceIte, i10, i00, i11, eq_self, not_true_eq_false, not_false_eq_true, ite_true, ite_false, if_true, if_false, and_true, true_and, and_false, false_and, and_self, or_self, or_false, false_or, or_true, true_or, a1, kP, u, zr_0]
set_option maxHeartbeats 8000000 in
theorem C_ofp {n o : Nat} (h0 : Cl0 b E cc L w n) (hE : E ≤ 1600) (X : CX g b E p gl cc L w C) (hp : p ≤ E) (hL : L + C.length ≤ p) (ho : o ≤ 6) (hn : 4 * (E - p) + 1 ≤ n + 1) (hD : 3 * (6 - o) ≤ d) (cw : wno b E p gl ≠ -2) {v : Int} (hv : v = 60 ∨ v = 61) : CRes b E cc L w g (mm_M mm_T0 (d + 7) 58 [.ref 11, .int (iI (o : Nat)), .int (iI (tc v))] g) C (if o < 6 then fThen (rd b E w n 0 (o + 1) (tL b E (tS b E p)) true 0 []) (fun q g2 c => .inr (q, g2, c ++ [v])) else .inl (4, (tS b E p : Int))) := by
  have ge := tS_ge (b := b) (E := E) (p := p)
  have l := tL_in (wno_w cw).1
  have tb := tc_b (v := v) (by omega) (by omega)
  by_cases o6 : o < 6
  · rw [if_pos o6]
    have mo := (C_mayOpen (d := d + 3) X.1 ho).1 o6
    obtain ⟨g1, a1, S1, k1⟩ := C_advW (d := d + 1) X.1 cw
    have X1 := X.tok S1 k1
    have e1 : ((o : Nat) : Int) + 1 = ((o + 1 : Nat) : Int) := by omega
    have ih := h0 (o + 1) (tL b E (tS b E p)) true (d + 6) g1 C 0 [] (by omega) (by omega) (by omega) (by omega) X1 (by omega)
    have ok := (Ok_all (b := b) (w := w) hE n).1 (o + 1) (tL b E (tS b E p)) true 0 [] (by omega) (by omega)
    revert ih ok
    cases rd b E w n 0 (o + 1) (tL b E (tS b E p)) true 0 [] with
    | inl f =>
      intro ih ok
      obtain ⟨g2, b1, b2', b3, b4, b5⟩ := ih
      have hc := X.2.1.2.2
      have rf : g2.2.2 11 1 = cc := by rw [b5.2.2]; exact X1.2.1.2.1
      have sh := X.sh
      obtain ⟨g3, i1, i2, i3, i4, i5⟩ := C_addF (d := d + 5) (x := iI (tc v)) hc b4 b2' b3 b5
      refine ⟨g3, ?_, i2, i3, i4, (kTF k1).trans i5⟩
      rw [U_X2_readOfPerson]
      simp only [iI_lit, iI_neg, iI_add, mm_bI_some, mm_bV_some, mm_bL_some, mm_bA_some, ↓reduceIte, i10, i00, i11, eq_self, not_true_eq_false, not_false_eq_true, ite_true, ite_false, if_true, if_false, and_true, true_and, and_false, false_and, and_self, or_self, or_false, false_or, or_true, true_or, mo, a1, e1, b1, rf, sh, i1, zr_0]
    | inr y =>
      intro ih ok
      obtain ⟨g2, b1, X2, k2⟩ := ih
      have o1 : tL b E (tS b E p) + 1 ≤ y.1 := ok.1
      have o2 : y.1 ≤ E := ok.2.1
      have o3 : y.2.2.length + tL b E (tS b E p) ≤ 0 + y.1 := ok.2.2
      have rf := X2.2.1.2.1
      have sh := X2.sh
      obtain ⟨g3, i1, i2, i3⟩ := C_addc (d := d + 5) (v := v) X2.2.1.2.2 X2.2.2 (by rw [List.length_append]; omega) (by omega) (by omega)
      have X3 := X2.cod i2 i3
      rw [List.append_assoc] at X3
      refine ⟨g3, ?_, X3, (kTF k1).trans (k2.trans (kAF i3))⟩
      rw [U_X2_readOfPerson]
      simp only [iI_lit, iI_neg, iI_add, mm_bI_some, mm_bV_some, mm_bL_some, mm_bA_some, ↓reduceIte, i10, i00, i11, eq_self, not_true_eq_false, not_false_eq_true, ite_true, ite_false, if_true, if_false, and_true, true_and, and_false, false_and, and_self, or_self, or_false, false_or, or_true, true_or, mo, a1, e1, b1, rf, sh, i1, zr_1]
  · rw [if_neg o6]
    have mo := (C_mayOpen (d := d + 3) X.1 ho).2 o6
    have bd := X.badT (k := 4) hp (by omega) (by omega)
    refine ⟨_, ?_, bd.1, bd.2.1, bd.2.2.1, bd.2.2.2⟩
    rw [U_X2_readOfPerson]
    simp only [iI_lit, iI_neg, iI_add, mm_bI_some, mm_bV_some, mm_bL_some, mm_bA_some, ↓reduceIte, i10, i00, i11, eq_self, not_true_eq_false, not_false_eq_true, ite_true, ite_false, if_true, if_false, and_true, true_and, and_false, false_and, and_self, or_self, or_false, false_or, or_true, true_or, mo]
set_option maxHeartbeats 8000000 in
theorem C_cl0 {n : Nat} (hE : E ≤ 1600) (w0 : 0 ≤ w) (w3 : w ≤ 3) (h0 : Cl0 b E cc L w n) (h1 : Cl1 b E cc L w n) : Cl0 b E cc L w (n + 1) := by
  intro o p gl D g C wt c hp ho hn hD X hL
  obtain ⟨D, rfl⟩ : ∃ D', D = D' + 8 := ⟨D - 8, by omega⟩
  have hc := X.2.1.2.2
  have sh := X.sh
  have rf := X.2.1.2.1
  have e2 := X.2.1.1
  have kN := C_isAnyNumber (d := D + 6) X.1
  have kP := C_isSign (d := D + 6) (x := 40) X.1 (by omega) (by omega) (by omega)
  have kW := C_isAnyWord (d := D + 6) X.1
  have wb := wno_b (b := b) (E := E) (p := p) (gl := gl)
  have ge := tS_ge (b := b) (E := E) (p := p)
  have le := tS_le (b := b) (E := E) hp
  rw [rd_0]
  unfold fPart
  by_cases c1 : isDg (tB b E p) = true ∧ tG b E p gl = false
  · rw [if_pos c1]
    rw [b2_t c1] at kN
    have cn := C_number (d := D + 1) X hL
    by_cases c2 : (numT b E 0 9999 p gl).1 = 0
    · rw [if_pos c2]
      obtain ⟨g', m1, m2, m3⟩ := cn.1 c2
      refine ⟨g', ?_, m2, m3⟩
      rw [U_X2_readPart]
      simp only [iI_lit, iI_neg, iI_add, mm_bI_some, mm_bV_some, mm_bL_some, mm_bA_some, ↓reduceIte, i10, i00, i11, eq_self, not_true_eq_false, not_false_eq_true, ite_true, ite_false, if_true, if_false, and_true, true_and, and_false, false_and, and_self, or_self, or_false, false_or, or_true, true_or, kN, m1, zr_1]
    · rw [if_neg c2]
      have nb := numT_b (b := b) (E := E) (p := p) (gl := gl) (lo := 0) (hi := 9999) hE hp
      have m1 := cn.2 c2
      have bd := X.bad (k := (numT b E 0 9999 p gl).1) (pl := (numT b E 0 9999 p gl).2.1) (by omega) (by omega) (by omega) (by omega)
      refine ⟨_, ?_, bd.1, bd.2.1, bd.2.2.1, bd.2.2.2⟩
      rw [U_X2_readPart]
      simp only [iI_lit, iI_neg, iI_add, mm_bI_some, mm_bV_some, mm_bL_some, mm_bA_some, ↓reduceIte, i10, i00, i11, eq_self, not_true_eq_false, not_false_eq_true, ite_true, ite_false, if_true, if_false, and_true, true_and, and_false, false_and, and_self, or_self, or_false, false_or, or_true, true_or, kN, m1, zr_0]
  · rw [if_neg c1]
    rw [b2_f c1] at kN
    by_cases c2 : tB b E p = 40
    · rw [if_pos c2]
      rw [b2_t c2] at kP
      have lt := tB_in c2 (by decide)
      by_cases o6 : o < 6
      · rw [if_pos o6]
        have mo := (C_mayOpen (d := D + 3) X.1 ho).1 o6
        obtain ⟨g1, a1, S1, k1⟩ := C_advS (d := D + 1) (x := 40) X.1 c2 (by omega) (by omega) (by omega)
        have X1 := X.tok S1 k1
        have e1 : ((o : Nat) : Int) + 1 = ((o + 1 : Nat) : Int) := by omega
        have inn := C_inner (d := D) (o := o) (x := 41) h1 hE X1 (by omega) (by omega) o6 (by omega) (by omega) (by omega) (by omega) (by omega)
        cases hr : fThen (rd b E w n 1 (o + 1) (tS b E p + 1) false 0 []) (fun q _ c => fSign b E 41 q (.inr (tS b E q + 1, false, c))) with
        | inl f =>
          obtain ⟨g', m, b1, b2', b3, b4⟩ := inn.1 f hr
          have is : mm_M mm_T0 (D + 7) 56 [.ref 11, .int (iI (o : Nat))] g = some (some (.int (iI 0)), g') := by
            rw [U_X2_readInnerSum]
            rcases m with m | ⟨g2, m, m'⟩
            · simp only [iI_lit, iI_neg, iI_add, mm_bI_some, mm_bV_some, mm_bL_some, mm_bA_some, ↓reduceIte, i10, i00, i11, eq_self, not_true_eq_false, not_false_eq_true, ite_true, ite_false, if_true, if_false, and_true, true_and, and_false, false_and, and_self, or_self, or_false, false_or, or_true, true_or, mo, a1, e1, m]
            · simp only [iI_lit, iI_neg, iI_add, mm_bI_some, mm_bV_some, mm_bL_some, mm_bA_some, ↓reduceIte, i10, i00, i11, eq_self, not_true_eq_false, not_false_eq_true, ite_true, ite_false, if_true, if_false, and_true, true_and, and_false, false_and, and_self, or_self, or_false, false_or, or_true, true_or, mo, a1, e1, m, m']
          refine ⟨g', ?_, b1, b2', b3, (kTF k1).trans b4⟩
          rw [U_X2_readPart]
          simp only [iI_lit, iI_neg, iI_add, mm_bI_some, mm_bV_some, mm_bL_some, mm_bA_some, ↓reduceIte, i10, i00, i11, eq_self, not_true_eq_false, not_false_eq_true, ite_true, ite_false, if_true, if_false, and_true, true_and, and_false, false_and, and_self, or_self, or_false, false_or, or_true, true_or, kN, kP, is, zr_0]
        | inr z =>
          obtain ⟨g2, g', m, m', b1, b2', b3, b4, b5, b6⟩ := inn.2 z hr
          have is : mm_M mm_T0 (D + 7) 56 [.ref 11, .int (iI (o : Nat))] g = some (some (.int (iI 1)), g') := by
            rw [U_X2_readInnerSum]
            simp only [iI_lit, iI_neg, iI_add, mm_bI_some, mm_bV_some, mm_bL_some, mm_bA_some, ↓reduceIte, i10, i00, i11, eq_self, not_true_eq_false, not_false_eq_true, ite_true, ite_false, if_true, if_false, and_true, true_and, and_false, false_and, and_self, or_self, or_false, false_or, or_true, true_or, mo, a1, e1, m, m']
          refine ⟨g', ?_, b1, (kTF k1).trans b6⟩
          rw [U_X2_readPart]
          simp only [iI_lit, iI_neg, iI_add, mm_bI_some, mm_bV_some, mm_bL_some, mm_bA_some, ↓reduceIte, i10, i00, i11, eq_self, not_true_eq_false, not_false_eq_true, ite_true, ite_false, if_true, if_false, and_true, true_and, and_false, false_and, and_self, or_self, or_false, false_or, or_true, true_or, kN, kP, is, zr_1]
      · rw [if_neg o6]
        have mo := (C_mayOpen (d := D + 3) X.1 ho).2 o6
        have bd := X.badT (k := 4) hp (by omega) (by omega)
        have is : mm_M mm_T0 (D + 7) 56 [.ref 11, .int (iI (o : Nat))] g = some (some (.int (iI 0)), bdH g 4 (tS b E p)) := by
          rw [U_X2_readInnerSum]
          simp only [iI_lit, iI_neg, iI_add, mm_bI_some, mm_bV_some, mm_bL_some, mm_bA_some, ↓reduceIte, i10, i00, i11, eq_self, not_true_eq_false, not_false_eq_true, ite_true, ite_false, if_true, if_false, and_true, true_and, and_false, false_and, and_self, or_self, or_false, false_or, or_true, true_or, mo]
        refine ⟨_, ?_, bd.1, bd.2.1, bd.2.2.1, bd.2.2.2⟩
        rw [U_X2_readPart]
        simp only [iI_lit, iI_neg, iI_add, mm_bI_some, mm_bV_some, mm_bL_some, mm_bA_some, ↓reduceIte, i10, i00, i11, eq_self, not_true_eq_false, not_false_eq_true, ite_true, ite_false, if_true, if_false, and_true, true_and, and_false, false_and, and_self, or_self, or_false, false_or, or_true, true_or, kN, kP, is, zr_0]
    · rw [if_neg c2]
      rw [b2_f c2] at kP
      by_cases cw : wno b E p gl = -2
      · have v1 : valN w (wno b E p gl) = -1 := by
          by_cases z : valN w (wno b E p gl) = -1
          · exact z
          · have := valN_no z
            omega
        rw [if_neg (by omega), if_neg (by omega), if_neg (by omega)]
        rw [b2_f (fun z => z cw)] at kW
        have u := C_unexp (d := D + 5) X.1
        have bd := X.badT (k := 1) hp (by omega) (by omega)
        refine ⟨_, ?_, bd.1, bd.2.1, bd.2.2.1, bd.2.2.2⟩
        rw [U_X2_readPart]
        simp only [iI_lit, iI_neg, iI_add, mm_bI_some, mm_bV_some, mm_bL_some, mm_bA_some, ↓reduceIte, i10, i00, i11, eq_self, not_true_eq_false, not_false_eq_true, ite_true, ite_false, if_true, if_false, and_true, true_and, and_false, false_and, and_self, or_self, or_false, false_or, or_true, true_or, kN, kP, kW, u, zr_0]
      · rw [b2_t cw] at kW
        have ww := wno_w cw
        have ne : tB b E p ≠ -1 := by have := isLt_iff.mp ww.1; omega
        have e4 : fd g 3 4 = wno b E p gl := (X.1.2.2.2.2.2.2.1 ne).trans (wno_v ww).symm
        have r4 := rdE e4
        have r2 := rdE e2
        have nq : ∀ k : Int, 0 ≤ k → k < 100 → wno b E p gl ≠ k → (iI (wno b E p gl) = iI k) = False := fun k a1 a2 a3 => iI_ne (by omega) (by omega) (by omega) (by omega) a3
        have sq : ∀ k : Int, wno b E p gl = k → (iI (wno b E p gl) = iI k) = True := fun k a => iI_sm a
        have kv := C_value (d := D + 6) (v := wno b E p gl) e2 w0 w3 (by omega) (by omega)
        by_cases c3 : 0 ≤ valN w (wno b E p gl) ∧ valN w (wno b E p gl) ≤ 10 ∧ okW w (valN w (wno b E p gl)) = true
        · rw [if_pos c3]
          rw [b2_t c3] at kv
          obtain ⟨g1, a1, a2, a3⟩ := C_addc (d := D + 6) (v := 40 + valN w (wno b E p gl)) hc X.2.2 (by omega) (by omega) (by omega)
          rw [tc_val c3.1 c3.2.1, wd_val c3.1 c3.2.1] at a1
          have X1 := X.cod a2 a3
          obtain ⟨g2, m1, m2, m3⟩ := C_advW (d := D + 2) X1.1 cw
          refine ⟨g2, ?_, X1.tok m2 m3, (kAF a3).trans (kTF m3)⟩
          rw [U_X2_readPart]
          simp only [iI_lit, iI_neg, iI_add, mm_bI_some, mm_bV_some, mm_bL_some, mm_bA_some, ↓reduceIte, i10, i00, i11, eq_self, not_true_eq_false, not_false_eq_true, ite_true, ite_false, if_true, if_false, and_true, true_and, and_false, false_and, and_self, or_self, or_false, false_or, or_true, true_or, kN, kP, kW, r4, kv, rf, sh, a1, m1]
        · rw [if_neg c3]
          rw [b2_f c3] at kv
          by_cases c4 : wno b E p gl = 23 ∨ wno b E p gl = 24
          · rw [if_pos c4]
            by_cases c5 : wno b E p gl = 23
            · have pr := C_pair (d := D) (v := 5) h1 hE X hp hL ho hn (by omega) cw (Or.inl rfl)
              rw [show tc 5 = 11007 from rfl] at pr
              rw [if_pos c5]
              have st : mm_M mm_T0 (D + 8) 54 [.ref 11, .int (iI (o : Nat))] g = mm_bI (mm_M mm_T0 (D + 7) 57 [.ref 11, .int (iI (o : Nat)), .int (iI 11007)] g) (fun v h => mm_zr v h) := by
                rw [U_X2_readPart]
                simp only [iI_lit, iI_neg, iI_add, mm_bI_some, mm_bV_some, mm_bL_some, mm_bA_some, ↓reduceIte, i10, i00, i11, eq_self, not_true_eq_false, not_false_eq_true, ite_true, ite_false, if_true, if_false, and_true, true_and, and_false, false_and, and_self, or_self, or_false, false_or, or_true, true_or, kN, kP, kW, r4, kv, sq 23 c5]
              rw [st, CRes_zr pr]
              exact pr
            · have c6 : wno b E p gl = 24 := by omega
              have pr := C_pair (d := D) (v := 6) h1 hE X hp hL ho hn (by omega) cw (Or.inr rfl)
              rw [show tc 6 = 11008 from rfl] at pr
              rw [if_neg c5]
              have st : mm_M mm_T0 (D + 8) 54 [.ref 11, .int (iI (o : Nat))] g = mm_bI (mm_M mm_T0 (D + 7) 57 [.ref 11, .int (iI (o : Nat)), .int (iI 11008)] g) (fun v h => mm_zr v h) := by
                rw [U_X2_readPart]
                simp only [iI_lit, iI_neg, iI_add, mm_bI_some, mm_bV_some, mm_bL_some, mm_bA_some, ↓reduceIte, i10, i00, i11, eq_self, not_true_eq_false, not_false_eq_true, ite_true, ite_false, if_true, if_false, and_true, true_and, and_false, false_and, and_self, or_self, or_false, false_or, or_true, true_or, kN, kP, kW, r4, kv, nq 23 (by omega) (by omega) c5, sq 24 c6]
              rw [st, CRes_zr pr]
              exact pr
          · rw [if_neg c4]
            by_cases c5 : valN w (wno b E p gl) = 11 ∨ valN w (wno b E p gl) = 12
            · rw [if_pos c5]
              have w3' : w = 3 := by have := valN_of c5; omega
              by_cases c6 : valN w (wno b E p gl) = 11
              · have w5 := valN_11 c6
                have pr := C_ofp (d := D) (v := 60) h0 hE X hp hL ho hn (by omega) cw (Or.inl rfl)
                rw [show tc 60 = 11012 from rfl] at pr
                rw [c6]
                have st : mm_M mm_T0 (D + 8) 54 [.ref 11, .int (iI (o : Nat))] g = mm_bI (mm_M mm_T0 (D + 7) 58 [.ref 11, .int (iI (o : Nat)), .int (iI 11012)] g) (fun v h => mm_zr v h) := by
                  rw [U_X2_readPart]
                  simp only [iI_lit, iI_neg, iI_add, mm_bI_some, mm_bV_some, mm_bL_some, mm_bA_some, ↓reduceIte, i10, i00, i11, eq_self, not_true_eq_false, not_false_eq_true, ite_true, ite_false, if_true, if_false, and_true, true_and, and_false, false_and, and_self, or_self, or_false, false_or, or_true, true_or, kN, kP, kW, r4, kv, nq 23 (by omega) (by omega) (by omega), nq 24 (by omega) (by omega) (by omega), sq 5 w5, r2, iI_sm w3']
                rw [st, CRes_zr pr]
                exact pr
              · have c7 : valN w (wno b E p gl) = 12 := by omega
                have w5 := valN_12 c7
                have pr := C_ofp (d := D) (v := 61) h0 hE X hp hL ho hn (by omega) cw (Or.inr rfl)
                rw [show tc 61 = 11013 from rfl] at pr
                rw [c7]
                have st : mm_M mm_T0 (D + 8) 54 [.ref 11, .int (iI (o : Nat))] g = mm_bI (mm_M mm_T0 (D + 7) 58 [.ref 11, .int (iI (o : Nat)), .int (iI 11013)] g) (fun v h => mm_zr v h) := by
                  rw [U_X2_readPart]
                  simp only [iI_lit, iI_neg, iI_add, mm_bI_some, mm_bV_some, mm_bL_some, mm_bA_some, ↓reduceIte, i10, i00, i11, eq_self, not_true_eq_false, not_false_eq_true, ite_true, ite_false, if_true, if_false, and_true, true_and, and_false, false_and, and_self, or_self, or_false, false_or, or_true, true_or, kN, kP, kW, r4, kv, nq 23 (by omega) (by omega) (by omega), nq 24 (by omega) (by omega) (by omega), nq 5 (by omega) (by omega) (by omega), sq 14 w5, r2, iI_sm w3']
                rw [st, CRes_zr pr]
                exact pr
            · rw [if_neg c5]
              have u := C_unexp (d := D + 5) X.1
              have bd := X.badT (k := 1) hp (by omega) (by omega)
              refine ⟨_, ?_, bd.1, bd.2.1, bd.2.2.1, bd.2.2.2⟩
              rw [U_X2_readPart]
              by_cases w4 : w = 3
              · have n5 : ¬ wno b E p gl = 5 := fun z => c5 (by rw [z, w4]; decide)
                have n14 : ¬ wno b E p gl = 14 := fun z => c5 (by rw [z, w4]; decide)
                simp only [iI_lit, iI_neg, iI_add, mm_bI_some, mm_bV_some, mm_bL_some, mm_bA_some, ↓reduceIte, i10, i00, i11, eq_self, not_true_eq_false, not_false_eq_true, ite_true, ite_false, if_true, if_false, and_true, true_and, and_false, false_and, and_self, or_self, or_false, false_or, or_true, true_or, kN, kP, kW, r4, kv, nq 23 (by omega) (by omega) (by omega), nq 24 (by omega) (by omega) (by omega), nq 5 (by omega) (by omega) n5, nq 14 (by omega) (by omega) n14, r2, iI_sm w4, u, zr_0]
              · simp only [iI_lit, iI_neg, iI_add, mm_bI_some, mm_bV_some, mm_bL_some, mm_bA_some, ↓reduceIte, i10, i00, i11, eq_self, not_true_eq_false, not_false_eq_true, ite_true, ite_false, if_true, if_false, and_true, true_and, and_false, false_and, and_self, or_self, or_false, false_or, or_true, true_or, kN, kP, kW, r4, kv, nq 23 (by omega) (by omega) (by omega), nq 24 (by omega) (by omega) (by omega), r2, iI_ne (by omega) (by omega) (by omega) (by omega) w4, u, zr_0]
end CRE
