/-! the class's rules: its methods make just what reading downward makes -/
def CX (g : mm_H) (b : Nat → Int) (E p : Nat) (gl : Bool) (cc L : Nat) (w : Int) (C : List Int) : Prop := CS g b E p gl ∧ (fd g 11 2 = w ∧ g.2.2 11 1 = cc ∧ mm_isC cc) ∧ CQ g cc L C
def CRes (b : Nat → Int) (E cc L : Nat) (w : Int) (g : mm_H) (X : mm_X) (C : List Int) (r : RR) : Prop := match r with
  | .inl f => ∃ g', X = some (some (.int (iI 0)), g') ∧ fd g' 3 5 = f.1 ∧ fd g' 3 6 = f.2 ∧ 0 ≤ fd g' cc 5 ∧ Kf (QF cc) nL g g'
  | .inr x => ∃ g', X = some (some (.int (iI 1)), g') ∧ CX g' b E x.1 x.2.1 cc L w (C ++ x.2.2) ∧ Kf (QF cc) nL g g'
section CRD
variable {d : Nat} {g : mm_H} {b : Nat → Int} {E p : Nat} {gl : Bool} {cc L : Nat} {w : Int} {C : List Int}
theorem CX.tok {g' : mm_H} {q : Nat} {g2 : Bool} (X : CX g b E p gl cc L w C) (S : CS g' b E q g2) (k : Kf QTc nL g g') : CX g' b E q g2 cc L w C := by
  have hc := isC_or X.2.1.2.2
  exact ⟨S, ⟨(k.1 11 2 (by unfold QTc; omega)).trans X.2.1.1, by rw [k.2.2]; exact X.2.1.2.1, X.2.1.2.2⟩, X.2.2.kf k (by unfold QTc; omega) (by intro j; unfold QTc; omega)⟩
theorem CX.cod {g' : mm_H} {C' : List Int} (X : CX g b E p gl cc L w C) (K : CQ g' cc L C') (k : Kf (QAd cc) nL g g') : CX g' b E p gl cc L w C' := by
  have hc := isC_or X.2.1.2.2
  exact ⟨X.1.kf k (by unfold QAd; omega) (by intro j; unfold QAd; omega) (by intro j; unfold QAd; omega), ⟨(k.1 11 2 (by unfold QAd; omega)).trans X.2.1.1, by rw [k.2.2]; exact X.2.1.2.1, X.2.1.2.2⟩, K⟩
theorem kTF {g' : mm_H} (k : Kf QTc nL g g') : Kf (QF cc) nL g g' := k.monoQ (fun a j q => by unfold QTc at q; unfold QF; omega)
theorem kAF {g' : mm_H} (k : Kf (QAd cc) nL g g') : Kf (QF cc) nL g g' := k.monoQ (fun a j q => by unfold QAd at q; unfold QF; omega)
theorem CX.len0 (X : CX g b E p gl cc L w C) : 0 ≤ fd g cc 5 := by
  rw [X.2.2.1]
  omega
theorem CX.bad {k pl : Int} (X : CX g b E p gl cc L w C) (k1 : -2147483648 ≤ k) (k2 : k < 2147483648) (p1 : -2147483648 ≤ pl) (p2 : pl < 2147483648) : fd (bdH g k pl) 3 5 = k ∧ fd (bdH g k pl) 3 6 = pl ∧ 0 ≤ fd (bdH g k pl) cc 5 ∧ Kf (QF cc) nL g (bdH g k pl) := by
  have hc := isC_or X.2.1.2.2
  refine ⟨bdH_5 k1 k2, bdH_6 p1 p2, ?_, (bdH_k (g := g) (k := k) (pl := pl)).monoQ (fun a j q => by unfold QF; omega)⟩
  rw [(bdH_k (g := g) (k := k) (pl := pl)).1 cc 5 (by omega)]
  exact X.len0
/-- a fault at a token's start -/
theorem CX.badT {k : Int} {q : Nat} (X : CX g b E p gl cc L w C) (hq : q ≤ E) (k1 : 0 ≤ k) (k2 : k < 10) : fd (bdH g k (tS b E q)) 3 5 = k ∧ fd (bdH g k (tS b E q)) 3 6 = (tS b E q : Int) ∧ 0 ≤ fd (bdH g k (tS b E q)) cc 5 ∧ Kf (QF cc) nL g (bdH g k (tS b E q)) := by
  have le := tS_le (b := b) (E := E) hq
  have hE := X.1.2.1
  exact X.bad (by omega) (by omega) (by omega) (by omega)
theorem CX.sh (X : CX g b E p gl cc L w C) : mm_sh cc = (0, 1) := isC_0 X.2.1.2.2
set_option maxHeartbeats 8000000 in
/-- codes are written on, whatever they are -/
theorem C_addF {g0 : mm_H} {x : Int32} {a5 a6 : Int} (hc : mm_isC cc) (h0 : 0 ≤ fd g cc 5) (e5 : fd g 3 5 = a5) (e6 : fd g 3 6 = a6) (k0 : Kf (QF cc) nL g0 g) : ∃ g', mm_M mm_T0 (d + 1) 37 [.ref cc, .int x] g = some (none, g') ∧ fd g' 3 5 = a5 ∧ fd g' 3 6 = a6 ∧ 0 ≤ fd g' cc 5 ∧ Kf (QF cc) nL g0 g' := by
  have ho := isC_or hc
  obtain ⟨g', m1, m2, m3⟩ := C_addX (d := d) (x := x) hc h0
  exact ⟨g', m1, (m3.1 3 5 (by unfold QAd; omega)).trans e5, (m3.1 3 6 (by unfold QAd; omega)).trans e6, m2, k0.trans (kAF m3)⟩
set_option maxHeartbeats 8000000 in
theorem C_value {v : Int} (e2 : fd g 11 2 = w) (w0 : 0 ≤ w) (w3 : w ≤ 3) (v0 : -1 ≤ v) (v1 : v ≤ 31) : mm_M mm_T0 (d + 1) 59 [.ref 11, .int (iI v)] g = some (some (.int (iI (b2 (0 ≤ valN w v ∧ valN w v ≤ 10 ∧ okW w (valN w v) = true)))), g) := by
  rw [U_X2_isValueHere]
  by_cases c : v = 3 ∨ v = 4 ∨ v = 5 ∨ v = 11 ∨ v = 12 ∨ v = 13 ∨ v = 14 ∨ v = 15 ∨ v = 16 ∨ v = 17 ∨ v = 18
  · have cw : w = 0 ∨ w = 1 ∨ w = 2 ∨ w = 3 := by omega
    clear v0 v1 w0 w3
    rcases cw with z | z | z | z <;> rcases c with y | y | y | y | y | y | y | y | y | y | y <;> subst y <;> rw [z] at e2 ⊢ <;> first | (rw [b2_t (by decide)]; simp (disch := omega) only [iI_lit, jI_lit, iI_neg, jI_neg, iI_add, iI_sub, iI_mul, jI_add, jI_sub, jI_mul, rdI, rdL, iI_lt, iI_le, iI_eq, iI_nat, iI_b2_0, iI_b2_1, mm_bI_some, mm_bV_some, mm_bL_some, mm_bA_some, fd_wL, fd_wR, fl_wI, fl_wR, re_wI, re_wL, re_wC, ite_true, ite_false, not_true_eq_false, not_false_eq_true, lq_ge, lq_le, lq_gt, lq_lt, lq_eq, jI_lt, jI_le, jI_eq, if_pos, if_neg, e2]; done) | (rw [b2_f (by decide)]; simp (disch := omega) only [iI_lit, jI_lit, iI_neg, jI_neg, iI_add, iI_sub, iI_mul, jI_add, jI_sub, jI_mul, rdI, rdL, iI_lt, iI_le, iI_eq, iI_nat, iI_b2_0, iI_b2_1, mm_bI_some, mm_bV_some, mm_bL_some, mm_bA_some, fd_wL, fd_wR, fl_wI, fl_wR, re_wI, re_wL, re_wC, ite_true, ite_false, not_true_eq_false, not_false_eq_true, lq_ge, lq_le, lq_gt, lq_lt, lq_eq, jI_lt, jI_le, jI_eq, if_pos, if_neg, e2]; done)
  · have vn : valN w v = -1 := by
      unfold valN
      rw [if_neg (by omega), if_neg (by omega), if_neg (by omega), if_neg (by omega), if_neg (by omega), if_neg (by omega), if_neg (by omega), if_neg (by omega), if_neg (by omega), if_neg (by omega), if_neg (by omega)]
    rw [b2_f (by rw [vn]; omega)]
    by_cases h : v = 6 ∨ v = 7 ∨ v = 8 ∨ v = 9 ∨ v = 10
    · clear v0 v1 vn c
      rcases h with y | y | y | y | y <;> subst y <;> simp (disch := omega) only [iI_lit, jI_lit, iI_neg, jI_neg, iI_add, iI_sub, iI_mul, jI_add, jI_sub, jI_mul, rdI, rdL, iI_lt, iI_le, iI_eq, iI_nat, iI_b2_0, iI_b2_1, mm_bI_some, mm_bV_some, mm_bL_some, mm_bA_some, fd_wL, fd_wR, fl_wI, fl_wR, re_wI, re_wL, re_wC, ite_true, ite_false, not_true_eq_false, not_false_eq_true, lq_ge, lq_le, lq_gt, lq_lt, lq_eq, jI_lt, jI_le, jI_eq, if_pos, if_neg]
    · have ne : ∀ k : Int, 3 ≤ k → k ≤ 18 → v ≠ k → (iI v = iI k) = False := fun k h1 h2 h => iI_ne (by omega) (by omega) (by omega) (by omega) h
      simp only [iI_lit, ne 3 (by omega) (by omega) (by omega), ne 4 (by omega) (by omega) (by omega), ne 5 (by omega) (by omega) (by omega), ne 6 (by omega) (by omega) (by omega), ne 7 (by omega) (by omega) (by omega), ne 8 (by omega) (by omega) (by omega), ne 9 (by omega) (by omega) (by omega), ne 10 (by omega) (by omega) (by omega), ne 11 (by omega) (by omega) (by omega), ne 12 (by omega) (by omega) (by omega), ne 13 (by omega) (by omega) (by omega), ne 14 (by omega) (by omega) (by omega), ne 15 (by omega) (by omega) (by omega), ne 16 (by omega) (by omega) (by omega), ne 17 (by omega) (by omega) (by omega), ne 18 (by omega) (by omega) (by omega), if_false, ite_false]
def Cl0 (b : Nat → Int) (E cc L : Nat) (w : Int) (n : Nat) : Prop := ∀ (o p : Nat) (gl : Bool) (D : Nat) (g : mm_H) (C : List Int) (wt : Int) (c : List Int), p ≤ E → o ≤ 6 → 4 * (E - p) + 1 ≤ n → 3 * (6 - o) + 8 ≤ D → CX g b E p gl cc L w C → L + C.length ≤ p → CRes b E cc L w g (mm_M mm_T0 D 54 [.ref 11, .int (iI (o : Nat))] g) C (rd b E w n 0 o p gl wt c)
def Cl1 (b : Nat → Int) (E cc L : Nat) (w : Int) (n : Nat) : Prop := ∀ (o p : Nat) (gl : Bool) (D : Nat) (g : mm_H) (C : List Int) (wt : Int) (c : List Int), p ≤ E → o ≤ 6 → 4 * (E - p) + 2 ≤ n → 3 * (6 - o) + 9 ≤ D → CX g b E p gl cc L w C → L + C.length ≤ p → CRes b E cc L w g (mm_M mm_T0 D 52 [.ref 11, .int (iI (o : Nat))] g) C (rd b E w n 1 o p gl wt c)
def wtC (wt : Int) : Int := if wt = 0 then -1 else tc wt
def Cl2 (b : Nat → Int) (E cc L : Nat) (w : Int) (n : Nat) : Prop := ∀ (o p : Nat) (gl : Bool) (D : Nat) (g : mm_H) (C : List Int) (wt : Int) (c : List Int) (k : Nat), p ≤ E → o ≤ 6 → 4 * (E - p) + 1 ≤ n → 3 * (6 - o) + 8 ≤ D → (wt = 0 ∨ wt = 1 ∨ wt = 2) → CX g b E p gl cc L w (C ++ c) → L + (C ++ c).length + (wtL wt).length ≤ p → k ≤ p → CRes b E cc L w g (mm_D (mm_M mm_T0 D) cd_X2_readSum 14 [.ref 11, .int (iI (o : Nat)), .int (iI (wtC wt)), .int (iI (k : Nat)), .null, .null] [] g) C (rd b E w n 2 o p gl wt c)
def Cl3 (b : Nat → Int) (E cc L : Nat) (w : Int) (n : Nat) : Prop := ∀ (o p : Nat) (gl : Bool) (D : Nat) (g : mm_H) (C : List Int) (wt : Int) (c : List Int), p ≤ E → o ≤ 6 → 4 * (E - p) + 4 ≤ n → 3 * (6 - o) + 11 ≤ D → CX g b E p gl cc L w C → L + C.length ≤ p → CRes b E cc L w g (mm_M mm_T0 D 47 [.ref 11, .int (iI (o : Nat))] g) C (rd b E w n 3 o p gl wt c)
def Cl4 (b : Nat → Int) (E cc L : Nat) (w : Int) (n : Nat) : Prop := ∀ (o p : Nat) (gl : Bool) (D : Nat) (g : mm_H) (C : List Int) (wt : Int) (c : List Int), p ≤ E → o ≤ 6 → 4 * (E - p) + 3 ≤ n → 3 * (6 - o) + 10 ≤ D → CX g b E p gl cc L w C → L + C.length ≤ p → CRes b E cc L w g (mm_M mm_T0 D 48 [.ref 11, .int (iI (o : Nat))] g) C (rd b E w n 4 o p gl wt c)
def Cl5 (b : Nat → Int) (E cc L : Nat) (w : Int) (n : Nat) : Prop := ∀ (o p : Nat) (gl : Bool) (D : Nat) (g : mm_H) (C : List Int) (wt : Int) (c : List Int) (k : Nat), p ≤ E → o ≤ 6 → 4 * (E - p) + 1 ≤ n → 3 * (6 - o) + 10 ≤ D → (wt = 0 ∨ wt = 11) → CX g b E p gl cc L w (C ++ c) → L + (C ++ c).length + (wtL wt).length ≤ p → k ≤ p → CRes b E cc L w g (mm_D (mm_M mm_T0 D) cd_X2_readTest 14 [.ref 11, .int (iI (o : Nat)), .int (iI (b2 (wt ≠ 0))), .int (iI (k : Nat)), .null] [] g) C (rd b E w n 5 o p gl wt c)
theorem CRes_kf {g0 : mm_H} {X : mm_X} {r : RR} (k : Kf (QF cc) nL g0 g) (h : CRes b E cc L w g X C r) : CRes b E cc L w g0 X C r := by
  cases r with
  | inl f =>
    obtain ⟨g', a1, a2, a3, a4, a5⟩ := h
    exact ⟨g', a1, a2, a3, a4, k.trans a5⟩
  | inr x =>
    obtain ⟨g', a1, a2, a3⟩ := h
    exact ⟨g', a1, a2, k.trans a3⟩
set_option maxHeartbeats 8000000 in
/-- a sum in brackets, the bracket taken already -/
theorem C_inner {n o : Nat} (h1 : Cl1 b E cc L w n) (hE : E ≤ 1600) (X : CX g b E p gl cc L w C) (hp : p ≤ E) (hL : L + C.length ≤ p) (ho : o < 6) (hn : 4 * (E - p) + 2 ≤ n) (hD : 3 * (6 - (o + 1)) + 9 ≤ d + 6) {x : Int} (x1 : 0 ≤ x ∧ x ≤ 255) (x2 : ¬ (97 ≤ x ∧ x ≤ 122)) (x3 : ¬ (48 ≤ x ∧ x ≤ 57)) : (∀ f, fThen (rd b E w n 1 (o + 1) p gl 0 []) (fun q _ c => fSign b E x q (.inr (tS b E q + 1, false, c))) = .inl f → ∃ g', (mm_M mm_T0 (d + 6) 52 [.ref 11, .int (iI ((o + 1 : Nat) : Int))] g = some (some (.int (iI 0)), g') ∨ ∃ g1, mm_M mm_T0 (d + 6) 52 [.ref 11, .int (iI ((o + 1 : Nat) : Int))] g = some (some (.int (iI 1)), g1) ∧ mm_M mm_T0 (d + 6) 82 [.ref 3, .int (iI x)] g1 = some (some (.int (iI 0)), g')) ∧ fd g' 3 5 = f.1 ∧ fd g' 3 6 = f.2 ∧ 0 ≤ fd g' cc 5 ∧ Kf (QF cc) nL g g') ∧ (∀ z, fThen (rd b E w n 1 (o + 1) p gl 0 []) (fun q _ c => fSign b E x q (.inr (tS b E q + 1, false, c))) = .inr z → ∃ g1 g', mm_M mm_T0 (d + 6) 52 [.ref 11, .int (iI ((o + 1 : Nat) : Int))] g = some (some (.int (iI 1)), g1) ∧ mm_M mm_T0 (d + 6) 82 [.ref 3, .int (iI x)] g1 = some (some (.int (iI 1)), g') ∧ CX g' b E z.1 z.2.1 cc L w (C ++ z.2.2) ∧ L + (C ++ z.2.2).length ≤ z.1 ∧ z.1 ≤ E ∧ p < z.1 ∧ z.2.1 = false ∧ Kf (QF cc) nL g g') := by
  have ih := h1 (o + 1) p gl (d + 6) g C 0 [] (by omega) (by omega) hn hD X hL
  have ok := (Ok_all (b := b) (w := w) hE n).2.1 (o + 1) p gl 0 [] (by omega) hn
  revert ih ok
  cases rd b E w n 1 (o + 1) p gl 0 [] with
  | inl f0 =>
    intro ih ok
    refine ⟨fun f hf => ?_, fun z hz => by cases hz⟩
    cases hf
    obtain ⟨g', a1, a2, a3, a4, a5⟩ := ih
    exact ⟨g', Or.inl a1, a2, a3, a4, a5⟩
  | inr y =>
    intro ih ok
    obtain ⟨g1, a1, X1, k1⟩ := ih
    have o1 : p + 1 ≤ y.1 := ok.1
    have o2 : y.1 ≤ E := ok.2.1
    have o3 : y.2.2.length + p ≤ 0 + y.1 := ok.2.2
    have ge := tS_ge (b := b) (E := E) (p := y.1)
    have ts := C_takeSign (d := d) (x := x) X1.1 x1 x2 x3
    show (∀ f, fSign b E x y.1 (.inr (tS b E y.1 + 1, false, y.2.2)) = .inl f → _) ∧ (∀ z, fSign b E x y.1 (.inr (tS b E y.1 + 1, false, y.2.2)) = .inr z → _)
    unfold fSign
    by_cases c : tB b E y.1 = x
    · rw [if_pos c]
      refine ⟨fun f hf => (by cases hf), fun z hz => ?_⟩
      cases hz
      obtain ⟨g2, m1, m2, m3⟩ := ts.1 c
      have lt := tB_in c (by omega)
      refine ⟨g1, g2, a1, m1, X1.tok m2 m3, ?_, ?_, ?_, rfl, k1.trans (kTF m3)⟩
      · show L + (C ++ y.2.2).length ≤ tS b E y.1 + 1
        rw [List.length_append]
        omega
      · show tS b E y.1 + 1 ≤ E
        omega
      · show p < tS b E y.1 + 1
        omega
    · rw [if_neg c]
      refine ⟨fun f hf => ?_, fun z hz => by cases hz⟩
      cases hf
      have bd := X1.badT (k := 1) o2 (by omega) (by omega)
      exact ⟨_, Or.inr ⟨g1, a1, ts.2 c⟩, bd.1, bd.2.1, bd.2.2.1, k1.trans bd.2.2.2⟩
theorem tc_num {v : Int} (h : 0 ≤ v) : tc (1000 + v) = v := by
  unfold tc
  rw [if_pos (by omega)]
  omega
theorem tc_val {v : Int} (h : 0 ≤ v) (h2 : v ≤ 10) : tc (40 + v) = 10000 + wd v := by
  unfold tc
  rw [if_neg (by omega), if_neg (by omega), if_pos (by omega)]
  rw [show 40 + v - 40 = v by omega]
theorem wd_val {u : Int} (h : 0 ≤ valN w u) (h2 : valN w u ≤ 10) : wd (valN w u) = u := by
  have hk := valN_no (w := w) (v := u) (by omega)
  have c : u = 3 ∨ u = 4 ∨ u = 5 ∨ u = 11 ∨ u = 12 ∨ u = 13 ∨ u = 14 ∨ u = 15 ∨ u = 16 ∨ u = 17 ∨ u = 18 := by
    unfold valN at h
    repeat' split at h
    all_goals omega
  by_cases w3 : w < 3
  · rcases c with y | y | y | y | y | y | y | y | y | y | y <;> subst y <;> simp [valN, wd, w3]
  · rcases c with y | y | y | y | y | y | y | y | y | y | y <;> subst y <;> simp [valN, wd, w3] at h2 ⊢
set_option maxHeartbeats 8000000 in
/-- a number -/
theorem C_number (X : CX g b E p gl cc L w C) (hL : L + C.length ≤ p) : ((numT b E 0 9999 p gl).1 = 0 → ∃ g', mm_M mm_T0 (d + 6) 55 [.ref 11] g = some (some (.int (iI 1)), g') ∧ CX g' b E (tD b E (tS b E p)) true cc L w (C ++ [1000 + (numT b E 0 9999 p gl).2.2]) ∧ Kf (QF cc) nL g g') ∧ ((numT b E 0 9999 p gl).1 ≠ 0 → mm_M mm_T0 (d + 6) 55 [.ref 11] g = some (some (.int (iI 0)), bdH g (numT b E 0 9999 p gl).1 (numT b E 0 9999 p gl).2.1)) := by
  have hE := X.1.2.1
  have hp := X.1.2.2.1
  have nh := C_numHere (d := d + 2) (lo := 0) (hi := 9999) X.1 (by omega) (by omega)
  rw [show ((0 : Nat) : Int) = 0 from rfl, show ((9999 : Nat) : Int) = 9999 from rfl] at nh
  have nb := numT_b (b := b) (E := E) (p := p) (gl := gl) (lo := 0) (hi := 9999) hE hp
  have sh := X.sh
  have rf := X.2.1.2.1
  refine ⟨fun z => ?_, fun z => ?_⟩
  · obtain ⟨n1, n2⟩ := nh.1 z
    have nv := nb.2.2.2 z
    generalize (numT b E 0 9999 p gl).2.2 = v at *
    obtain ⟨g1, a1, a2, a3⟩ := C_addc (d := d + 4) (v := 1000 + v) X.2.1.2.2 X.2.2 (by omega) (by omega) (by omega)
    rw [tc_num (by omega)] at a1
    have X1 := X.cod a2 a3
    obtain ⟨g2, m1, m2, m3⟩ := C_advN (d := d) X1.1 ⟨nv.2.2.1, nv.2.2.2.1⟩
    refine ⟨g2, ?_, X1.tok m2 m3, (kAF a3).trans (kTF m3)⟩
    rw [U_X2_readNumber]
    simp (disch := omega) only [iI_lit, jI_lit, iI_neg, jI_neg, iI_add, iI_sub, iI_mul, jI_add, jI_sub, jI_mul, rdI, rdL, iI_lt, iI_le, iI_eq, iI_nat, iI_b2_0, iI_b2_1, mm_bI_some, mm_bV_some, mm_bL_some, mm_bA_some, fd_wL, fd_wR, fl_wI, fl_wR, re_wI, re_wL, re_wC, ite_true, ite_false, not_true_eq_false, not_false_eq_true, lq_ge, lq_le, lq_gt, lq_lt, lq_eq, jI_lt, jI_le, jI_eq, if_pos, if_neg, n1, n2, rf, sh, a1, m1]
  · have n1 := nh.2 z
    rw [U_X2_readNumber]
    simp (disch := omega) only [iI_lit, jI_lit, iI_neg, jI_neg, iI_add, iI_sub, iI_mul, jI_add, jI_sub, jI_mul, rdI, rdL, iI_lt, iI_le, iI_eq, iI_nat, iI_b2_0, iI_b2_1, mm_bI_some, mm_bV_some, mm_bL_some, mm_bA_some, fd_wL, fd_wR, fl_wI, fl_wR, re_wI, re_wL, re_wC, ite_true, ite_false, not_true_eq_false, not_false_eq_true, lq_ge, lq_le, lq_gt, lq_lt, lq_eq, jI_lt, jI_le, jI_eq, if_pos, if_neg, n1]
end CRD
