section RTL
variable {d : Nat} {x : Int32} {g : mm_H} {b : Nat → Int} {E p : Nat} {gl : Bool} {w : Int} {T U C : List Int} {o : Nat}
theorem Qst.top {y v : Int} (S : Qst g (y :: T) U C o) (v1 : -2147483648 ≤ v) (v2 : v < 2147483648) : Qst (wI g 333 (T ++ U).length (iI v)) (v :: T) U C o ∧ Kf Qwk nL g (wI g 333 (T ++ U).length (iI v)) := by
  have z : ∀ a j, a ≠ 333 → fd (wI g 333 (T ++ U).length (iI v)) a j = fd g a j := fun a j ha => fd_wI_row ha
  have p : PC g 333 (T ++ U) := S.1.2.2
  refine ⟨⟨⟨(z _ _ (by omega)).trans S.1.1, fd_wI_same v1 v2, p.congr (fun j hj => fd_wI_col (by omega))⟩, ⟨(z _ _ (by omega)).trans S.2.1.1, fun i u h => (z _ _ (by omega)).trans (S.2.1.2 i u h)⟩, (z _ _ (by omega)).trans S.2.2.1, (z _ _ (by omega)).trans S.2.2.2⟩, Kf.refl.wI (by unfold Qwk; omega)⟩
theorem kG_1 : kG d x (iI 1) g = sQS d x 1 g := by
  unfold kG
  rw [if_neg (by decide)]
theorem kG_0 : kG d x (iI 0) g = sQS d x 0 g := by
  unfold kG
  rw [if_pos (by decide)]
theorem MO_comma {P : List Int} {y : Int} (S : ST g b E p gl w (P ++ y :: T) U C o) (h : tB b E p = 44) (hP : ∀ z ∈ P, 1 ≤ z ∧ z ≤ 4) (hy : y = 21 ∨ y = 22) (hof : nOf T ≤ o) : ∃ g', MO d x g = ME d x g' ∧ ST g' b E (tS b E p + 1) false w ((y + 2) :: T) U (C ++ P) o ∧ Kf QQ nL g g' := by
  have l := S.len
  have ge := tS_ge (b := b) (E := E) (p := p)
  have lt0 := tB_in h (by decide)
  have ll : (P ++ y :: T ++ U).length = P.length + ((T ++ U).length + 1) := by rw [List.append_assoc, List.length_append, List.cons_append, List.length_cons]
  have bk := brk_app (T := T) hP (show 20 ≤ y ∧ y ≤ 24 by omega)
  obtain ⟨g1, m1, S1, l2, k1⟩ := R_go_rest (d := d) S (by rw [h]; rfl) (by rw [h]; rfl) bk (by omega) (by omega)
  have br := R_bracket (d := d + 3) S1.2.1 (by omega)
  rw [bk] at br
  obtain ⟨g2, a1, R2, k2⟩ := (R_asksSign (d := d + 2) (c := 44) S1.1 (by omega) (by omega)).1 h
  have Q2 := S1.2.1.tk k2
  have h5 := R2.2.2.1
  obtain ⟨g3, m3, Q3, k3⟩ := R_dropsTo (d := d + 2) (y := y) (by omega) (fun z hz => by have := hP z hz; omega) Q2 (by omega) (by omega)
  obtain ⟨_, _, f4, f3⟩ := Q3.pop (by omega)
  obtain ⟨Q4, k4⟩ := Q3.top (v := y + 2) (by omega) (by omega)
  have e1 : ((T ++ U).length : Nat) + (1 : Int) - 1 = ((T ++ U).length : Nat) := by omega
  have nn : (((T ++ U).length : Nat) : Int).toNat = (T ++ U).length := by omega
  have cm : kCm d g1 = some (some (.int (iI 1)), wI g3 333 (T ++ U).length (iI (y + 2))) := by
    unfold kCm
    simp (disch := omega) only [iI_lit, jI_lit, iI_neg, jI_neg, iI_add, iI_sub, iI_mul, jI_add, jI_sub, jI_mul, rdI, rdL, iI_lt, iI_le, iI_eq, iI_nat, iI_b2_0, iI_b2_1, mm_bI_some, mm_bV_some, mm_bL_some, mm_bA_some, fd_wL, fd_wR, fl_wI, fl_wR, re_wI, re_wL, re_wC, ite_true, ite_false, not_true_eq_false, not_false_eq_true, lq_ge, lq_le, lq_gt, lq_lt, lq_eq, jI_lt, jI_le, jI_eq, if_pos, if_neg, a1, h5, m3, f4, e1, nn, f3]
  have bb : kBr d g1 = some (some (.int (iI 1)), wI g3 333 (T ++ U).length (iI (y + 2))) := by
    rw [← cm]
    unfold kBr
    rcases hy with z | z <;> rw [z] at br <;> simp (disch := omega) only [iI_lit, jI_lit, iI_neg, jI_neg, iI_add, iI_sub, iI_mul, jI_add, jI_sub, jI_mul, rdI, rdL, iI_lt, iI_le, iI_eq, iI_nat, iI_b2_0, iI_b2_1, mm_bI_some, mm_bV_some, mm_bL_some, mm_bA_some, fd_wL, fd_wR, fl_wI, fl_wR, re_wI, re_wL, re_wC, ite_true, ite_false, not_true_eq_false, not_false_eq_true, lq_ge, lq_le, lq_gt, lq_lt, lq_eq, jI_lt, jI_le, jI_eq, if_pos, if_neg, br]
  have R4 := (R2.kw k3).kw k4
  have w4 : fd (wI g3 333 (T ++ U).length (iI (y + 2))) 264 54 = w := by
    rw [k4.1 264 54 (by unfold Qwk; omega), k3.1 264 54 (by unfold Qwk; omega), k2.1 264 54 (by unfold QTk; omega)]
    exact S1.2.2.1
  refine ⟨_, ?_, ⟨R4, Q4, w4, ?_, ?_⟩, (kTQ k1).trans ((kTQ k2).trans ((kWQ k3).trans (kWQ k4)))⟩
  · unfold MO
    rw [m1, bb, mm_bI_some, kG_1, R_loop1 R4.2.2.1]
  · rw [List.cons_append, List.length_cons, List.length_append (as := C)]
    omega
  · rw [nOf, if_neg (by omega)]
    exact hof
theorem MO_combad {P : List Int} {y : Int} (S : ST g b E p gl w (P ++ y :: T) U C o) (h1 : opP (tB b E p) = 0) (h2 : opS (tB b E p) = 0) (h : tB b E p ≠ 44) (hP : ∀ z ∈ P, 1 ≤ z ∧ z ≤ 4) (hy : y = 21 ∨ y = 22) : BadO x g (MO d x g) (1, (tS b E p : Int)) := by
  have l := S.len
  have bk := brk_app (T := T) hP (show 20 ≤ y ∧ y ≤ 24 by omega)
  obtain ⟨g1, m1, S1, l2, k1⟩ := R_go_rest (d := d) S h1 h2 bk (by omega) (by omega)
  have br := R_bracket (d := d + 3) S1.2.1 (by omega)
  rw [bk] at br
  obtain ⟨g2, a1, B2, k2⟩ := (R_asksSign (d := d + 2) (c := 44) S1.1 (by omega) (by omega)).2 h
  have b5 := B2.ne (by decide)
  have b5' := bad_1 b5
  have cm : kCm d g1 = some (some (.int (iI 0)), g2) := by
    unfold kCm
    rw [show (44 : Int32) = iI 44 from rfl, a1, mm_bV_some, if_neg b5']
    rfl
  have bb : kBr d g1 = some (some (.int (iI 0)), g2) := by
    rw [← cm]
    unfold kBr
    rcases hy with z | z <;> rw [z] at br <;> simp (disch := omega) only [iI_lit, jI_lit, iI_neg, jI_neg, iI_add, iI_sub, iI_mul, jI_add, jI_sub, jI_mul, rdI, rdL, iI_lt, iI_le, iI_eq, iI_nat, iI_b2_0, iI_b2_1, mm_bI_some, mm_bV_some, mm_bL_some, mm_bA_some, fd_wL, fd_wR, fl_wI, fl_wR, re_wI, re_wL, re_wC, ite_true, ite_false, not_true_eq_false, not_false_eq_true, lq_ge, lq_le, lq_gt, lq_lt, lq_eq, jI_lt, jI_le, jI_eq, if_pos, if_neg, br]
  refine ⟨g2, ?_, ⟨B2, S.2.1.cb (k1.trans k2) (by unfold QTk; omega) (by omega)⟩, (kTQ k1).trans (kTQ k2)⟩
  unfold MO
  rw [m1, bb, mm_bI_some, kG_0, R_bad0 b5]
theorem MO_clbad {P : List Int} {y : Int} (S : ST g b E p gl w (P ++ y :: T) U C o) (h1 : opP (tB b E p) = 0) (h2 : opS (tB b E p) = 0) (h : tB b E p ≠ 41) (hP : ∀ z ∈ P, 1 ≤ z ∧ z ≤ 4) (hy : y = 20 ∨ y = 23 ∨ y = 24) : BadO x g (MO d x g) (1, (tS b E p : Int)) := by
  have l := S.len
  have le := tS_le (b := b) (E := E) (p := p) l.2.1
  have bk := brk_app (T := T) hP (show 20 ≤ y ∧ y ≤ 24 by omega)
  obtain ⟨g1, m1, S1, l2, k1⟩ := R_go_rest (d := d) S h1 h2 bk (fun z => absurd z h) (by omega)
  have h5 := S1.1.2.2.1
  have br := R_bracket (d := d + 3) S1.2.1 (by omega)
  rw [bk] at br
  obtain ⟨g2, a1, B2, k2⟩ := R_fail (d := d + 4) (g := g1) (k := 1) (pl := (tS b E p : Int)) h5 (by omega) (by omega) (by omega) (by omega)
  have b5 := B2.ne (by decide)
  have bb : kBr d g1 = some (some (.int (iI 0)), g2) := by
    unfold kBr
    simp (disch := omega) only [iI_lit, jI_lit, iI_neg, jI_neg, iI_add, iI_sub, iI_mul, jI_add, jI_sub, jI_mul, rdI, rdL, iI_lt, iI_le, iI_eq, iI_nat, iI_b2_0, iI_b2_1, mm_bI_some, mm_bV_some, mm_bL_some, mm_bA_some, fd_wL, fd_wR, fl_wI, fl_wR, re_wI, re_wL, re_wC, ite_true, ite_false, not_true_eq_false, not_false_eq_true, lq_ge, lq_le, lq_gt, lq_lt, lq_eq, jI_lt, jI_le, jI_eq, if_pos, if_neg, br, h5, l2, a1]
  refine ⟨g2, ?_, ⟨B2, S.2.1.cb (k1.trans k2) (by unfold QTk; omega) (by omega)⟩, (kTQ k1).trans (kTQ k2)⟩
  unfold MO
  rw [m1, bb, mm_bI_some, kG_0, R_bad0 b5]
theorem MO_end {P : List Int} (S : ST g b E p gl w P U C o) (h1 : opP (tB b E p) = 0) (h2 : opS (tB b E p) = 0) (hP : ∀ z ∈ P, 1 ≤ z ∧ z ≤ 4) : ∃ g', MO d x g = some (none, wI g' 264 106 x) ∧ ST g' b E p gl w [] U (C ++ P) o ∧ Kf QQ nL g g' := by
  have l := S.len
  have ll := List.length_append (as := P) (bs := U)
  have bk := brk_none hP
  obtain ⟨g1, m1, S1, l2, k1⟩ := R_go_rest (d := d) S h1 h2 bk (by omega) (by omega)
  have h5 := S1.1.2.2.1
  have br := R_bracket (d := d + 3) S1.2.1 (by omega)
  rw [bk] at br
  have bb : kBr d g1 = some (some (.int (iI 0)), g1) := by
    unfold kBr
    simp (disch := omega) only [iI_lit, jI_lit, iI_neg, jI_neg, iI_add, iI_sub, iI_mul, jI_add, jI_sub, jI_mul, rdI, rdL, iI_lt, iI_le, iI_eq, iI_nat, iI_b2_0, iI_b2_1, mm_bI_some, mm_bV_some, mm_bL_some, mm_bA_some, fd_wL, fd_wR, fl_wI, fl_wR, re_wI, re_wL, re_wC, ite_true, ite_false, not_true_eq_false, not_false_eq_true, lq_ge, lq_le, lq_gt, lq_lt, lq_eq, jI_lt, jI_le, jI_eq, if_pos, if_neg, br]
  obtain ⟨g2, n1, Q2, k2⟩ := R_end53 (d := d) (x := x) P g1 C h5 S1.2.1 (by omega) (by omega)
  refine ⟨g2, ?_, S1.qw Q2 k2 (by rw [List.nil_append, List.length_append (as := C)]; omega) (Nat.zero_le _), (kTQ k1).trans (kWQ k2)⟩
  unfold MO
  rw [m1, bb, mm_bI_some, kG_0, R_loop0, n1]
/-! the reference makes of a part, a sum, what reading downward makes of it -/
def RRes0 (b : Nat → Int) (E : Nat) (w : Int) (d : Nat) (x : Int32) (g : mm_H) (T U C : List Int) (o : Nat) (r : RR) : Prop := match r with
  | .inl f => BadO x g (ME d x g) f
  | .inr y => ∃ g', ME d x g = MF d x g' ∧ ST g' b E y.1 y.2.1 w T U (C ++ y.2.2) o ∧ Kf QQ nL g g'
def RRes1 (b : Nat → Int) (E : Nat) (w : Int) (d : Nat) (x : Int32) (g : mm_H) (X : mm_X) (T U C : List Int) (o : Nat) (r : RR) : Prop := match r with
  | .inl f => BadO x g X f
  | .inr y => ∃ g' P C', X = MO d x g' ∧ ST g' b E y.1 y.2.1 w (P ++ T) U C' o ∧ (∀ z ∈ P, 1 ≤ z ∧ z ≤ 4) ∧ C' ++ P = C ++ y.2.2 ∧ opP (tB b E y.1) = 0 ∧ opS (tB b E y.1) = 0 ∧ Kf QQ nL g g'
theorem RRes1_kf {g0 : mm_H} {X X' : mm_X} {r : RR} (e : X' = X) (k : Kf QQ nL g0 g) (h : RRes1 b E w d x g X T U C o r) : RRes1 b E w d x g0 X' T U C o r := by
  subst e
  cases r with
  | inl f => exact BadO.of h k
  | inr y =>
    obtain ⟨g', P, C', a1, a2, a3, a4, a5, a6, a7⟩ := h
    exact ⟨g', P, C', a1, a2, a3, a4, a5, a6, k.trans a7⟩
def tOK (T U : List Int) : Prop := ∀ y, (T ++ U).head? = some y → 4 < y ∧ y < 60
theorem tOK_c {y : Int} (h : 4 < y ∧ y < 60) : tOK (y :: T) U := by
  intro z hz
  have e : y = z := by simpa using hz
  rw [← e]
  exact h
theorem tOK_lt (h : tOK T U) : ∀ y r, T = y :: r → y < 60 := by
  intro y r e
  exact (h y (by rw [e]; rfl)).2
def Rl0 (b : Nat → Int) (E : Nat) (w : Int) (n : Nat) : Prop := ∀ (o p : Nat) (gl : Bool) (d : Nat) (x : Int32) (g : mm_H) (T U C : List Int) (wt : Int) (c : List Int), o ≤ 6 → 4 * (E - p) + 1 ≤ n → ST g b E p gl w T U C o → RRes0 b E w d x g T U C o (rd b E w n 0 o p gl wt c)
def Rl1 (b : Nat → Int) (E : Nat) (w : Int) (n : Nat) : Prop := ∀ (o p : Nat) (gl : Bool) (d : Nat) (x : Int32) (g : mm_H) (T U C : List Int) (wt : Int) (c : List Int), o ≤ 6 → 4 * (E - p) + 2 ≤ n → tOK T U → ST g b E p gl w T U C o → RRes1 b E w d x g (ME d x g) T U C o (rd b E w n 1 o p gl wt c)
def Rl2 (b : Nat → Int) (E : Nat) (w : Int) (n : Nat) : Prop := ∀ (o p : Nat) (gl : Bool) (d : Nat) (x : Int32) (g : mm_H) (T U C C0 : List Int) (wt : Int) (c pr : List Int), o ≤ 6 → 4 * (E - p) + 1 ≤ n → tOK T U → (wt = 0 ∨ wt = 1 ∨ wt = 2) → (∀ z ∈ pr, z = 3 ∨ z = 4) → ST g b E p gl w (pr ++ (wtL wt ++ T)) U C o → C ++ pr = C0 ++ c → nOf T ≤ o → RRes1 b E w d x g (MO d x g) T U C0 o (rd b E w n 2 o p gl wt c)
set_option maxHeartbeats 8000000 in
theorem R_l1 {n : Nat} (hE : E ≤ 1600) (h0 : Rl0 b E w n) (h2 : Rl2 b E w n) : Rl1 b E w (n + 1) := by
  intro o p gl d x g T U C wt c ho hn hT S
  have l := S.len
  have ih := h0 o p gl d x g T U C 0 [] ho (by omega) S
  have ok := (Ok_all (b := b) (w := w) hE n).1 o p gl 0 [] l.2.1 (by omega)
  rw [rd_1]
  unfold fSum
  revert ih ok
  cases rd b E w n 0 o p gl 0 [] with
  | inl f =>
    intro ih ok
    exact ih
  | inr y =>
    intro ih ok
    obtain ⟨g1, a1, S1, k1⟩ := ih
    have o1 : p + 1 ≤ y.1 := ok.1
    have o2 : y.1 ≤ E := ok.2.1
    have r := h2 o y.1 y.2.1 d x g1 T U (C ++ y.2.2) C 0 y.2.2 [] ho (by omega) hT (Or.inl rfl) (by simp) S1 (by rw [List.append_nil]) S.2.2.2.2
    exact RRes1_kf (a1.trans (MF_off S1 (tOK_lt hT))) k1 r
theorem wtL_h {wt : Int} (hT : tOK T U) (hw : wt = 0 ∨ wt = 1 ∨ wt = 2) : ∀ y, (wtL wt ++ T ++ U).head? = some y → y ≠ 3 ∧ y ≠ 4 := by
  intro y hy
  by_cases z : wt = 0
  · rw [z, show wtL 0 = [] from rfl, List.nil_append] at hy
    have := hT y hy
    omega
  · rw [show wtL wt = [wt] from if_neg z] at hy
    have e : wt = y := by simpa using hy
    omega
theorem wtL_n {wt : Int} (hw : wt = 0 ∨ wt = 1 ∨ wt = 2) : ∀ z ∈ wtL wt, 1 ≤ z ∧ z ≤ 4 := by
  intro z hz
  unfold wtL at hz
  by_cases c : wt = 0
  · rw [if_pos c] at hz
    exact absurd hz (by simp)
  · rw [if_neg c] at hz
    have e : z = wt := by simpa using hz
    omega
set_option maxHeartbeats 8000000 in
theorem R_l2 {n : Nat} (hE : E ≤ 1600) (h0 : Rl0 b E w n) (h2 : Rl2 b E w n) : Rl2 b E w (n + 1) := by
  intro o p gl d x g T U C C0 wt c pr ho hn hT hw hpr S hC hof
  have l := S.len
  have ge := tS_ge (b := b) (E := E) (p := p)
  have wn := wtL_n hw
  have no : nOf (wtL wt ++ T) ≤ o := by rw [nOf_app wn]; exact hof
  rw [rd_2]
  unfold fRest
  by_cases c1 : opP (tB b E p) ≠ 0
  · rw [if_pos c1]
    obtain ⟨lt, tt⟩ := opP_in c1
    have ov : opP (tB b E p) = 3 ∨ opP (tB b E p) = 4 := by
      unfold opP
      rcases tt with z | z <;> simp [z]
    obtain ⟨g1, a1, S1, k1⟩ := MO_op (d := d) (x := x) S tt hpr (wtL_h hT hw) no
    have ih := h0 o (tS b E p + 1) false d x g1 (opP (tB b E p) :: (wtL wt ++ T)) U (C ++ pr) 0 [] ho (by omega) S1
    have ok := (Ok_all (b := b) (w := w) hE n).1 o (tS b E p + 1) false 0 [] (by omega) (by omega)
    generalize opP (tB b E p) = op at *
    revert ok
    revert ih
    cases rd b E w n 0 o (tS b E p + 1) false 0 [] with
    | inl f =>
      intro ih ok
      rw [a1]
      exact BadO.of ih k1
    | inr y =>
      intro ih ok
      obtain ⟨g2, a2, S2, k2⟩ := ih
      have o1 : tS b E p + 1 + 1 ≤ y.1 := ok.1
      have o2 : y.1 ≤ E := ok.2.1
      have e2 := MF_off (d := d) (x := x) S2 (fun z r e => by cases e; omega)
      have r := h2 o y.1 y.2.1 d x g2 T U (C ++ pr ++ y.2.2) C0 wt (c ++ y.2.2 ++ [op]) [op] ho (by omega) hT hw (fun z hz => by have q9 : z = op := (by simpa using hz); omega) S2 (by rw [hC, List.append_assoc, List.append_assoc, List.append_assoc]) hof
      exact RRes1_kf (a1.trans (a2.trans e2)) (k1.trans k2) r
  · rw [if_neg c1]
    by_cases c2 : opS (tB b E p) ≠ 0
    · rw [if_pos c2]
      obtain ⟨lt, tt⟩ := opS_in c2
      have ov : opS (tB b E p) = 1 ∨ opS (tB b E p) = 2 := by
        unfold opS
        rcases tt with z | z <;> simp [z]
      rw [← List.append_assoc] at S
      obtain ⟨g1, a1, S1, k1⟩ := MO_sum (d := d) (x := x) S tt (by
        intro z hz
        rcases List.mem_append.mp hz with q | q
        · have := hpr z q
          omega
        · have := wn z q
          omega) (fun y hy => by have := hT y hy; omega) hof
      have ih := h0 o (tS b E p + 1) false d x g1 (opS (tB b E p) :: T) U (C ++ (pr ++ wtL wt)) 0 [] ho (by omega) S1
      have ok := (Ok_all (b := b) (w := w) hE n).1 o (tS b E p + 1) false 0 [] (by omega) (by omega)
      generalize opS (tB b E p) = op at *
      revert ok
      revert ih
      cases rd b E w n 0 o (tS b E p + 1) false 0 [] with
      | inl f =>
        intro ih ok
        rw [a1]
        exact BadO.of ih k1
      | inr y =>
        intro ih ok
        obtain ⟨g2, a2, S2, k2⟩ := ih
        have o1 : tS b E p + 1 + 1 ≤ y.1 := ok.1
        have o2 : y.1 ≤ E := ok.2.1
        have e2 := MF_off (d := d) (x := x) S2 (fun z r e => by cases e; omega)
        have wl : wtL op = [op] := if_neg (by omega)
        have r := h2 o y.1 y.2.1 d x g2 T U (C ++ (pr ++ wtL wt) ++ y.2.2) C0 op (c ++ wtL wt ++ y.2.2) [] ho (by omega) hT (Or.inr ov) (by simp) (by rw [wl]; exact S2) (by rw [List.append_nil, ← List.append_assoc, hC, List.append_assoc, List.append_assoc, List.append_assoc]) hof
        exact RRes1_kf (a1.trans (a2.trans e2)) (k1.trans k2) r
    · rw [if_neg c2]
      rw [← List.append_assoc] at S
      refine ⟨g, pr ++ wtL wt, C, rfl, S, ?_, ?_, ?_, ?_, Kf.refl⟩
      · intro z hz
        rcases List.mem_append.mp hz with q | q
        · have := hpr z q
          omega
        · exact wn z q
      · show C ++ (pr ++ wtL wt) = C0 ++ (c ++ wtL wt)
        rw [← List.append_assoc, hC, List.append_assoc]
      · show opP (tB b E p) = 0
        by_cases z : opP (tB b E p) = 0
        · exact z
        · exact absurd z c1
      · show opS (tB b E p) = 0
        by_cases z : opS (tB b E p) = 0
        · exact z
        · exact absurd z c2
end RTL
