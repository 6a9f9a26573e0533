/-! the class reads statements -/
/-- what is told, in the class's draft -/
def CTs (g : mm_H) (u : Nat) (hm : Int) (st : Tst) : Prop := (fd g (u + 1) 9 = hm ∧ fd g (u + 1) 10 = (st.1.length : Nat) ∧ fd g (u + 1) 11 = 0 ∧ fd g (u + 1) 8 = 0) ∧ (∀ i x, st.1[i]? = some x → (fd g (u + 2) i = x.2.2.1 ∧ fd g (u + 3) i = x.2.2.2 ∧ fd g (u + 4) i = x.2.1 ∧ fd g (u + 5) i = 10 * x.2.2.1 ∧ fd g (u + 6) i = 0) ∧ ∀ k, k < 6 → fd g (u + 16) (6 * i + k) = x.1.getD k 0) ∧ (∀ i j : Nat, i < st.1.length → j < st.1.length → i ≠ j → fd g (u + 7) (8 * i + j) = st.2.1 (8 * (i : Int) + j)) ∧ (∀ v : Nat, v < 9 → fd g (u + 8) v = homeF v st.1 0) ∧ fd g u 3 = st.2.2.1 ∧ CQ g (u + 10) 0 (rAll st.2.2.2) ∧ ∀ w : Nat, w < 3 → (rOf w st.2.2.2 0 = none → fd g (u + 12) w = -1) ∧ ∀ y, rOf w st.2.2.2 0 = some y → fd g (u + 12) w = (y.1 : Nat) ∧ fd g (u + 13) w = ((y.1 + y.2.length : Nat) : Int)
def QD (u : Nat) : Nat → Nat → Prop := fun a k => a = 3 ∨ (a = 11 ∧ k = 2) ∨ (u ≤ a ∧ a ≤ u + 16)
def KR (Q : Nat → Nat → Prop) (g g' : mm_H) : Prop := (∀ a k, ¬ Q a k → fd g' a k = fd g a k) ∧ (∀ a k, fl g' a k = fl g a k) ∧ ∀ a k, ¬ (a = 11 ∧ k = 1) → g'.2.2 a k = g.2.2 a k
theorem KR.of {Q Q' : Nat → Nat → Prop} {g g' : mm_H} (k : Kf Q nL g g') (q : ∀ a j, Q a j → Q' a j) : KR Q' g g' := ⟨fun a j h => k.1 a j (fun z => h (q a j z)), fun a j => k.2.1 a j (fun z => z), fun a j _ => by rw [k.2.2]⟩
theorem KR.trans {Q : Nat → Nat → Prop} {g g1 g2 : mm_H} (x : KR Q g g1) (y : KR Q g1 g2) : KR Q g g2 := ⟨fun a j h => (y.1 a j h).trans (x.1 a j h), fun a j => (y.2.1 a j).trans (x.2.1 a j), fun a j h => (y.2.2 a j h).trans (x.2.2 a j h)⟩
theorem KR.refl {Q : Nat → Nat → Prop} {g : mm_H} : KR Q g g := ⟨fun _ _ _ => rfl, fun _ _ => rfl, fun _ _ _ => rfl⟩
/-- letters behind the end are 0: equal letters are equal names -/
theorem nm_ext {v w : List Int} (hv : v.length ≤ 6 ∧ ∀ y ∈ v, 1 ≤ y ∧ y ≤ 26) (hw : w.length ≤ 6 ∧ ∀ y ∈ w, 1 ≤ y ∧ y ≤ 26) (h : ∀ k, k < 6 → v.getD k 0 = w.getD k 0) : v = w := by
  have g1 : ∀ (z : List Int) k, k < z.length → (∀ y ∈ z, 1 ≤ y ∧ y ≤ 26) → 1 ≤ z.getD k 0 := by
    intro z k hk hz
    rw [List.getD_eq_getElem?_getD, List.getElem?_eq_getElem hk]
    exact (hz _ (List.getElem_mem hk)).1
  have g0 : ∀ (z : List Int) k, z.length ≤ k → z.getD k 0 = 0 := by
    intro z k hk
    rw [List.getD_eq_getElem?_getD, List.getElem?_eq_none hk]
    rfl
  have le : v.length = w.length := by
    by_cases c1 : v.length < w.length
    · have a := g1 w v.length c1 hw.2
      have e := h v.length (by omega)
      have z := g0 v v.length (Nat.le_refl _)
      omega
    · by_cases c2 : w.length < v.length
      · have a := g1 v w.length c2 hv.2
        have e := h w.length (by omega)
        have z := g0 w w.length (Nat.le_refl _)
        omega
      · omega
  apply List.ext_getElem le
  intro i i1 i2
  have e := h i (by omega)
  rw [List.getD_eq_getElem?_getD, List.getElem?_eq_getElem i1, List.getD_eq_getElem?_getD, List.getElem?_eq_getElem i2] at e
  exact e
section CST
variable {d : Nat} {g : mm_H} {b : Nat → Int} {E p : Nat} {gl : Bool} {u : Nat} {hm : Int} {st : Tst}
set_option maxHeartbeats 8000000 in
theorem C_nameHere (S : CS g b E p gl) : ((nmT b E p gl).1 = 0 → mm_M mm_T0 (d + 3) 84 [.ref 3] g = some (some (.int (iI 1)), g)) ∧ ((nmT b E p gl).1 ≠ 0 → mm_M mm_T0 (d + 3) 84 [.ref 3] g = some (some (.int (iI 0)), bdH g (nmT b E p gl).1 (nmT b E p gl).2.1)) := by
  have e1 := S.2.2.2.2.1
  have e2 := S.2.2.2.1
  have e3 := S.2.2.2.2.2.1
  have hE := S.2.1
  have le := tS_le (b := b) (E := E) S.2.2.1
  have kb := tkK_b (b := b) (E := E) (p := p) (gl := gl)
  have wb := wno_b (b := b) (E := E) (p := p) (gl := gl)
  have u := C_unexp (d := d) S
  unfold nmT
  by_cases c : wno b E p gl = -2
  · rw [if_neg (fun z => z.1 c)]
    have n1 : ¬ tkK b E p gl = 1 := by
      intro z
      have q := tkK_w.mp z
      have fb := findW_ge (b := b) (s := tS b E p) (e := tL b E (tS b E p)) allW 0
      unfold wno at c
      rw [if_pos q] at c
      omega
    refine ⟨fun z => absurd z (by simp), fun _ => ?_⟩
    rw [U_X6_isNameHere]
    simp (disch := omega) only [iI_lit, jI_lit, iI_neg, jI_neg, iI_add, iI_sub, iI_mul, jI_add, jI_sub, jI_mul, rdI, rdL, iI_lt, iI_le, iI_eq, iI_nat, iI_b2_0, iI_b2_1, mm_bI_some, mm_bV_some, mm_bL_some, mm_bA_some, fd_wL, fd_wR, fl_wI, fl_wR, re_wI, re_wL, re_wC, ite_true, ite_false, not_true_eq_false, not_false_eq_true, lq_ge, lq_le, lq_gt, lq_lt, lq_eq, jI_lt, jI_le, jI_eq, if_pos, if_neg, e1, u, zr_0]
  · have ww := wno_w c
    have il := isLt_iff.mp ww.1
    have tl := tL_in ww.1
    have ne : ¬ tB b E p = -1 := by omega
    have e4 : fd g 3 4 = wno b E p gl := (S.2.2.2.2.2.2.1 ne).trans (wno_v ww).symm
    have te : tE b E p = tL b E (tS b E p) := by
      unfold tE
      rw [if_neg ne, if_pos ww.1]
    rw [te] at e3
    rw [tkK_w.mpr ww] at e1
    by_cases c2 : 0 ≤ wno b E p gl ∧ wno b E p gl ≤ 24
    · rw [if_neg (fun z => z.2 c2)]
      refine ⟨fun z => absurd z (by simp), fun _ => ?_⟩
      rw [U_X6_isNameHere]
      simp (disch := omega) only [iI_lit, jI_lit, iI_neg, jI_neg, iI_add, iI_sub, iI_mul, jI_add, jI_sub, jI_mul, rdI, rdL, iI_lt, iI_le, iI_eq, iI_nat, iI_b2_0, iI_b2_1, mm_bI_some, mm_bV_some, mm_bL_some, mm_bA_some, fd_wL, fd_wR, fl_wI, fl_wR, re_wI, re_wL, re_wC, ite_true, ite_false, not_true_eq_false, not_false_eq_true, lq_ge, lq_le, lq_gt, lq_lt, lq_eq, jI_lt, jI_le, jI_eq, if_pos, if_neg, e1, e4, u, zr_0]
    · rw [if_pos ⟨c, c2⟩]
      by_cases c3 : tL b E (tS b E p) ≤ tS b E p + 6
      · rw [if_pos c3]
        refine ⟨fun _ => ?_, fun z => absurd rfl z⟩
        rw [U_X6_isNameHere]
        by_cases c4 : wno b E p gl < 0 <;> simp (disch := omega) only [iI_lit, jI_lit, iI_neg, jI_neg, iI_add, iI_sub, iI_mul, jI_add, jI_sub, jI_mul, rdI, rdL, iI_lt, iI_le, iI_eq, iI_nat, iI_b2_0, iI_b2_1, mm_bI_some, mm_bV_some, mm_bL_some, mm_bA_some, fd_wL, fd_wR, fl_wI, fl_wR, re_wI, re_wL, re_wC, ite_true, ite_false, not_true_eq_false, not_false_eq_true, lq_ge, lq_le, lq_gt, lq_lt, lq_eq, jI_lt, jI_le, jI_eq, if_pos, if_neg, e1, e2, e3, e4]
      · rw [if_neg c3]
        refine ⟨fun z => absurd z (by simp), fun _ => ?_⟩
        rw [U_X6_isNameHere, U_X6_failAt]
        unfold bdH
        by_cases c4 : wno b E p gl < 0 <;> simp (disch := omega) only [iI_lit, jI_lit, iI_neg, jI_neg, iI_add, iI_sub, iI_mul, jI_add, jI_sub, jI_mul, rdI, rdL, iI_lt, iI_le, iI_eq, iI_nat, iI_b2_0, iI_b2_1, mm_bI_some, mm_bV_some, mm_bL_some, mm_bA_some, fd_wL, fd_wR, fl_wI, fl_wR, re_wI, re_wL, re_wC, ite_true, ite_false, not_true_eq_false, not_false_eq_true, lq_ge, lq_le, lq_gt, lq_lt, lq_eq, jI_lt, jI_le, jI_eq, if_pos, if_neg, e1, e2, e3, e4]
set_option maxHeartbeats 8000000 in
/-- letter k of the name that stands here -/
theorem C_letterAt {k : Nat} (S : CS g b E p gl) (h : (nmT b E p gl).1 = 0) (hk : k < 6) : mm_M mm_T0 (d + 2) 86 [.ref 3, .int (iI (k : Nat))] g = some (some (.int (iI ((nmT b E p gl).2.2.getD k 0))), g) := by
  have e2 := S.2.2.2.1
  have e3 := S.2.2.2.2.2.1
  have hE := S.2.1
  have le := tS_le (b := b) (E := E) S.2.2.1
  obtain ⟨n1, n2, n3, n4, n5, n6, n7⟩ := (nmT_b (b := b) (E := E) (p := p) (gl := gl) hE S.2.2.1).2.2.2 h
  have ww := wno_w n1
  have il := isLt_iff.mp ww.1
  have tl := tL_in ww.1
  have ne : ¬ tB b E p = -1 := by omega
  have te : tE b E p = tL b E (tS b E p) := by
    unfold tE
    rw [if_neg ne, if_pos ww.1]
  rw [te] at e3
  rw [n4]
  by_cases c : k < tL b E (tS b E p) - tS b E p
  · rw [lets_get _ _ _ c]
    have y := C_byte (d := d) (f := tS b E p + k) S.1 (by omega) hE
    have e1 : (tS b E p : Int) + (k : Nat) = ((tS b E p + k : Nat) : Int) := by omega
    have tb := (S.1.2 (tS b E p + k) (by omega)).2
    have e5 : b (tS b E p + k) - 97 + 1 = b (tS b E p + k) - 96 := by omega
    rw [U_X6_letterAt]
    simp (disch := omega) only [iI_lit, jI_lit, iI_neg, jI_neg, iI_add, iI_sub, iI_mul, jI_add, jI_sub, jI_mul, rdI, rdL, iI_lt, iI_le, iI_eq, iI_nat, iI_b2_0, iI_b2_1, mm_bI_some, mm_bV_some, mm_bL_some, mm_bA_some, fd_wL, fd_wR, fl_wI, fl_wR, re_wI, re_wL, re_wC, ite_true, ite_false, not_true_eq_false, not_false_eq_true, lq_ge, lq_le, lq_gt, lq_lt, lq_eq, jI_lt, jI_le, jI_eq, if_pos, if_neg, e2, e3, e1, y, e5]
  · have z : (lets b (tS b E p) (tL b E (tS b E p) - tS b E p)).getD k 0 = 0 := by
      rw [List.getD_eq_getElem?_getD, List.getElem?_eq_none (by rw [lets_len]; omega)]
      rfl
    rw [z, U_X6_letterAt]
    simp (disch := omega) only [iI_lit, jI_lit, iI_neg, jI_neg, iI_add, iI_sub, iI_mul, jI_add, jI_sub, jI_mul, rdI, rdL, iI_lt, iI_le, iI_eq, iI_nat, iI_b2_0, iI_b2_1, mm_bI_some, mm_bV_some, mm_bL_some, mm_bA_some, fd_wL, fd_wR, fl_wI, fl_wR, re_wI, re_wL, re_wC, ite_true, ite_false, not_true_eq_false, not_false_eq_true, lq_ge, lq_le, lq_gt, lq_lt, lq_eq, jI_lt, jI_le, jI_eq, if_pos, if_neg, e2, e3]
set_option maxHeartbeats 8000000 in
/-- persons, by name -/
theorem C_letterOf {i k : Nat} {x : Pp} (hu : mm_isT u) (T : CTs g u hm st) (h8 : st.1.length ≤ 8) (hi : st.1[i]? = some x) (hk : k < 6) : mm_M mm_T0 (d + 2) 139 [.ref u, .int (iI (i : Nat)), .int (iI (k : Nat))] g = some (some (.int (iI (x.1.getD k 0))), g) := by
  have il := (List.getElem?_eq_some_iff.mp hi).1
  have e10 := T.1.2.1
  have v := (T.2.1 i x hi).2 k hk
  have ip := S_isPerson (d := d) (h := g) (p := (i : Nat)) (isT_S hu) (by omega) (by omega)
  rw [b2_t (by omega)] at ip
  have e1 : (i : Int) * 6 + (k : Nat) = ((6 * i + k : Nat) : Int) := by omega
  have nn : ((6 * i + k : Nat) : Int).toNat = 6 * i + k := by omega
  rw [U_X10_letterOf hu]
  simp (disch := omega) only [iI_lit, jI_lit, iI_neg, jI_neg, iI_add, iI_sub, iI_mul, jI_add, jI_sub, jI_mul, rdI, rdL, iI_lt, iI_le, iI_eq, iI_nat, iI_b2_0, iI_b2_1, mm_bI_some, mm_bV_some, mm_bL_some, mm_bA_some, fd_wL, fd_wR, fl_wI, fl_wR, re_wI, re_wL, re_wC, ite_true, ite_false, not_true_eq_false, not_false_eq_true, lq_ge, lq_le, lq_gt, lq_lt, lq_eq, jI_lt, jI_le, jI_eq, if_pos, if_neg, ip, e1, nn, v]
set_option maxHeartbeats 8000000 in
theorem C_pn_18 {i : Nat} {x : Pp} (hu : mm_isT u) (T : CTs g u hm st) (h8 : st.1.length ≤ 8) (S : CS g b E p gl) (hn : (nmT b E p gl).1 = 0) (hi : st.1[i]? = some x) : ∀ (k j : Nat) (lk : Bool), j + k = 6 → mm_D (mm_M mm_T0 (d + 2)) cd_X10_personNamed 18 [.ref u, .ref 3, .int (iI (i : Nat)), .int (iI (b2 (lk = true))), .int (iI (j : Nat))] [] g = if lk = true ∧ (∀ z, z < 6 → j ≤ z → x.1.getD z 0 = (nmT b E p gl).2.2.getD z 0) then some (some (.int (iI (i : Nat))), g) else mm_D (mm_M mm_T0 (d + 2)) cd_X10_personNamed 2 [.ref u, .ref 3, .int (iI ((i + 1 : Nat) : Int)), .null, .null] [] g
  | 0, j, lk, hj => by
    have il := (List.getElem?_eq_some_iff.mp hi).1
    have e1 : (i : Int) + 1 = ((i + 1 : Nat) : Int) := by omega
    cases lk with
    | false =>
      rw [b2_f (by simp), if_neg (by simp), U_X10_personNamed_18 hu]
      simp (disch := omega) only [iI_lit, jI_lit, iI_neg, jI_neg, iI_add, iI_sub, iI_mul, jI_add, jI_sub, jI_mul, rdI, rdL, iI_lt, iI_le, iI_eq, iI_nat, iI_b2_0, iI_b2_1, mm_bI_some, mm_bV_some, mm_bL_some, mm_bA_some, fd_wL, fd_wR, fl_wI, fl_wR, re_wI, re_wL, re_wC, ite_true, ite_false, not_true_eq_false, not_false_eq_true, lq_ge, lq_le, lq_gt, lq_lt, lq_eq, jI_lt, jI_le, jI_eq, if_pos, if_neg, e1]
    | true =>
      rw [b2_t rfl, if_pos ⟨rfl, fun z h1 h2 => by omega⟩, U_X10_personNamed_18 hu]
      simp (disch := omega) only [iI_lit, jI_lit, iI_neg, jI_neg, iI_add, iI_sub, iI_mul, jI_add, jI_sub, jI_mul, rdI, rdL, iI_lt, iI_le, iI_eq, iI_nat, iI_b2_0, iI_b2_1, mm_bI_some, mm_bV_some, mm_bL_some, mm_bA_some, fd_wL, fd_wR, fl_wI, fl_wR, re_wI, re_wL, re_wC, ite_true, ite_false, not_true_eq_false, not_false_eq_true, lq_ge, lq_le, lq_gt, lq_lt, lq_eq, jI_lt, jI_le, jI_eq, if_pos, if_neg]
  | k + 1, j, lk, hj => by
    have il := (List.getElem?_eq_some_iff.mp hi).1
    have e2 : (j : Int) + 1 = ((j + 1 : Nat) : Int) := by omega
    cases lk with
    | false =>
      have nx := C_pn_18 hu T h8 S hn hi k (j + 1) false (by omega)
      rw [b2_f (by simp), if_neg (by simp)] at nx
      rw [b2_f (by simp), if_neg (by simp), ← nx, U_X10_personNamed_18 hu]
      simp (disch := omega) only [iI_lit, jI_lit, iI_neg, jI_neg, iI_add, iI_sub, iI_mul, jI_add, jI_sub, jI_mul, rdI, rdL, iI_lt, iI_le, iI_eq, iI_nat, iI_b2_0, iI_b2_1, mm_bI_some, mm_bV_some, mm_bL_some, mm_bA_some, fd_wL, fd_wR, fl_wI, fl_wR, re_wI, re_wL, re_wC, ite_true, ite_false, not_true_eq_false, not_false_eq_true, lq_ge, lq_le, lq_gt, lq_lt, lq_eq, jI_lt, jI_le, jI_eq, if_pos, if_neg, e2]
    | true =>
      have a1 := C_letterOf (d := d) (k := j) hu T h8 hi (by omega)
      have a2 := C_letterAt (d := d) (k := j) S hn (by omega)
      have b1 : -2147483648 ≤ x.1.getD j 0 ∧ x.1.getD j 0 < 2147483648 := by
        rw [← (T.2.1 i x hi).2 j (by omega)]
        exact ⟨fd_lo _ _ _, fd_hi _ _ _⟩
      have n7 := ((nmT_b (b := b) (E := E) (p := p) (gl := gl) S.2.1 S.2.2.1).2.2.2 hn).2.2.2.2.2.2
      have b2' : -2147483648 ≤ (nmT b E p gl).2.2.getD j 0 ∧ (nmT b E p gl).2.2.getD j 0 < 2147483648 := by
        by_cases c : j < (nmT b E p gl).2.2.length
        · rw [List.getD_eq_getElem?_getD, List.getElem?_eq_getElem c]
          have := n7 _ (List.getElem_mem c)
          show -2147483648 ≤ (nmT b E p gl).2.2[j] ∧ (nmT b E p gl).2.2[j] < 2147483648
          omega
        · rw [List.getD_eq_getElem?_getD, List.getElem?_eq_none (by omega)]
          exact ⟨by decide, by decide⟩
      rw [b2_t rfl]
      by_cases c : x.1.getD j 0 = (nmT b E p gl).2.2.getD j 0
      · have nx := C_pn_18 hu T h8 S hn hi k (j + 1) true (by omega)
        rw [b2_t rfl] at nx
        have ee : (true = true ∧ (∀ z, z < 6 → j ≤ z → x.1.getD z 0 = (nmT b E p gl).2.2.getD z 0)) ↔ (true = true ∧ (∀ z, z < 6 → j + 1 ≤ z → x.1.getD z 0 = (nmT b E p gl).2.2.getD z 0)) := by
          constructor
          · intro h
            exact ⟨rfl, fun z h1 h2 => h.2 z h1 (by omega)⟩
          · intro h
            refine ⟨rfl, fun z h1 h2 => ?_⟩
            by_cases cz : z = j
            · rw [cz]; exact c
            · exact h.2 z h1 (by omega)
        by_cases y : true = true ∧ (∀ z, z < 6 → j + 1 ≤ z → x.1.getD z 0 = (nmT b E p gl).2.2.getD z 0)
        · rw [if_pos y] at nx
          rw [if_pos (ee.mpr y), ← nx, U_X10_personNamed_18 hu]
          simp (disch := omega) only [iI_lit, jI_lit, iI_neg, jI_neg, iI_add, iI_sub, iI_mul, jI_add, jI_sub, jI_mul, rdI, rdL, iI_lt, iI_le, iI_eq, iI_nat, iI_b2_0, iI_b2_1, mm_bI_some, mm_bV_some, mm_bL_some, mm_bA_some, fd_wL, fd_wR, fl_wI, fl_wR, re_wI, re_wL, re_wC, ite_true, ite_false, not_true_eq_false, not_false_eq_true, lq_ge, lq_le, lq_gt, lq_lt, lq_eq, jI_lt, jI_le, jI_eq, if_pos, if_neg, a1, a2, c, e2]
        · rw [if_neg y] at nx
          rw [if_neg (fun q => y (ee.mp q)), ← nx, U_X10_personNamed_18 hu]
          simp (disch := omega) only [iI_lit, jI_lit, iI_neg, jI_neg, iI_add, iI_sub, iI_mul, jI_add, jI_sub, jI_mul, rdI, rdL, iI_lt, iI_le, iI_eq, iI_nat, iI_b2_0, iI_b2_1, mm_bI_some, mm_bV_some, mm_bL_some, mm_bA_some, fd_wL, fd_wR, fl_wI, fl_wR, re_wI, re_wL, re_wC, ite_true, ite_false, not_true_eq_false, not_false_eq_true, lq_ge, lq_le, lq_gt, lq_lt, lq_eq, jI_lt, jI_le, jI_eq, if_pos, if_neg, a1, a2, c, e2]
      · have nx := C_pn_18 hu T h8 S hn hi k (j + 1) false (by omega)
        rw [b2_f (by simp), if_neg (by simp)] at nx
        rw [if_neg (fun q => c (q.2 j (by omega) (Nat.le_refl _))), ← nx, U_X10_personNamed_18 hu]
        simp (disch := omega) only [iI_lit, jI_lit, iI_neg, jI_neg, iI_add, iI_sub, iI_mul, jI_add, jI_sub, jI_mul, rdI, rdL, iI_lt, iI_le, iI_eq, iI_nat, iI_b2_0, iI_b2_1, mm_bI_some, mm_bV_some, mm_bL_some, mm_bA_some, fd_wL, fd_wR, fl_wI, fl_wR, re_wI, re_wL, re_wC, ite_true, ite_false, not_true_eq_false, not_false_eq_true, lq_ge, lq_le, lq_gt, lq_lt, lq_eq, jI_lt, jI_le, jI_eq, if_pos, if_neg, a1, a2, e2]
set_option maxHeartbeats 8000000 in
theorem C_pn_2 (hu : mm_isT u) (T : CTs g u hm st) (O : st.1.length ≤ 8 ∧ ∀ x ∈ st.1, x.1.length ≤ 6 ∧ ∀ y ∈ x.1, 1 ≤ y ∧ y ≤ 26) (S : CS g b E p gl) (hn : (nmT b E p gl).1 = 0) : ∀ (r : List Pp) (i : Nat), i + r.length = st.1.length → (∀ j, r[j]? = st.1[i + j]?) → mm_D (mm_M mm_T0 (d + 2)) cd_X10_personNamed 2 [.ref u, .ref 3, .int (iI (i : Nat)), .null, .null] [] g = some (some (.int (iI (idxF (nmT b E p gl).2.2 r i))), g)
  | [], i, hi, hr => by
    have e10 := T.1.2.1
    rw [List.length_nil] at hi
    have hi' : st.1.length = i := by omega
    rw [hi'] at e10
    have h8 := O.1
    rw [idxF, U_X10_personNamed_2 hu]
    simp (disch := omega) only [iI_lit, jI_lit, iI_neg, jI_neg, iI_add, iI_sub, iI_mul, jI_add, jI_sub, jI_mul, rdI, rdL, iI_lt, iI_le, iI_eq, iI_nat, iI_b2_0, iI_b2_1, mm_bI_some, mm_bV_some, mm_bL_some, mm_bA_some, fd_wL, fd_wR, fl_wI, fl_wR, re_wI, re_wL, re_wC, ite_true, ite_false, not_true_eq_false, not_false_eq_true, lq_ge, lq_le, lq_gt, lq_lt, lq_eq, jI_lt, jI_le, jI_eq, if_pos, if_neg, e10]
  | x :: r, i, hi, hr => by
    have e10 := T.1.2.1
    have h8 := O.1
    rw [List.length_cons] at hi
    have hx : st.1[i]? = some x := by
      have := hr 0
      rw [Nat.add_zero] at this
      rw [← this]
      rfl
    have mem : x ∈ st.1 := List.mem_of_getElem? hx
    have n7 := (nmT_b (b := b) (E := E) (p := p) (gl := gl) S.2.1 S.2.2.1).2.2.2 hn
    have a := C_pn_18 (d := d) hu T h8 S hn hx 6 0 true (by omega)
    rw [b2_t rfl, show ((0 : Nat) : Int) = 0 from rfl] at a
    have nx := C_pn_2 hu T O S hn r (i + 1) (by omega) (fun j => by
      have := hr (j + 1)
      rw [show i + 1 + j = i + (j + 1) by omega, ← this]
      rfl)
    rw [idxF]
    have st1 : mm_D (mm_M mm_T0 (d + 2)) cd_X10_personNamed 2 [.ref u, .ref 3, .int (iI (i : Nat)), .null, .null] [] g = mm_D (mm_M mm_T0 (d + 2)) cd_X10_personNamed 18 [.ref u, .ref 3, .int (iI (i : Nat)), .int (iI 1), .int (iI 0)] [] g := by
      rw [U_X10_personNamed_2 hu]
      simp (disch := omega) only [iI_lit, jI_lit, iI_neg, jI_neg, iI_add, iI_sub, iI_mul, jI_add, jI_sub, jI_mul, rdI, rdL, iI_lt, iI_le, iI_eq, iI_nat, iI_b2_0, iI_b2_1, mm_bI_some, mm_bV_some, mm_bL_some, mm_bA_some, fd_wL, fd_wR, fl_wI, fl_wR, re_wI, re_wL, re_wC, ite_true, ite_false, not_true_eq_false, not_false_eq_true, lq_ge, lq_le, lq_gt, lq_lt, lq_eq, jI_lt, jI_le, jI_eq, if_pos, if_neg, e10]
    rw [st1, a]
    by_cases c : x.1 = (nmT b E p gl).2.2
    · rw [if_pos c, if_pos ⟨rfl, fun z _ _ => by rw [c]⟩]
    · rw [if_neg c, if_neg (fun q => c (nm_ext (O.2 x mem) ⟨n7.2.2.2.2.2.1, n7.2.2.2.2.2.2⟩ (fun k hk => q.2 k hk (by omega)))), nx]
      rw [show ((i + 1 : Nat) : Int) = (i : Int) + 1 by omega]
set_option maxHeartbeats 8000000 in
theorem C_pn (hu : mm_isT u) (T : CTs g u hm st) (O : st.1.length ≤ 8 ∧ ∀ x ∈ st.1, x.1.length ≤ 6 ∧ ∀ y ∈ x.1, 1 ≤ y ∧ y ≤ 26) (S : CS g b E p gl) (hn : (nmT b E p gl).1 = 0) : mm_M mm_T0 (d + 3) 138 [.ref u, .ref 3] g = some (some (.int (iI (idxF (nmT b E p gl).2.2 st.1 0))), g) := by
  have a := C_pn_2 (d := d) hu T O S hn st.1 0 (by omega) (fun j => by rw [Nat.zero_add])
  rw [show ((0 : Nat) : Int) = 0 from rfl] at a
  rw [U_X10_personNamed hu, ← a]
  rfl
end CST
