section RL0
variable {d : Nat} {x : Int32} {g : mm_H} {b : Nat → Int} {E p : Nat} {gl : Bool} {w : Int} {T U C : List Int} {o : Nat}
theorem RRes0_kf {g0 : mm_H} {r : RR} (e : ME d x g0 = ME d x g) (k : Kf QQ nL g0 g) (h : RRes0 b E w d x g T U C o r) : RRes0 b E w d x g0 T U C o r := by
  cases r with
  | inl f =>
    show BadO x g0 (ME d x g0) f
    rw [e]
    exact BadO.of h k
  | inr y =>
    obtain ⟨g', a1, a2, a3⟩ := h
    exact ⟨g', e.trans a1, a2, k.trans a3⟩
set_option maxHeartbeats 8000000 in
theorem R_l0 {n : Nat} (hE : E ≤ 1600) (w0 : 0 ≤ w) (w3 : w ≤ 3) (h0 : Rl0 b E w n) (h1 : Rl1 b E w n) : Rl0 b E w (n + 1) := by
  intro o p gl d x g T U C wt c ho hn S
  have l := S.len
  have ge := tS_ge (b := b) (E := E) (p := p)
  have hof := S.2.2.2.2
  rw [rd_0]
  unfold fPart
  by_cases c1 : isDg (tB b E p) = true ∧ tG b E p gl = false
  · rw [if_pos c1]
    have i := isDg_iff.mp c1.1
    have wn : wno b E p gl = -2 := wno_n (fun z => by have := isLt_iff.mp z.1; omega)
    have vn : valN w (wno b E p gl) = -1 := by
      by_cases z : valN w (wno b E p gl) = -1
      · exact z
      · have := valN_no z
        omega
    have nm := ME_num (d := d) (x := x) w0 w3 S (by omega) (by omega) (by omega) (by omega)
    by_cases c2 : (numT b E 0 9999 p gl).1 = 0
    · rw [if_pos c2]
      exact nm.1 c2
    · rw [if_neg c2]
      exact nm.2 c2
  · rw [if_neg c1]
    by_cases c2 : tB b E p = 40
    · rw [if_pos c2]
      have lt := tB_in c2 (by decide)
      have op := ME_open (d := d) (x := x) w0 w3 S ho c2
      by_cases o6 : o < 6
      · rw [if_pos o6]
        obtain ⟨g1, a1, S1, k1⟩ := op.1 o6
        refine RRes0_kf a1 k1 ?_
        have ih := h1 (o + 1) (tS b E p + 1) false d x g1 (20 :: T) U C 0 [] (by omega) (by omega) (tOK_c (by omega)) S1
        revert ih
        cases rd b E w n 1 (o + 1) (tS b E p + 1) false 0 [] with
        | inl f =>
          intro ih
          exact ih
        | inr y =>
          intro ih
          obtain ⟨g2, P, C', b1, S2, b3, b4, b5, b6, k2⟩ := ih
          show RRes0 b E w d x g1 T U C o (if tB b E y.1 = 41 then _ else _)
          by_cases c3 : tB b E y.1 = 41
          · rw [if_pos c3]
            obtain ⟨g3, d1, S3, k3⟩ := MO_close (d := d) (x := x) S2 c3 b3 (Or.inl rfl) o6 hof
            rw [show brC 20 = [] from rfl, List.append_nil, b4] at S3
            exact ⟨g3, b1.trans d1, S3, k2.trans k3⟩
          · rw [if_neg c3]
            have bd := MO_clbad (d := d) (x := x) S2 b5 b6 c3 b3 (Or.inl rfl)
            show BadO x g1 (ME d x g1) _
            rw [b1]
            exact BadO.of bd k2
      · rw [if_neg o6]
        exact op.2 o6
    · rw [if_neg c2]
      by_cases c3 : 0 ≤ valN w (wno b E p gl) ∧ valN w (wno b E p gl) ≤ 10 ∧ okW w (valN w (wno b E p gl)) = true
      · rw [if_pos c3]
        exact ME_part (d := d) (x := x) w0 w3 S c3
      · rw [if_neg c3]
        by_cases c4 : wno b E p gl = 23 ∨ wno b E p gl = 24
        · rw [if_pos c4]
          have ww := wno_w (b := b) (E := E) (p := p) (gl := gl) (by omega)
          have tl := tL_in ww.1
          have pr := ME_pair (d := d) (x := x) w0 w3 S ho c4
          have hv : ∃ v : Int, (if wno b E p gl = 23 then (21 : Int) else 22) = v ∧ (v = 21 ∨ v = 22) ∧ [if wno b E p gl = 23 then (5 : Int) else 6] = brC (v + 2) := by
            by_cases z : wno b E p gl = 23
            · rw [if_pos z, if_pos z]
              exact ⟨21, rfl, Or.inl rfl, rfl⟩
            · rw [if_neg z, if_neg z]
              exact ⟨22, rfl, Or.inr rfl, rfl⟩
          obtain ⟨v, v1, v2, v3⟩ := hv
          rw [v1] at pr
          rw [v3]
          generalize tL b E (tS b E p) = r at *
          have ger := tS_ge (b := b) (E := E) (p := r)
          unfold fSign
          by_cases c5 : tB b E r = 40
          · rw [if_pos c5]
            have lt := tB_in c5 (by decide)
            by_cases o6 : o < 6
            · rw [if_pos o6]
              obtain ⟨g1, a1, S1, k1⟩ := pr.1 c5 o6
              refine RRes0_kf a1 k1 ?_
              have ih := h1 (o + 1) (tS b E r + 1) false d x g1 (v :: T) U C 0 [] (by omega) (by omega) (tOK_c (by omega)) S1
              have ok := (Ok_all (b := b) (w := w) hE n).2.1 (o + 1) (tS b E r + 1) false 0 [] (by omega) (by omega)
              revert ih ok
              cases rd b E w n 1 (o + 1) (tS b E r + 1) false 0 [] with
              | inl f =>
                intro ih ok
                exact ih
              | inr y =>
                intro ih ok
                obtain ⟨g2, P, C', b1, S2, b3, b4, b5, b6, k2⟩ := ih
                have o1 : tS b E r + 1 + 1 ≤ y.1 := ok.1
                have o2 : y.1 ≤ E := ok.2.1
                have gey := tS_ge (b := b) (E := E) (p := y.1)
                show RRes0 b E w d x g1 T U C o (if tB b E y.1 = 44 then _ else _)
                by_cases c6 : tB b E y.1 = 44
                · rw [if_pos c6]
                  have lt2 := tB_in c6 (by decide)
                  obtain ⟨g3, d1, S3, k3⟩ := MO_comma (d := d) (x := x) S2 c6 b3 v2 (by omega)
                  rw [b4] at S3
                  refine RRes0_kf (b1.trans d1) (k2.trans k3) ?_
                  have ih2 := h1 (o + 1) (tS b E y.1 + 1) false d x g3 ((v + 2) :: T) U (C ++ y.2.2) 0 [] (by omega) (by omega) (tOK_c (by omega)) S3
                  revert ih2
                  cases rd b E w n 1 (o + 1) (tS b E y.1 + 1) false 0 [] with
                  | inl f =>
                    intro ih2
                    exact ih2
                  | inr z =>
                    intro ih2
                    obtain ⟨g4, P2, C2, e1, S4, e3, e4, e5, e6, k4⟩ := ih2
                    show RRes0 b E w d x g3 T U C o (if tB b E z.1 = 41 then _ else _)
                    by_cases c7 : tB b E z.1 = 41
                    · rw [if_pos c7]
                      obtain ⟨g5, f1, S5, k5⟩ := MO_close (d := d) (x := x) S4 c7 e3 (by omega) o6 hof
                      rw [e4, List.append_assoc, List.append_assoc, ← List.append_assoc y.2.2] at S5
                      exact ⟨g5, e1.trans f1, S5, k4.trans k5⟩
                    · rw [if_neg c7]
                      have bd := MO_clbad (d := d) (x := x) S4 e5 e6 c7 e3 (by omega)
                      show BadO x g3 (ME d x g3) _
                      rw [e1]
                      exact BadO.of bd k4
                · rw [if_neg c6]
                  have bd := MO_combad (d := d) (x := x) S2 b5 b6 c6 b3 v2
                  show BadO x g1 (ME d x g1) _
                  rw [b1]
                  exact BadO.of bd k2
            · rw [if_neg o6]
              exact pr.2.1 c5 o6
          · rw [if_neg c5]
            exact pr.2.2 c5
        · rw [if_neg c4]
          by_cases c5 : valN w (wno b E p gl) = 11 ∨ valN w (wno b E p gl) = 12
          · rw [if_pos c5]
            have wn := valN_no (w := w) (v := wno b E p gl) (by omega)
            have ww := wno_w (b := b) (E := E) (p := p) (gl := gl) (by omega)
            have tl := tL_in ww.1
            have of := ME_of (d := d) (x := x) w0 w3 S ho c5
            by_cases o6 : o < 6
            · rw [if_pos o6]
              obtain ⟨g1, a1, S1, k1⟩ := of.1 o6
              refine RRes0_kf a1 k1 ?_
              have ih := h0 (o + 1) (tL b E (tS b E p)) true d x g1 ((49 + valN w (wno b E p gl)) :: T) U C 0 [] (by omega) (by omega) S1
              revert ih
              cases rd b E w n 0 (o + 1) (tL b E (tS b E p)) true 0 [] with
              | inl f =>
                intro ih
                exact ih
              | inr y =>
                intro ih
                obtain ⟨g2, b1, S2, k2⟩ := ih
                obtain ⟨g3, d1, S3, k3⟩ := MF_on (d := d) (x := x) S2 (by omega) hof
                rw [List.append_assoc] at S3
                exact ⟨g3, b1.trans d1, S3, k2.trans k3⟩
            · rw [if_neg o6]
              exact of.2 o6
          · rw [if_neg c5]
            have nm := (ME_num (d := d) (x := x) w0 w3 S c2 c4 c5 c3).2
            have nt : numT b E 0 9999 p gl = (1, (tS b E p : Int), 0) := by
              unfold numT
              rw [if_neg c1]
            rw [nt] at nm
            exact nm (by simp)
theorem Rl_all (hE : E ≤ 1600) (w0 : 0 ≤ w) (w3 : w ≤ 3) : ∀ n, Rl0 b E w n ∧ Rl1 b E w n ∧ Rl2 b E w n
  | 0 => ⟨fun _ _ _ _ _ _ _ _ _ _ _ _ h => by omega, fun _ _ _ _ _ _ _ _ _ _ _ _ h => by omega, fun _ _ _ _ _ _ _ _ _ _ _ _ _ _ h => by omega⟩
  | n + 1 => by
    obtain ⟨h0, h1, h2⟩ := Rl_all hE w0 w3 n
    exact ⟨R_l0 hE w0 w3 h0 h1, R_l1 hE h0 h2, R_l2 hE h0 h2⟩
/-- what is left of a state when its base is laid down, and back -/
theorem ST.base (S : ST g b E p gl w T [] C o) : ST (wI g 264 106 (iI (T.length : Nat))) b E p gl w [] T C o ∧ Kf QQ nL g (wI g 264 106 (iI (T.length : Nat))) := by
  have l := S.len
  rw [List.append_nil] at l
  have z : ∀ a j, ¬ (a = 264 ∧ j = 106) → fd (wI g 264 106 (iI (T.length : Nat))) a j = fd g a j := fun a j h => by
    rw [fd_wI, if_neg h]
  have K : Kf (fun a j => a = 264 ∧ j = 106) nL g (wI g 264 106 (iI (T.length : Nat))) := Kf.refl.wI ⟨rfl, rfl⟩
  have Q := S.2.1
  rw [Qst, List.append_nil] at Q
  refine ⟨⟨?_, ⟨⟨?_, ?_⟩, ⟨(z 264 102 (by omega)).trans Q.2.1.1, fun i v h => (z _ _ (by omega)).trans (Q.2.1.2 i v h)⟩, (z 264 105 (by omega)).trans Q.2.2.1, fd_wI_same (by omega) (by omega)⟩, (z 264 54 (by omega)).trans S.2.2.1, by rw [List.nil_append]; omega, Nat.zero_le _⟩, K.monoQ (fun a j h => by unfold QQ; omega)⟩
  · obtain ⟨Tx, hp, h5, ha, hg, h6⟩ := S.1
    refine ⟨Tx.kf K (by intro a j; omega), hp, (z 264 5 (by omega)).trans h5, ?_, ?_, (z 264 6 (by omega)).trans h6⟩
    · rw [z 264 2 (by omega)]; exact ha
    · rw [z 264 4 (by omega)]; exact hg
  · rw [List.nil_append]
    exact (z 264 104 (by omega)).trans Q.1.1
  · rw [List.nil_append]
    exact Q.1.2.congr (fun j _ => z _ _ (by omega))
theorem ST.unbase (S : ST g b E p gl w [] T C o) (hof : nOf T ≤ o) : ST (wI g 264 106 (iI 0)) b E p gl w T [] C o ∧ Kf QQ nL g (wI g 264 106 (iI 0)) := by
  have l := S.len
  rw [List.nil_append] at l
  have z : ∀ a j, ¬ (a = 264 ∧ j = 106) → fd (wI g 264 106 (iI 0)) a j = fd g a j := fun a j h => by
    rw [fd_wI, if_neg h]
  have K : Kf (fun a j => a = 264 ∧ j = 106) nL g (wI g 264 106 (iI 0)) := Kf.refl.wI ⟨rfl, rfl⟩
  have Q := S.2.1
  rw [Qst, List.nil_append] at Q
  refine ⟨⟨?_, ⟨⟨?_, ?_⟩, ⟨(z 264 102 (by omega)).trans Q.2.1.1, fun i v h => (z _ _ (by omega)).trans (Q.2.1.2 i v h)⟩, (z 264 105 (by omega)).trans Q.2.2.1, fd_wI_same (by omega) (by omega)⟩, (z 264 54 (by omega)).trans S.2.2.1, by rw [List.append_nil]; omega, hof⟩, K.monoQ (fun a j h => by unfold QQ; omega)⟩
  · obtain ⟨Tx, hp, h5, ha, hg, h6⟩ := S.1
    refine ⟨Tx.kf K (by intro a j; omega), hp, (z 264 5 (by omega)).trans h5, ?_, ?_, (z 264 6 (by omega)).trans h6⟩
    · rw [z 264 2 (by omega)]; exact ha
    · rw [z 264 4 (by omega)]; exact hg
  · rw [List.append_nil]
    exact (z 264 104 (by omega)).trans Q.1.1
  · rw [List.append_nil]
    exact Q.1.2.congr (fun j _ => z _ _ (by omega))
set_option maxHeartbeats 8000000 in
/-- a whole sum -/
theorem R_sums {n : Nat} (w0 : 0 ≤ w) (w3 : w ≤ 3) (S : ST g b E p gl w T [] C o) (ho : o ≤ 6) (hn : 4 * (E - p) + 2 ≤ n) (hT : ∀ y, T.head? = some y → 4 < y ∧ y < 60) {wt : Int} {c : List Int} : match rd b E w n 1 o p gl wt c with
    | .inl f => ∃ g', mm_M mm_T0 (d + 7) 298 [.ref 264] g = some (none, g') ∧ (Bad g' f.1 f.2 ∧ 0 ≤ fd g' 264 102 ∧ fd g' 264 102 ≤ 1650) ∧ Kf QQ nL g g'
    | .inr y => ∃ g', mm_M mm_T0 (d + 7) 298 [.ref 264] g = some (none, g') ∧ ST g' b E y.1 y.2.1 w T [] (C ++ y.2.2) o ∧ Kf QQ nL g g' := by
  have l := S.len
  have h5 := S.1.2.2.1
  have e4 := S.2.1.1.1
  have e6 := S.2.1.2.2.2
  rw [List.append_nil] at e4
  rw [show (([] : List Int).length : Nat) = 0 from rfl] at e6
  have e6' : fd g 264 106 = 0 := e6
  obtain ⟨S1, k1⟩ := S.base
  have st : mm_M mm_T0 (d + 7) 298 [.ref 264] g = ME d (iI 0) (wI g 264 106 (iI (T.length : Nat))) := by
    rw [← R_loop1 S1.1.2.2.1, U_X12_qSums]
    unfold sQS
    simp (disch := omega) only [iI_lit, jI_lit, iI_neg, jI_neg, iI_add, iI_sub, iI_mul, jI_add, jI_sub, jI_mul, rdI, rdL, iI_lt, iI_le, iI_eq, iI_nat, iI_b2_0, iI_b2_1, mm_bI_some, mm_bV_some, mm_bL_some, mm_bA_some, fd_wL, fd_wR, fl_wI, fl_wR, re_wI, re_wL, re_wC, ite_true, ite_false, not_true_eq_false, not_false_eq_true, lq_ge, lq_le, lq_gt, lq_lt, lq_eq, jI_lt, jI_le, jI_eq, if_pos, if_neg, e4, e6']
  have r := (Rl_all (b := b) (E := E) (w := w) l.2.2 w0 w3 n).2.1 o p gl d (iI 0) _ [] T C wt c ho hn (by intro y hy; exact hT y hy) S1
  rw [st]
  revert r
  cases rd b E w n 1 o p gl wt c with
  | inl f =>
    intro r
    obtain ⟨g2, a1, a2, a3⟩ := r
    refine ⟨_, a1, ⟨a2.1.kf (Q := fun a j => a = 264 ∧ j = 106) (L := nL) (Kf.refl.wI ⟨rfl, rfl⟩) (by omega) (by omega), by rw [fd_wI_col (by omega)]; exact a2.2.1, by rw [fd_wI_col (by omega)]; exact a2.2.2⟩, k1.trans (a3.trans (Kf.refl.wI (by unfold QQ; omega)))⟩
  | inr y =>
    intro r
    obtain ⟨g2, P, C', a1, S2, a3, a4, a5, a6, k2⟩ := r
    rw [List.append_nil] at S2
    obtain ⟨g3, b1, S3, k3⟩ := MO_end (d := d) (x := iI 0) S2 a5 a6 a3
    rw [a4] at S3
    obtain ⟨S4, k4⟩ := S3.unbase S.2.2.2.2
    exact ⟨_, a1.trans b1, S4, k1.trans (k2.trans (k3.trans k4))⟩
end RL0
