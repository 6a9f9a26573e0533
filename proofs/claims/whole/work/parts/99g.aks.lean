/-! a question, read: the reference -/
/-- behind the reading: the faults are told, then the people are gone through -/
noncomputable def kA (d : Nat) (v : Int32) (h : mm_H) : mm_X := if ((wI (wI h 264 7 (h.1 264 5)) 264 8 ((wI h 264 7 (h.1 264 5)).1 264 6)).1 264 5) = 0 then (if 2 ≤ v then (mm_D (mm_M mm_T0 d) cd_X12_ask 188 [.ref 264, .int v, .int 0] [] (wI (wI (wL (wI (wI h 264 7 (h.1 264 5)) 264 8 ((wI h 264 7 (h.1 264 5)).1 264 6)) 264 109 0) 264 110 1) 264 54 3)) else (mm_D (mm_M mm_T0 d) cd_X12_ask 188 [.ref 264, .int v, .int 0] [] (wI (wI (wL (wI (wI h 264 7 (h.1 264 5)) 264 8 ((wI h 264 7 (h.1 264 5)).1 264 6)) 264 109 (-1)) 264 110 1) 264 54 3))) else (some (some (.long (-1000000000000000)), wI (wI h 264 7 (h.1 264 5)) 264 8 ((wI h 264 7 (h.1 264 5)).1 264 6)))
def QAz : Nat → Nat → Prop := fun a k => QQ a k ∨ (a = 264 ∧ ((1 ≤ k ∧ k ≤ 6) ∨ k = 54))
def RAk (d : Nat) (g : mm_H) (X : mm_X) (r : Sum (Int × Int) (Int × List Int)) : Prop := match r with
  | .inl f => ∃ v g', X = kA d v g' ∧ Bad g' f.1 f.2 ∧ f.1 ≠ 0 ∧ fd g' 264 1 = 0 ∧ Kf QAz nL g g'
  | .inr y => ∃ g', X = kA d (iI y.1) g' ∧ (fd g' 264 5 = 0 ∧ fd g' 264 6 = -1) ∧ ((0 ≤ y.1 ∧ y.1 ≤ 5) ∧ y.2.length ≤ 1600 ∧ tyL (alw 3) y.2 [] = some [decide (y.1 ≤ 2)]) ∧ (fd g' 264 102 = (y.2.length : Nat) ∧ ∀ i v, y.2[i]? = some v → fd g' 332 i = v) ∧ fd g' 264 1 = 0 ∧ Kf QAz nL g g'
section AKS
variable {d : Nat} {g : mm_H} {b : Nat → Int} {E p : Nat} {gl : Bool}
theorem kzA {g' : mm_H} (k : Kf QQ nL g g') : Kf QAz nL g g' := k.monoQ (fun a j q => Or.inl q)
theorem n1_a : ¬ QQ 264 1 := by
  unfold QQ
  omega
set_option maxHeartbeats 8000000 in
theorem R_ask0 (e53 : fd g 264 53 ≠ 0) (hE : E ≤ 1600) (e1 : fd g 264 1 = (E : Int)) (Tp : TpR g b E) (K : IvK g) : ∃ g0, (mm_M mm_T0 (d + 1) 313 [.ref 264] g = mm_bI (mm_M mm_T0 d 311 [.ref 264] g0) (fun v2 h1 => if ¬ (h1.1 264 5) = 0 then kA d v2 h1 else (if 3 ≤ v2 then (mm_bV (mm_M mm_T0 d 298 [.ref 264] h1) (fun h13 => if ¬ (h13.1 264 5) = 0 then kA d v2 h13 else (mm_bI (mm_M mm_T0 d 194 [.ref 264] h13) (fun v15 h14 => if v15 = (-1) then kA d v2 h14 else (mm_bV (mm_M mm_T0 d 191 [.ref 264, .int 1, .int (h14.1 264 2)] h14) (fun h16 => kA d v2 h16)))))) else (mm_bV (mm_M mm_T0 d 302 [.ref 264] h1) (fun h13 => if ¬ (h13.1 264 5) = 0 then kA d v2 h13 else (mm_bI (mm_M mm_T0 d 194 [.ref 264] h13) (fun v15 h14 => if v15 = (-1) then kA d v2 h14 else (mm_bV (mm_M mm_T0 d 191 [.ref 264, .int 1, .int (h14.1 264 2)] h14) (fun h16 => kA d v2 h16)))))))) ) ∧ RS g0 b E 0 false ∧ (fd g0 264 54 = 3 ∧ fd g0 264 102 = 0 ∧ fd g0 264 104 = 0 ∧ fd g0 264 105 = 0 ∧ fd g0 264 106 = 0) ∧ fd g0 264 1 = 0 ∧ Kf QAz nL g g0 := by
  have nz : ¬ g.1 264 53 = 0 := by
    rw [rdI, i0]
    have := fd_lo g 264 53
    have := fd_hi g 264 53
    rw [iI_eq (by omega) (by omega) (by omega) (by omega)]
    exact e53
  generalize hG : wI (wI (wI (wI (wI (wI (wI (wI (wI (wI (wI g 264 3 (iI (E : Int))) 264 1 (iI 0)) 264 2 (iI 0)) 264 4 (iI (-1))) 264 5 (iI 0)) 264 6 (iI (-1))) 264 54 (iI 3)) 264 102 (iI 0)) 264 104 (iI 0)) 264 105 (iI 0)) 264 106 (iI 0) = g0
  have k0 : Kf (fun a k => a = 264 ∧ ((1 ≤ k ∧ k ≤ 6) ∨ k = 54 ∨ k = 102 ∨ k = 104 ∨ k = 105 ∨ k = 106)) nL g g0 := by
    rw [← hG]
    exact ((((((((((Kf.refl.wI (by omega)).wI (by omega)).wI (by omega)).wI (by omega)).wI (by omega)).wI (by omega)).wI (by omega)).wI (by omega)).wI (by omega)).wI (by omega)).wI (by omega)
  have f106 : fd g0 264 106 = 0 := by rw [← hG]; exact fd_wI_same (by omega) (by omega)
  have f105 : fd g0 264 105 = 0 := by rw [← hG, fd_wI_col (by omega)]; exact fd_wI_same (by omega) (by omega)
  have f104 : fd g0 264 104 = 0 := by rw [← hG, fd_wI_col (by omega), fd_wI_col (by omega)]; exact fd_wI_same (by omega) (by omega)
  have f102 : fd g0 264 102 = 0 := by rw [← hG, fd_wI_col (by omega), fd_wI_col (by omega), fd_wI_col (by omega)]; exact fd_wI_same (by omega) (by omega)
  have f54 : fd g0 264 54 = 3 := by rw [← hG, fd_wI_col (by omega), fd_wI_col (by omega), fd_wI_col (by omega), fd_wI_col (by omega)]; exact fd_wI_same (by omega) (by omega)
  have f6 : fd g0 264 6 = -1 := by rw [← hG, fd_wI_col (by omega), fd_wI_col (by omega), fd_wI_col (by omega), fd_wI_col (by omega), fd_wI_col (by omega)]; exact fd_wI_same (by omega) (by omega)
  have f5 : fd g0 264 5 = 0 := by rw [← hG, fd_wI_col (by omega), fd_wI_col (by omega), fd_wI_col (by omega), fd_wI_col (by omega), fd_wI_col (by omega), fd_wI_col (by omega)]; exact fd_wI_same (by omega) (by omega)
  have f4 : fd g0 264 4 = -1 := by rw [← hG, fd_wI_col (by omega), fd_wI_col (by omega), fd_wI_col (by omega), fd_wI_col (by omega), fd_wI_col (by omega), fd_wI_col (by omega), fd_wI_col (by omega)]; exact fd_wI_same (by omega) (by omega)
  have f2 : fd g0 264 2 = 0 := by rw [← hG, fd_wI_col (by omega), fd_wI_col (by omega), fd_wI_col (by omega), fd_wI_col (by omega), fd_wI_col (by omega), fd_wI_col (by omega), fd_wI_col (by omega), fd_wI_col (by omega)]; exact fd_wI_same (by omega) (by omega)
  have f1 : fd g0 264 1 = 0 := by rw [← hG, fd_wI_col (by omega), fd_wI_col (by omega), fd_wI_col (by omega), fd_wI_col (by omega), fd_wI_col (by omega), fd_wI_col (by omega), fd_wI_col (by omega), fd_wI_col (by omega), fd_wI_col (by omega)]; exact fd_wI_same (by omega) (by omega)
  have f3 : fd g0 264 3 = (E : Int) := by rw [← hG, fd_wI_col (by omega), fd_wI_col (by omega), fd_wI_col (by omega), fd_wI_col (by omega), fd_wI_col (by omega), fd_wI_col (by omega), fd_wI_col (by omega), fd_wI_col (by omega), fd_wI_col (by omega), fd_wI_col (by omega)]; exact fd_wI_same (by omega) (by omega)
  have hU : wI (wI (wI (wI (wI (wI (wI (wI (wI (wI (wI g 264 3 (g.1 264 1)) 264 1 0) 264 2 0) 264 4 (-1)) 264 5 0) 264 6 (-1)) 264 54 3) 264 102 0) 264 104 0) 264 105 0) 264 106 0 = g0 := by
    rw [rdE e1, ← hG]
    simp only [iI_lit, iI_neg]
  refine ⟨g0, ?_, ⟨⟨f3, hE, fun j hj => ⟨(k0.1 _ _ (by omega)).trans (Tp j hj).1, (Tp j hj).2⟩, fun a ha j v hv => (k0.1 _ _ (by omega)).trans (K a ha j v hv)⟩, Nat.zero_le _, f5, ?_, ?_, f6⟩, ⟨f54, f102, f104, f105, f106⟩, f1, k0.monoQ (fun a j q => by unfold QAz QQ; omega)⟩
  · rw [U_X12_ask, if_pos nz, hU]
    congr 1
    funext v2 h1
    by_cases c : (h1.1 264 5) = 0
    · have nc : ¬ ¬ (h1.1 264 5) = 0 := fun z => z c
      rw [if_neg nc, if_neg nc]
      by_cases c3 : 3 ≤ v2
      · rw [if_pos c3, if_pos c3, if_neg nc]
        rfl
      · rw [if_neg c3, if_neg c3, if_neg nc]
        rfl
    · rw [if_pos c, if_pos c, if_pos c, if_pos c]
      rfl
  · rw [f2]
    omega
  · rw [if_neg (by simp), f4]
    omega
set_option maxHeartbeats 8000000 in
theorem R_ask (e53 : fd g 264 53 ≠ 0) (hE : E ≤ 1600) (e1 : fd g 264 1 = (E : Int)) (Tp : TpR g b E) (K : IvK g) : RAk (d + 39) g (mm_M mm_T0 (d + 40) 313 [.ref 264] g) (asA b E) := by
  obtain ⟨g0, m0, R0, ⟨f54, f102, f104, f105, f106⟩, f1, k0⟩ := R_ask0 (d := d + 39) e53 hE e1 Tp K
  have le := tS_le (b := b) (E := E) (p := 0) (Nat.zero_le _)
  have kd := R_kind (d := d + 34) R0
  rw [m0]
  clear m0
  unfold asA
  by_cases c1 : 25 ≤ wno b E 0 false ∧ wno b E 0 false ≤ 30
  · rw [if_pos c1]
    obtain ⟨g1, a1, R1, k1⟩ := kd.1 c1
    clear kd
    have c9 : wno b E 0 false ≠ -2 := by omega
    have tl := tL_in (wno_w c9).1
    clear c9
    generalize tL b E (tS b E 0) = p1 at *
    have f11 : fd g1 264 1 = 0 := (k1.1 _ _ (by unfold QTk; omega)).trans f1
    have S1 : ST g1 b E p1 true 3 [] [] [] 0 := by
      refine ⟨R1, ⟨⟨?_, trivial⟩, ⟨?_, fun i v h => absurd h (by simp)⟩, ?_, ?_⟩, ?_, Nat.zero_le _, Nat.le_refl _⟩
      · exact (k1.1 _ _ (by unfold QTk; omega)).trans f104
      · exact (k1.1 _ _ (by unfold QTk; omega)).trans f102
      · exact (k1.1 _ _ (by unfold QTk; omega)).trans f105
      · exact (k1.1 _ _ (by unfold QTk; omega)).trans f106
      · exact (k1.1 _ _ (by unfold QTk; omega)).trans f54
    have rr : match rd b E 3 (4 * E + 8) (if wno b E 0 false ≤ 27 then 3 else 1) 0 p1 true 0 [] with
        | .inl f => ∃ g', mm_M mm_T0 (d + 39) (if wno b E 0 false ≤ 27 then 302 else 298) [.ref 264] g1 = some (none, g') ∧ Bad g' f.1 f.2 ∧ Kf QQ nL g1 g'
        | .inr y => ∃ g', mm_M mm_T0 (d + 39) (if wno b E 0 false ≤ 27 then 302 else 298) [.ref 264] g1 = some (none, g') ∧ ST g' b E y.1 y.2.1 3 [] [] ([] ++ y.2.2) 0 ∧ Kf QQ nL g1 g' := by
      by_cases c2 : wno b E 0 false ≤ 27
      · rw [if_pos c2, if_pos c2]
        exact R_test (d := d + 30) (n := 4 * E + 8) (by omega) (by omega) S1 (by omega) (by omega)
      · rw [if_neg c2, if_neg c2]
        have t := R_sums (d := d + 32) (n := 4 * E + 8) (wt := 0) (c := []) (by omega) (by omega) S1 (by omega) (by omega) (by intro y hy; exact absurd hy (by simp))
        revert t
        cases rd b E 3 (4 * E + 8) 1 0 p1 true 0 [] with
        | inl f => exact fun ⟨g', a1, a2, a3⟩ => ⟨g', a1, a2.1, a3⟩
        | inr y => exact fun z => z
    have ok : Pg E p1 1 0 (rd b E 3 (4 * E + 8) (if wno b E 0 false ≤ 27 then 3 else 1) 0 p1 true 0 []) := by
      have Oka := Ok_all (b := b) (w := 3) hE (4 * E + 8)
      by_cases c2 : wno b E 0 false ≤ 27
      · rw [if_pos c2]
        exact Oka.2.2.2.1 0 p1 true 0 [] (by omega) (by omega)
      · rw [if_neg c2]
        exact Oka.2.1 0 p1 true 0 [] (by omega) (by omega)
    have ty : TyO (alw 3) 64 (decide (wno b E 0 false ≤ 27)) (rd b E 3 (4 * E + 8) (if wno b E 0 false ≤ 27 then 3 else 1) 0 p1 true 0 []) := by
      have ta := Ty_all (b := b) (E := E) (w := 3) (by omega) (by omega) (4 * E + 8)
      by_cases c2 : wno b E 0 false ≤ 27
      · rw [if_pos c2, decide_eq_true c2]
        have t := ta.2.2.2.1 0 p1 true 0 [] (by omega)
        revert t
        cases rd b E 3 (4 * E + 8) 3 0 p1 true 0 [] with
        | inl f => exact fun _ => trivial
        | inr y => exact fun z => Ty.mono z (by omega)
      · rw [if_neg c2, decide_eq_false c2]
        have t := ta.2.1 0 p1 true 0 [] (by omega)
        revert t
        cases rd b E 3 (4 * E + 8) 1 0 p1 true 0 [] with
        | inl f => exact fun _ => trivial
        | inr y => exact fun z => Ty.mono z (by omega)
    have stp : mm_bI (mm_M mm_T0 (d + 39) 311 [.ref 264] g0) (fun v2 h1 => if ¬ (h1.1 264 5) = 0 then kA (d + 39) v2 h1 else (if 3 ≤ v2 then (mm_bV (mm_M mm_T0 (d + 39) 298 [.ref 264] h1) (fun h13 => if ¬ (h13.1 264 5) = 0 then kA (d + 39) v2 h13 else (mm_bI (mm_M mm_T0 (d + 39) 194 [.ref 264] h13) (fun v15 h14 => if v15 = (-1) then kA (d + 39) v2 h14 else (mm_bV (mm_M mm_T0 (d + 39) 191 [.ref 264, .int 1, .int (h14.1 264 2)] h14) (fun h16 => kA (d + 39) v2 h16)))))) else (mm_bV (mm_M mm_T0 (d + 39) 302 [.ref 264] h1) (fun h13 => if ¬ (h13.1 264 5) = 0 then kA (d + 39) v2 h13 else (mm_bI (mm_M mm_T0 (d + 39) 194 [.ref 264] h13) (fun v15 h14 => if v15 = (-1) then kA (d + 39) v2 h14 else (mm_bV (mm_M mm_T0 (d + 39) 191 [.ref 264, .int 1, .int (h14.1 264 2)] h14) (fun h16 => kA (d + 39) v2 h16)))))))) = mm_bV (mm_M mm_T0 (d + 39) (if wno b E 0 false ≤ 27 then 302 else 298) [.ref 264] g1) (fun h13 => if ¬ (h13.1 264 5) = 0 then kA (d + 39) (iI (wno b E 0 false - 25)) h13 else (mm_bI (mm_M mm_T0 (d + 39) 194 [.ref 264] h13) (fun v15 h14 => if v15 = (-1) then kA (d + 39) (iI (wno b E 0 false - 25)) h14 else (mm_bV (mm_M mm_T0 (d + 39) 191 [.ref 264, .int 1, .int (h14.1 264 2)] h14) (fun h16 => kA (d + 39) (iI (wno b E 0 false - 25)) h16))))) := by
      rw [a1, mm_bI_some, if_neg (fun z => z (bad_0 R1.2.2.1))]
      by_cases c2 : wno b E 0 false ≤ 27
      · have t : ¬ (3 : Int32) ≤ iI (wno b E 0 false - 25) := by
          rw [show (3 : Int32) = iI 3 from rfl, iI_le (by omega) (by omega) (by omega) (by omega)]
          omega
        rw [if_neg t, if_pos c2]
      · have t : (3 : Int32) ≤ iI (wno b E 0 false - 25) := by
          rw [show (3 : Int32) = iI 3 from rfl, iI_le (by omega) (by omega) (by omega) (by omega)]
          omega
        rw [if_pos t, if_neg c2]
    rw [stp]
    clear stp S1 a1
    have K1 : Kf QAz nL g g1 := k0.trans (kzA (kTQ k1))
    revert rr ok ty
    cases rd b E 3 (4 * E + 8) (if wno b E 0 false ≤ 27 then 3 else 1) 0 p1 true 0 [] with
    | inl f =>
      intro rr ok _
      obtain ⟨g2, b1, B2, k2⟩ := rr
      have fk : f.1 = 1 ∨ f.1 = 2 ∨ f.1 = 4 := ok.1
      have b5 := bad_1 (B2.ne (by omega))
      refine ⟨iI (wno b E 0 false - 25), g2, ?_, B2, by omega, (k2.1 _ _ n1_a).trans f11, K1.trans (kzA k2)⟩
      rw [b1, mm_bV_some, if_pos b5]
    | inr y =>
      intro rr ok ty
      obtain ⟨g2, b1, S2, k2⟩ := rr
      have o2 : y.1 ≤ E := ok.2.1
      have o3 : y.2.2.length + p1 ≤ 0 + y.1 := ok.2.2
      rw [List.nil_append] at S2
      have h52 := S2.1.2.2.1
      have f12 : fd g2 264 1 = 0 := (k2.1 _ _ n1_a).trans f11
      have K2 := K1.trans (kzA k2)
      have le2 := tS_le (b := b) (E := E) o2
      obtain ⟨g3, l1, R3, l2, k3⟩ := R_look (d := d + 38) S2.1
      have K3 := K2.trans (kzA (kTQ k3))
      have f13 : fd g3 264 1 = 0 := (k3.1 _ _ (by unfold QTk; omega)).trans f12
      have tb := tB_b (p := y.1) R3.1
      show RAk _ _ _ (if tB b E y.1 = -1 then _ else _)
      by_cases c4 : tB b E y.1 = -1
      · rw [if_pos c4]
        rw [c4] at l1
        have ty' : tyL (alw 3) y.2.2 [] = some [decide (wno b E 0 false ≤ 27)] := ty [] (by show 0 + 64 ≤ 64; omega)
        have dd : decide (wno b E 0 false - 25 ≤ 2) = decide (wno b E 0 false ≤ 27) := decide_eq_decide.mpr (by omega)
        refine ⟨g3, ?_, ⟨R3.2.2.1, R3.2.2.2.2.2⟩, ⟨⟨?_, ?_⟩, ?_, ?_⟩, ⟨?_, fun i v hv => ?_⟩, f13, K3⟩
        · rw [b1, mm_bV_some, if_neg (fun z => z (bad_0 h52)), l1, mm_bI_some, if_pos (by decide)]
        · show 0 ≤ wno b E 0 false - 25
          omega
        · show wno b E 0 false - 25 ≤ 5
          omega
        · show y.2.2.length ≤ 1600
          omega
        · show tyL (alw 3) y.2.2 [] = some [decide (wno b E 0 false - 25 ≤ 2)]
          rw [dd]
          exact ty'
        · exact (k3.1 _ _ (by unfold QTk; omega)).trans S2.2.1.2.1.1
        · exact (k3.1 _ _ (by unfold QTk; omega)).trans (S2.2.1.2.1.2 i v hv)
      · rw [if_neg c4]
        have n1 : ¬ iI (tB b E y.1) = (-1 : Int32) := by
          have e : (iI (tB b E y.1) = iI (-1)) = False := iI_ne (by omega) (by omega) (by omega) (by omega) c4
          simp only [iI_lit, iI_neg, e, not_false_eq_true]
        obtain ⟨g4, q1, B4, k4⟩ := R_fail (d := d + 38) (g := g3) (k := 1) (pl := (tS b E y.1 : Int)) R3.2.2.1 (by omega) (by omega) (by omega) (by omega)
        rw [← rdE l2] at q1
        have q2 : mm_M mm_T0 (d + 39) 191 [.ref 264, .int 1, .int (g3.1 264 2)] g3 = some (none, g4) := q1
        refine ⟨iI (wno b E 0 false - 25), g4, ?_, B4, by show (1 : Int) ≠ 0; decide, (k4.1 _ _ (by unfold QTk; omega)).trans f13, K3.trans (kzA (kTQ k4))⟩
        rw [b1, mm_bV_some, if_neg (fun z => z (bad_0 h52)), l1, mm_bI_some, if_neg n1, q2, mm_bV_some]
  · rw [if_neg c1]
    obtain ⟨g1, a1, B1, k1⟩ := kd.2 c1
    refine ⟨iI 5, g1, ?_, B1, by show (1 : Int) ≠ 0; decide, (k1.1 _ _ (by unfold QTk; omega)).trans f1, k0.trans (kzA (kTQ k1))⟩
    rw [a1, mm_bI_some, if_pos (bad_1 (B1.ne (by decide)))]
end AKS
