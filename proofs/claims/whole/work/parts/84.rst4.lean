section RST4
variable {d : Nat} {g : mm_H} {b : Nat → Int} {E p : Nat} {gl : Bool} {hm : Nat} {st : Tst}
/-- the statement's sign, and its count -/
noncomputable def kEs (d : Nat) (h : mm_H) : mm_X := mm_bV (mm_M mm_T0 (d + 11) 199 [.ref 264, .int (iI 59)] h) (fun h16 => some (none, wI h16 264 52 ((h16.1 264 52) + 1)))
/-- what the reference makes of a statement with its sign -/
def RSe (b : Nat → Int) (E : Nat) (hm : Int) (n : Nat) (g : mm_H) (X : mm_X) (r : RT2) : Prop := match r with
  | .inl f => ∃ g', X = some (none, g') ∧ Bad g' f.1 f.2 ∧ Kf QRs LRt g g'
  | .inr y => (tB b E y.1 = 59 → ∃ g', X = some (none, g') ∧ RS g' b E (tS b E y.1 + 1) false ∧ RTs g' hm y.2.2 ∧ fd g' 264 52 = ((n + 1 : Nat) : Int) ∧ Kf QRs LRt g g') ∧ (tB b E y.1 ≠ 59 → ∃ g', X = some (none, g') ∧ Bad g' 1 (tS b E y.1) ∧ Kf QRs LRt g g')
theorem w52 {v : Int32} : Kf (fun a x => a = 264 ∧ x = 52) nL g (wI g 264 52 v) := Kf.refl.wI ⟨rfl, rfl⟩
theorem w52s {v : Int32} : Kf QRs LRt g (wI g 264 52 v) := Kf.refl.wI (Or.inr ⟨rfl, rfl⟩)
theorem kRs {g' : mm_H} (k : Kf QRt LRt g g') : Kf QRs LRt g g' := k.monoQ (fun a x q => Or.inl q)
theorem n52 : ¬ QRt 264 52 := by
  unfold QRt QQ
  omega
set_option maxHeartbeats 8000000 in
theorem R_es {n : Nat} {X : mm_X} {r : RT2} (nb : n ≤ 100) (e52 : fd g 264 52 = (n : Nat)) (hk : ∀ f, r = .inl f → f.1 ≠ 0) (h : RSo b E hm g X r) : RSe b E hm n g (mm_bV X (kEs d)) r := by
  cases r with
  | inl f =>
    obtain ⟨g1, a1, B1, k1⟩ := h
    have f52 : fd g1 264 52 = (n : Nat) := (k1.1 _ _ n52).trans e52
    have b5 := B1.ne (hk f rfl)
    have b1 := B_asksSign (d := d + 10) (x := iI 59) b5
    refine ⟨wI g1 264 52 (iI ((n : Int) + 1)), ?_, B1.kf (w52 (g := g1)) (by omega) (by omega), (kRs k1).trans w52s⟩
    rw [a1, mm_bV_some]
    unfold kEs
    rw [b1, mm_bV_some, rdE f52, show (1 : Int32) = iI 1 from rfl, iI_add]
  | inr y =>
    obtain ⟨g1, a1, R1, T1, k1⟩ := h
    have f52 : fd g1 264 52 = (n : Nat) := (k1.1 _ _ n52).trans e52
    have as := R_asksSign (d := d + 8) (c := 59) R1 (by omega) (by omega)
    refine ⟨fun c => ?_, fun c => ?_⟩
    · obtain ⟨g2, a2, R2, k2⟩ := as.1 c
      have f52' : fd g2 264 52 = (n : Nat) := (k2.1 _ _ (by unfold QTk; omega)).trans f52
      have T2 := T1.tk k2
      have z : ∀ a j, ¬ (a = 264 ∧ j = 52) → fd (wI g2 264 52 (iI ((n : Int) + 1))) a j = fd g2 a j := fun a j h => by rw [fd_wI, if_neg h]
      refine ⟨wI g2 264 52 (iI ((n : Int) + 1)), ?_, ?_, T2.kf (w52 (g := g2)) (by intro a j; omega) (fun j z => z), ?_, (kRs k1).trans ((kRs (kTR k2)).trans w52s)⟩
      · rw [a1, mm_bV_some]
        unfold kEs
        rw [a2, mm_bV_some, rdE f52', show (1 : Int32) = iI 1 from rfl, iI_add]
      · obtain ⟨Tx, hp, h5, ha, hg, h6⟩ := R2
        refine ⟨Tx.kf (w52 (g := g2)) (by intro a j; omega), hp, (z _ _ (by omega)).trans h5, ?_, ?_, (z _ _ (by omega)).trans h6⟩
        · rw [z _ _ (by omega)]; exact ha
        · rw [z _ _ (by omega)]; exact hg
      · rw [fd_wI_same (by omega) (by omega)]
        omega
    · obtain ⟨g2, a2, B2, k2⟩ := as.2 c
      have f52' : fd g2 264 52 = (n : Nat) := (k2.1 _ _ (by unfold QTk; omega)).trans f52
      refine ⟨wI g2 264 52 (iI ((n : Int) + 1)), ?_, B2.kf (w52 (g := g2)) (by omega) (by omega), (kRs k1).trans ((kRs (kTR k2)).trans w52s)⟩
      rw [a1, mm_bV_some]
      unfold kEs
      rw [a2, mm_bV_some, rdE f52', show (1 : Int32) = iI 1 from rfl, iI_add]
/-- faults of statements are faults -/
theorem pW_k {k : Int} {K : Nat → RT2} (h : ∀ q f, K q = .inl f → f.1 ≠ 0) : ∀ f, pW b E k p gl K = .inl f → f.1 ≠ 0 := by
  intro f hf
  by_cases c : wno b E p gl = k
  · rw [pW_t c] at hf
    exact h _ f hf
  · rw [pW_f c] at hf
    cases hf
    show (1 : Int) ≠ 0
    omega
theorem pN_k {lo hi : Nat} {K : Int → Nat → RT2} (h : ∀ v q f, K v q = .inl f → f.1 ≠ 0) : ∀ f, pN b E lo hi p gl K = .inl f → f.1 ≠ 0 := by
  intro f hf
  by_cases c : (numT b E lo hi p gl).1 = 0
  · rw [pN_t c] at hf
    exact h _ _ f hf
  · rw [pN_f c] at hf
    cases hf
    exact c
theorem pM_k {K : List Int → Nat → RT2} (h : ∀ v q f, K v q = .inl f → f.1 ≠ 0) : ∀ f, pM b E p gl K = .inl f → f.1 ≠ 0 := by
  intro f hf
  by_cases c : (nmT b E p gl).1 = 0
  · rw [pM_t c] at hf
    exact h _ _ f hf
  · rw [pM_f c] at hf
    cases hf
    exact c
theorem in_k {k : Int} {x : Int} (hk : k ≠ 0) : ∀ f : Int × Int, (.inl (k, x) : RT2) = .inl f → f.1 ≠ 0 := by
  intro f hf
  cases hf
  exact hk
theorem or_k {c : Prop} [Decidable c] {x y : RT2} (h1 : ∀ f, x = .inl f → f.1 ≠ 0) (h2 : ∀ f, y = .inl f → f.1 ≠ 0) : ∀ f, (if c then x else y) = .inl f → f.1 ≠ 0 := by
  intro f
  split
  · exact h1 f
  · exact h2 f
theorem ok_k {y : Nat × Bool × Tst} : ∀ f : Int × Int, (.inr y : RT2) = .inl f → f.1 ≠ 0 := by
  intro f hf
  cases hf
theorem stF_k (hE : E ≤ 1600) (hp : p ≤ E) : ∀ f, stF b E hm st p gl = .inl f → f.1 ≠ 0 := by
  have ru : ∀ w : Int, wno b E p gl ≠ -2 → ∀ f, stRule b E w st (tS b E p) (tL b E (tS b E p)) = .inl f → f.1 ≠ 0 := by
    intro w cw
    have tl := tL_in (wno_w cw).1
    unfold stRule
    refine or_k (in_k (by omega)) ?_
    intro f
    have Oka := Ok_all (b := b) (w := w) hE (4 * E + 8)
    have ok : Pg E (tL b E (tS b E p)) 1 0 (rd b E w (4 * E + 8) (if w = 2 then 3 else 1) 0 (tL b E (tS b E p)) true 0 []) := by
      by_cases c2 : w = 2
      · rw [if_pos c2]
        exact Oka.2.2.2.1 0 _ true 0 [] tl.2 (by omega)
      · rw [if_neg c2]
        exact Oka.2.1 0 _ true 0 [] tl.2 (by omega)
    revert ok
    cases rd b E w (4 * E + 8) (if w = 2 then 3 else 1) 0 (tL b E (tS b E p)) true 0 [] with
    | inl f0 =>
      intro ok hf
      have e : f0 = f := by cases hf; rfl
      have : f0.1 = 1 ∨ f0.1 = 2 ∨ f0.1 = 4 := ok.1
      rw [← e]
      omega
    | inr y =>
      intro ok hf
      cases hf
  unfold stF
  by_cases c1 : wno b E p gl = 1
  · rw [if_pos c1]
    unfold stSoul
    exact or_k (in_k (by omega)) (pM_k (fun _ _ => or_k (in_k (by omega)) (pW_k (fun _ => pN_k (fun _ _ => or_k (in_k (by omega)) (pW_k (fun _ => pN_k (fun _ _ => pW_k (fun _ => pN_k (fun _ _ => ok_k))))))))))
  · rw [if_neg c1]
    by_cases c2 : wno b E p gl = 5
    · rw [if_pos c2]
      unfold stThinks
      exact pM_k (fun _ _ => or_k (in_k (by omega)) (pW_k (fun _ => pM_k (fun _ _ => or_k (in_k (by omega)) (pN_k (fun _ _ => ok_k))))))
    · rw [if_neg c2]
      by_cases c3 : wno b E p gl = 7
      · rw [if_pos c3]
        exact ru 0 (by omega)
      · rw [if_neg c3]
        by_cases c4 : wno b E p gl = 8
        · rw [if_pos c4]
          exact ru 1 (by omega)
        · rw [if_neg c4]
          by_cases c5 : wno b E p gl = 9
          · rw [if_pos c5]
            exact ru 2 (by omega)
          · rw [if_neg c5]
            by_cases c6 : wno b E p gl = 10
            · rw [if_pos c6]
              unfold stSlip
              exact pN_k (fun _ _ => ok_k)
            · rw [if_neg c6]
              exact in_k (by omega)
theorem RSe.of {n : Nat} {g0 : mm_H} {X : mm_X} {r : RT2} (h : RSe b E hm n g X r) (k : Kf QRs LRt g0 g) : RSe b E hm n g0 X r := by
  cases r with
  | inl f =>
    obtain ⟨g', a1, a2, a3⟩ := h
    exact ⟨g', a1, a2, k.trans a3⟩
  | inr y =>
    refine ⟨fun c => ?_, fun c => ?_⟩
    · obtain ⟨g', a1, a2, a3, a4, a5⟩ := h.1 c
      exact ⟨g', a1, a2, a3, a4, k.trans a5⟩
    · obtain ⟨g', a1, a2, a3⟩ := h.2 c
      exact ⟨g', a1, a2, k.trans a3⟩
set_option maxHeartbeats 8000000 in
/-- a whole statement -/
theorem R_stm {n : Nat} (h2 : 2 ≤ hm ∧ hm ≤ 9) (n80 : n < 80) (R : RS g b E p gl) (e2 : fd g 264 2 = (tS b E p : Int)) (T : RTs g hm st) (O : TstOK hm p st) (e52 : fd g 264 52 = (n : Nat)) : RSe b E hm n g (mm_M mm_T0 (d + 12) 210 [.ref 264] g) (stF b E hm st p gl) := by
  have hE := R.1.2.1
  have hp := R.2.1
  have h5 := R.2.2.1
  have ge := tS_ge (b := b) (E := E) (p := p)
  have le := tS_le (b := b) (E := E) hp
  have hl := O.2.2.2.2.2.2
  have hk := stF_k (b := b) (E := E) (p := p) (gl := gl) (hm := hm) (st := st) hE hp
  have r2 := rdE e2
  have r52 : (g.1 264 52 = iI 80) = False := by rw [rdE e52]; exact iI_ne (by omega) (by omega) (by omega) (by omega) (by omega)
  have ik := fun (a : Nat) (k : Int) (ha : isW a) (k0 : 0 ≤ k) (hk : allW[k.toNat]? = some (wordL a)) (g : mm_H) (R : RS g b E p gl) => R_takesA (d := d + 8) (a := a) (k := k) ha k0 hk R
  have tk1 := ik 268 1 (by unfold isW; omega) (by omega) rfl g R
  unfold stF at hk ⊢
  by_cases c1 : wno b E p gl = 1
  · rw [if_pos c1] at hk ⊢
    obtain ⟨g1, a1, R1, k1⟩ := tk1.1 c1
    have st1 : mm_M mm_T0 (d + 12) 210 [.ref 264] g = mm_bV (mm_M mm_T0 (d + 11) 207 [.ref 264, .int (iI (tS b E p : Int))] g1) (kEs d) := by
      rw [U_X12_statementTold]
      unfold kEs
      simp only [iI_lit, r52, not_false_eq_true, if_true, a1, mm_bI_some, i10, if_false, r2]
    rw [st1]
    exact RSe.of (R_es (d := d) (by omega) ((k1.1 _ _ (by unfold QTk; omega)).trans e52) hk (R_soulT (d := d + 5) h2 (by omega) R1 (T.tk k1) O)) (kRs (kTR k1))
  · rw [if_neg c1] at hk ⊢
    obtain ⟨g1, a1, R1, _, k1⟩ := tk1.2 c1
    have tk2 := ik 272 5 (by unfold isW; omega) (by omega) rfl g1 R1
    by_cases c2 : wno b E p gl = 5
    · rw [if_pos c2] at hk ⊢
      obtain ⟨g2, a2, R2, k2⟩ := tk2.1 c2
      have st1 : mm_M mm_T0 (d + 12) 210 [.ref 264] g = mm_bV (mm_M mm_T0 (d + 11) 208 [.ref 264] g2) (kEs d) := by
        rw [U_X12_statementTold]
        unfold kEs
        simp only [iI_lit, r52, not_false_eq_true, if_true, a1, a2, mm_bI_some, i00, i10, if_false, r2]
      rw [st1]
      exact RSe.of (R_es (d := d) (by omega) (((k1.trans k2).1 _ _ (by unfold QTk; omega)).trans e52) hk (R_thinksT (d := d + 5) R2 (T.tk (k1.trans k2)) O)) (kRs (kTR (k1.trans k2)))
    · rw [if_neg c2] at hk ⊢
      obtain ⟨g2, a2, R2, _, k2⟩ := tk2.2 c2
      have tk3 := ik 274 7 (by unfold isW; omega) (by omega) rfl g2 R2
      by_cases c3 : wno b E p gl = 7
      · rw [if_pos c3] at hk ⊢
        obtain ⟨g3, a3, R3, k3⟩ := tk3.1 c3
        have tl := tL_in (wno_w (b := b) (E := E) (p := p) (gl := gl) (by omega)).1
        have st1 : mm_M mm_T0 (d + 12) 210 [.ref 264] g = mm_bV (mm_M mm_T0 (d + 11) 209 [.ref 264, .int (iI 0), .int (iI (tS b E p : Int))] g3) (kEs d) := by
          rw [U_X12_statementTold]
          unfold kEs
          simp only [iI_lit, r52, not_false_eq_true, if_true, a1, a2, a3, mm_bI_some, i00, i10, if_false, r2]
        rw [st1]
        have KK := k1.trans (k2.trans k3)
        exact RSe.of (R_es (d := d) (by omega) ((KK.1 _ _ (by unfold QTk; omega)).trans e52) hk (R_codesT (d := d + 1) (w := 0) (q0 := 0) (by omega) (by omega) R3 (T.tk KK) (by omega))) (kRs (kTR KK))
      · rw [if_neg c3] at hk ⊢
        obtain ⟨g3, a3, R3, _, k3⟩ := tk3.2 c3
        have tk4 := ik 275 8 (by unfold isW; omega) (by omega) rfl g3 R3
        by_cases c4 : wno b E p gl = 8
        · rw [if_pos c4] at hk ⊢
          obtain ⟨g4, a4, R4, k4⟩ := tk4.1 c4
          have tl := tL_in (wno_w (b := b) (E := E) (p := p) (gl := gl) (by omega)).1
          have st1 : mm_M mm_T0 (d + 12) 210 [.ref 264] g = mm_bV (mm_M mm_T0 (d + 11) 209 [.ref 264, .int (iI 1), .int (iI (tS b E p : Int))] g4) (kEs d) := by
            rw [U_X12_statementTold]
            unfold kEs
            simp only [iI_lit, r52, not_false_eq_true, if_true, a1, a2, a3, a4, mm_bI_some, i00, i10, if_false, r2]
          rw [st1]
          have KK := k1.trans (k2.trans (k3.trans k4))
          exact RSe.of (R_es (d := d) (by omega) ((KK.1 _ _ (by unfold QTk; omega)).trans e52) hk (R_codesT (d := d + 1) (w := 1) (q0 := 0) (by omega) (by omega) R4 (T.tk KK) (by omega))) (kRs (kTR KK))
        · rw [if_neg c4] at hk ⊢
          obtain ⟨g4, a4, R4, _, k4⟩ := tk4.2 c4
          have tk5 := ik 276 9 (by unfold isW; omega) (by omega) rfl g4 R4
          by_cases c5 : wno b E p gl = 9
          · rw [if_pos c5] at hk ⊢
            obtain ⟨g5, a5, R5, k5⟩ := tk5.1 c5
            have tl := tL_in (wno_w (b := b) (E := E) (p := p) (gl := gl) (by omega)).1
            have st1 : mm_M mm_T0 (d + 12) 210 [.ref 264] g = mm_bV (mm_M mm_T0 (d + 11) 209 [.ref 264, .int (iI 2), .int (iI (tS b E p : Int))] g5) (kEs d) := by
              rw [U_X12_statementTold]
              unfold kEs
              simp only [iI_lit, r52, not_false_eq_true, if_true, a1, a2, a3, a4, a5, mm_bI_some, i00, i10, if_false, r2]
            rw [st1]
            have KK := k1.trans (k2.trans (k3.trans (k4.trans k5)))
            exact RSe.of (R_es (d := d) (by omega) ((KK.1 _ _ (by unfold QTk; omega)).trans e52) hk (R_codesT (d := d + 1) (w := 2) (q0 := 0) (by omega) (by omega) R5 (T.tk KK) (by omega))) (kRs (kTR KK))
          · rw [if_neg c5] at hk ⊢
            obtain ⟨g5, a5, R5, _, k5⟩ := tk5.2 c5
            have KK := k1.trans (k2.trans (k3.trans (k4.trans k5)))
            have T5 := T.tk KK
            have f52 : fd g5 264 52 = (n : Nat) := (KK.1 _ _ (by unfold QTk; omega)).trans e52
            have ak := R_asks (d := d + 7) (a := 277) (by unfold isW; omega) R5
            have aw : hasW b E (wordL 277) p gl = true ↔ wno b E p gl = 10 := hasW_no (by omega) rfl
            -- slip: the number, then its place
            by_cases c6 : wno b E p gl = 10
            · rw [if_pos c6] at hk ⊢
              obtain ⟨g6, a6, R6, k6⟩ := ak.1 (aw.mpr c6)
              generalize tL b E (tS b E p) = p1 at *
              obtain ⟨g7, n1, k7, n2, n3⟩ := R_number (d := d + 9) (lo := 0) (hi := 100) R6 (by omega) (by omega)
              rw [show ((0 : Nat) : Int) = 0 from rfl, show ((100 : Nat) : Int) = 100 from rfl] at n1
              have nb1 := numT_b (b := b) (E := E) (p := p1) (gl := true) (lo := 0) (hi := 100) hE R6.2.1
              have st1 : mm_M mm_T0 (d + 12) 210 [.ref 264] g = mm_bV (some (none, wI g7 264 46 (iI (numT b E 0 100 p1 true).2.2))) (kEs d) := by
                rw [U_X12_statementTold, mm_bV_some]
                unfold kEs
                simp only [iI_lit, r52, not_false_eq_true, if_true, a1, a2, a3, a4, a5, a6, n1, mm_bI_some, mm_bV_some, i00, if_false, r2]
              rw [st1]
              have K6 := KK.trans (k6.trans k7)
              have kw : Kf (fun a x => a = 264 ∧ x = 46) nL g7 (wI g7 264 46 (iI (numT b E 0 100 p1 true).2.2)) := Kf.refl.wI ⟨rfl, rfl⟩
              have KW : Kf QRt LRt g7 (wI g7 264 46 (iI (numT b E 0 100 p1 true).2.2)) := kw.mono (fun a x q => by unfold QRt; omega) (fun a x q => q.elim)
              refine R_es (d := d) (by omega) e52 hk ?_
              unfold stSlip
              by_cases c7 : (numT b E 0 100 p1 true).1 = 0
              · rw [pN_t c7]
                obtain ⟨R7, _⟩ := n2 c7
                have nv := nb1.2.2.2 c7
                have nv1 := nv.1
                have nv2 := nv.2.1
                have T7 := T.tk K6
                generalize (numT b E 0 100 p1 true).2.2 = v at *
                have z : ∀ a j, ¬ (a = 264 ∧ j = 46) → fd (wI g7 264 46 (iI v)) a j = fd g7 a j := fun a j h => kw.1 a j h
                refine ⟨_, rfl, ?_, ?_, (kTR K6).trans KW⟩
                · obtain ⟨Tx, hp', h5', ha, hg, h6⟩ := R7
                  refine ⟨Tx.kf kw (by intro a j; omega), hp', (z _ _ (by omega)).trans h5', ?_, ?_, (z _ _ (by omega)).trans h6⟩
                  · rw [z _ _ (by omega)]; exact ha
                  · rw [z _ _ (by omega)]; exact hg
                · obtain ⟨t1, t2, t3, t4, t5, t6⟩ := T7
                  refine ⟨⟨?_, ?_⟩, fun i x hx => ?_, fun y hj => ?_, fd_wI_same (by omega) (by omega), ⟨?_, fun i v hv => ?_⟩, fun w hw => ?_⟩
                  · rw [z _ _ (by omega)]; exact t1.1
                  · rw [z _ _ (by omega)]; exact t1.2
                  · rw [fl_wI, z _ _ (by omega), z _ _ (by omega), z _ _ (by omega)]; exact t2 i x hx
                  · rw [z _ _ (by omega)]; exact t3 y hj
                  · rw [z _ _ (by omega)]; exact t5.1
                  · rw [z _ _ (by omega)]; exact t5.2 i v hv
                  · rw [z _ _ (by omega), z _ _ (by omega)]; exact t6 w hw
              · rw [pN_f c7]
                exact ⟨_, rfl, (n3 c7).kf kw (by omega) (by omega), (kTR K6).trans KW⟩
            · rw [if_neg c6] at hk ⊢
              obtain ⟨g6, a6, B6, k6⟩ := ak.2 (fun z => c6 (aw.mp z))
              have b5 := B6.ne (by omega)
              have b3 := B_number (d := d + 10) (g := g6) (x := iI 0) (y := iI 100) b5
              have st1 : mm_M mm_T0 (d + 12) 210 [.ref 264] g = mm_bV (some (none, wI g6 264 46 (iI 0))) (kEs d) := by
                rw [U_X12_statementTold, mm_bV_some]
                unfold kEs
                simp only [iI_lit, r52, not_false_eq_true, if_true, a1, a2, a3, a4, a5, a6, b3, mm_bI_some, mm_bV_some, i00, if_false, r2]
              rw [st1]
              have kw : Kf (fun a x => a = 264 ∧ x = 46) nL g6 (wI g6 264 46 (iI 0)) := Kf.refl.wI ⟨rfl, rfl⟩
              have KW : Kf QRt LRt g6 (wI g6 264 46 (iI 0)) := kw.mono (fun a x q => by unfold QRt; omega) (fun a x q => q.elim)
              refine R_es (d := d) (by omega) e52 hk ?_
              exact ⟨_, rfl, B6.kf kw (by omega) (by omega), (kTR (KK.trans k6)).trans KW⟩
end RST4
