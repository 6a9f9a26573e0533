/-! rules that are not told: the class adds them -/
def ad (w : Int) (st : Tst) : Tst := if (rOf w st.2.2.2 0).isSome = true then st else (st.1, st.2.1, st.2.2.1, st.2.2.2 ++ [(w, dfl w)])
def QU (u : Nat) : Nat → Nat → Prop := fun a _ => u + 10 ≤ a ∧ a ≤ u + 13
section CUN
variable {d : Nat} {g : mm_H} {b : Nat → Int} {E p : Nat} {gl : Bool} {u : Nat} {hm : Int} {st : Tst}
set_option maxHeartbeats 8000000 in
theorem C_tld {w : Nat} (hu : mm_isT u) (w3 : w < 3) (T : CTs g u hm st) : mm_M mm_T0 (d + 1) 34 [.ref (u + 10), .int (iI (w : Nat))] g = some (some (.int (iI (b2 ((rOf w st.2.2.2 0).isSome = true)))), g) := by
  have t7 := T.2.2.2.2.2.2 w (by omega)
  have nw : ((w : Nat) : Int).toNat = w := by omega
  have it := C_isTold (d := d) (c := u + 10) (h := g) (w := (w : Nat)) (isT_C hu) (by omega) (by omega)
  rw [nw, show u + 10 + 2 = u + 12 by omega] at it
  rw [it]
  cases h : rOf w st.2.2.2 0 with
  | none => rw [b2_f (fun z => z (t7.1 h)), b2_f (by simp)]
  | some y =>
    have ty := (t7.2 y h).1
    rw [b2_t (by rw [ty]; omega), b2_t (by simp)]
set_option maxHeartbeats 8000000 in
theorem C_opn {w : Nat} (hu : mm_isT u) (w3 : w < 3) (T : CTs g u hm st) (hl : (rAll st.2.2.2).length ≤ 1610) : ∃ g', mm_M mm_T0 (d + 1) 35 [.ref (u + 10), .int (iI (w : Nat))] g = some (none, g') ∧ CQ g' (u + 10) 0 (rAll st.2.2.2) ∧ fd g' (u + 12) w = ((rAll st.2.2.2).length : Nat) ∧ Kf (fun a j => (a = u + 12 ∨ a = u + 13) ∧ j = w) nL g g' := by
  have hc := isT_C hu
  have nw : ((w : Nat) : Int).toNat = w := by omega
  have L2 : fd g (u + 10) 5 = ((rAll st.2.2.2).length : Nat) := by
    rw [T.2.2.2.2.2.1.1]
    omega
  have L2' : fd (wI g (u + 12) w (iI ((rAll st.2.2.2).length : Nat))) (u + 10) 5 = ((rAll st.2.2.2).length : Nat) := (fd_wI_row (by omega)).trans L2
  have k3 : Kf (fun a j => (a = u + 12 ∨ a = u + 13) ∧ j = w) nL g (wI (wI g (u + 12) w (iI ((rAll st.2.2.2).length : Nat))) (u + 13) w (iI ((rAll st.2.2.2).length : Nat))) := (Kf.refl.wI (by omega)).wI (by omega)
  have l0 : (iI ((w : Nat) : Int) < iI 0) = False := iL_f (by omega) (by omega) (by omega) (by omega) (by omega)
  have l4 : (iI 4 ≤ iI ((w : Nat) : Int)) = False := iG_f (by omega) (by omega) (by omega) (by omega) (by omega)
  have cl : (iI ((w : Nat) : Int)).toNatClampNeg = w := by rw [iI_nat (by omega) (by omega)]; exact nw
  have l9 : (4 ≤ w) = False := eq_false (by omega)
  refine ⟨_, ?_, T.2.2.2.2.2.1.kf k3 (by omega) (by intro j; omega), ?_, k3⟩
  · rw [U_X1_openRule hc, show u + 10 + 2 = u + 12 by omega, show u + 10 + 3 = u + 13 by omega]
    (try simp only [iI_lit, iI_neg]) <;> simp (maxSteps := 1000000) (disch := decide) only [iI_lit, iI_neg, iI_add, mm_bI_some, mm_bV_some, mm_bL_some, ↓reduceIte, i10, i00, i11, eq_self, not_true_eq_false, not_false_eq_true, ite_true, ite_false, if_true, if_false, and_true, true_and, and_false, false_and, and_self, or_self, or_false, false_or, or_true, true_or, iI_eq, iI_lt, iI_le, Int.reduceEq, Int.reduceLT, Int.reduceLE, l0, l4, cl, l9, rdE L2, rdE L2']
  · rw [fd_wI_row (by omega)]
    exact fd_wI_same (by omega) (by omega)
set_option maxHeartbeats 8000000 in
theorem C_cls {w n : Nat} (hu : mm_isT u) (w3 : w < 3) (e5 : fd g (u + 10) 5 = (n : Nat)) (hn : n ≤ 1620) : ∃ g', mm_M mm_T0 (d + 1) 36 [.ref (u + 10), .int (iI (w : Nat))] g = some (none, g') ∧ fd g' (u + 13) w = (n : Nat) ∧ Kf (fun a j => a = u + 13 ∧ j = w) nL g g' := by
  have hc := isT_C hu
  have nw : ((w : Nat) : Int).toNat = w := by omega
  have l0 : (iI ((w : Nat) : Int) < iI 0) = False := iL_f (by omega) (by omega) (by omega) (by omega) (by omega)
  have l4 : (iI 4 ≤ iI ((w : Nat) : Int)) = False := iG_f (by omega) (by omega) (by omega) (by omega) (by omega)
  have cl : (iI ((w : Nat) : Int)).toNatClampNeg = w := by rw [iI_nat (by omega) (by omega)]; exact nw
  have l9 : (4 ≤ w) = False := eq_false (by omega)
  refine ⟨wI g (u + 13) w (iI (n : Nat)), ?_, fd_wI_same (by omega) (by omega), Kf.refl.wI ⟨rfl, rfl⟩⟩
  rw [U_X1_closeRule hc, show u + 10 + 3 = u + 13 by omega]
  (try simp only [iI_lit, iI_neg]) <;> simp (maxSteps := 1000000) (disch := decide) only [iI_lit, iI_neg, iI_add, mm_bI_some, mm_bV_some, mm_bL_some, ↓reduceIte, i10, i00, i11, eq_self, not_true_eq_false, not_false_eq_true, ite_true, ite_false, if_true, if_false, and_true, true_and, and_false, false_and, and_self, or_self, or_false, false_or, or_true, true_or, iI_eq, iI_lt, iI_le, Int.reduceEq, Int.reduceLT, Int.reduceLE, l0, l4, cl, l9, rdE e5]
set_option maxHeartbeats 8000000 in
theorem C_rfin {g' : mm_H} {w : Nat} {c : List Int} (hu : mm_isT u) (T : CTs g u hm st) (hn : rOf w st.2.2.2 0 = none) (Q : CQ g' (u + 10) 0 (rAll st.2.2.2 ++ c)) (f12 : fd g' (u + 12) w = ((rAll st.2.2.2).length : Nat)) (f13 : fd g' (u + 13) w = (((rAll st.2.2.2).length + c.length : Nat) : Int)) (k : Kf (fun a j => (a = u + 10 ∧ j = 5) ∨ a = u + 11 ∨ ((a = u + 12 ∨ a = u + 13) ∧ j = w)) nL g g') : CTs g' u hm (st.1, st.2.1, st.2.2.1, st.2.2.2 ++ [((w : Int), c)]) := by
  have z5 : ∀ a j, ¬ (a = u + 10 ∧ j = 5) → a ≠ u + 11 → ¬ ((a = u + 12 ∨ a = u + 13) ∧ j = w) → fd g' a j = fd g a j := fun a j q3 q4 q5 => k.1 _ _ (by omega)
  obtain ⟨t1, t2, t3, t4, t5, t6, t7'⟩ := T
  refine ⟨?_, fun i x hx => ?_, fun i j h1 h2 h3 => ?_, fun y hv => ?_, ?_, ?_, fun x hx => ?_⟩
  · rw [z5 _ _ (by omega) (by omega) (by omega), z5 _ _ (by omega) (by omega) (by omega), z5 _ _ (by omega) (by omega) (by omega), z5 _ _ (by omega) (by omega) (by omega)]
    exact t1
  · have := t2 i x hx
    refine ⟨?_, fun k hk => ?_⟩
    · rw [z5 _ _ (by omega) (by omega) (by omega), z5 _ _ (by omega) (by omega) (by omega), z5 _ _ (by omega) (by omega) (by omega), z5 _ _ (by omega) (by omega) (by omega), z5 _ _ (by omega) (by omega) (by omega)]
      exact this.1
    · rw [z5 _ _ (by omega) (by omega) (by omega)]
      exact this.2 k hk
  · rw [z5 _ _ (by omega) (by omega) (by omega)]
    exact t3 i j h1 h2 h3
  · rw [z5 _ _ (by omega) (by omega) (by omega)]
    exact t4 y hv
  · rw [z5 _ _ (by omega) (by omega) (by omega)]
    exact t5
  · show CQ g' (u + 10) 0 (rAll (st.2.2.2 ++ [((w : Int), c)]))
    rw [rAll_app]
    exact Q
  · show (rOf x (st.2.2.2 ++ [((w : Int), c)]) 0 = none → _) ∧ ∀ z, rOf x (st.2.2.2 ++ [((w : Int), c)]) 0 = some z → _
    have tx := t7' x hx
    by_cases cx : x = w
    · subst cx
      rw [rOf_app, hn]
      refine ⟨fun h => ?_, fun z h => ?_⟩
      · have h' : (if ((x : Nat) : Int) = (x : Nat) then some (0 + (rAll st.2.2.2).length, c) else none) = none := h
        rw [if_pos rfl] at h'
        exact absurd h' (by simp)
      · have h' : (if ((x : Nat) : Int) = (x : Nat) then some (0 + (rAll st.2.2.2).length, c) else none) = some z := h
        rw [if_pos rfl] at h'
        have e := Option.some.inj h'
        rw [← e, f12, f13]
        refine ⟨?_, ?_⟩
        · show (((rAll st.2.2.2).length : Nat) : Int) = ((0 + (rAll st.2.2.2).length : Nat) : Int)
          omega
        · show ((((rAll st.2.2.2).length + c.length : Nat)) : Int) = ((0 + (rAll st.2.2.2).length + c.length : Nat) : Int)
          omega
    · have e0 : rOf (x : Nat) (st.2.2.2 ++ [((w : Int), c)]) 0 = rOf (x : Nat) st.2.2.2 0 := by
        rw [rOf_app]
        cases h : rOf (x : Nat) st.2.2.2 0 with
        | some y => rfl
        | none =>
          show (if ((w : Nat) : Int) = (x : Nat) then some (0 + (rAll st.2.2.2).length, c) else none) = none
          rw [if_neg (by omega)]
      rw [e0, z5 _ _ (by omega) (by omega) (by omega), z5 _ _ (by omega) (by omega) (by omega)]
      exact tx
end CUN
