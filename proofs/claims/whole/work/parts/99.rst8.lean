/-! what is told stands -/
def QSt : Nat → Nat → Prop := fun a x => (a = 264 ∧ (x = 53 ∨ x = 38 ∨ x = 40 ∨ x = 47 ∨ x = 73 ∨ x = 67)) ∨ ((a = 294 ∨ a = 295) ∧ 8 ≤ x) ∨ ((a = 297 ∨ a = 298) ∧ 3 ≤ x) ∨ (a = 299 ∧ 1600 ≤ x) ∨ a = 300
def LSt : Nat → Nat → Prop := fun a x => a = 292 ∧ 8 ≤ x
section RSG
variable {d : Nat} {g : mm_H} {hm : Nat} {st : Tst}
set_option maxHeartbeats 8000000 in
theorem R_stands {q0 : Nat} (h9 : hm ≤ 9) (T : RTs g hm st) (O : TstOK hm q0 st) (hl : (rAll st.2.2.2).length ≤ 1600) : ∃ g', mm_M mm_T0 (d + 1) 212 [.ref 264] g = some (none, g') ∧ (fd g' 264 53 = 1 ∧ fd g' 264 38 = (hm : Nat) ∧ fd g' 264 40 = (st.1.length : Nat) ∧ fd g' 264 47 = st.2.2.1 ∧ fd g' 264 73 = 0 ∧ fd g' 264 67 = 0) ∧ (∀ i x, st.1[i]? = some x → fl g' 292 (8 + i) = rvN x.1 ∧ fd g' 294 (8 + i) = x.2.2.1 ∧ fd g' 295 (8 + i) = x.2.2.2) ∧ (∀ w : Nat, w < 3 → fd g' 297 (3 + w) = fd g 297 w ∧ fd g' 298 (3 + w) = fd g 298 w) ∧ (∀ i v, (rAll st.2.2.2)[i]? = some v → fd g' 299 (1600 + i) = v) ∧ ((fd g' 300 0 = 0 ∧ fd g' 300 89 = 0) ∧ (∀ i x, st.1[i]? = some x → fd g' 300 (1 + 3 * i) = x.2.1 ∧ fd g' 300 (2 + 3 * i) = 10 * x.2.2.1 ∧ fd g' 300 (3 + 3 * i) = 0) ∧ ∀ z : Nat, z < 64 → fd g' 300 (25 + z) = st.2.1 z) ∧ Kf QSt LSt g g' := by
  obtain ⟨t1, t2, t3, t4, t5, t6⟩ := T
  obtain ⟨⟨o1, o1'⟩, o2, o3, o4, o5, o6, o7⟩ := O
  generalize hG : wI (wI (wI (wI g 264 53 (iI 1)) 264 38 (iI ((hm : Nat) : Int))) 264 40 (iI ((st.1.length : Nat) : Int))) 264 47 (iI st.2.2.1) = g0
  have k0 : Kf (fun a x => a = 264 ∧ (x = 53 ∨ x = 38 ∨ x = 40 ∨ x = 47)) nL g g0 := by
    rw [← hG]
    exact (((Kf.refl.wI (by omega)).wI (by omega)).wI (by omega)).wI (by omega)
  have f47 : fd g0 264 47 = st.2.2.1 := by rw [← hG]; exact fd_wI_same (by omega) (by omega)
  have f40 : fd g0 264 40 = (st.1.length : Nat) := by rw [← hG, fd_wI_col (by omega)]; exact fd_wI_same (by omega) (by omega)
  have f38 : fd g0 264 38 = (hm : Nat) := by rw [← hG, fd_wI_col (by omega), fd_wI_col (by omega)]; exact fd_wI_same (by omega) (by omega)
  have f53 : fd g0 264 53 = 1 := by rw [← hG, fd_wI_col (by omega), fd_wI_col (by omega), fd_wI_col (by omega)]; exact fd_wI_same (by omega) (by omega)
  obtain ⟨g1, a1, b1, k1⟩ := R_s31 (d := d) 8 0 g0 (by omega)
  obtain ⟨g2, a2, b2', k2⟩ := R_s90 (d := d) 3 0 g1 (by omega)
  obtain ⟨g3, a3, b3, k3⟩ := R_s131 (d := d) hl (rAll st.2.2.2).length 0 g2 (by omega) (by rw [k2.1 _ _ (by omega), k1.1 _ _ (by omega), k0.1 _ _ (by omega)]; exact t5.1)
  obtain ⟨g4, a4, b4, k4⟩ := R_s163 (d := d) 210 0 g3 (by omega)
  have n4 : ∀ a x, ¬ QSt a x → fd g4 a x = fd g a x := fun a x h => by
    unfold QSt at h
    rw [k4.1 _ _ (by omega), k3.1 _ _ (by omega), k2.1 _ _ (by omega), k1.1 _ _ (by omega), k0.1 _ _ (by omega)]
  have fb : ∀ z, z < st.1.length → 0 ≤ fd g 294 z ∧ fd g 294 z ≤ 9 := fun z hz => by
    have q := t2 z _ (List.getElem?_eq_getElem hz)
    have o := (o1' _ (List.getElem_mem hz)).2.2.1
    rw [q.2.2.1]
    exact o
  obtain ⟨g5, a5, b5, k5⟩ := R_s185 (d := d) (m := st.1.length) (f := fun z => fd g 294 z) (h := fun z => fd g 293 z) o1 fb st.1.length 0 g4 (by omega) (by rw [k4.1 _ _ (by omega), k3.1 _ _ (by omega), k2.1 _ _ (by omega), k1.1 _ _ (by omega)]; exact f40) (fun z hz => ⟨n4 _ _ (by unfold QSt; omega), n4 _ _ (by unfold QSt; omega)⟩)
  obtain ⟨g6, a6, b6, k6⟩ := R_s236 (d := d) 64 0 g5 (by omega)
  rw [show ((0 : Nat) : Int) = 0 from rfl] at a1 a2 a3 a4 a5 a6
  have k7 : Kf (fun a x => a = 264 ∧ (x = 73 ∨ x = 67)) nL g6 (wI (wI g6 264 73 (iI 0)) 264 67 (iI 0)) := (Kf.refl.wI (by omega)).wI (by omega)
  have z7 : ∀ a x, a ≠ 264 → fd (wI (wI g6 264 73 (iI 0)) 264 67 (iI 0)) a x = fd g6 a x := fun a x h => k7.1 _ _ (by omega)
  have z6 : ∀ a x, a ≠ 264 → a ≠ 300 → fd (wI (wI g6 264 73 (iI 0)) 264 67 (iI 0)) a x = fd g3 a x := fun a x h h' => by rw [z7 a x h, k6.1 _ _ (by omega), k5.1 _ _ (by omega), k4.1 _ _ (by omega)]
  have y : ∀ x, x ≠ 73 → x ≠ 67 → fd (wI (wI g6 264 73 (iI 0)) 264 67 (iI 0)) 264 x = fd g0 264 x := fun x h h' => by rw [k7.1 _ _ (by omega), k6.1 _ _ (by omega), k5.1 _ _ (by omega), k4.1 _ _ (by omega), k3.1 _ _ (by omega), k2.1 _ _ (by omega), k1.1 _ _ (by omega)]
  have hU : mm_M mm_T0 (d + 1) 212 [.ref 264] g = mm_D (mm_M mm_T0 d) cd_X12_stands 31 [.ref 264, .int (iI 0)] [] g0 := by
    rw [U_X12_stands]
    have r37 : (wI g 264 53 (iI 1)).1 264 37 = iI ((hm : Nat) : Int) := rdE ((fd_wI_col (by omega)).trans t1.1)
    have r39 : (wI (wI g 264 53 (iI 1)) 264 38 (iI ((hm : Nat) : Int))).1 264 39 = iI ((st.1.length : Nat) : Int) := rdE (by rw [fd_wI_col (by omega), fd_wI_col (by omega)]; exact t1.2)
    have r46 : (wI (wI (wI g 264 53 (iI 1)) 264 38 (iI ((hm : Nat) : Int))) 264 40 (iI ((st.1.length : Nat) : Int))).1 264 46 = iI st.2.2.1 := rdE (by rw [fd_wI_col (by omega), fd_wI_col (by omega), fd_wI_col (by omega)]; exact t4)
    simp only [iI_lit, r37, r39, r46, hG]
  refine ⟨_, by rw [hU, a1, a2, a3, a4, a5, a6], ⟨(y 53 (by omega) (by omega)).trans f53, (y 38 (by omega) (by omega)).trans f38, (y 40 (by omega) (by omega)).trans f40, (y 47 (by omega) (by omega)).trans f47, ?_, fd_wI_same (by omega) (by omega)⟩, fun i x hx => ?_, fun w hw => ?_, fun i v hv => ?_, ⟨⟨?_, ?_⟩, fun i x hx => ?_, fun z hz => ?_⟩, ?_⟩
  · rw [fd_wI_col (by omega)]
    exact fd_wI_same (by omega) (by omega)
  · have hi := (List.getElem?_eq_some_iff.mp hx).1
    obtain ⟨q1, q2, q3, q4⟩ := t2 i x hx
    obtain ⟨c1, c2, c3⟩ := b1 i (by omega) (by omega)
    rw [z6 _ _ (by omega) (by omega), z6 _ _ (by omega) (by omega), k3.1 _ _ (by omega), k2.1 _ _ (by omega), k3.1 _ _ (by omega), k2.1 _ _ (by omega), c2, c3, k0.1 _ _ (by omega), k0.1 _ _ (by omega), q3, q4]
    refine ⟨?_, rfl, rfl⟩
    rw [fl_wI, fl_wI, k6.2.1 _ _ (fun z => z), k5.2.1 _ _ (fun z => z), k4.2.1 _ _ (fun z => z), k3.2.1 _ _ (fun z => z), k2.2.1 _ _ (fun z => z), c1, k0.2.1 _ _ (fun z => z)]
    exact q1
  · obtain ⟨c1, c2⟩ := b2' w (by omega) hw
    rw [z6 _ _ (by omega) (by omega), z6 _ _ (by omega) (by omega), k3.1 _ _ (by omega), k3.1 _ _ (by omega), c1, c2, k1.1 _ _ (by omega), k1.1 _ _ (by omega), k0.1 _ _ (by omega), k0.1 _ _ (by omega)]
    exact ⟨rfl, rfl⟩
  · have hi := (List.getElem?_eq_some_iff.mp hv).1
    rw [z6 _ _ (by omega) (by omega), b3 i (by omega) hi, k2.1 _ _ (by omega), k1.1 _ _ (by omega), k0.1 _ _ (by omega)]
    exact t5.2 i v hv
  · rw [z7 _ _ (by omega), k6.1 _ _ (by omega), k5.1 _ _ (by omega)]
    exact b4 0 (by omega) (by omega)
  · rw [z7 _ _ (by omega), k6.1 _ _ (by omega), k5.1 _ _ (by omega)]
    exact b4 89 (by omega) (by omega)
  · have hi := (List.getElem?_eq_some_iff.mp hx).1
    obtain ⟨q1, q2, q3, q4⟩ := t2 i x hx
    obtain ⟨c1, c2⟩ := b5 i (by omega) hi
    rw [z7 _ _ (by omega), z7 _ _ (by omega), z7 _ _ (by omega), k6.1 _ _ (by omega), k6.1 _ _ (by omega), k6.1 _ _ (by omega), c1, c2, k5.1 _ _ (by omega), b4 _ (by omega) (by omega)]
    exact ⟨q2, by show 10 * fd g 294 i = _; rw [q3], rfl⟩
  · rw [z7 _ _ (by omega), b6 z (by omega) hz, k5.1 _ _ (by omega), n4 _ _ (by unfold QSt; omega)]
    exact t3 z hz
  · exact (k0.mono (fun a x q => by unfold QSt; omega) (fun a x q => q.elim)).trans ((k1.mono (fun a x q => by unfold QSt; omega) (fun a x q => by unfold LSt; omega)).trans ((k2.mono (fun a x q => by unfold QSt; omega) (fun a x q => q.elim)).trans ((k3.mono (fun a x q => by unfold QSt; omega) (fun a x q => q.elim)).trans ((k4.mono (fun a x q => by unfold QSt; omega) (fun a x q => q.elim)).trans ((k5.mono (fun a x q => by unfold QSt; omega) (fun a x q => q.elim)).trans ((k6.mono (fun a x q => by unfold QSt; omega) (fun a x q => q.elim)).trans (k7.mono (fun a x q => by unfold QSt; omega) (fun a x q => q.elim))))))))
end RSG
