set_option maxRecDepth 100000 in
set_option maxHeartbeats 4000000 in
theorem U_X12_on {d : Nat} {h : mm_H} : mm_M mm_T0 (d + 1) 320 [.ref 264] h = (mm_bI (mm_M mm_T0 d 319 [.ref 264, .int (h.1 264 1)] (wI h 264 1 0)) (fun v2 h1 => if ¬ v2 = 0 then (mm_D (mm_M mm_T0 d) cd_X12_on 57 [.ref 264, .null, .int 2, .int 0, .null] [] (wI h1 300 0 ((256 * (h1.1 265 0)) + (h1.1 265 1)))) else (some (some (.int 0), wI h1 266 5 ((h1.1 266 5) + 1))))) := by
  refine (mm_M_eq (ls := [.ref 264, .null, .null, .null, .null]) rfl (Nat.le_of_ble_eq_true rfl) rfl h).trans ?_
  refine (mm_by 8 (pc' := 12) (ls' := [.ref 264, .int (h.1 264 1), .null, .null, .null]) (st' := [.int (h.1 264 1), .ref 264]) (h' := wI h 264 1 0) rfl).trans ?_
  refine (mm_c1 (y := 319) (as := [.ref 264, .int (h.1 264 1)]) (nx := 15) (rest := []) rfl rfl).trans (mm_congI fun v2 h1 => ?_)
  refine (mm_br (c := ¬ v2 = 0) (p1 := 30) (p2 := 18) (l1 := [.ref 264, .int (h.1 264 1), .null, .null, .null]) (l2 := [.ref 264, .int (h.1 264 1), .null, .null, .null]) (s1 := []) (s2 := []) (h1 := h1) (h2 := h1) rfl rfl).trans (mm_ite ?_ ?_)
  · exact mm_by 19 rfl
  · exact mm_by_end 10 rfl
set_option maxRecDepth 100000 in
set_option maxHeartbeats 4000000 in
theorem U_X12_on_57 {d : Nat} {x2 : Int32} {x3 : Int32} {h : mm_H} : mm_D (mm_M mm_T0 d) cd_X12_on 57 [.ref 264, .null, .int x2, .int x3, .null] [] h = (if (h.1 264 40) ≤ x3 then (some (some (.int 1), wI (wI h 300 89 0) 264 73 0)) else (mm_D (mm_M mm_T0 d) cd_X12_on 68 [.ref 264, .null, .int x2, .int x3, .int 0] [] h)) := by
  refine (mm_by 3 (pc' := 62) (ls' := [.ref 264, .null, .int x2, .int x3, .null]) (st' := [.int (h.1 264 40), .int x3]) (h' := h) rfl).trans ?_
  refine (mm_br (c := (h.1 264 40) ≤ x3) (p1 := 162) (p2 := 65) (l1 := [.ref 264, .null, .int x2, .int x3, .null]) (l2 := [.ref 264, .null, .int x2, .int x3, .null]) (s1 := []) (s2 := []) (h1 := h) (h2 := h) rfl rfl).trans (mm_ite ?_ ?_)
  · exact mm_by_end 10 rfl
  · exact mm_by 2 rfl
set_option maxRecDepth 100000 in
set_option maxHeartbeats 4000000 in
theorem U_X12_on_68 {d : Nat} {x2 : Int32} {x3 : Int32} {x4 : Int32} {h : mm_H} : mm_D (mm_M mm_T0 d) cd_X12_on 68 [.ref 264, .null, .int x2, .int x3, .int x4] [] h = (if 3 ≤ x4 then (mm_D (mm_M mm_T0 d) cd_X12_on 108 [.ref 264, .null, .int (x2 + 3), .int x3, .int 0] [] h) else (if (x2 + x4) < 0 ∨ 1600 ≤ (x2 + x4).toNatClampNeg then none else (if ((1 + (3 * x3)) + x4) < 0 ∨ 210 ≤ ((1 + (3 * x3)) + x4).toNatClampNeg then none else (mm_D (mm_M mm_T0 d) cd_X12_on 68 [.ref 264, .null, .int x2, .int x3, .int (x4 + 1)] [] (wI h 300 (((1 + (3 * x3)) + x4).toNatClampNeg) (h.1 265 (x2 + x4).toNatClampNeg)))))) := by
  refine (mm_by 2 (pc' := 71) (ls' := [.ref 264, .null, .int x2, .int x3, .int x4]) (st' := [.int 3, .int x4]) (h' := h) rfl).trans ?_
  refine (mm_br (c := 3 ≤ x4) (p1 := 102) (p2 := 74) (l1 := [.ref 264, .null, .int x2, .int x3, .int x4]) (l2 := [.ref 264, .null, .int x2, .int x3, .int x4]) (s1 := []) (s2 := []) (h1 := h) (h2 := h) rfl rfl).trans (mm_ite ?_ ?_)
  · exact mm_by 3 rfl
  · refine (mm_by 14 (pc' := 94) (ls' := [.ref 264, .null, .int x2, .int x3, .int x4]) (st' := [.int (x2 + x4), .ref 265, .int ((1 + (3 * x3)) + x4), .ref 300]) (h' := h) rfl).trans ?_
    refine (mm_gd (c := (x2 + x4) < 0 ∨ 1600 ≤ (x2 + x4).toNatClampNeg) (p1 := 95) (l1 := [.ref 264, .null, .int x2, .int x3, .int x4]) (s1 := [.int (h.1 265 (x2 + x4).toNatClampNeg), .int ((1 + (3 * x3)) + x4), .ref 300]) (h1 := h) rfl (q_iald (n := 1600) rfl)).trans (mm_ite rfl ?_)
    refine (mm_gd (c := ((1 + (3 * x3)) + x4) < 0 ∨ 210 ≤ ((1 + (3 * x3)) + x4).toNatClampNeg) (p1 := 96) (l1 := [.ref 264, .null, .int x2, .int x3, .int x4]) (s1 := []) (h1 := wI h 300 (((1 + (3 * x3)) + x4).toNatClampNeg) (h.1 265 (x2 + x4).toNatClampNeg)) rfl (q_iast (n := 210) rfl)).trans (mm_ite rfl ?_)
    exact mm_by 2 rfl
set_option maxRecDepth 100000 in
set_option maxHeartbeats 4000000 in
theorem U_X12_on_108 {d : Nat} {x2 : Int32} {x3 : Int32} {x4 : Int32} {h : mm_H} : mm_D (mm_M mm_T0 d) cd_X12_on 108 [.ref 264, .null, .int x2, .int x3, .int x4] [] h = (if (h.1 264 40) ≤ x4 then (mm_D (mm_M mm_T0 d) cd_X12_on 57 [.ref 264, .null, .int x2, .int (x3 + 1), .null] [] h) else (if ¬ x4 = x3 then (if x2 < 0 ∨ 1600 ≤ x2.toNatClampNeg then none else (if ((25 + (8 * x3)) + x4) < 0 ∨ 210 ≤ ((25 + (8 * x3)) + x4).toNatClampNeg then none else (mm_D (mm_M mm_T0 d) cd_X12_on 108 [.ref 264, .null, .int (x2 + 1), .int x3, .int (x4 + 1)] [] (wI h 300 (((25 + (8 * x3)) + x4).toNatClampNeg) (h.1 265 x2.toNatClampNeg))))) else (mm_D (mm_M mm_T0 d) cd_X12_on 108 [.ref 264, .null, .int x2, .int x3, .int (x4 + 1)] [] h))) := by
  refine (mm_by 3 (pc' := 114) (ls' := [.ref 264, .null, .int x2, .int x3, .int x4]) (st' := [.int (h.1 264 40), .int x4]) (h' := h) rfl).trans ?_
  refine (mm_br (c := (h.1 264 40) ≤ x4) (p1 := 156) (p2 := 117) (l1 := [.ref 264, .null, .int x2, .int x3, .int x4]) (l2 := [.ref 264, .null, .int x2, .int x3, .int x4]) (s1 := []) (s2 := []) (h1 := h) (h2 := h) rfl rfl).trans (mm_ite ?_ ?_)
  · exact mm_by 2 rfl
  · refine (mm_by 2 (pc' := 120) (ls' := [.ref 264, .null, .int x2, .int x3, .int x4]) (st' := [.int x3, .int x4]) (h' := h) rfl).trans ?_
    refine (mm_br (c := ¬ x4 = x3) (p1 := 126) (p2 := 123) (l1 := [.ref 264, .null, .int x2, .int x3, .int x4]) (l2 := [.ref 264, .null, .int x2, .int x3, .int x4]) (s1 := []) (s2 := []) (h1 := h) (h2 := h) rfl rfl).trans (mm_ite ?_ ?_)
    · refine (mm_by 12 (pc' := 145) (ls' := [.ref 264, .null, .int x2, .int x3, .int x4]) (st' := [.int x2, .ref 265, .int ((25 + (8 * x3)) + x4), .ref 300]) (h' := h) rfl).trans ?_
      refine (mm_gd (c := x2 < 0 ∨ 1600 ≤ x2.toNatClampNeg) (p1 := 146) (l1 := [.ref 264, .null, .int x2, .int x3, .int x4]) (s1 := [.int (h.1 265 x2.toNatClampNeg), .int ((25 + (8 * x3)) + x4), .ref 300]) (h1 := h) rfl (q_iald (n := 1600) rfl)).trans (mm_ite rfl ?_)
      refine (mm_gd (c := ((25 + (8 * x3)) + x4) < 0 ∨ 210 ≤ ((25 + (8 * x3)) + x4).toNatClampNeg) (p1 := 147) (l1 := [.ref 264, .null, .int x2, .int x3, .int x4]) (s1 := []) (h1 := wI h 300 (((25 + (8 * x3)) + x4).toNatClampNeg) (h.1 265 x2.toNatClampNeg)) rfl (q_iast (n := 210) rfl)).trans (mm_ite rfl ?_)
      exact mm_by 3 rfl
    · exact mm_by 3 rfl
set_option maxRecDepth 100000 in
set_option maxHeartbeats 4000000 in
theorem U_X12_status {d : Nat} {x1 : Int32} {h : mm_H} : mm_M mm_T0 (d + 1) 321 [.ref 264, .int x1] h = (mm_bI (mm_M mm_T0 d 188 [.long x1.toInt64, .long 0, .long 5] h) (fun v2 h1 => if v2 = 0 then (some (some (.int ((-1))), h1)) else (if x1 < 0 ∨ 6 ≤ x1.toNatClampNeg then none else (some (some (.int (h1.1 266 x1.toNatClampNeg)), h1))))) := by
  refine (mm_M_eq (ls := [.ref 264, .int x1]) rfl (Nat.le_of_ble_eq_true rfl) rfl h).trans ?_
  refine (mm_by 4 (pc' := 6) (ls' := [.ref 264, .int x1]) (st' := [.long 5, .long 0, .long x1.toInt64]) (h' := h) rfl).trans ?_
  refine (mm_c1 (y := 188) (as := [.long x1.toInt64, .long 0, .long 5]) (nx := 9) (rest := []) rfl rfl).trans (mm_congI fun v2 h1 => ?_)
  refine (mm_br (c := v2 = 0) (p1 := 21) (p2 := 12) (l1 := [.ref 264, .int x1]) (l2 := [.ref 264, .int x1]) (s1 := []) (s2 := []) (h1 := h1) (h2 := h1) rfl rfl).trans (mm_ite ?_ ?_)
  · exact mm_by_end 2 rfl
  · refine (mm_by 3 (pc' := 17) (ls' := [.ref 264, .int x1]) (st' := [.int x1, .ref 266]) (h' := h1) rfl).trans ?_
    refine (mm_gd (c := x1 < 0 ∨ 6 ≤ x1.toNatClampNeg) (p1 := 18) (l1 := [.ref 264, .int x1]) (s1 := [.int (h1.1 266 x1.toNatClampNeg)]) (h1 := h1) rfl (q_iald (n := 6) rfl)).trans (mm_ite rfl ?_)
    exact mm_by_end 2 rfl
