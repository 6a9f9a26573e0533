set_option maxRecDepth 100000 in
set_option maxHeartbeats 4000000 in
theorem U_X12_stroke {d : Nat} {x1 : Int32} {x2 : Int32} {h : mm_H} : mm_M mm_T0 (d + 1) 232 [.ref 264, .int x1, .int x2] h = (mm_bI (mm_M mm_T0 d 225 [.ref 264, .int x1, .int x2] h) (fun v2 h1 => if v2 = ((-1)) then (some (none, h1)) else (mm_bI (mm_M mm_T0 d 220 [.ref 264, .int v2] h1) (fun v4 h3 => if v4 = 0 then (mm_bI (mm_M mm_T0 d 219 [.ref 264, .int x1] h3) (fun v6 h5 => mm_bI (mm_M mm_T0 d 228 [.ref 264, .int x1, .int v2, .int x2] h5) (fun v8 h7 => if (2 + (3 * x1)) < 0 ∨ 210 ≤ (2 + (3 * x1)).toNatClampNeg then none else (if ¬ v8 = 0 then (mm_bI (mm_M mm_T0 d 229 [.ref 264, .int x1, .int v2, .int (v8 - v6)] (wI h7 300 ((2 + (3 * x1)).toNatClampNeg) v8)) (fun v10 h9 => if ((25 + (8 * x1)) + v2) < 0 ∨ 210 ≤ ((25 + (8 * x1)) + v2).toNatClampNeg then none else (some (none, wI h9 300 (((25 + (8 * x1)) + v2).toNatClampNeg) v10)))) else (if v6 ≤ 0 then (mm_bI (mm_M mm_T0 d 229 [.ref 264, .int x1, .int v2, .int (v8 - v6)] (wI h7 300 ((2 + (3 * x1)).toNatClampNeg) v8)) (fun v12 h11 => if ((25 + (8 * x1)) + v2) < 0 ∨ 210 ≤ ((25 + (8 * x1)) + v2).toNatClampNeg then none else (some (none, wI h11 300 (((25 + (8 * x1)) + v2).toNatClampNeg) v12)))) else (mm_bV (mm_M mm_T0 d 231 [.ref 264, .int x1, .int v2] (wI (wI h7 300 ((2 + (3 * x1)).toNatClampNeg) v8) 264 65 (((wI h7 300 ((2 + (3 * x1)).toNatClampNeg) v8).1 264 65) + 1))) (fun h13 => mm_bI (mm_M mm_T0 d 229 [.ref 264, .int x1, .int v2, .int (v8 - v6)] h13) (fun v15 h14 => if ((25 + (8 * x1)) + v2) < 0 ∨ 210 ≤ ((25 + (8 * x1)) + v2).toNatClampNeg then none else (some (none, wI h14 300 (((25 + (8 * x1)) + v2).toNatClampNeg) v15)))))))))) else (some (none, h3)))))) := by
  refine (mm_M_eq (ls := [.ref 264, .int x1, .int x2, .null, .null, .null]) rfl (Nat.le_of_ble_eq_true rfl) rfl h).trans ?_
  refine (mm_by 3 (pc' := 3) (ls' := [.ref 264, .int x1, .int x2, .null, .null, .null]) (st' := [.int x2, .int x1, .ref 264]) (h' := h) rfl).trans ?_
  refine (mm_c1 (y := 225) (as := [.ref 264, .int x1, .int x2]) (nx := 6) (rest := []) rfl rfl).trans (mm_congI fun v2 h1 => ?_)
  refine (mm_by 3 (pc' := 9) (ls' := [.ref 264, .int x1, .int x2, .int v2, .null, .null]) (st' := [.int ((-1)), .int v2]) (h' := h1) rfl).trans ?_
  refine (mm_br (c := v2 = ((-1))) (p1 := 20) (p2 := 12) (l1 := [.ref 264, .int x1, .int x2, .int v2, .null, .null]) (l2 := [.ref 264, .int x1, .int x2, .int v2, .null, .null]) (s1 := []) (s2 := []) (h1 := h1) (h2 := h1) rfl rfl).trans (mm_ite ?_ ?_)
  · exact mm_by_end 1 rfl
  · refine (mm_by 2 (pc' := 14) (ls' := [.ref 264, .int x1, .int x2, .int v2, .null, .null]) (st' := [.int v2, .ref 264]) (h' := h1) rfl).trans ?_
    refine (mm_c1 (y := 220) (as := [.ref 264, .int v2]) (nx := 17) (rest := []) rfl rfl).trans (mm_congI fun v4 h3 => ?_)
    refine (mm_br (c := v4 = 0) (p1 := 21) (p2 := 20) (l1 := [.ref 264, .int x1, .int x2, .int v2, .null, .null]) (l2 := [.ref 264, .int x1, .int x2, .int v2, .null, .null]) (s1 := []) (s2 := []) (h1 := h3) (h2 := h3) rfl rfl).trans (mm_ite ?_ ?_)
    · refine (mm_by 2 (pc' := 23) (ls' := [.ref 264, .int x1, .int x2, .int v2, .null, .null]) (st' := [.int x1, .ref 264]) (h' := h3) rfl).trans ?_
      refine (mm_c1 (y := 219) (as := [.ref 264, .int x1]) (nx := 26) (rest := []) rfl rfl).trans (mm_congI fun v6 h5 => ?_)
      refine (mm_by 5 (pc' := 32) (ls' := [.ref 264, .int x1, .int x2, .int v2, .int v6, .null]) (st' := [.int x2, .int v2, .int x1, .ref 264]) (h' := h5) rfl).trans ?_
      refine (mm_c1 (y := 228) (as := [.ref 264, .int x1, .int v2, .int x2]) (nx := 35) (rest := []) rfl rfl).trans (mm_congI fun v8 h7 => ?_)
      refine (mm_by 9 (pc' := 48) (ls' := [.ref 264, .int x1, .int x2, .int v2, .int v6, .int v8]) (st' := [.int v8, .int (2 + (3 * x1)), .ref 300]) (h' := h7) rfl).trans ?_
      refine (mm_gd (c := (2 + (3 * x1)) < 0 ∨ 210 ≤ (2 + (3 * x1)).toNatClampNeg) (p1 := 49) (l1 := [.ref 264, .int x1, .int x2, .int v2, .int v6, .int v8]) (s1 := []) (h1 := wI h7 300 ((2 + (3 * x1)).toNatClampNeg) v8) rfl (q_iast (n := 210) rfl)).trans (mm_ite rfl ?_)
      refine (mm_by 1 (pc' := 51) (ls' := [.ref 264, .int x1, .int x2, .int v2, .int v6, .int v8]) (st' := [.int v8]) (h' := wI h7 300 ((2 + (3 * x1)).toNatClampNeg) v8) rfl).trans ?_
      refine (mm_br (c := ¬ v8 = 0) (p1 := 75) (p2 := 54) (l1 := [.ref 264, .int x1, .int x2, .int v2, .int v6, .int v8]) (l2 := [.ref 264, .int x1, .int x2, .int v2, .int v6, .int v8]) (s1 := []) (s2 := []) (h1 := wI h7 300 ((2 + (3 * x1)).toNatClampNeg) v8) (h2 := wI h7 300 ((2 + (3 * x1)).toNatClampNeg) v8) rfl rfl).trans (mm_ite ?_ ?_)
      · refine (mm_by 15 (pc' := 96) (ls' := [.ref 264, .int x1, .int x2, .int v2, .int v6, .int v8]) (st' := [.int (v8 - v6), .int v2, .int x1, .ref 264, .int ((25 + (8 * x1)) + v2), .ref 300]) (h' := wI h7 300 ((2 + (3 * x1)).toNatClampNeg) v8) rfl).trans ?_
        refine (mm_c1 (y := 229) (as := [.ref 264, .int x1, .int v2, .int (v8 - v6)]) (nx := 99) (rest := [.int ((25 + (8 * x1)) + v2), .ref 300]) rfl rfl).trans (mm_congI fun v10 h9 => ?_)
        refine (mm_gd (c := ((25 + (8 * x1)) + v2) < 0 ∨ 210 ≤ ((25 + (8 * x1)) + v2).toNatClampNeg) (p1 := 100) (l1 := [.ref 264, .int x1, .int x2, .int v2, .int v6, .int v8]) (s1 := []) (h1 := wI h9 300 (((25 + (8 * x1)) + v2).toNatClampNeg) v10) rfl (q_iast (n := 210) rfl)).trans (mm_ite rfl ?_)
        exact mm_by_end 1 rfl
      · refine (mm_by 1 (pc' := 56) (ls' := [.ref 264, .int x1, .int x2, .int v2, .int v6, .int v8]) (st' := [.int v6]) (h' := wI h7 300 ((2 + (3 * x1)).toNatClampNeg) v8) rfl).trans ?_
        refine (mm_br (c := v6 ≤ 0) (p1 := 75) (p2 := 59) (l1 := [.ref 264, .int x1, .int x2, .int v2, .int v6, .int v8]) (l2 := [.ref 264, .int x1, .int x2, .int v2, .int v6, .int v8]) (s1 := []) (s2 := []) (h1 := wI h7 300 ((2 + (3 * x1)).toNatClampNeg) v8) (h2 := wI h7 300 ((2 + (3 * x1)).toNatClampNeg) v8) rfl rfl).trans (mm_ite ?_ ?_)
        · refine (mm_by 15 (pc' := 96) (ls' := [.ref 264, .int x1, .int x2, .int v2, .int v6, .int v8]) (st' := [.int (v8 - v6), .int v2, .int x1, .ref 264, .int ((25 + (8 * x1)) + v2), .ref 300]) (h' := wI h7 300 ((2 + (3 * x1)).toNatClampNeg) v8) rfl).trans ?_
          refine (mm_c1 (y := 229) (as := [.ref 264, .int x1, .int v2, .int (v8 - v6)]) (nx := 99) (rest := [.int ((25 + (8 * x1)) + v2), .ref 300]) rfl rfl).trans (mm_congI fun v12 h11 => ?_)
          refine (mm_gd (c := ((25 + (8 * x1)) + v2) < 0 ∨ 210 ≤ ((25 + (8 * x1)) + v2).toNatClampNeg) (p1 := 100) (l1 := [.ref 264, .int x1, .int x2, .int v2, .int v6, .int v8]) (s1 := []) (h1 := wI h11 300 (((25 + (8 * x1)) + v2).toNatClampNeg) v12) rfl (q_iast (n := 210) rfl)).trans (mm_ite rfl ?_)
          exact mm_by_end 1 rfl
        · refine (mm_by 9 (pc' := 72) (ls' := [.ref 264, .int x1, .int x2, .int v2, .int v6, .int v8]) (st' := [.int v2, .int x1, .ref 264]) (h' := wI (wI h7 300 ((2 + (3 * x1)).toNatClampNeg) v8) 264 65 (((wI h7 300 ((2 + (3 * x1)).toNatClampNeg) v8).1 264 65) + 1)) rfl).trans ?_
          refine (mm_c0 (y := 231) (as := [.ref 264, .int x1, .int v2]) (nx := 75) (rest := []) rfl rfl).trans (mm_congV fun h13 => ?_)
          refine (mm_by 15 (pc' := 96) (ls' := [.ref 264, .int x1, .int x2, .int v2, .int v6, .int v8]) (st' := [.int (v8 - v6), .int v2, .int x1, .ref 264, .int ((25 + (8 * x1)) + v2), .ref 300]) (h' := h13) rfl).trans ?_
          refine (mm_c1 (y := 229) (as := [.ref 264, .int x1, .int v2, .int (v8 - v6)]) (nx := 99) (rest := [.int ((25 + (8 * x1)) + v2), .ref 300]) rfl rfl).trans (mm_congI fun v15 h14 => ?_)
          refine (mm_gd (c := ((25 + (8 * x1)) + v2) < 0 ∨ 210 ≤ ((25 + (8 * x1)) + v2).toNatClampNeg) (p1 := 100) (l1 := [.ref 264, .int x1, .int x2, .int v2, .int v6, .int v8]) (s1 := []) (h1 := wI h14 300 (((25 + (8 * x1)) + v2).toNatClampNeg) v15) rfl (q_iast (n := 210) rfl)).trans (mm_ite rfl ?_)
          exact mm_by_end 1 rfl
    · exact mm_by_end 1 rfl
set_option maxRecDepth 100000 in
set_option maxHeartbeats 4000000 in
theorem U_X12_yearGoes {d : Nat} {h : mm_H} : mm_M mm_T0 (d + 1) 233 [.ref 264] h = (mm_D (mm_M mm_T0 d) cd_X12_yearGoes 2 [.ref 264, .int 0, .null] [] h) := by
  refine (mm_M_eq (ls := [.ref 264, .null, .null]) rfl (Nat.le_of_ble_eq_true rfl) rfl h).trans ?_
  exact mm_by 2 rfl
set_option maxRecDepth 100000 in
set_option maxHeartbeats 4000000 in
theorem U_X12_yearGoes_2 {d : Nat} {x1 : Int32} {h : mm_H} : mm_D (mm_M mm_T0 d) cd_X12_yearGoes 2 [.ref 264, .int x1, .null] [] h = (if (h.1 264 38) ≤ x1 then (some (none, wI h 300 0 ((h.1 300 0) + 1))) else (mm_bI (mm_M mm_T0 d 224 [.ref 264, .int x1] h) (fun v2 h1 => if ¬ v2 = ((-1)) then (mm_bV (mm_M mm_T0 d 232 [.ref 264, .int v2, .int 0] h1) (fun h3 => mm_bV (mm_M mm_T0 d 232 [.ref 264, .int v2, .int 1] h3) (fun h4 => mm_D (mm_M mm_T0 d) cd_X12_yearGoes 2 [.ref 264, .int (x1 + 1), .null] [] h4))) else (mm_D (mm_M mm_T0 d) cd_X12_yearGoes 2 [.ref 264, .int (x1 + 1), .null] [] h1)))) := by
  refine (mm_by 3 (pc' := 7) (ls' := [.ref 264, .int x1, .null]) (st' := [.int (h.1 264 38), .int x1]) (h' := h) rfl).trans ?_
  refine (mm_br (c := (h.1 264 38) ≤ x1) (p1 := 42) (p2 := 10) (l1 := [.ref 264, .int x1, .null]) (l2 := [.ref 264, .int x1, .null]) (s1 := []) (s2 := []) (h1 := h) (h2 := h) rfl rfl).trans (mm_ite ?_ ?_)
  · exact mm_by_end 9 rfl
  · refine (mm_by 2 (pc' := 12) (ls' := [.ref 264, .int x1, .null]) (st' := [.int x1, .ref 264]) (h' := h) rfl).trans ?_
    refine (mm_c1 (y := 224) (as := [.ref 264, .int x1]) (nx := 15) (rest := []) rfl rfl).trans (mm_congI fun v2 h1 => ?_)
    refine (mm_by 3 (pc' := 18) (ls' := [.ref 264, .int x1, .int v2]) (st' := [.int ((-1)), .int v2]) (h' := h1) rfl).trans ?_
    refine (mm_br (c := ¬ v2 = ((-1))) (p1 := 24) (p2 := 21) (l1 := [.ref 264, .int x1, .int v2]) (l2 := [.ref 264, .int x1, .int v2]) (s1 := []) (s2 := []) (h1 := h1) (h2 := h1) rfl rfl).trans (mm_ite ?_ ?_)
    · refine (mm_by 3 (pc' := 27) (ls' := [.ref 264, .int x1, .int v2]) (st' := [.int 0, .int v2, .ref 264]) (h' := h1) rfl).trans ?_
      refine (mm_c0 (y := 232) (as := [.ref 264, .int v2, .int 0]) (nx := 30) (rest := []) rfl rfl).trans (mm_congV fun h3 => ?_)
      refine (mm_by 3 (pc' := 33) (ls' := [.ref 264, .int x1, .int v2]) (st' := [.int 1, .int v2, .ref 264]) (h' := h3) rfl).trans ?_
      refine (mm_c0 (y := 232) (as := [.ref 264, .int v2, .int 1]) (nx := 36) (rest := []) rfl rfl).trans (mm_congV fun h4 => ?_)
      exact mm_by 2 rfl
    · exact mm_by 3 rfl
set_option maxRecDepth 100000 in
set_option maxHeartbeats 4000000 in
theorem U_X12_yearsGo {d : Nat} {x1 : Int32} {h : mm_H} : mm_M mm_T0 (d + 1) 234 [.ref 264, .int x1] h = (mm_D (mm_M mm_T0 d) cd_X12_yearsGo 2 [.ref 264, .int x1, .int 0] [] h) := by
  refine (mm_M_eq (ls := [.ref 264, .int x1, .null]) rfl (Nat.le_of_ble_eq_true rfl) rfl h).trans ?_
  exact mm_by 2 rfl
set_option maxRecDepth 100000 in
set_option maxHeartbeats 4000000 in
theorem U_X12_yearsGo_2 {d : Nat} {x1 : Int32} {x2 : Int32} {h : mm_H} : mm_D (mm_M mm_T0 d) cd_X12_yearsGo 2 [.ref 264, .int x1, .int x2] [] h = (if x1 ≤ x2 then (some (none, h)) else (mm_bV (mm_M mm_T0 d 233 [.ref 264] h) (fun h1 => mm_D (mm_M mm_T0 d) cd_X12_yearsGo 2 [.ref 264, .int x1, .int (x2 + 1)] [] h1))) := by
  refine (mm_by 2 (pc' := 4) (ls' := [.ref 264, .int x1, .int x2]) (st' := [.int x1, .int x2]) (h' := h) rfl).trans ?_
  refine (mm_br (c := x1 ≤ x2) (p1 := 17) (p2 := 7) (l1 := [.ref 264, .int x1, .int x2]) (l2 := [.ref 264, .int x1, .int x2]) (s1 := []) (s2 := []) (h1 := h) (h2 := h) rfl rfl).trans (mm_ite ?_ ?_)
  · exact mm_by_end 1 rfl
  · refine (mm_by 1 (pc' := 8) (ls' := [.ref 264, .int x1, .int x2]) (st' := [.ref 264]) (h' := h) rfl).trans ?_
    refine (mm_c0 (y := 233) (as := [.ref 264]) (nx := 11) (rest := []) rfl rfl).trans (mm_congV fun h1 => ?_)
    exact mm_by 2 rfl
set_option maxRecDepth 100000 in
set_option maxHeartbeats 4000000 in
theorem U_X12_putsAside {d : Nat} {h : mm_H} : mm_M mm_T0 (d + 1) 235 [.ref 264] h = (mm_D (mm_M mm_T0 d) cd_X12_putsAside 7 [.ref 264, .int 0] [] (wI h 264 64 1)) := by
  refine (mm_M_eq (ls := [.ref 264, .null]) rfl (Nat.le_of_ble_eq_true rfl) rfl h).trans ?_
  exact mm_by 5 rfl
set_option maxRecDepth 100000 in
set_option maxHeartbeats 4000000 in
theorem U_X12_putsAside_7 {d : Nat} {x1 : Int32} {h : mm_H} : mm_D (mm_M mm_T0 d) cd_X12_putsAside 7 [.ref 264, .int x1] [] h = (if 89 ≤ x1 then (some (none, h)) else (if x1 < 0 ∨ 210 ≤ x1.toNatClampNeg then none else (if x1 < 0 ∨ 89 ≤ x1.toNatClampNeg then none else (mm_D (mm_M mm_T0 d) cd_X12_putsAside 7 [.ref 264, .int (x1 + 1)] [] (wI h 301 x1.toNatClampNeg (h.1 300 x1.toNatClampNeg)))))) := by
  refine (mm_by 2 (pc' := 10) (ls' := [.ref 264, .int x1]) (st' := [.int 89, .int x1]) (h' := h) rfl).trans ?_
  refine (mm_br (c := 89 ≤ x1) (p1 := 31) (p2 := 13) (l1 := [.ref 264, .int x1]) (l2 := [.ref 264, .int x1]) (s1 := []) (s2 := []) (h1 := h) (h2 := h) rfl rfl).trans (mm_ite ?_ ?_)
  · exact mm_by_end 1 rfl
  · refine (mm_by 6 (pc' := 23) (ls' := [.ref 264, .int x1]) (st' := [.int x1, .ref 300, .int x1, .ref 301]) (h' := h) rfl).trans ?_
    refine (mm_gd (c := x1 < 0 ∨ 210 ≤ x1.toNatClampNeg) (p1 := 24) (l1 := [.ref 264, .int x1]) (s1 := [.int (h.1 300 x1.toNatClampNeg), .int x1, .ref 301]) (h1 := h) rfl (q_iald (n := 210) rfl)).trans (mm_ite rfl ?_)
    refine (mm_gd (c := x1 < 0 ∨ 89 ≤ x1.toNatClampNeg) (p1 := 25) (l1 := [.ref 264, .int x1]) (s1 := []) (h1 := wI h 301 x1.toNatClampNeg (h.1 300 x1.toNatClampNeg)) rfl (q_iast (n := 89) rfl)).trans (mm_ite rfl ?_)
    exact mm_by 2 rfl
set_option maxRecDepth 100000 in
set_option maxHeartbeats 4000000 in
theorem U_X12_triesAnew {d : Nat} {h : mm_H} : mm_M mm_T0 (d + 1) 236 [.ref 264] h = (mm_D (mm_M mm_T0 d) cd_X12_triesAnew 2 [.ref 264, .int 0] [] h) := by
  refine (mm_M_eq (ls := [.ref 264, .null]) rfl (Nat.le_of_ble_eq_true rfl) rfl h).trans ?_
  exact mm_by 2 rfl
set_option maxRecDepth 100000 in
set_option maxHeartbeats 4000000 in
theorem U_X12_triesAnew_2 {d : Nat} {x1 : Int32} {h : mm_H} : mm_D (mm_M mm_T0 d) cd_X12_triesAnew 2 [.ref 264, .int x1] [] h = (if 89 ≤ x1 then (some (none, h)) else (if x1 < 0 ∨ 89 ≤ x1.toNatClampNeg then none else (if x1 < 0 ∨ 210 ≤ x1.toNatClampNeg then none else (mm_D (mm_M mm_T0 d) cd_X12_triesAnew 2 [.ref 264, .int (x1 + 1)] [] (wI h 300 x1.toNatClampNeg (h.1 301 x1.toNatClampNeg)))))) := by
  refine (mm_by 2 (pc' := 5) (ls' := [.ref 264, .int x1]) (st' := [.int 89, .int x1]) (h' := h) rfl).trans ?_
  refine (mm_br (c := 89 ≤ x1) (p1 := 26) (p2 := 8) (l1 := [.ref 264, .int x1]) (l2 := [.ref 264, .int x1]) (s1 := []) (s2 := []) (h1 := h) (h2 := h) rfl rfl).trans (mm_ite ?_ ?_)
  · exact mm_by_end 1 rfl
  · refine (mm_by 6 (pc' := 18) (ls' := [.ref 264, .int x1]) (st' := [.int x1, .ref 301, .int x1, .ref 300]) (h' := h) rfl).trans ?_
    refine (mm_gd (c := x1 < 0 ∨ 89 ≤ x1.toNatClampNeg) (p1 := 19) (l1 := [.ref 264, .int x1]) (s1 := [.int (h.1 301 x1.toNatClampNeg), .int x1, .ref 300]) (h1 := h) rfl (q_iald (n := 89) rfl)).trans (mm_ite rfl ?_)
    refine (mm_gd (c := x1 < 0 ∨ 210 ≤ x1.toNatClampNeg) (p1 := 20) (l1 := [.ref 264, .int x1]) (s1 := []) (h1 := wI h 300 x1.toNatClampNeg (h.1 301 x1.toNatClampNeg)) rfl (q_iast (n := 210) rfl)).trans (mm_ite rfl ?_)
    exact mm_by 2 rfl
set_option maxRecDepth 100000 in
set_option maxHeartbeats 4000000 in
theorem U_X12_takesBack {d : Nat} {h : mm_H} : mm_M mm_T0 (d + 1) 237 [.ref 264] h = (mm_bV (mm_M mm_T0 d 236 [.ref 264] h) (fun h1 => some (none, wI h1 264 64 0))) := by
  refine (mm_M_eq (ls := [.ref 264]) rfl (Nat.le_of_ble_eq_true rfl) rfl h).trans ?_
  refine (mm_by 1 (pc' := 1) (ls' := [.ref 264]) (st' := [.ref 264]) (h' := h) rfl).trans ?_
  refine (mm_c0 (y := 236) (as := [.ref 264]) (nx := 4) (rest := []) rfl rfl).trans (mm_congV fun h1 => ?_)
  exact mm_by_end 4 rfl
set_option maxRecDepth 100000 in
set_option maxHeartbeats 4000000 in
theorem U_X12_isAhead {d : Nat} {x1 : Int32} {x2 : Int32} {x3 : Int32} {h : mm_H} : mm_M mm_T0 (d + 1) 238 [.ref 264, .int x1, .int x2, .int x3] h = (mm_bI (mm_M mm_T0 d 188 [.long x1.toInt64, .long x2.toInt64, .long x3.toInt64] h) (fun v2 h1 => if v2 = 0 then (some (some (.int 0), h1)) else (if 999 < ((h1.1 300 0) + x1) then (some (some (.int 0), h1)) else (some (some (.int 1), h1))))) := by
  refine (mm_M_eq (ls := [.ref 264, .int x1, .int x2, .int x3]) rfl (Nat.le_of_ble_eq_true rfl) rfl h).trans ?_
  refine (mm_by 6 (pc' := 6) (ls' := [.ref 264, .int x1, .int x2, .int x3]) (st' := [.long x3.toInt64, .long x2.toInt64, .long x1.toInt64]) (h' := h) rfl).trans ?_
  refine (mm_c1 (y := 188) (as := [.long x1.toInt64, .long x2.toInt64, .long x3.toInt64]) (nx := 9) (rest := []) rfl rfl).trans (mm_congI fun v2 h1 => ?_)
  refine (mm_br (c := v2 = 0) (p1 := 30) (p2 := 12) (l1 := [.ref 264, .int x1, .int x2, .int x3]) (l2 := [.ref 264, .int x1, .int x2, .int x3]) (s1 := []) (s2 := []) (h1 := h1) (h2 := h1) rfl rfl).trans (mm_ite ?_ ?_)
  · exact mm_by_end 2 rfl
  · refine (mm_by 7 (pc' := 23) (ls' := [.ref 264, .int x1, .int x2, .int x3]) (st' := [.int 999, .int ((h1.1 300 0) + x1)]) (h' := h1) rfl).trans ?_
    refine (mm_br (c := 999 < ((h1.1 300 0) + x1)) (p1 := 30) (p2 := 26) (l1 := [.ref 264, .int x1, .int x2, .int x3]) (l2 := [.ref 264, .int x1, .int x2, .int x3]) (s1 := []) (s2 := []) (h1 := h1) (h2 := h1) rfl rfl).trans (mm_ite ?_ ?_)
    · exact mm_by_end 2 rfl
    · exact mm_by_end 3 rfl
set_option maxRecDepth 100000 in
set_option maxHeartbeats 4000000 in
theorem U_X12_bits {d : Nat} {x0 : Int32} {h : mm_H} : mm_M mm_T0 (d + 1) 239 [.int x0] h = (mm_D (mm_M mm_T0 d) cd_X12_bits 4 [.null, .int 0, .int x0] [] h) := by
  refine (mm_M_eq (ls := [.int x0, .null, .null]) rfl (Nat.le_of_ble_eq_true rfl) rfl h).trans ?_
  exact mm_by 4 rfl
set_option maxRecDepth 100000 in
set_option maxHeartbeats 4000000 in
theorem U_X12_bits_4 {d : Nat} {x1 : Int32} {x2 : Int32} {h : mm_H} : mm_D (mm_M mm_T0 d) cd_X12_bits 4 [.null, .int x1, .int x2] [] h = (if x2 = 0 then (some (some (.int x1), h)) else (mm_D (mm_M mm_T0 d) cd_X12_bits 4 [.null, .int (x1 + 1), .int (x2 &&& (x2 - 1))] [] h)) := by
  refine (mm_by 1 (pc' := 5) (ls' := [.null, .int x1, .int x2]) (st' := [.int x2]) (h' := h) rfl).trans ?_
  refine (mm_br (c := x2 = 0) (p1 := 20) (p2 := 8) (l1 := [.null, .int x1, .int x2]) (l2 := [.null, .int x1, .int x2]) (s1 := []) (s2 := []) (h1 := h) (h2 := h) rfl rfl).trans (mm_ite ?_ ?_)
  · exact mm_by_end 2 rfl
  · exact mm_by 8 rfl
set_option maxRecDepth 100000 in
set_option maxHeartbeats 4000000 in
theorem U_X12_lookAll {d : Nat} {h : mm_H} : mm_M mm_T0 (d + 1) 240 [.ref 264] h = (mm_D (mm_M mm_T0 d) cd_X12_lookAll 4 [.ref 264, .int 0, .int 0] [] h) := by
  refine (mm_M_eq (ls := [.ref 264, .null, .null]) rfl (Nat.le_of_ble_eq_true rfl) rfl h).trans ?_
  exact mm_by 4 rfl
set_option maxRecDepth 100000 in
set_option maxHeartbeats 4000000 in
theorem U_X12_lookAll_4 {d : Nat} {x1 : Int32} {x2 : Int32} {h : mm_H} : mm_D (mm_M mm_T0 d) cd_X12_lookAll 4 [.ref 264, .int x1, .int x2] [] h = (if (h.1 264 40) ≤ x2 then (some (some (.int x1), h)) else (mm_bI (mm_M mm_T0 d 219 [.ref 264, .int x2] h) (fun v2 h1 => mm_D (mm_M mm_T0 d) cd_X12_lookAll 4 [.ref 264, .int (x1 + v2), .int (x2 + 1)] [] h1))) := by
  refine (mm_by 3 (pc' := 9) (ls' := [.ref 264, .int x1, .int x2]) (st' := [.int (h.1 264 40), .int x2]) (h' := h) rfl).trans ?_
  refine (mm_br (c := (h.1 264 40) ≤ x2) (p1 := 26) (p2 := 12) (l1 := [.ref 264, .int x1, .int x2]) (l2 := [.ref 264, .int x1, .int x2]) (s1 := []) (s2 := []) (h1 := h) (h2 := h) rfl rfl).trans (mm_ite ?_ ?_)
  · exact mm_by_end 2 rfl
  · refine (mm_by 3 (pc' := 15) (ls' := [.ref 264, .int x1, .int x2]) (st' := [.int x2, .ref 264, .int x1]) (h' := h) rfl).trans ?_
    refine (mm_c1 (y := 219) (as := [.ref 264, .int x2]) (nx := 18) (rest := [.int x1]) rfl rfl).trans (mm_congI fun v2 h1 => ?_)
    exact mm_by 4 rfl
set_option maxRecDepth 100000 in
set_option maxHeartbeats 4000000 in
theorem U_X12_curtainsNow {d : Nat} {h : mm_H} : mm_M mm_T0 (d + 1) 241 [.ref 264] h = (mm_D (mm_M mm_T0 d) cd_X12_curtainsNow 4 [.ref 264, .int 0, .int 0] [] h) := by
  refine (mm_M_eq (ls := [.ref 264, .null, .null]) rfl (Nat.le_of_ble_eq_true rfl) rfl h).trans ?_
  exact mm_by 4 rfl
set_option maxRecDepth 100000 in
set_option maxHeartbeats 4000000 in
theorem U_X12_curtainsNow_4 {d : Nat} {x1 : Int32} {x2 : Int32} {h : mm_H} : mm_D (mm_M mm_T0 d) cd_X12_curtainsNow 4 [.ref 264, .int x1, .int x2] [] h = (if (h.1 264 40) ≤ x2 then (some (some (.int x1), h)) else (mm_bI (mm_M mm_T0 d 219 [.ref 264, .int x2] h) (fun v2 h1 => if ¬ v2 = 0 then (mm_D (mm_M mm_T0 d) cd_X12_curtainsNow 4 [.ref 264, .int x1, .int (x2 + 1)] [] h1) else (mm_D (mm_M mm_T0 d) cd_X12_curtainsNow 4 [.ref 264, .int (x1 + 1), .int (x2 + 1)] [] h1)))) := by
  refine (mm_by 3 (pc' := 9) (ls' := [.ref 264, .int x1, .int x2]) (st' := [.int (h.1 264 40), .int x2]) (h' := h) rfl).trans ?_
  refine (mm_br (c := (h.1 264 40) ≤ x2) (p1 := 29) (p2 := 12) (l1 := [.ref 264, .int x1, .int x2]) (l2 := [.ref 264, .int x1, .int x2]) (s1 := []) (s2 := []) (h1 := h) (h2 := h) rfl rfl).trans (mm_ite ?_ ?_)
  · exact mm_by_end 2 rfl
  · refine (mm_by 2 (pc' := 14) (ls' := [.ref 264, .int x1, .int x2]) (st' := [.int x2, .ref 264]) (h' := h) rfl).trans ?_
    refine (mm_c1 (y := 219) (as := [.ref 264, .int x2]) (nx := 17) (rest := []) rfl rfl).trans (mm_congI fun v2 h1 => ?_)
    refine (mm_br (c := ¬ v2 = 0) (p1 := 23) (p2 := 20) (l1 := [.ref 264, .int x1, .int x2]) (l2 := [.ref 264, .int x1, .int x2]) (s1 := []) (s2 := []) (h1 := h1) (h2 := h1) rfl rfl).trans (mm_ite ?_ ?_)
    · exact mm_by 2 rfl
    · exact mm_by 3 rfl
set_option maxRecDepth 100000 in
set_option maxHeartbeats 4000000 in
theorem U_X12_spareMany {d : Nat} {h : mm_H} : mm_M mm_T0 (d + 1) 242 [.ref 264] h = (mm_D (mm_M mm_T0 d) cd_X12_spareMany 4 [.ref 264, .int 0, .int 0] [] h) := by
  refine (mm_M_eq (ls := [.ref 264, .null, .null]) rfl (Nat.le_of_ble_eq_true rfl) rfl h).trans ?_
  exact mm_by 4 rfl
set_option maxRecDepth 100000 in
set_option maxHeartbeats 4000000 in
theorem U_X12_spareMany_4 {d : Nat} {x1 : Int32} {x2 : Int32} {h : mm_H} : mm_D (mm_M mm_T0 d) cd_X12_spareMany 4 [.ref 264, .int x1, .int x2] [] h = (if (h.1 264 40) ≤ x2 then (some (some (.int x1), h)) else (mm_bI (mm_M mm_T0 d 220 [.ref 264, .int x2] h) (fun v2 h1 => if v2 = 0 then (mm_D (mm_M mm_T0 d) cd_X12_spareMany 4 [.ref 264, .int x1, .int (x2 + 1)] [] h1) else (mm_D (mm_M mm_T0 d) cd_X12_spareMany 4 [.ref 264, .int (x1 + 1), .int (x2 + 1)] [] h1)))) := by
  refine (mm_by 3 (pc' := 9) (ls' := [.ref 264, .int x1, .int x2]) (st' := [.int (h.1 264 40), .int x2]) (h' := h) rfl).trans ?_
  refine (mm_br (c := (h.1 264 40) ≤ x2) (p1 := 29) (p2 := 12) (l1 := [.ref 264, .int x1, .int x2]) (l2 := [.ref 264, .int x1, .int x2]) (s1 := []) (s2 := []) (h1 := h) (h2 := h) rfl rfl).trans (mm_ite ?_ ?_)
  · exact mm_by_end 2 rfl
  · refine (mm_by 2 (pc' := 14) (ls' := [.ref 264, .int x1, .int x2]) (st' := [.int x2, .ref 264]) (h' := h) rfl).trans ?_
    refine (mm_c1 (y := 220) (as := [.ref 264, .int x2]) (nx := 17) (rest := []) rfl rfl).trans (mm_congI fun v2 h1 => ?_)
    refine (mm_br (c := v2 = 0) (p1 := 23) (p2 := 20) (l1 := [.ref 264, .int x1, .int x2]) (l2 := [.ref 264, .int x1, .int x2]) (s1 := []) (s2 := []) (h1 := h1) (h2 := h1) rfl rfl).trans (mm_ite ?_ ?_)
    · exact mm_by 2 rfl
    · exact mm_by 3 rfl
set_option maxRecDepth 100000 in
set_option maxHeartbeats 4000000 in
theorem U_X12_feudAt {d : Nat} {x1 : Int32} {h : mm_H} : mm_M mm_T0 (d + 1) 243 [.ref 264, .int x1] h = (mm_bI (mm_M mm_T0 d 224 [.ref 264, .int x1] h) (fun v2 h1 => mm_bI (mm_M mm_T0 d 224 [.ref 264, .int (x1 + 1)] h1) (fun v4 h3 => if v2 = ((-1)) then (some (some (.int ((-1))), h3)) else (if ¬ v4 = ((-1)) then (mm_bI (mm_M mm_T0 d 230 [.ref 264, .int v2, .int v4] h3) (fun v6 h5 => if v6 = 0 then (some (some (.int 0), h5)) else (some (some (.int 1), h5)))) else (some (some (.int ((-1))), h3)))))) := by
  refine (mm_M_eq (ls := [.ref 264, .int x1, .null, .null]) rfl (Nat.le_of_ble_eq_true rfl) rfl h).trans ?_
  refine (mm_by 2 (pc' := 2) (ls' := [.ref 264, .int x1, .null, .null]) (st' := [.int x1, .ref 264]) (h' := h) rfl).trans ?_
  refine (mm_c1 (y := 224) (as := [.ref 264, .int x1]) (nx := 5) (rest := []) rfl rfl).trans (mm_congI fun v2 h1 => ?_)
  refine (mm_by 5 (pc' := 10) (ls' := [.ref 264, .int x1, .int v2, .null]) (st' := [.int (x1 + 1), .ref 264]) (h' := h1) rfl).trans ?_
  refine (mm_c1 (y := 224) (as := [.ref 264, .int (x1 + 1)]) (nx := 13) (rest := []) rfl rfl).trans (mm_congI fun v4 h3 => ?_)
  refine (mm_by 3 (pc' := 16) (ls' := [.ref 264, .int x1, .int v2, .int v4]) (st' := [.int ((-1)), .int v2]) (h' := h3) rfl).trans ?_
  refine (mm_br (c := v2 = ((-1))) (p1 := 24) (p2 := 19) (l1 := [.ref 264, .int x1, .int v2, .int v4]) (l2 := [.ref 264, .int x1, .int v2, .int v4]) (s1 := []) (s2 := []) (h1 := h3) (h2 := h3) rfl rfl).trans (mm_ite ?_ ?_)
  · exact mm_by_end 3 rfl
  · refine (mm_by 2 (pc' := 21) (ls' := [.ref 264, .int x1, .int v2, .int v4]) (st' := [.int ((-1)), .int v4]) (h' := h3) rfl).trans ?_
    refine (mm_br (c := ¬ v4 = ((-1))) (p1 := 28) (p2 := 24) (l1 := [.ref 264, .int x1, .int v2, .int v4]) (l2 := [.ref 264, .int x1, .int v2, .int v4]) (s1 := []) (s2 := []) (h1 := h3) (h2 := h3) rfl rfl).trans (mm_ite ?_ ?_)
    · refine (mm_by 3 (pc' := 31) (ls' := [.ref 264, .int x1, .int v2, .int v4]) (st' := [.int v4, .int v2, .ref 264]) (h' := h3) rfl).trans ?_
      refine (mm_c1 (y := 230) (as := [.ref 264, .int v2, .int v4]) (nx := 34) (rest := []) rfl rfl).trans (mm_congI fun v6 h5 => ?_)
      refine (mm_br (c := v6 = 0) (p1 := 41) (p2 := 37) (l1 := [.ref 264, .int x1, .int v2, .int v4]) (l2 := [.ref 264, .int x1, .int v2, .int v4]) (s1 := []) (s2 := []) (h1 := h5) (h2 := h5) rfl rfl).trans (mm_ite ?_ ?_)
      · exact mm_by_end 2 rfl
      · exact mm_by_end 3 rfl
    · exact mm_by_end 3 rfl
set_option maxRecDepth 100000 in
set_option maxHeartbeats 4000000 in
theorem U_X12_feudMany {d : Nat} {h : mm_H} : mm_M mm_T0 (d + 1) 244 [.ref 264] h = (mm_D (mm_M mm_T0 d) cd_X12_feudMany 4 [.ref 264, .int 0, .int 0] [] h) := by
  refine (mm_M_eq (ls := [.ref 264, .null, .null]) rfl (Nat.le_of_ble_eq_true rfl) rfl h).trans ?_
  exact mm_by 4 rfl
set_option maxRecDepth 100000 in
set_option maxHeartbeats 4000000 in
theorem U_X12_feudMany_4 {d : Nat} {x1 : Int32} {x2 : Int32} {h : mm_H} : mm_D (mm_M mm_T0 d) cd_X12_feudMany 4 [.ref 264, .int x1, .int x2] [] h = (if (h.1 264 38) ≤ (x2 + 1) then (some (some (.int x1), h)) else (mm_bI (mm_M mm_T0 d 243 [.ref 264, .int x2] h) (fun v2 h1 => if ¬ v2 = 1 then (mm_D (mm_M mm_T0 d) cd_X12_feudMany 4 [.ref 264, .int x1, .int (x2 + 1)] [] h1) else (mm_D (mm_M mm_T0 d) cd_X12_feudMany 4 [.ref 264, .int (x1 + 1), .int (x2 + 1)] [] h1)))) := by
  refine (mm_by 5 (pc' := 11) (ls' := [.ref 264, .int x1, .int x2]) (st' := [.int (h.1 264 38), .int (x2 + 1)]) (h' := h) rfl).trans ?_
  refine (mm_br (c := (h.1 264 38) ≤ (x2 + 1)) (p1 := 32) (p2 := 14) (l1 := [.ref 264, .int x1, .int x2]) (l2 := [.ref 264, .int x1, .int x2]) (s1 := []) (s2 := []) (h1 := h) (h2 := h) rfl rfl).trans (mm_ite ?_ ?_)
  · exact mm_by_end 2 rfl
  · refine (mm_by 2 (pc' := 16) (ls' := [.ref 264, .int x1, .int x2]) (st' := [.int x2, .ref 264]) (h' := h) rfl).trans ?_
    refine (mm_c1 (y := 243) (as := [.ref 264, .int x2]) (nx := 19) (rest := []) rfl rfl).trans (mm_congI fun v2 h1 => ?_)
    refine (mm_by 1 (pc' := 20) (ls' := [.ref 264, .int x1, .int x2]) (st' := [.int 1, .int v2]) (h' := h1) rfl).trans ?_
    refine (mm_br (c := ¬ v2 = 1) (p1 := 26) (p2 := 23) (l1 := [.ref 264, .int x1, .int x2]) (l2 := [.ref 264, .int x1, .int x2]) (s1 := []) (s2 := []) (h1 := h1) (h2 := h1) rfl rfl).trans (mm_ite ?_ ?_)
    · exact mm_by 2 rfl
    · exact mm_by 3 rfl
set_option maxRecDepth 100000 in
set_option maxHeartbeats 4000000 in
theorem U_X12_has {d : Nat} {x1 : Int32} {h : mm_H} : mm_M mm_T0 (d + 1) 245 [.ref 264, .int x1] h = (if x1 = 0 then (some (some (.int (h.1 264 38)), h)) else (if x1 = 1 then (some (some (.int (h.1 264 40)), h)) else (if x1 = 2 then (some (some (.int (h.1 300 0)), h)) else (if x1 = 3 then (mm_bI (mm_M mm_T0 d 241 [.ref 264] h) (fun v2 h1 => some (some (.int v2), h1))) else (if x1 = 4 then (mm_bI (mm_M mm_T0 d 242 [.ref 264] h) (fun v4 h3 => some (some (.int v4), h3))) else (if x1 = 5 then (mm_bI (mm_M mm_T0 d 244 [.ref 264] h) (fun v6 h5 => some (some (.int v6), h5))) else (if x1 = 6 then (mm_bI (mm_M mm_T0 d 240 [.ref 264] h) (fun v8 h7 => some (some (.int v8), h7))) else (if x1 = 7 then (some (some (.int (h.1 300 89)), h)) else (if x1 = 8 then (some (some (.int (h.1 264 67)), h)) else (if x1 = 9 then (some (some (.int (h.1 264 73)), h)) else (some (some (.int ((-1))), h)))))))))))) := by
  refine (mm_M_eq (ls := [.ref 264, .int x1]) rfl (Nat.le_of_ble_eq_true rfl) rfl h).trans ?_
  refine (mm_by 1 (pc' := 1) (ls' := [.ref 264, .int x1]) (st' := [.int x1]) (h' := h) rfl).trans ?_
  refine (mm_go (pc' := mm_sw [(0, 56), (1, 61), (2, 66), (3, 73), (4, 78), (5, 83), (6, 88), (7, 93), (8, 101), (9, 106)] 111 x1) (ls' := [.ref 264, .int x1]) (st' := []) (h' := h) rfl rfl).trans ?_
  refine mm_sw_c.trans (mm_ite ?_ ?_)
  · exact mm_by_end 3 rfl
  · refine mm_sw_c.trans (mm_ite ?_ ?_)
    · exact mm_by_end 3 rfl
    · refine mm_sw_c.trans (mm_ite ?_ ?_)
      · exact mm_by_end 5 rfl
      · refine mm_sw_c.trans (mm_ite ?_ ?_)
        · refine (mm_by 1 (pc' := 74) (ls' := [.ref 264, .int x1]) (st' := [.ref 264]) (h' := h) rfl).trans ?_
          refine (mm_c1 (y := 241) (as := [.ref 264]) (nx := 77) (rest := []) rfl rfl).trans (mm_congI fun v2 h1 => ?_)
          exact mm_by_end 1 rfl
        · refine mm_sw_c.trans (mm_ite ?_ ?_)
          · refine (mm_by 1 (pc' := 79) (ls' := [.ref 264, .int x1]) (st' := [.ref 264]) (h' := h) rfl).trans ?_
            refine (mm_c1 (y := 242) (as := [.ref 264]) (nx := 82) (rest := []) rfl rfl).trans (mm_congI fun v4 h3 => ?_)
            exact mm_by_end 1 rfl
          · refine mm_sw_c.trans (mm_ite ?_ ?_)
            · refine (mm_by 1 (pc' := 84) (ls' := [.ref 264, .int x1]) (st' := [.ref 264]) (h' := h) rfl).trans ?_
              refine (mm_c1 (y := 244) (as := [.ref 264]) (nx := 87) (rest := []) rfl rfl).trans (mm_congI fun v6 h5 => ?_)
              exact mm_by_end 1 rfl
            · refine mm_sw_c.trans (mm_ite ?_ ?_)
              · refine (mm_by 1 (pc' := 89) (ls' := [.ref 264, .int x1]) (st' := [.ref 264]) (h' := h) rfl).trans ?_
                refine (mm_c1 (y := 240) (as := [.ref 264]) (nx := 92) (rest := []) rfl rfl).trans (mm_congI fun v8 h7 => ?_)
                exact mm_by_end 1 rfl
              · refine mm_sw_c.trans (mm_ite ?_ ?_)
                · exact mm_by_end 5 rfl
                · refine mm_sw_c.trans (mm_ite ?_ ?_)
                  · exact mm_by_end 3 rfl
                  · refine mm_sw_c.trans (mm_ite ?_ ?_)
                    · exact mm_by_end 3 rfl
                    · refine Eq.trans (show mm_D _ _ (mm_sw [] 111 x1) _ _ _ = mm_D _ _ 111 _ _ _ from rfl) ?_
                      exact mm_by_end 2 rfl
set_option maxRecDepth 100000 in
set_option maxHeartbeats 4000000 in
theorem U_X12_letter {d : Nat} {x1 : Int32} {x2 : Int32} {h : mm_H} : mm_M mm_T0 (d + 1) 246 [.ref 264, .int x1, .int x2] h = (mm_bI (mm_M mm_T0 d 214 [.ref 264, .long x1.toInt64] h) (fun v2 h1 => if v2 = 0 then (some (some (.int ((-1))), h1)) else (mm_bI (mm_M mm_T0 d 188 [.long x2.toInt64, .long 0, .long 5] h1) (fun v4 h3 => if ¬ v4 = 0 then (if (8 + x1) < 0 ∨ 16 ≤ (8 + x1).toNatClampNeg then none else (mm_D (mm_M mm_T0 d) cd_X12_letter 39 [.null, .null, .int x2, .long (h3.2.1 292 (8 + x1).toNatClampNeg), .null, .int 0, .long (h3.2.1 292 (8 + x1).toNatClampNeg), .null] [] h3)) else (some (some (.int ((-1))), h3)))))) := by
  refine (mm_M_eq (ls := [.ref 264, .int x1, .int x2, .null, .null, .null, .null, .null]) rfl (Nat.le_of_ble_eq_true rfl) rfl h).trans ?_
  refine (mm_by 3 (pc' := 3) (ls' := [.ref 264, .int x1, .int x2, .null, .null, .null, .null, .null]) (st' := [.long x1.toInt64, .ref 264]) (h' := h) rfl).trans ?_
  refine (mm_c1 (y := 214) (as := [.ref 264, .long x1.toInt64]) (nx := 6) (rest := []) rfl rfl).trans (mm_congI fun v2 h1 => ?_)
  refine (mm_br (c := v2 = 0) (p1 := 21) (p2 := 9) (l1 := [.ref 264, .int x1, .int x2, .null, .null, .null, .null, .null]) (l2 := [.ref 264, .int x1, .int x2, .null, .null, .null, .null, .null]) (s1 := []) (s2 := []) (h1 := h1) (h2 := h1) rfl rfl).trans (mm_ite ?_ ?_)
  · exact mm_by_end 2 rfl
  · refine (mm_by 4 (pc' := 15) (ls' := [.ref 264, .int x1, .int x2, .null, .null, .null, .null, .null]) (st' := [.long 5, .long 0, .long x2.toInt64]) (h' := h1) rfl).trans ?_
    refine (mm_c1 (y := 188) (as := [.long x2.toInt64, .long 0, .long 5]) (nx := 18) (rest := []) rfl rfl).trans (mm_congI fun v4 h3 => ?_)
    refine (mm_br (c := ¬ v4 = 0) (p1 := 23) (p2 := 21) (l1 := [.ref 264, .int x1, .int x2, .null, .null, .null, .null, .null]) (l2 := [.ref 264, .int x1, .int x2, .null, .null, .null, .null, .null]) (s1 := []) (s2 := []) (h1 := h3) (h2 := h3) rfl rfl).trans (mm_ite ?_ ?_)
    · refine (mm_by 5 (pc' := 31) (ls' := [.ref 264, .int x1, .int x2, .null, .null, .null, .null, .null]) (st' := [.int (8 + x1), .ref 292]) (h' := h3) rfl).trans ?_
      refine (mm_gd (c := (8 + x1) < 0 ∨ 16 ≤ (8 + x1).toNatClampNeg) (p1 := 32) (l1 := [.ref 264, .int x1, .int x2, .null, .null, .null, .null, .null]) (s1 := [.long (h3.2.1 292 (8 + x1).toNatClampNeg)]) (h1 := h3) rfl (q_lald (n := 16) rfl)).trans (mm_ite rfl ?_)
      exact mm_by 5 rfl
    · exact mm_by_end 2 rfl
set_option maxRecDepth 100000 in
set_option maxHeartbeats 4000000 in
theorem U_X12_letter_39 {d : Nat} {x2 : Int32} {x3 : Int64} {x5 : Int32} {x6 : Int64} {h : mm_H} : mm_D (mm_M mm_T0 d) cd_X12_letter 39 [.null, .null, .int x2, .long x3, .null, .int x5, .long x6, .null] [] h = (if (lg_cmp x6 0) ≤ 0 then (if x2 < x5 then (mm_D (mm_M mm_T0 d) cd_X12_letter 74 [.null, .null, .int x2, .long x3, .null, .null, .int (x5 - 1), .null] [] h) else (some (some (.int 0), h))) else (mm_D (mm_M mm_T0 d) cd_X12_letter 39 [.null, .null, .int x2, .long x3, .null, .int (x5 + 1), .long (x6 / 27), .null] [] h)) := by
  refine (mm_by 3 (pc' := 43) (ls' := [.null, .null, .int x2, .long x3, .null, .int x5, .long x6, .null]) (st' := [.int (lg_cmp x6 0)]) (h' := h) rfl).trans ?_
  refine (mm_br (c := (lg_cmp x6 0) ≤ 0) (p1 := 60) (p2 := 46) (l1 := [.null, .null, .int x2, .long x3, .null, .int x5, .long x6, .null]) (l2 := [.null, .null, .int x2, .long x3, .null, .int x5, .long x6, .null]) (s1 := []) (s2 := []) (h1 := h) (h2 := h) rfl rfl).trans (mm_ite ?_ ?_)
  · refine (mm_by 2 (pc' := 63) (ls' := [.null, .null, .int x2, .long x3, .null, .int x5, .long x6, .null]) (st' := [.int x5, .int x2]) (h' := h) rfl).trans ?_
    refine (mm_br (c := x2 < x5) (p1 := 68) (p2 := 66) (l1 := [.null, .null, .int x2, .long x3, .null, .int x5, .long x6, .null]) (l2 := [.null, .null, .int x2, .long x3, .null, .int x5, .long x6, .null]) (s1 := []) (s2 := []) (h1 := h) (h2 := h) rfl rfl).trans (mm_ite ?_ ?_)
    · exact mm_by 4 rfl
    · exact mm_by_end 2 rfl
  · exact mm_by 6 rfl
set_option maxRecDepth 100000 in
set_option maxHeartbeats 4000000 in
theorem U_X12_letter_74 {d : Nat} {x2 : Int32} {x3 : Int64} {x6 : Int32} {h : mm_H} : mm_D (mm_M mm_T0 d) cd_X12_letter 74 [.null, .null, .int x2, .long x3, .null, .null, .int x6, .null] [] h = (if x6 ≤ x2 then (some (some (.int ((x3 - x3 / 27 * 27).toInt32)), h)) else (mm_D (mm_M mm_T0 d) cd_X12_letter 74 [.null, .null, .int x2, .long (x3 / 27), .null, .null, .int (x6 + (-1)), .null] [] h)) := by
  refine (mm_by 2 (pc' := 77) (ls' := [.null, .null, .int x2, .long x3, .null, .null, .int x6, .null]) (st' := [.int x2, .int x6]) (h' := h) rfl).trans ?_
  refine (mm_br (c := x6 ≤ x2) (p1 := 92) (p2 := 80) (l1 := [.null, .null, .int x2, .long x3, .null, .null, .int x6, .null]) (l2 := [.null, .null, .int x2, .long x3, .null, .null, .int x6, .null]) (s1 := []) (s2 := []) (h1 := h) (h2 := h) rfl rfl).trans (mm_ite ?_ ?_)
  · exact mm_by_end 5 rfl
  · exact mm_by 6 rfl
set_option maxRecDepth 100000 in
set_option maxHeartbeats 4000000 in
theorem U_X12_house {d : Nat} {x1 : Int32} {h : mm_H} : mm_M mm_T0 (d + 1) 247 [.ref 264, .int x1] h = (mm_bI (mm_M mm_T0 d 217 [.ref 264, .int x1] h) (fun v2 h1 => if v2 = 0 then (some (some (.int ((-1))), h1)) else (mm_bI (mm_M mm_T0 d 224 [.ref 264, .int x1] h1) (fun v4 h3 => some (some (.int v4), h3))))) := by
  refine (mm_M_eq (ls := [.ref 264, .int x1]) rfl (Nat.le_of_ble_eq_true rfl) rfl h).trans ?_
  refine (mm_by 2 (pc' := 2) (ls' := [.ref 264, .int x1]) (st' := [.int x1, .ref 264]) (h' := h) rfl).trans ?_
  refine (mm_c1 (y := 217) (as := [.ref 264, .int x1]) (nx := 5) (rest := []) rfl rfl).trans (mm_congI fun v2 h1 => ?_)
  refine (mm_br (c := v2 = 0) (p1 := 16) (p2 := 8) (l1 := [.ref 264, .int x1]) (l2 := [.ref 264, .int x1]) (s1 := []) (s2 := []) (h1 := h1) (h2 := h1) rfl rfl).trans (mm_ite ?_ ?_)
  · exact mm_by_end 2 rfl
  · refine (mm_by 2 (pc' := 10) (ls' := [.ref 264, .int x1]) (st' := [.int x1, .ref 264]) (h' := h1) rfl).trans ?_
    refine (mm_c1 (y := 224) (as := [.ref 264, .int x1]) (nx := 13) (rest := []) rfl rfl).trans (mm_congI fun v4 h3 => ?_)
    exact mm_by_end 2 rfl
set_option maxRecDepth 100000 in
set_option maxHeartbeats 4000000 in
theorem U_X12_person {d : Nat} {x1 : Int32} {x2 : Int32} {h : mm_H} : mm_M mm_T0 (d + 1) 248 [.ref 264, .int x1, .int x2] h = (mm_bI (mm_M mm_T0 d 214 [.ref 264, .long x1.toInt64] h) (fun v2 h1 => if ¬ v2 = 0 then (if x2 = 0 then (mm_bI (mm_M mm_T0 d 218 [.ref 264, .int x1] h1) (fun v4 h3 => some (some (.int v4), h3))) else (if x2 = 1 then (mm_bI (mm_M mm_T0 d 219 [.ref 264, .int x1] h1) (fun v6 h5 => some (some (.int v6), h5))) else (if x2 = 2 then (mm_bI (mm_M mm_T0 d 221 [.ref 264, .int x1] h1) (fun v8 h7 => some (some (.int v8), h7))) else (if x2 = 3 then (mm_bI (mm_M mm_T0 d 222 [.ref 264, .int x1] h1) (fun v10 h9 => some (some (.int v10), h9))) else (if x2 = 4 then (mm_bI (mm_M mm_T0 d 220 [.ref 264, .int x1] h1) (fun v12 h11 => if v12 = 0 then (some (some (.int 0), h11)) else (some (some (.int 1), h11)))) else (if x2 = 5 then (mm_bI (mm_M mm_T0 d 225 [.ref 264, .int x1, .int 0] h1) (fun v14 h13 => some (some (.int v14), h13))) else (if x2 = 6 then (mm_bI (mm_M mm_T0 d 225 [.ref 264, .int x1, .int 1] h1) (fun v16 h15 => some (some (.int v16), h15))) else (some (some (.int ((-1))), h1))))))))) else (some (some (.int ((-1))), h1)))) := by
  refine (mm_M_eq (ls := [.ref 264, .int x1, .int x2]) rfl (Nat.le_of_ble_eq_true rfl) rfl h).trans ?_
  refine (mm_by 3 (pc' := 3) (ls' := [.ref 264, .int x1, .int x2]) (st' := [.long x1.toInt64, .ref 264]) (h' := h) rfl).trans ?_
  refine (mm_c1 (y := 214) (as := [.ref 264, .long x1.toInt64]) (nx := 6) (rest := []) rfl rfl).trans (mm_congI fun v2 h1 => ?_)
  refine (mm_br (c := ¬ v2 = 0) (p1 := 11) (p2 := 9) (l1 := [.ref 264, .int x1, .int x2]) (l2 := [.ref 264, .int x1, .int x2]) (s1 := []) (s2 := []) (h1 := h1) (h2 := h1) rfl rfl).trans (mm_ite ?_ ?_)
  · refine (mm_by 1 (pc' := 12) (ls' := [.ref 264, .int x1, .int x2]) (st' := [.int x2]) (h' := h1) rfl).trans ?_
    refine (mm_go (pc' := mm_sw [(0, 56), (1, 62), (2, 68), (3, 74), (4, 80), (5, 94), (6, 101)] 108 x2) (ls' := [.ref 264, .int x1, .int x2]) (st' := []) (h' := h1) rfl rfl).trans ?_
    refine mm_sw_c.trans (mm_ite ?_ ?_)
    · refine (mm_by 2 (pc' := 58) (ls' := [.ref 264, .int x1, .int x2]) (st' := [.int x1, .ref 264]) (h' := h1) rfl).trans ?_
      refine (mm_c1 (y := 218) (as := [.ref 264, .int x1]) (nx := 61) (rest := []) rfl rfl).trans (mm_congI fun v4 h3 => ?_)
      exact mm_by_end 1 rfl
    · refine mm_sw_c.trans (mm_ite ?_ ?_)
      · refine (mm_by 2 (pc' := 64) (ls' := [.ref 264, .int x1, .int x2]) (st' := [.int x1, .ref 264]) (h' := h1) rfl).trans ?_
        refine (mm_c1 (y := 219) (as := [.ref 264, .int x1]) (nx := 67) (rest := []) rfl rfl).trans (mm_congI fun v6 h5 => ?_)
        exact mm_by_end 1 rfl
      · refine mm_sw_c.trans (mm_ite ?_ ?_)
        · refine (mm_by 2 (pc' := 70) (ls' := [.ref 264, .int x1, .int x2]) (st' := [.int x1, .ref 264]) (h' := h1) rfl).trans ?_
          refine (mm_c1 (y := 221) (as := [.ref 264, .int x1]) (nx := 73) (rest := []) rfl rfl).trans (mm_congI fun v8 h7 => ?_)
          exact mm_by_end 1 rfl
        · refine mm_sw_c.trans (mm_ite ?_ ?_)
          · refine (mm_by 2 (pc' := 76) (ls' := [.ref 264, .int x1, .int x2]) (st' := [.int x1, .ref 264]) (h' := h1) rfl).trans ?_
            refine (mm_c1 (y := 222) (as := [.ref 264, .int x1]) (nx := 79) (rest := []) rfl rfl).trans (mm_congI fun v10 h9 => ?_)
            exact mm_by_end 1 rfl
          · refine mm_sw_c.trans (mm_ite ?_ ?_)
            · refine (mm_by 2 (pc' := 82) (ls' := [.ref 264, .int x1, .int x2]) (st' := [.int x1, .ref 264]) (h' := h1) rfl).trans ?_
              refine (mm_c1 (y := 220) (as := [.ref 264, .int x1]) (nx := 85) (rest := []) rfl rfl).trans (mm_congI fun v12 h11 => ?_)
              refine (mm_br (c := v12 = 0) (p1 := 92) (p2 := 88) (l1 := [.ref 264, .int x1, .int x2]) (l2 := [.ref 264, .int x1, .int x2]) (s1 := []) (s2 := []) (h1 := h11) (h2 := h11) rfl rfl).trans (mm_ite ?_ ?_)
              · exact mm_by_end 2 rfl
              · exact mm_by_end 3 rfl
            · refine mm_sw_c.trans (mm_ite ?_ ?_)
              · refine (mm_by 3 (pc' := 97) (ls' := [.ref 264, .int x1, .int x2]) (st' := [.int 0, .int x1, .ref 264]) (h' := h1) rfl).trans ?_
                refine (mm_c1 (y := 225) (as := [.ref 264, .int x1, .int 0]) (nx := 100) (rest := []) rfl rfl).trans (mm_congI fun v14 h13 => ?_)
                exact mm_by_end 1 rfl
              · refine mm_sw_c.trans (mm_ite ?_ ?_)
                · refine (mm_by 3 (pc' := 104) (ls' := [.ref 264, .int x1, .int x2]) (st' := [.int 1, .int x1, .ref 264]) (h' := h1) rfl).trans ?_
                  refine (mm_c1 (y := 225) (as := [.ref 264, .int x1, .int 1]) (nx := 107) (rest := []) rfl rfl).trans (mm_congI fun v16 h15 => ?_)
                  exact mm_by_end 1 rfl
                · refine Eq.trans (show mm_D _ _ (mm_sw [] 108 x2) _ _ _ = mm_D _ _ 108 _ _ _ from rfl) ?_
                  exact mm_by_end 2 rfl
  · exact mm_by_end 2 rfl
set_option maxRecDepth 100000 in
set_option maxHeartbeats 4000000 in
theorem U_X12_thinks {d : Nat} {x1 : Int32} {x2 : Int32} {h : mm_H} : mm_M mm_T0 (d + 1) 249 [.ref 264, .int x1, .int x2] h = (mm_bI (mm_M mm_T0 d 216 [.ref 264, .int x1, .int x2] h) (fun v2 h1 => if v2 = 0 then (some (some (.int ((-1))), h1)) else (mm_bI (mm_M mm_T0 d 223 [.ref 264, .int x1, .int x2] h1) (fun v4 h3 => some (some (.int v4), h3))))) := by
  refine (mm_M_eq (ls := [.ref 264, .int x1, .int x2]) rfl (Nat.le_of_ble_eq_true rfl) rfl h).trans ?_
  refine (mm_by 3 (pc' := 3) (ls' := [.ref 264, .int x1, .int x2]) (st' := [.int x2, .int x1, .ref 264]) (h' := h) rfl).trans ?_
  refine (mm_c1 (y := 216) (as := [.ref 264, .int x1, .int x2]) (nx := 6) (rest := []) rfl rfl).trans (mm_congI fun v2 h1 => ?_)
  refine (mm_br (c := v2 = 0) (p1 := 18) (p2 := 9) (l1 := [.ref 264, .int x1, .int x2]) (l2 := [.ref 264, .int x1, .int x2]) (s1 := []) (s2 := []) (h1 := h1) (h2 := h1) rfl rfl).trans (mm_ite ?_ ?_)
  · exact mm_by_end 2 rfl
  · refine (mm_by 3 (pc' := 12) (ls' := [.ref 264, .int x1, .int x2]) (st' := [.int x2, .int x1, .ref 264]) (h' := h1) rfl).trans ?_
    refine (mm_c1 (y := 223) (as := [.ref 264, .int x1, .int x2]) (nx := 15) (rest := []) rfl rfl).trans (mm_congI fun v4 h3 => ?_)
    exact mm_by_end 2 rfl
set_option maxRecDepth 100000 in
set_option maxHeartbeats 4000000 in
theorem U_X12_paints {d : Nat} {x1 : Int32} {x2 : Int32} {h : mm_H} : mm_M mm_T0 (d + 1) 250 [.ref 264, .int x1, .int x2] h = (mm_bI (mm_M mm_T0 d 214 [.ref 264, .long x1.toInt64] h) (fun v2 h1 => if v2 = 0 then (some (some (.int ((-1))), h1)) else (mm_bI (mm_M mm_T0 d 188 [.long x2.toInt64, .long 0, .long 1] h1) (fun v4 h3 => if ¬ v4 = 0 then (mm_bI (mm_M mm_T0 d 225 [.ref 264, .int x1, .int x2] h3) (fun v6 h5 => if ¬ v6 = ((-1)) then (mm_bI (mm_M mm_T0 d 228 [.ref 264, .int x1, .int v6, .int x2] h5) (fun v8 h7 => some (some (.int v8), h7))) else (some (some (.int ((-1))), h5)))) else (some (some (.int ((-1))), h3)))))) := by
  refine (mm_M_eq (ls := [.ref 264, .int x1, .int x2, .null]) rfl (Nat.le_of_ble_eq_true rfl) rfl h).trans ?_
  refine (mm_by 3 (pc' := 3) (ls' := [.ref 264, .int x1, .int x2, .null]) (st' := [.long x1.toInt64, .ref 264]) (h' := h) rfl).trans ?_
  refine (mm_c1 (y := 214) (as := [.ref 264, .long x1.toInt64]) (nx := 6) (rest := []) rfl rfl).trans (mm_congI fun v2 h1 => ?_)
  refine (mm_br (c := v2 = 0) (p1 := 19) (p2 := 9) (l1 := [.ref 264, .int x1, .int x2, .null]) (l2 := [.ref 264, .int x1, .int x2, .null]) (s1 := []) (s2 := []) (h1 := h1) (h2 := h1) rfl rfl).trans (mm_ite ?_ ?_)
  · exact mm_by_end 2 rfl
  · refine (mm_by 4 (pc' := 13) (ls' := [.ref 264, .int x1, .int x2, .null]) (st' := [.long 1, .long 0, .long x2.toInt64]) (h' := h1) rfl).trans ?_
    refine (mm_c1 (y := 188) (as := [.long x2.toInt64, .long 0, .long 1]) (nx := 16) (rest := []) rfl rfl).trans (mm_congI fun v4 h3 => ?_)
    refine (mm_br (c := ¬ v4 = 0) (p1 := 21) (p2 := 19) (l1 := [.ref 264, .int x1, .int x2, .null]) (l2 := [.ref 264, .int x1, .int x2, .null]) (s1 := []) (s2 := []) (h1 := h3) (h2 := h3) rfl rfl).trans (mm_ite ?_ ?_)
    · refine (mm_by 3 (pc' := 24) (ls' := [.ref 264, .int x1, .int x2, .null]) (st' := [.int x2, .int x1, .ref 264]) (h' := h3) rfl).trans ?_
      refine (mm_c1 (y := 225) (as := [.ref 264, .int x1, .int x2]) (nx := 27) (rest := []) rfl rfl).trans (mm_congI fun v6 h5 => ?_)
      refine (mm_by 3 (pc' := 30) (ls' := [.ref 264, .int x1, .int x2, .int v6]) (st' := [.int ((-1)), .int v6]) (h' := h5) rfl).trans ?_
      refine (mm_br (c := ¬ v6 = ((-1))) (p1 := 37) (p2 := 33) (l1 := [.ref 264, .int x1, .int x2, .int v6]) (l2 := [.ref 264, .int x1, .int x2, .int v6]) (s1 := []) (s2 := []) (h1 := h5) (h2 := h5) rfl rfl).trans (mm_ite ?_ ?_)
      · refine (mm_by 4 (pc' := 41) (ls' := [.ref 264, .int x1, .int x2, .int v6]) (st' := [.int x2, .int v6, .int x1, .ref 264]) (h' := h5) rfl).trans ?_
        refine (mm_c1 (y := 228) (as := [.ref 264, .int x1, .int v6, .int x2]) (nx := 44) (rest := []) rfl rfl).trans (mm_congI fun v8 h7 => ?_)
        exact mm_by_end 1 rfl
      · exact mm_by_end 3 rfl
    · exact mm_by_end 2 rfl
set_option maxRecDepth 100000 in
set_option maxHeartbeats 4000000 in
theorem U_X12_feud {d : Nat} {x1 : Int32} {h : mm_H} : mm_M mm_T0 (d + 1) 251 [.ref 264, .int x1] h = (mm_bI (mm_M mm_T0 d 217 [.ref 264, .int x1] h) (fun v2 h1 => if v2 = 0 then (some (some (.int ((-1))), h1)) else (if ((h1.1 264 38) - 1) ≤ x1 then (some (some (.int ((-1))), h1)) else (mm_bI (mm_M mm_T0 d 243 [.ref 264, .int x1] h1) (fun v4 h3 => some (some (.int v4), h3)))))) := by
  refine (mm_M_eq (ls := [.ref 264, .int x1]) rfl (Nat.le_of_ble_eq_true rfl) rfl h).trans ?_
  refine (mm_by 2 (pc' := 2) (ls' := [.ref 264, .int x1]) (st' := [.int x1, .ref 264]) (h' := h) rfl).trans ?_
  refine (mm_c1 (y := 217) (as := [.ref 264, .int x1]) (nx := 5) (rest := []) rfl rfl).trans (mm_congI fun v2 h1 => ?_)
  refine (mm_br (c := v2 = 0) (p1 := 26) (p2 := 8) (l1 := [.ref 264, .int x1]) (l2 := [.ref 264, .int x1]) (s1 := []) (s2 := []) (h1 := h1) (h2 := h1) rfl rfl).trans (mm_ite ?_ ?_)
  · exact mm_by_end 2 rfl
  · refine (mm_by 5 (pc' := 15) (ls' := [.ref 264, .int x1]) (st' := [.int ((h1.1 264 38) - 1), .int x1]) (h' := h1) rfl).trans ?_
    refine (mm_br (c := ((h1.1 264 38) - 1) ≤ x1) (p1 := 26) (p2 := 18) (l1 := [.ref 264, .int x1]) (l2 := [.ref 264, .int x1]) (s1 := []) (s2 := []) (h1 := h1) (h2 := h1) rfl rfl).trans (mm_ite ?_ ?_)
    · exact mm_by_end 2 rfl
    · refine (mm_by 2 (pc' := 20) (ls' := [.ref 264, .int x1]) (st' := [.int x1, .ref 264]) (h' := h1) rfl).trans ?_
      refine (mm_c1 (y := 243) (as := [.ref 264, .int x1]) (nx := 23) (rest := []) rfl rfl).trans (mm_congI fun v4 h3 => ?_)
      exact mm_by_end 2 rfl
set_option maxRecDepth 100000 in
set_option maxHeartbeats 4000000 in
theorem U_X12_kept {d : Nat} {x1 : Int32} {x2 : Int32} {h : mm_H} : mm_M mm_T0 (d + 1) 252 [.ref 264, .int x1, .int x2] h = (mm_bI (mm_M mm_T0 d 188 [.long x1.toInt64, .long 0, .long (((h.1 300 89) - 1).toInt64)] h) (fun v2 h1 => if v2 = 0 then (some (some (.int ((-1))), h1)) else (mm_bI (mm_M mm_T0 d 188 [.long x2.toInt64, .long 0, .long 2] h1) (fun v4 h3 => if v4 = 0 then (some (some (.int ((-1))), h3)) else (if ((90 + (3 * x1)) + x2) < 0 ∨ 210 ≤ ((90 + (3 * x1)) + x2).toNatClampNeg then none else (some (some (.int (h3.1 300 ((90 + (3 * x1)) + x2).toNatClampNeg)), h3))))))) := by
  refine (mm_M_eq (ls := [.ref 264, .int x1, .int x2]) rfl (Nat.le_of_ble_eq_true rfl) rfl h).trans ?_
  refine (mm_by 10 (pc' := 13) (ls' := [.ref 264, .int x1, .int x2]) (st' := [.long (((h.1 300 89) - 1).toInt64), .long 0, .long x1.toInt64]) (h' := h) rfl).trans ?_
  refine (mm_c1 (y := 188) (as := [.long x1.toInt64, .long 0, .long (((h.1 300 89) - 1).toInt64)]) (nx := 16) (rest := []) rfl rfl).trans (mm_congI fun v2 h1 => ?_)
  refine (mm_br (c := v2 = 0) (p1 := 47) (p2 := 19) (l1 := [.ref 264, .int x1, .int x2]) (l2 := [.ref 264, .int x1, .int x2]) (s1 := []) (s2 := []) (h1 := h1) (h2 := h1) rfl rfl).trans (mm_ite ?_ ?_)
  · exact mm_by_end 2 rfl
  · refine (mm_by 4 (pc' := 25) (ls' := [.ref 264, .int x1, .int x2]) (st' := [.long 2, .long 0, .long x2.toInt64]) (h' := h1) rfl).trans ?_
    refine (mm_c1 (y := 188) (as := [.long x2.toInt64, .long 0, .long 2]) (nx := 28) (rest := []) rfl rfl).trans (mm_congI fun v4 h3 => ?_)
    refine (mm_br (c := v4 = 0) (p1 := 47) (p2 := 31) (l1 := [.ref 264, .int x1, .int x2]) (l2 := [.ref 264, .int x1, .int x2]) (s1 := []) (s2 := []) (h1 := h3) (h2 := h3) rfl rfl).trans (mm_ite ?_ ?_)
    · exact mm_by_end 2 rfl
    · refine (mm_by 9 (pc' := 43) (ls' := [.ref 264, .int x1, .int x2]) (st' := [.int ((90 + (3 * x1)) + x2), .ref 300]) (h' := h3) rfl).trans ?_
      refine (mm_gd (c := ((90 + (3 * x1)) + x2) < 0 ∨ 210 ≤ ((90 + (3 * x1)) + x2).toNatClampNeg) (p1 := 44) (l1 := [.ref 264, .int x1, .int x2]) (s1 := [.int (h3.1 300 ((90 + (3 * x1)) + x2).toNatClampNeg)]) (h1 := h3) rfl (q_iald (n := 210) rfl)).trans (mm_ite rfl ?_)
      exact mm_by_end 2 rfl
set_option maxRecDepth 100000 in
set_option maxHeartbeats 4000000 in
theorem U_X12_later {d : Nat} {x1 : Int32} {x2 : Int32} {h : mm_H} : mm_M mm_T0 (d + 1) 253 [.ref 264, .int x1, .int x2] h = (mm_bI (mm_M mm_T0 d 214 [.ref 264, .long x1.toInt64] h) (fun v2 h1 => if v2 = 0 then (some (some (.int ((-1))), h1)) else (mm_bI (mm_M mm_T0 d 238 [.ref 264, .int x2, .int 0, .int 60] h1) (fun v4 h3 => if ¬ v4 = 0 then (mm_bV (mm_M mm_T0 d 235 [.ref 264] h3) (fun h5 => mm_bV (mm_M mm_T0 d 234 [.ref 264, .int x2] h5) (fun h6 => mm_bI (mm_M mm_T0 d 219 [.ref 264, .int x1] h6) (fun v8 h7 => mm_bV (mm_M mm_T0 d 237 [.ref 264] h7) (fun h9 => some (some (.int v8), h9)))))) else (some (some (.int ((-1))), h3)))))) := by
  refine (mm_M_eq (ls := [.ref 264, .int x1, .int x2, .null]) rfl (Nat.le_of_ble_eq_true rfl) rfl h).trans ?_
  refine (mm_by 3 (pc' := 3) (ls' := [.ref 264, .int x1, .int x2, .null]) (st' := [.long x1.toInt64, .ref 264]) (h' := h) rfl).trans ?_
  refine (mm_c1 (y := 214) (as := [.ref 264, .long x1.toInt64]) (nx := 6) (rest := []) rfl rfl).trans (mm_congI fun v2 h1 => ?_)
  refine (mm_br (c := v2 = 0) (p1 := 20) (p2 := 9) (l1 := [.ref 264, .int x1, .int x2, .null]) (l2 := [.ref 264, .int x1, .int x2, .null]) (s1 := []) (s2 := []) (h1 := h1) (h2 := h1) rfl rfl).trans (mm_ite ?_ ?_)
  · exact mm_by_end 2 rfl
  · refine (mm_by 4 (pc' := 14) (ls' := [.ref 264, .int x1, .int x2, .null]) (st' := [.int 60, .int 0, .int x2, .ref 264]) (h' := h1) rfl).trans ?_
    refine (mm_c1 (y := 238) (as := [.ref 264, .int x2, .int 0, .int 60]) (nx := 17) (rest := []) rfl rfl).trans (mm_congI fun v4 h3 => ?_)
    refine (mm_br (c := ¬ v4 = 0) (p1 := 22) (p2 := 20) (l1 := [.ref 264, .int x1, .int x2, .null]) (l2 := [.ref 264, .int x1, .int x2, .null]) (s1 := []) (s2 := []) (h1 := h3) (h2 := h3) rfl rfl).trans (mm_ite ?_ ?_)
    · refine (mm_by 1 (pc' := 23) (ls' := [.ref 264, .int x1, .int x2, .null]) (st' := [.ref 264]) (h' := h3) rfl).trans ?_
      refine (mm_c0 (y := 235) (as := [.ref 264]) (nx := 26) (rest := []) rfl rfl).trans (mm_congV fun h5 => ?_)
      refine (mm_by 2 (pc' := 28) (ls' := [.ref 264, .int x1, .int x2, .null]) (st' := [.int x2, .ref 264]) (h' := h5) rfl).trans ?_
      refine (mm_c0 (y := 234) (as := [.ref 264, .int x2]) (nx := 31) (rest := []) rfl rfl).trans (mm_congV fun h6 => ?_)
      refine (mm_by 2 (pc' := 33) (ls' := [.ref 264, .int x1, .int x2, .null]) (st' := [.int x1, .ref 264]) (h' := h6) rfl).trans ?_
      refine (mm_c1 (y := 219) (as := [.ref 264, .int x1]) (nx := 36) (rest := []) rfl rfl).trans (mm_congI fun v8 h7 => ?_)
      refine (mm_by 2 (pc' := 38) (ls' := [.ref 264, .int x1, .int x2, .int v8]) (st' := [.ref 264]) (h' := h7) rfl).trans ?_
      refine (mm_c0 (y := 237) (as := [.ref 264]) (nx := 41) (rest := []) rfl rfl).trans (mm_congV fun h9 => ?_)
      exact mm_by_end 2 rfl
    · exact mm_by_end 2 rfl
set_option maxRecDepth 100000 in
set_option maxHeartbeats 4000000 in
theorem U_X12_mind {d : Nat} {x1 : Int32} {x2 : Int32} {x3 : Int32} {h : mm_H} : mm_M mm_T0 (d + 1) 254 [.ref 264, .int x1, .int x2, .int x3] h = (mm_bI (mm_M mm_T0 d 216 [.ref 264, .int x1, .int x2] h) (fun v2 h1 => if v2 = 0 then (some (some (.int ((-1))), h1)) else (mm_bI (mm_M mm_T0 d 238 [.ref 264, .int x3, .int 0, .int 60] h1) (fun v4 h3 => if ¬ v4 = 0 then (mm_bV (mm_M mm_T0 d 235 [.ref 264] h3) (fun h5 => mm_bV (mm_M mm_T0 d 234 [.ref 264, .int x3] h5) (fun h6 => mm_bI (mm_M mm_T0 d 223 [.ref 264, .int x1, .int x2] h6) (fun v8 h7 => mm_bV (mm_M mm_T0 d 237 [.ref 264] h7) (fun h9 => some (some (.int v8), h9)))))) else (some (some (.int ((-1))), h3)))))) := by
  refine (mm_M_eq (ls := [.ref 264, .int x1, .int x2, .int x3, .null]) rfl (Nat.le_of_ble_eq_true rfl) rfl h).trans ?_
  refine (mm_by 3 (pc' := 3) (ls' := [.ref 264, .int x1, .int x2, .int x3, .null]) (st' := [.int x2, .int x1, .ref 264]) (h' := h) rfl).trans ?_
  refine (mm_c1 (y := 216) (as := [.ref 264, .int x1, .int x2]) (nx := 6) (rest := []) rfl rfl).trans (mm_congI fun v2 h1 => ?_)
  refine (mm_br (c := v2 = 0) (p1 := 20) (p2 := 9) (l1 := [.ref 264, .int x1, .int x2, .int x3, .null]) (l2 := [.ref 264, .int x1, .int x2, .int x3, .null]) (s1 := []) (s2 := []) (h1 := h1) (h2 := h1) rfl rfl).trans (mm_ite ?_ ?_)
  · exact mm_by_end 2 rfl
  · refine (mm_by 4 (pc' := 14) (ls' := [.ref 264, .int x1, .int x2, .int x3, .null]) (st' := [.int 60, .int 0, .int x3, .ref 264]) (h' := h1) rfl).trans ?_
    refine (mm_c1 (y := 238) (as := [.ref 264, .int x3, .int 0, .int 60]) (nx := 17) (rest := []) rfl rfl).trans (mm_congI fun v4 h3 => ?_)
    refine (mm_br (c := ¬ v4 = 0) (p1 := 22) (p2 := 20) (l1 := [.ref 264, .int x1, .int x2, .int x3, .null]) (l2 := [.ref 264, .int x1, .int x2, .int x3, .null]) (s1 := []) (s2 := []) (h1 := h3) (h2 := h3) rfl rfl).trans (mm_ite ?_ ?_)
    · refine (mm_by 1 (pc' := 23) (ls' := [.ref 264, .int x1, .int x2, .int x3, .null]) (st' := [.ref 264]) (h' := h3) rfl).trans ?_
      refine (mm_c0 (y := 235) (as := [.ref 264]) (nx := 26) (rest := []) rfl rfl).trans (mm_congV fun h5 => ?_)
      refine (mm_by 2 (pc' := 28) (ls' := [.ref 264, .int x1, .int x2, .int x3, .null]) (st' := [.int x3, .ref 264]) (h' := h5) rfl).trans ?_
      refine (mm_c0 (y := 234) (as := [.ref 264, .int x3]) (nx := 31) (rest := []) rfl rfl).trans (mm_congV fun h6 => ?_)
      refine (mm_by 3 (pc' := 34) (ls' := [.ref 264, .int x1, .int x2, .int x3, .null]) (st' := [.int x2, .int x1, .ref 264]) (h' := h6) rfl).trans ?_
      refine (mm_c1 (y := 223) (as := [.ref 264, .int x1, .int x2]) (nx := 37) (rest := []) rfl rfl).trans (mm_congI fun v8 h7 => ?_)
      refine (mm_by 2 (pc' := 40) (ls' := [.ref 264, .int x1, .int x2, .int x3, .int v8]) (st' := [.ref 264]) (h' := h7) rfl).trans ?_
      refine (mm_c0 (y := 237) (as := [.ref 264]) (nx := 43) (rest := []) rfl rfl).trans (mm_congV fun h9 => ?_)
      exact mm_by_end 2 rfl
    · exact mm_by_end 2 rfl
set_option maxRecDepth 100000 in
set_option maxHeartbeats 4000000 in
theorem U_X12_curtain {d : Nat} {x1 : Int32} {h : mm_H} : mm_M mm_T0 (d + 1) 255 [.ref 264, .int x1] h = (mm_bI (mm_M mm_T0 d 214 [.ref 264, .long x1.toInt64] h) (fun v2 h1 => if ¬ v2 = 0 then (mm_bV (mm_M mm_T0 d 235 [.ref 264] h1) (fun h3 => mm_D (mm_M mm_T0 d) cd_X12_curtain 17 [.ref 264, .int x1, .int 0, .null] [] h3)) else (some (some (.int ((-1))), h1)))) := by
  refine (mm_M_eq (ls := [.ref 264, .int x1, .null, .null]) rfl (Nat.le_of_ble_eq_true rfl) rfl h).trans ?_
  refine (mm_by 3 (pc' := 3) (ls' := [.ref 264, .int x1, .null, .null]) (st' := [.long x1.toInt64, .ref 264]) (h' := h) rfl).trans ?_
  refine (mm_c1 (y := 214) (as := [.ref 264, .long x1.toInt64]) (nx := 6) (rest := []) rfl rfl).trans (mm_congI fun v2 h1 => ?_)
  refine (mm_br (c := ¬ v2 = 0) (p1 := 11) (p2 := 9) (l1 := [.ref 264, .int x1, .null, .null]) (l2 := [.ref 264, .int x1, .null, .null]) (s1 := []) (s2 := []) (h1 := h1) (h2 := h1) rfl rfl).trans (mm_ite ?_ ?_)
  · refine (mm_by 3 (pc' := 14) (ls' := [.ref 264, .int x1, .int 0, .null]) (st' := [.ref 264]) (h' := h1) rfl).trans ?_
    refine (mm_c0K (y := 235) (as := [.ref 264]) (nx := 17) (rest := []) rfl rfl (ls' := [.ref 264, .int x1, .int 0, .null]) rfl).trans (mm_congV fun h3 => ?_)
    exact rfl
  · exact mm_by_end 2 rfl
set_option maxRecDepth 100000 in
set_option maxHeartbeats 4000000 in
theorem U_X12_curtain_17 {d : Nat} {x1 : Int32} {x2 : Int32} {h : mm_H} : mm_D (mm_M mm_T0 d) cd_X12_curtain 17 [.ref 264, .int x1, .int x2, .null] [] h = (mm_bI (mm_M mm_T0 d 219 [.ref 264, .int x1] h) (fun v2 h1 => if v2 ≤ 0 then (mm_bI (mm_M mm_T0 d 219 [.ref 264, .int x1] h1) (fun v4 h3 => if ¬ v4 = 0 then (mm_bV (mm_M mm_T0 d 237 [.ref 264] h3) (fun h5 => some (some (.int ((-1))), h5))) else (mm_bV (mm_M mm_T0 d 237 [.ref 264] h3) (fun h6 => some (some (.int x2), h6))))) else (if 60 ≤ x2 then (mm_bI (mm_M mm_T0 d 219 [.ref 264, .int x1] h1) (fun v8 h7 => if ¬ v8 = 0 then (mm_bV (mm_M mm_T0 d 237 [.ref 264] h7) (fun h9 => some (some (.int ((-1))), h9))) else (mm_bV (mm_M mm_T0 d 237 [.ref 264] h7) (fun h10 => some (some (.int x2), h10))))) else (if 999 ≤ (h1.1 300 0) then (mm_bI (mm_M mm_T0 d 219 [.ref 264, .int x1] h1) (fun v12 h11 => if ¬ v12 = 0 then (mm_bV (mm_M mm_T0 d 237 [.ref 264] h11) (fun h13 => some (some (.int ((-1))), h13))) else (mm_bV (mm_M mm_T0 d 237 [.ref 264] h11) (fun h14 => some (some (.int x2), h14))))) else (mm_bV (mm_M mm_T0 d 233 [.ref 264] h1) (fun h15 => mm_D (mm_M mm_T0 d) cd_X12_curtain 17 [.ref 264, .int x1, .int (x2 + 1), .null] [] h15)))))) := by
  refine (mm_by 2 (pc' := 19) (ls' := [.ref 264, .int x1, .int x2, .null]) (st' := [.int x1, .ref 264]) (h' := h) rfl).trans ?_
  refine (mm_c1 (y := 219) (as := [.ref 264, .int x1]) (nx := 22) (rest := []) rfl rfl).trans (mm_congI fun v2 h1 => ?_)
  refine (mm_br (c := v2 ≤ 0) (p1 := 53) (p2 := 25) (l1 := [.ref 264, .int x1, .int x2, .null]) (l2 := [.ref 264, .int x1, .int x2, .null]) (s1 := []) (s2 := []) (h1 := h1) (h2 := h1) rfl rfl).trans (mm_ite ?_ ?_)
  · refine (mm_by 2 (pc' := 55) (ls' := [.ref 264, .int x1, .int x2, .null]) (st' := [.int x1, .ref 264]) (h' := h1) rfl).trans ?_
    refine (mm_c1 (y := 219) (as := [.ref 264, .int x1]) (nx := 58) (rest := []) rfl rfl).trans (mm_congI fun v4 h3 => ?_)
    refine (mm_br (c := ¬ v4 = 0) (p1 := 65) (p2 := 61) (l1 := [.ref 264, .int x1, .int x2, .null]) (l2 := [.ref 264, .int x1, .int x2, .null]) (s1 := []) (s2 := []) (h1 := h3) (h2 := h3) rfl rfl).trans (mm_ite ?_ ?_)
    · refine (mm_by 3 (pc' := 68) (ls' := [.ref 264, .int x1, .int x2, .int 0]) (st' := [.ref 264]) (h' := h3) rfl).trans ?_
      refine (mm_c0 (y := 237) (as := [.ref 264]) (nx := 71) (rest := []) rfl rfl).trans (mm_congV fun h5 => ?_)
      exact mm_by_end 4 rfl
    · refine (mm_by 4 (pc' := 68) (ls' := [.ref 264, .int x1, .int x2, .int 1]) (st' := [.ref 264]) (h' := h3) rfl).trans ?_
      refine (mm_c0 (y := 237) (as := [.ref 264]) (nx := 71) (rest := []) rfl rfl).trans (mm_congV fun h6 => ?_)
      exact mm_by_end 5 rfl
  · refine (mm_by 2 (pc' := 28) (ls' := [.ref 264, .int x1, .int x2, .null]) (st' := [.int 60, .int x2]) (h' := h1) rfl).trans ?_
    refine (mm_br (c := 60 ≤ x2) (p1 := 53) (p2 := 31) (l1 := [.ref 264, .int x1, .int x2, .null]) (l2 := [.ref 264, .int x1, .int x2, .null]) (s1 := []) (s2 := []) (h1 := h1) (h2 := h1) rfl rfl).trans (mm_ite ?_ ?_)
    · refine (mm_by 2 (pc' := 55) (ls' := [.ref 264, .int x1, .int x2, .null]) (st' := [.int x1, .ref 264]) (h' := h1) rfl).trans ?_
      refine (mm_c1 (y := 219) (as := [.ref 264, .int x1]) (nx := 58) (rest := []) rfl rfl).trans (mm_congI fun v8 h7 => ?_)
      refine (mm_br (c := ¬ v8 = 0) (p1 := 65) (p2 := 61) (l1 := [.ref 264, .int x1, .int x2, .null]) (l2 := [.ref 264, .int x1, .int x2, .null]) (s1 := []) (s2 := []) (h1 := h7) (h2 := h7) rfl rfl).trans (mm_ite ?_ ?_)
      · refine (mm_by 3 (pc' := 68) (ls' := [.ref 264, .int x1, .int x2, .int 0]) (st' := [.ref 264]) (h' := h7) rfl).trans ?_
        refine (mm_c0 (y := 237) (as := [.ref 264]) (nx := 71) (rest := []) rfl rfl).trans (mm_congV fun h9 => ?_)
        exact mm_by_end 4 rfl
      · refine (mm_by 4 (pc' := 68) (ls' := [.ref 264, .int x1, .int x2, .int 1]) (st' := [.ref 264]) (h' := h7) rfl).trans ?_
        refine (mm_c0 (y := 237) (as := [.ref 264]) (nx := 71) (rest := []) rfl rfl).trans (mm_congV fun h10 => ?_)
        exact mm_by_end 5 rfl
    · refine (mm_by 5 (pc' := 40) (ls' := [.ref 264, .int x1, .int x2, .null]) (st' := [.int 999, .int (h1.1 300 0)]) (h' := h1) rfl).trans ?_
      refine (mm_br (c := 999 ≤ (h1.1 300 0)) (p1 := 53) (p2 := 43) (l1 := [.ref 264, .int x1, .int x2, .null]) (l2 := [.ref 264, .int x1, .int x2, .null]) (s1 := []) (s2 := []) (h1 := h1) (h2 := h1) rfl rfl).trans (mm_ite ?_ ?_)
      · refine (mm_by 2 (pc' := 55) (ls' := [.ref 264, .int x1, .int x2, .null]) (st' := [.int x1, .ref 264]) (h' := h1) rfl).trans ?_
        refine (mm_c1 (y := 219) (as := [.ref 264, .int x1]) (nx := 58) (rest := []) rfl rfl).trans (mm_congI fun v12 h11 => ?_)
        refine (mm_br (c := ¬ v12 = 0) (p1 := 65) (p2 := 61) (l1 := [.ref 264, .int x1, .int x2, .null]) (l2 := [.ref 264, .int x1, .int x2, .null]) (s1 := []) (s2 := []) (h1 := h11) (h2 := h11) rfl rfl).trans (mm_ite ?_ ?_)
        · refine (mm_by 3 (pc' := 68) (ls' := [.ref 264, .int x1, .int x2, .int 0]) (st' := [.ref 264]) (h' := h11) rfl).trans ?_
          refine (mm_c0 (y := 237) (as := [.ref 264]) (nx := 71) (rest := []) rfl rfl).trans (mm_congV fun h13 => ?_)
          exact mm_by_end 4 rfl
        · refine (mm_by 4 (pc' := 68) (ls' := [.ref 264, .int x1, .int x2, .int 1]) (st' := [.ref 264]) (h' := h11) rfl).trans ?_
          refine (mm_c0 (y := 237) (as := [.ref 264]) (nx := 71) (rest := []) rfl rfl).trans (mm_congV fun h14 => ?_)
          exact mm_by_end 5 rfl
      · refine (mm_by 1 (pc' := 44) (ls' := [.ref 264, .int x1, .int x2, .null]) (st' := [.ref 264]) (h' := h1) rfl).trans ?_
        refine (mm_c0 (y := 233) (as := [.ref 264]) (nx := 47) (rest := []) rfl rfl).trans (mm_congV fun h15 => ?_)
        exact mm_by 2 rfl
set_option maxRecDepth 100000 in
set_option maxHeartbeats 4000000 in
theorem U_X12_changes {d : Nat} {x1 : Int32} {x2 : Int32} {h : mm_H} : mm_M mm_T0 (d + 1) 256 [.ref 264, .int x1, .int x2] h = (mm_bI (mm_M mm_T0 d 224 [.ref 264, .int x1] h) (fun v2 h1 => mm_bI (mm_M mm_T0 d 224 [.ref 264, .int x2] h1) (fun v4 h3 => if v2 = ((-1)) then (if v4 = ((-1)) then (some (none, h3)) else (if (1 + (3 * v4)) < 0 ∨ 210 ≤ (1 + (3 * v4)).toNatClampNeg then none else (some (none, wI h3 300 ((1 + (3 * v4)).toNatClampNeg) x1)))) else (if (1 + (3 * v2)) < 0 ∨ 210 ≤ (1 + (3 * v2)).toNatClampNeg then none else (if v4 = ((-1)) then (some (none, wI h3 300 ((1 + (3 * v2)).toNatClampNeg) x2)) else (if (1 + (3 * v4)) < 0 ∨ 210 ≤ (1 + (3 * v4)).toNatClampNeg then none else (some (none, wI (wI h3 300 ((1 + (3 * v2)).toNatClampNeg) x2) 300 ((1 + (3 * v4)).toNatClampNeg) x1)))))))) := by
  refine (mm_M_eq (ls := [.ref 264, .int x1, .int x2, .null, .null]) rfl (Nat.le_of_ble_eq_true rfl) rfl h).trans ?_
  refine (mm_by 2 (pc' := 2) (ls' := [.ref 264, .int x1, .int x2, .null, .null]) (st' := [.int x1, .ref 264]) (h' := h) rfl).trans ?_
  refine (mm_c1 (y := 224) (as := [.ref 264, .int x1]) (nx := 5) (rest := []) rfl rfl).trans (mm_congI fun v2 h1 => ?_)
  refine (mm_by 3 (pc' := 8) (ls' := [.ref 264, .int x1, .int x2, .int v2, .null]) (st' := [.int x2, .ref 264]) (h' := h1) rfl).trans ?_
  refine (mm_c1 (y := 224) (as := [.ref 264, .int x2]) (nx := 11) (rest := []) rfl rfl).trans (mm_congI fun v4 h3 => ?_)
  refine (mm_by 3 (pc' := 15) (ls' := [.ref 264, .int x1, .int x2, .int v2, .int v4]) (st' := [.int ((-1)), .int v2]) (h' := h3) rfl).trans ?_
  refine (mm_br (c := v2 = ((-1))) (p1 := 29) (p2 := 18) (l1 := [.ref 264, .int x1, .int x2, .int v2, .int v4]) (l2 := [.ref 264, .int x1, .int x2, .int v2, .int v4]) (s1 := []) (s2 := []) (h1 := h3) (h2 := h3) rfl rfl).trans (mm_ite ?_ ?_)
  · refine (mm_by 2 (pc' := 32) (ls' := [.ref 264, .int x1, .int x2, .int v2, .int v4]) (st' := [.int ((-1)), .int v4]) (h' := h3) rfl).trans ?_
    refine (mm_br (c := v4 = ((-1))) (p1 := 47) (p2 := 35) (l1 := [.ref 264, .int x1, .int x2, .int v2, .int v4]) (l2 := [.ref 264, .int x1, .int x2, .int v2, .int v4]) (s1 := []) (s2 := []) (h1 := h3) (h2 := h3) rfl rfl).trans (mm_ite ?_ ?_)
    · exact mm_by_end 1 rfl
    · refine (mm_by 8 (pc' := 46) (ls' := [.ref 264, .int x1, .int x2, .int v2, .int v4]) (st' := [.int x1, .int (1 + (3 * v4)), .ref 300]) (h' := h3) rfl).trans ?_
      refine (mm_gd (c := (1 + (3 * v4)) < 0 ∨ 210 ≤ (1 + (3 * v4)).toNatClampNeg) (p1 := 47) (l1 := [.ref 264, .int x1, .int x2, .int v2, .int v4]) (s1 := []) (h1 := wI h3 300 ((1 + (3 * v4)).toNatClampNeg) x1) rfl (q_iast (n := 210) rfl)).trans (mm_ite rfl ?_)
      exact mm_by_end 1 rfl
  · refine (mm_by 8 (pc' := 28) (ls' := [.ref 264, .int x1, .int x2, .int v2, .int v4]) (st' := [.int x2, .int (1 + (3 * v2)), .ref 300]) (h' := h3) rfl).trans ?_
    refine (mm_gd (c := (1 + (3 * v2)) < 0 ∨ 210 ≤ (1 + (3 * v2)).toNatClampNeg) (p1 := 29) (l1 := [.ref 264, .int x1, .int x2, .int v2, .int v4]) (s1 := []) (h1 := wI h3 300 ((1 + (3 * v2)).toNatClampNeg) x2) rfl (q_iast (n := 210) rfl)).trans (mm_ite rfl ?_)
    refine (mm_by 2 (pc' := 32) (ls' := [.ref 264, .int x1, .int x2, .int v2, .int v4]) (st' := [.int ((-1)), .int v4]) (h' := wI h3 300 ((1 + (3 * v2)).toNatClampNeg) x2) rfl).trans ?_
    refine (mm_br (c := v4 = ((-1))) (p1 := 47) (p2 := 35) (l1 := [.ref 264, .int x1, .int x2, .int v2, .int v4]) (l2 := [.ref 264, .int x1, .int x2, .int v2, .int v4]) (s1 := []) (s2 := []) (h1 := wI h3 300 ((1 + (3 * v2)).toNatClampNeg) x2) (h2 := wI h3 300 ((1 + (3 * v2)).toNatClampNeg) x2) rfl rfl).trans (mm_ite ?_ ?_)
    · exact mm_by_end 1 rfl
    · refine (mm_by 8 (pc' := 46) (ls' := [.ref 264, .int x1, .int x2, .int v2, .int v4]) (st' := [.int x1, .int (1 + (3 * v4)), .ref 300]) (h' := wI h3 300 ((1 + (3 * v2)).toNatClampNeg) x2) rfl).trans ?_
      refine (mm_gd (c := (1 + (3 * v4)) < 0 ∨ 210 ≤ (1 + (3 * v4)).toNatClampNeg) (p1 := 47) (l1 := [.ref 264, .int x1, .int x2, .int v2, .int v4]) (s1 := []) (h1 := wI (wI h3 300 ((1 + (3 * v2)).toNatClampNeg) x2) 300 ((1 + (3 * v4)).toNatClampNeg) x1) rfl (q_iast (n := 210) rfl)).trans (mm_ite rfl ?_)
      exact mm_by_end 1 rfl
set_option maxRecDepth 100000 in
set_option maxHeartbeats 4000000 in
theorem U_X12_changed {d : Nat} {x1 : Int32} {x2 : Int32} {h : mm_H} : mm_M mm_T0 (d + 1) 257 [.ref 264, .int x1, .int x2] h = (if (h.1 264 53) = 0 then (some (some (.int ((-1))), h)) else (mm_bI (mm_M mm_T0 d 238 [.ref 264, .int x1, .int 1, .int 20] h) (fun v2 h1 => if v2 = 0 then (some (some (.int ((-1))), h1)) else (mm_bI (mm_M mm_T0 d 188 [.long x2.toInt64, .long 0, .long 2] h1) (fun v4 h3 => if ¬ v4 = 0 then (mm_bV (mm_M mm_T0 d 235 [.ref 264] h3) (fun h5 => mm_bV (mm_M mm_T0 d 234 [.ref 264, .int x1] h5) (fun h6 => mm_bI (mm_M mm_T0 d 240 [.ref 264] h6) (fun v8 h7 => mm_bV (mm_M mm_T0 d 236 [.ref 264] h7) (fun h9 => mm_D (mm_M mm_T0 d) cd_X12_changed 59 [.ref 264, .int x1, .int x2, .int v8, .int ((-1)), .int ((-1)), .int 0, .null, .null] [] h9))))) else (some (some (.int ((-1))), h3))))))) := by
  refine (mm_M_eq (ls := [.ref 264, .int x1, .int x2, .null, .null, .null, .null, .null, .null]) rfl (Nat.le_of_ble_eq_true rfl) rfl h).trans ?_
  refine (mm_by 2 (pc' := 4) (ls' := [.ref 264, .int x1, .int x2, .null, .null, .null, .null, .null, .null]) (st' := [.int (h.1 264 53)]) (h' := h) rfl).trans ?_
  refine (mm_br (c := (h.1 264 53) = 0) (p1 := 30) (p2 := 7) (l1 := [.ref 264, .int x1, .int x2, .null, .null, .null, .null, .null, .null]) (l2 := [.ref 264, .int x1, .int x2, .null, .null, .null, .null, .null, .null]) (s1 := []) (s2 := []) (h1 := h) (h2 := h) rfl rfl).trans (mm_ite ?_ ?_)
  · exact mm_by_end 2 rfl
  · refine (mm_by 4 (pc' := 12) (ls' := [.ref 264, .int x1, .int x2, .null, .null, .null, .null, .null, .null]) (st' := [.int 20, .int 1, .int x1, .ref 264]) (h' := h) rfl).trans ?_
    refine (mm_c1 (y := 238) (as := [.ref 264, .int x1, .int 1, .int 20]) (nx := 15) (rest := []) rfl rfl).trans (mm_congI fun v2 h1 => ?_)
    refine (mm_br (c := v2 = 0) (p1 := 30) (p2 := 18) (l1 := [.ref 264, .int x1, .int x2, .null, .null, .null, .null, .null, .null]) (l2 := [.ref 264, .int x1, .int x2, .null, .null, .null, .null, .null, .null]) (s1 := []) (s2 := []) (h1 := h1) (h2 := h1) rfl rfl).trans (mm_ite ?_ ?_)
    · exact mm_by_end 2 rfl
    · refine (mm_by 4 (pc' := 24) (ls' := [.ref 264, .int x1, .int x2, .null, .null, .null, .null, .null, .null]) (st' := [.long 2, .long 0, .long x2.toInt64]) (h' := h1) rfl).trans ?_
      refine (mm_c1 (y := 188) (as := [.long x2.toInt64, .long 0, .long 2]) (nx := 27) (rest := []) rfl rfl).trans (mm_congI fun v4 h3 => ?_)
      refine (mm_br (c := ¬ v4 = 0) (p1 := 32) (p2 := 30) (l1 := [.ref 264, .int x1, .int x2, .null, .null, .null, .null, .null, .null]) (l2 := [.ref 264, .int x1, .int x2, .null, .null, .null, .null, .null, .null]) (s1 := []) (s2 := []) (h1 := h3) (h2 := h3) rfl rfl).trans (mm_ite ?_ ?_)
      · refine (mm_by 1 (pc' := 33) (ls' := [.ref 264, .int x1, .int x2, .null, .null, .null, .null, .null, .null]) (st' := [.ref 264]) (h' := h3) rfl).trans ?_
        refine (mm_c0 (y := 235) (as := [.ref 264]) (nx := 36) (rest := []) rfl rfl).trans (mm_congV fun h5 => ?_)
        refine (mm_by 2 (pc' := 38) (ls' := [.ref 264, .int x1, .int x2, .null, .null, .null, .null, .null, .null]) (st' := [.int x1, .ref 264]) (h' := h5) rfl).trans ?_
        refine (mm_c0 (y := 234) (as := [.ref 264, .int x1]) (nx := 41) (rest := []) rfl rfl).trans (mm_congV fun h6 => ?_)
        refine (mm_by 1 (pc' := 42) (ls' := [.ref 264, .int x1, .int x2, .null, .null, .null, .null, .null, .null]) (st' := [.ref 264]) (h' := h6) rfl).trans ?_
        refine (mm_c1 (y := 240) (as := [.ref 264]) (nx := 45) (rest := []) rfl rfl).trans (mm_congI fun v8 h7 => ?_)
        refine (mm_by 2 (pc' := 47) (ls' := [.ref 264, .int x1, .int x2, .int v8, .null, .null, .null, .null, .null]) (st' := [.ref 264]) (h' := h7) rfl).trans ?_
        refine (mm_c0 (y := 236) (as := [.ref 264]) (nx := 50) (rest := []) rfl rfl).trans (mm_congV fun h9 => ?_)
        exact mm_by 6 rfl
      · exact mm_by_end 2 rfl
set_option maxRecDepth 100000 in
set_option maxHeartbeats 4000000 in
theorem U_X12_changed_59 {d : Nat} {x1 : Int32} {x2 : Int32} {x3 : Int32} {x4 : Int32} {x5 : Int32} {x6 : Int32} {h : mm_H} : mm_D (mm_M mm_T0 d) cd_X12_changed 59 [.ref 264, .int x1, .int x2, .int x3, .int x4, .int x5, .int x6, .null, .null] [] h = (if (h.1 264 38) ≤ x6 then (mm_bV (mm_M mm_T0 d 237 [.ref 264] h) (fun h1 => if ¬ x4 = ((-1)) then (if ¬ x2 = 0 then (if ¬ x2 = 1 then (some (some (.int x3), h1)) else (some (some (.int x5), h1))) else (some (some (.int x4), h1))) else (some (some (.int ((-1))), h1)))) else (mm_D (mm_M mm_T0 d) cd_X12_changed 74 [.ref 264, .int x1, .int x2, .int x3, .int x4, .int x5, .int x6, .int (x6 + 1), .null] [] h)) := by
  refine (mm_by 3 (pc' := 65) (ls' := [.ref 264, .int x1, .int x2, .int x3, .int x4, .int x5, .int x6, .null, .null]) (st' := [.int (h.1 264 38), .int x6]) (h' := h) rfl).trans ?_
  refine (mm_br (c := (h.1 264 38) ≤ x6) (p1 := 138) (p2 := 68) (l1 := [.ref 264, .int x1, .int x2, .int x3, .int x4, .int x5, .int x6, .null, .null]) (l2 := [.ref 264, .int x1, .int x2, .int x3, .int x4, .int x5, .int x6, .null, .null]) (s1 := []) (s2 := []) (h1 := h) (h2 := h) rfl rfl).trans (mm_ite ?_ ?_)
  · refine (mm_by 1 (pc' := 139) (ls' := [.ref 264, .int x1, .int x2, .int x3, .int x4, .int x5, .int x6, .null, .null]) (st' := [.ref 264]) (h' := h) rfl).trans ?_
    refine (mm_c0 (y := 237) (as := [.ref 264]) (nx := 142) (rest := []) rfl rfl).trans (mm_congV fun h1 => ?_)
    refine (mm_by 2 (pc' := 145) (ls' := [.ref 264, .int x1, .int x2, .int x3, .int x4, .int x5, .int x6, .null, .null]) (st' := [.int ((-1)), .int x4]) (h' := h1) rfl).trans ?_
    refine (mm_br (c := ¬ x4 = ((-1))) (p1 := 152) (p2 := 148) (l1 := [.ref 264, .int x1, .int x2, .int x3, .int x4, .int x5, .int x6, .null, .null]) (l2 := [.ref 264, .int x1, .int x2, .int x3, .int x4, .int x5, .int x6, .null, .null]) (s1 := []) (s2 := []) (h1 := h1) (h2 := h1) rfl rfl).trans (mm_ite ?_ ?_)
    · refine (mm_by 1 (pc' := 153) (ls' := [.ref 264, .int x1, .int x2, .int x3, .int x4, .int x5, .int x6, .null, .null]) (st' := [.int x2]) (h' := h1) rfl).trans ?_
      refine (mm_br (c := ¬ x2 = 0) (p1 := 161) (p2 := 156) (l1 := [.ref 264, .int x1, .int x2, .int x3, .int x4, .int x5, .int x6, .null, .null]) (l2 := [.ref 264, .int x1, .int x2, .int x3, .int x4, .int x5, .int x6, .null, .null]) (s1 := []) (s2 := []) (h1 := h1) (h2 := h1) rfl rfl).trans (mm_ite ?_ ?_)
      · refine (mm_by 2 (pc' := 163) (ls' := [.ref 264, .int x1, .int x2, .int x3, .int x4, .int x5, .int x6, .null, .null]) (st' := [.int 1, .int x2]) (h' := h1) rfl).trans ?_
        refine (mm_br (c := ¬ x2 = 1) (p1 := 171) (p2 := 166) (l1 := [.ref 264, .int x1, .int x2, .int x3, .int x4, .int x5, .int x6, .null, .null]) (l2 := [.ref 264, .int x1, .int x2, .int x3, .int x4, .int x5, .int x6, .null, .null]) (s1 := []) (s2 := []) (h1 := h1) (h2 := h1) rfl rfl).trans (mm_ite ?_ ?_)
        · exact mm_by_end 2 rfl
        · exact mm_by_end 3 rfl
      · exact mm_by_end 3 rfl
    · exact mm_by_end 3 rfl
  · exact mm_by 4 rfl
set_option maxRecDepth 100000 in
set_option maxHeartbeats 4000000 in
theorem U_X12_changed_74 {d : Nat} {x1 : Int32} {x2 : Int32} {x3 : Int32} {x4 : Int32} {x5 : Int32} {x6 : Int32} {x7 : Int32} {h : mm_H} : mm_D (mm_M mm_T0 d) cd_X12_changed 74 [.ref 264, .int x1, .int x2, .int x3, .int x4, .int x5, .int x6, .int x7, .null] [] h = (if (h.1 264 38) ≤ x7 then (mm_D (mm_M mm_T0 d) cd_X12_changed 59 [.ref 264, .int x1, .int x2, .int x3, .int x4, .int x5, .int (x6 + 1), .null, .null] [] h) else (mm_bV (mm_M mm_T0 d 256 [.ref 264, .int x6, .int x7] h) (fun h1 => mm_bV (mm_M mm_T0 d 234 [.ref 264, .int x1] h1) (fun h2 => mm_bI (mm_M mm_T0 d 240 [.ref 264] h2) (fun v4 h3 => mm_bV (mm_M mm_T0 d 236 [.ref 264] h3) (fun h5 => if x3 < v4 then (mm_D (mm_M mm_T0 d) cd_X12_changed 74 [.ref 264, .int x1, .int x2, .int v4, .int x6, .int x7, .int x6, .int (x7 + 1), .null] [] h5) else (mm_D (mm_M mm_T0 d) cd_X12_changed 74 [.ref 264, .int x1, .int x2, .int x3, .int x4, .int x5, .int x6, .int (x7 + 1), .null] [] h5))))))) := by
  refine (mm_by 3 (pc' := 80) (ls' := [.ref 264, .int x1, .int x2, .int x3, .int x4, .int x5, .int x6, .int x7, .null]) (st' := [.int (h.1 264 38), .int x7]) (h' := h) rfl).trans ?_
  refine (mm_br (c := (h.1 264 38) ≤ x7) (p1 := 132) (p2 := 83) (l1 := [.ref 264, .int x1, .int x2, .int x3, .int x4, .int x5, .int x6, .int x7, .null]) (l2 := [.ref 264, .int x1, .int x2, .int x3, .int x4, .int x5, .int x6, .int x7, .null]) (s1 := []) (s2 := []) (h1 := h) (h2 := h) rfl rfl).trans (mm_ite ?_ ?_)
  · exact mm_by 2 rfl
  · refine (mm_by 3 (pc' := 88) (ls' := [.ref 264, .int x1, .int x2, .int x3, .int x4, .int x5, .int x6, .int x7, .null]) (st' := [.int x7, .int x6, .ref 264]) (h' := h) rfl).trans ?_
    refine (mm_c0 (y := 256) (as := [.ref 264, .int x6, .int x7]) (nx := 91) (rest := []) rfl rfl).trans (mm_congV fun h1 => ?_)
    refine (mm_by 2 (pc' := 93) (ls' := [.ref 264, .int x1, .int x2, .int x3, .int x4, .int x5, .int x6, .int x7, .null]) (st' := [.int x1, .ref 264]) (h' := h1) rfl).trans ?_
    refine (mm_c0 (y := 234) (as := [.ref 264, .int x1]) (nx := 96) (rest := []) rfl rfl).trans (mm_congV fun h2 => ?_)
    refine (mm_by 1 (pc' := 97) (ls' := [.ref 264, .int x1, .int x2, .int x3, .int x4, .int x5, .int x6, .int x7, .null]) (st' := [.ref 264]) (h' := h2) rfl).trans ?_
    refine (mm_c1 (y := 240) (as := [.ref 264]) (nx := 100) (rest := []) rfl rfl).trans (mm_congI fun v4 h3 => ?_)
    refine (mm_by 2 (pc' := 103) (ls' := [.ref 264, .int x1, .int x2, .int x3, .int x4, .int x5, .int x6, .int x7, .int v4]) (st' := [.ref 264]) (h' := h3) rfl).trans ?_
    refine (mm_c0 (y := 236) (as := [.ref 264]) (nx := 106) (rest := []) rfl rfl).trans (mm_congV fun h5 => ?_)
    refine (mm_by 2 (pc' := 109) (ls' := [.ref 264, .int x1, .int x2, .int x3, .int x4, .int x5, .int x6, .int x7, .int v4]) (st' := [.int x3, .int v4]) (h' := h5) rfl).trans ?_
    refine (mm_br (c := x3 < v4) (p1 := 115) (p2 := 112) (l1 := [.ref 264, .int x1, .int x2, .int x3, .int x4, .int x5, .int x6, .int x7, .int v4]) (l2 := [.ref 264, .int x1, .int x2, .int x3, .int x4, .int x5, .int x6, .int x7, .int v4]) (s1 := []) (s2 := []) (h1 := h5) (h2 := h5) rfl rfl).trans (mm_ite ?_ ?_)
    · exact mm_by 8 rfl
    · exact mm_by 3 rfl
set_option maxRecDepth 100000 in
set_option maxHeartbeats 4000000 in
theorem U_X12_comes {d : Nat} {x1 : Int32} {x2 : Int32} {x3 : Int32} {x4 : Int32} {h : mm_H} : mm_M mm_T0 (d + 1) 258 [.ref 264, .int x1, .int x2, .int x3, .int x4] h = (if (8 + x1) < 0 ∨ 16 ≤ (8 + x1).toNatClampNeg then none else (if (8 + x1) < 0 ∨ 16 ≤ (8 + x1).toNatClampNeg then none else (if (1 + (3 * x1)) < 0 ∨ 210 ≤ (1 + (3 * x1)).toNatClampNeg then none else (if (2 + (3 * x1)) < 0 ∨ 210 ≤ (2 + (3 * x1)).toNatClampNeg then none else (if (3 + (3 * x1)) < 0 ∨ 210 ≤ (3 + (3 * x1)).toNatClampNeg then none else (mm_D (mm_M mm_T0 d) cd_X12_comes 60 [.ref 264, .int x1, .null, .null, .null, .int 0] [] (wI (wI (wI (wI (wI h 294 ((8 + x1).toNatClampNeg) x3) 295 ((8 + x1).toNatClampNeg) x4) 300 ((1 + (3 * x1)).toNatClampNeg) x2) 300 ((2 + (3 * x1)).toNatClampNeg) (10 * x3)) 300 ((3 + (3 * x1)).toNatClampNeg) 0))))))) := by
  refine (mm_M_eq (ls := [.ref 264, .int x1, .int x2, .int x3, .int x4, .null]) rfl (Nat.le_of_ble_eq_true rfl) rfl h).trans ?_
  refine (mm_by 6 (pc' := 9) (ls' := [.ref 264, .int x1, .int x2, .int x3, .int x4, .null]) (st' := [.int x3, .int (8 + x1), .ref 294]) (h' := h) rfl).trans ?_
  refine (mm_gd (c := (8 + x1) < 0 ∨ 16 ≤ (8 + x1).toNatClampNeg) (p1 := 10) (l1 := [.ref 264, .int x1, .int x2, .int x3, .int x4, .null]) (s1 := []) (h1 := wI h 294 ((8 + x1).toNatClampNeg) x3) rfl (q_iast (n := 16) rfl)).trans (mm_ite rfl ?_)
  refine (mm_by 6 (pc' := 20) (ls' := [.ref 264, .int x1, .int x2, .int x3, .int x4, .null]) (st' := [.int x4, .int (8 + x1), .ref 295]) (h' := wI h 294 ((8 + x1).toNatClampNeg) x3) rfl).trans ?_
  refine (mm_gd (c := (8 + x1) < 0 ∨ 16 ≤ (8 + x1).toNatClampNeg) (p1 := 21) (l1 := [.ref 264, .int x1, .int x2, .int x3, .int x4, .null]) (s1 := []) (h1 := wI (wI h 294 ((8 + x1).toNatClampNeg) x3) 295 ((8 + x1).toNatClampNeg) x4) rfl (q_iast (n := 16) rfl)).trans (mm_ite rfl ?_)
  refine (mm_by 8 (pc' := 31) (ls' := [.ref 264, .int x1, .int x2, .int x3, .int x4, .null]) (st' := [.int x2, .int (1 + (3 * x1)), .ref 300]) (h' := wI (wI h 294 ((8 + x1).toNatClampNeg) x3) 295 ((8 + x1).toNatClampNeg) x4) rfl).trans ?_
  refine (mm_gd (c := (1 + (3 * x1)) < 0 ∨ 210 ≤ (1 + (3 * x1)).toNatClampNeg) (p1 := 32) (l1 := [.ref 264, .int x1, .int x2, .int x3, .int x4, .null]) (s1 := []) (h1 := wI (wI (wI h 294 ((8 + x1).toNatClampNeg) x3) 295 ((8 + x1).toNatClampNeg) x4) 300 ((1 + (3 * x1)).toNatClampNeg) x2) rfl (q_iast (n := 210) rfl)).trans (mm_ite rfl ?_)
  refine (mm_by 10 (pc' := 45) (ls' := [.ref 264, .int x1, .int x2, .int x3, .int x4, .null]) (st' := [.int (10 * x3), .int (2 + (3 * x1)), .ref 300]) (h' := wI (wI (wI h 294 ((8 + x1).toNatClampNeg) x3) 295 ((8 + x1).toNatClampNeg) x4) 300 ((1 + (3 * x1)).toNatClampNeg) x2) rfl).trans ?_
  refine (mm_gd (c := (2 + (3 * x1)) < 0 ∨ 210 ≤ (2 + (3 * x1)).toNatClampNeg) (p1 := 46) (l1 := [.ref 264, .int x1, .int x2, .int x3, .int x4, .null]) (s1 := []) (h1 := wI (wI (wI (wI h 294 ((8 + x1).toNatClampNeg) x3) 295 ((8 + x1).toNatClampNeg) x4) 300 ((1 + (3 * x1)).toNatClampNeg) x2) 300 ((2 + (3 * x1)).toNatClampNeg) (10 * x3)) rfl (q_iast (n := 210) rfl)).trans (mm_ite rfl ?_)
  refine (mm_by 8 (pc' := 56) (ls' := [.ref 264, .int x1, .int x2, .int x3, .int x4, .null]) (st' := [.int 0, .int (3 + (3 * x1)), .ref 300]) (h' := wI (wI (wI (wI h 294 ((8 + x1).toNatClampNeg) x3) 295 ((8 + x1).toNatClampNeg) x4) 300 ((1 + (3 * x1)).toNatClampNeg) x2) 300 ((2 + (3 * x1)).toNatClampNeg) (10 * x3)) rfl).trans ?_
  refine (mm_gd (c := (3 + (3 * x1)) < 0 ∨ 210 ≤ (3 + (3 * x1)).toNatClampNeg) (p1 := 57) (l1 := [.ref 264, .int x1, .int x2, .int x3, .int x4, .null]) (s1 := []) (h1 := wI (wI (wI (wI (wI h 294 ((8 + x1).toNatClampNeg) x3) 295 ((8 + x1).toNatClampNeg) x4) 300 ((1 + (3 * x1)).toNatClampNeg) x2) 300 ((2 + (3 * x1)).toNatClampNeg) (10 * x3)) 300 ((3 + (3 * x1)).toNatClampNeg) 0) rfl (q_iast (n := 210) rfl)).trans (mm_ite rfl ?_)
  exact mm_by 2 rfl
set_option maxRecDepth 100000 in
set_option maxHeartbeats 4000000 in
theorem U_X12_comes_60 {d : Nat} {x1 : Int32} {x5 : Int32} {h : mm_H} : mm_D (mm_M mm_T0 d) cd_X12_comes 60 [.ref 264, .int x1, .null, .null, .null, .int x5] [] h = (if 8 ≤ x5 then (some (none, h)) else (if ((25 + (8 * x1)) + x5) < 0 ∨ 210 ≤ ((25 + (8 * x1)) + x5).toNatClampNeg then none else (if ((25 + (8 * x5)) + x1) < 0 ∨ 210 ≤ ((25 + (8 * x5)) + x1).toNatClampNeg then none else (mm_D (mm_M mm_T0 d) cd_X12_comes 60 [.ref 264, .int x1, .null, .null, .null, .int (x5 + 1)] [] (wI (wI h 300 (((25 + (8 * x1)) + x5).toNatClampNeg) 5) 300 (((25 + (8 * x5)) + x1).toNatClampNeg) 5))))) := by
  refine (mm_by 2 (pc' := 64) (ls' := [.ref 264, .int x1, .null, .null, .null, .int x5]) (st' := [.int 8, .int x5]) (h' := h) rfl).trans ?_
  refine (mm_br (c := 8 ≤ x5) (p1 := 105) (p2 := 67) (l1 := [.ref 264, .int x1, .null, .null, .null, .int x5]) (l2 := [.ref 264, .int x1, .null, .null, .null, .int x5]) (s1 := []) (s2 := []) (h1 := h) (h2 := h) rfl rfl).trans (mm_ite ?_ ?_)
  · exact mm_by_end 1 rfl
  · refine (mm_by 10 (pc' := 82) (ls' := [.ref 264, .int x1, .null, .null, .null, .int x5]) (st' := [.int 5, .int ((25 + (8 * x1)) + x5), .ref 300]) (h' := h) rfl).trans ?_
    refine (mm_gd (c := ((25 + (8 * x1)) + x5) < 0 ∨ 210 ≤ ((25 + (8 * x1)) + x5).toNatClampNeg) (p1 := 83) (l1 := [.ref 264, .int x1, .null, .null, .null, .int x5]) (s1 := []) (h1 := wI h 300 (((25 + (8 * x1)) + x5).toNatClampNeg) 5) rfl (q_iast (n := 210) rfl)).trans (mm_ite rfl ?_)
    refine (mm_by 10 (pc' := 98) (ls' := [.ref 264, .int x1, .null, .null, .null, .int x5]) (st' := [.int 5, .int ((25 + (8 * x5)) + x1), .ref 300]) (h' := wI h 300 (((25 + (8 * x1)) + x5).toNatClampNeg) 5) rfl).trans ?_
    refine (mm_gd (c := ((25 + (8 * x5)) + x1) < 0 ∨ 210 ≤ ((25 + (8 * x5)) + x1).toNatClampNeg) (p1 := 99) (l1 := [.ref 264, .int x1, .null, .null, .null, .int x5]) (s1 := []) (h1 := wI (wI h 300 (((25 + (8 * x1)) + x5).toNatClampNeg) 5) 300 (((25 + (8 * x5)) + x1).toNatClampNeg) 5) rfl (q_iast (n := 210) rfl)).trans (mm_ite rfl ?_)
    exact mm_by 2 rfl
set_option maxRecDepth 100000 in
set_option maxHeartbeats 4000000 in
theorem U_X12_stranger {d : Nat} {x1 : Int32} {x2 : Int32} {x3 : Int32} {x4 : Int32} {h : mm_H} : mm_M mm_T0 (d + 1) 259 [.ref 264, .int x1, .int x2, .int x3, .int x4] h = (if (h.1 264 53) = 0 then (some (some (.int ((-1))), h)) else (mm_bI (mm_M mm_T0 d 188 [.long x1.toInt64, .long 0, .long 9] h) (fun v2 h1 => if v2 = 0 then (some (some (.int ((-1))), h1)) else (mm_bI (mm_M mm_T0 d 188 [.long x2.toInt64, .long 0, .long 9] h1) (fun v4 h3 => if v4 = 0 then (some (some (.int ((-1))), h3)) else (mm_bI (mm_M mm_T0 d 238 [.ref 264, .int x3, .int 1, .int 20] h3) (fun v6 h5 => if v6 = 0 then (some (some (.int ((-1))), h5)) else (mm_bI (mm_M mm_T0 d 188 [.long x4.toInt64, .long 0, .long 1] h5) (fun v8 h7 => if v8 = 0 then (some (some (.int ((-1))), h7)) else (if ¬ (h7.1 264 40) = 8 then (mm_bV (mm_M mm_T0 d 235 [.ref 264] h7) (fun h9 => mm_D (mm_M mm_T0 d) cd_X12_stranger 83 [.ref 264, .int x1, .int x2, .int x3, .int x4, .int (h7.1 264 40), .int ((-1)), .int 0, .int 0, .null] [] h9)) else (some (some (.int ((-1))), h7)))))))))))) := by
  refine (mm_M_eq (ls := [.ref 264, .int x1, .int x2, .int x3, .int x4, .null, .null, .null, .null, .null]) rfl (Nat.le_of_ble_eq_true rfl) rfl h).trans ?_
  refine (mm_by 2 (pc' := 4) (ls' := [.ref 264, .int x1, .int x2, .int x3, .int x4, .null, .null, .null, .null, .null]) (st' := [.int (h.1 264 53)]) (h' := h) rfl).trans ?_
  refine (mm_br (c := (h.1 264 53) = 0) (p1 := 62) (p2 := 7) (l1 := [.ref 264, .int x1, .int x2, .int x3, .int x4, .null, .null, .null, .null, .null]) (l2 := [.ref 264, .int x1, .int x2, .int x3, .int x4, .null, .null, .null, .null, .null]) (s1 := []) (s2 := []) (h1 := h) (h2 := h) rfl rfl).trans (mm_ite ?_ ?_)
  · exact mm_by_end 2 rfl
  · refine (mm_by 4 (pc' := 13) (ls' := [.ref 264, .int x1, .int x2, .int x3, .int x4, .null, .null, .null, .null, .null]) (st' := [.long 9, .long 0, .long x1.toInt64]) (h' := h) rfl).trans ?_
    refine (mm_c1 (y := 188) (as := [.long x1.toInt64, .long 0, .long 9]) (nx := 16) (rest := []) rfl rfl).trans (mm_congI fun v2 h1 => ?_)
    refine (mm_br (c := v2 = 0) (p1 := 62) (p2 := 19) (l1 := [.ref 264, .int x1, .int x2, .int x3, .int x4, .null, .null, .null, .null, .null]) (l2 := [.ref 264, .int x1, .int x2, .int x3, .int x4, .null, .null, .null, .null, .null]) (s1 := []) (s2 := []) (h1 := h1) (h2 := h1) rfl rfl).trans (mm_ite ?_ ?_)
    · exact mm_by_end 2 rfl
    · refine (mm_by 4 (pc' := 25) (ls' := [.ref 264, .int x1, .int x2, .int x3, .int x4, .null, .null, .null, .null, .null]) (st' := [.long 9, .long 0, .long x2.toInt64]) (h' := h1) rfl).trans ?_
      refine (mm_c1 (y := 188) (as := [.long x2.toInt64, .long 0, .long 9]) (nx := 28) (rest := []) rfl rfl).trans (mm_congI fun v4 h3 => ?_)
      refine (mm_br (c := v4 = 0) (p1 := 62) (p2 := 31) (l1 := [.ref 264, .int x1, .int x2, .int x3, .int x4, .null, .null, .null, .null, .null]) (l2 := [.ref 264, .int x1, .int x2, .int x3, .int x4, .null, .null, .null, .null, .null]) (s1 := []) (s2 := []) (h1 := h3) (h2 := h3) rfl rfl).trans (mm_ite ?_ ?_)
      · exact mm_by_end 2 rfl
      · refine (mm_by 4 (pc' := 36) (ls' := [.ref 264, .int x1, .int x2, .int x3, .int x4, .null, .null, .null, .null, .null]) (st' := [.int 20, .int 1, .int x3, .ref 264]) (h' := h3) rfl).trans ?_
        refine (mm_c1 (y := 238) (as := [.ref 264, .int x3, .int 1, .int 20]) (nx := 39) (rest := []) rfl rfl).trans (mm_congI fun v6 h5 => ?_)
        refine (mm_br (c := v6 = 0) (p1 := 62) (p2 := 42) (l1 := [.ref 264, .int x1, .int x2, .int x3, .int x4, .null, .null, .null, .null, .null]) (l2 := [.ref 264, .int x1, .int x2, .int x3, .int x4, .null, .null, .null, .null, .null]) (s1 := []) (s2 := []) (h1 := h5) (h2 := h5) rfl rfl).trans (mm_ite ?_ ?_)
        · exact mm_by_end 2 rfl
        · refine (mm_by 4 (pc' := 47) (ls' := [.ref 264, .int x1, .int x2, .int x3, .int x4, .null, .null, .null, .null, .null]) (st' := [.long 1, .long 0, .long x4.toInt64]) (h' := h5) rfl).trans ?_
          refine (mm_c1 (y := 188) (as := [.long x4.toInt64, .long 0, .long 1]) (nx := 50) (rest := []) rfl rfl).trans (mm_congI fun v8 h7 => ?_)
          refine (mm_br (c := v8 = 0) (p1 := 62) (p2 := 53) (l1 := [.ref 264, .int x1, .int x2, .int x3, .int x4, .null, .null, .null, .null, .null]) (l2 := [.ref 264, .int x1, .int x2, .int x3, .int x4, .null, .null, .null, .null, .null]) (s1 := []) (s2 := []) (h1 := h7) (h2 := h7) rfl rfl).trans (mm_ite ?_ ?_)
          · exact mm_by_end 2 rfl
          · refine (mm_by 3 (pc' := 59) (ls' := [.ref 264, .int x1, .int x2, .int x3, .int x4, .null, .null, .null, .null, .null]) (st' := [.int 8, .int (h7.1 264 40)]) (h' := h7) rfl).trans ?_
            refine (mm_br (c := ¬ (h7.1 264 40) = 8) (p1 := 64) (p2 := 62) (l1 := [.ref 264, .int x1, .int x2, .int x3, .int x4, .null, .null, .null, .null, .null]) (l2 := [.ref 264, .int x1, .int x2, .int x3, .int x4, .null, .null, .null, .null, .null]) (s1 := []) (s2 := []) (h1 := h7) (h2 := h7) rfl rfl).trans (mm_ite ?_ ?_)
            · refine (mm_by 8 (pc' := 77) (ls' := [.ref 264, .int x1, .int x2, .int x3, .int x4, .int (h7.1 264 40), .int ((-1)), .int 0, .null, .null]) (st' := [.ref 264]) (h' := h7) rfl).trans ?_
              refine (mm_c0 (y := 235) (as := [.ref 264]) (nx := 80) (rest := []) rfl rfl).trans (mm_congV fun h9 => ?_)
              exact mm_by 2 rfl
            · exact mm_by_end 2 rfl
set_option maxRecDepth 100000 in
set_option maxHeartbeats 4000000 in
theorem U_X12_stranger_83 {d : Nat} {x1 : Int32} {x2 : Int32} {x3 : Int32} {x4 : Int32} {x5 : Int32} {x6 : Int32} {x7 : Int32} {x8 : Int32} {h : mm_H} : mm_D (mm_M mm_T0 d) cd_X12_stranger 83 [.ref 264, .int x1, .int x2, .int x3, .int x4, .int x5, .int x6, .int x7, .int x8, .null] [] h = (if (h.1 264 38) ≤ x8 then (mm_bV (mm_M mm_T0 d 237 [.ref 264] h) (fun h1 => if ¬ x6 = ((-1)) then (if ¬ x4 = 0 then (some (some (.int x7), h1)) else (some (some (.int x6), h1))) else (some (some (.int ((-1))), h1)))) else (mm_bI (mm_M mm_T0 d 224 [.ref 264, .int x8] h) (fun v3 h2 => if v3 = ((-1)) then (mm_bV (mm_M mm_T0 d 258 [.ref 264, .int x5, .int x8, .int x1, .int x2] h2) (fun h4 => mm_bV (mm_M mm_T0 d 234 [.ref 264, .int x3] (wI h4 264 40 ((h4.1 264 40) + 1))) (fun h5 => mm_bI (mm_M mm_T0 d 219 [.ref 264, .int x5] (wI h5 264 40 ((h5.1 264 40) - 1))) (fun v7 h6 => mm_bV (mm_M mm_T0 d 236 [.ref 264] h6) (fun h8 => if x6 = ((-1)) then (mm_D (mm_M mm_T0 d) cd_X12_stranger 83 [.ref 264, .int x1, .int x2, .int x3, .int x4, .int x5, .int x8, .int v7, .int (x8 + 1), .null] [] h8) else (if x7 < v7 then (mm_D (mm_M mm_T0 d) cd_X12_stranger 83 [.ref 264, .int x1, .int x2, .int x3, .int x4, .int x5, .int x8, .int v7, .int (x8 + 1), .null] [] h8) else (mm_D (mm_M mm_T0 d) cd_X12_stranger 83 [.ref 264, .int x1, .int x2, .int x3, .int x4, .int x5, .int x6, .int x7, .int (x8 + 1), .null] [] h8))))))) else (mm_D (mm_M mm_T0 d) cd_X12_stranger 83 [.ref 264, .int x1, .int x2, .int x3, .int x4, .int x5, .int x6, .int x7, .int (x8 + 1), .null] [] h2)))) := by
  refine (mm_by 3 (pc' := 89) (ls' := [.ref 264, .int x1, .int x2, .int x3, .int x4, .int x5, .int x6, .int x7, .int x8, .null]) (st' := [.int (h.1 264 38), .int x8]) (h' := h) rfl).trans ?_
  refine (mm_br (c := (h.1 264 38) ≤ x8) (p1 := 182) (p2 := 92) (l1 := [.ref 264, .int x1, .int x2, .int x3, .int x4, .int x5, .int x6, .int x7, .int x8, .null]) (l2 := [.ref 264, .int x1, .int x2, .int x3, .int x4, .int x5, .int x6, .int x7, .int x8, .null]) (s1 := []) (s2 := []) (h1 := h) (h2 := h) rfl rfl).trans (mm_ite ?_ ?_)
  · refine (mm_by 1 (pc' := 183) (ls' := [.ref 264, .int x1, .int x2, .int x3, .int x4, .int x5, .int x6, .int x7, .int x8, .null]) (st' := [.ref 264]) (h' := h) rfl).trans ?_
    refine (mm_c0 (y := 237) (as := [.ref 264]) (nx := 186) (rest := []) rfl rfl).trans (mm_congV fun h1 => ?_)
    refine (mm_by 2 (pc' := 189) (ls' := [.ref 264, .int x1, .int x2, .int x3, .int x4, .int x5, .int x6, .int x7, .int x8, .null]) (st' := [.int ((-1)), .int x6]) (h' := h1) rfl).trans ?_
    refine (mm_br (c := ¬ x6 = ((-1))) (p1 := 196) (p2 := 192) (l1 := [.ref 264, .int x1, .int x2, .int x3, .int x4, .int x5, .int x6, .int x7, .int x8, .null]) (l2 := [.ref 264, .int x1, .int x2, .int x3, .int x4, .int x5, .int x6, .int x7, .int x8, .null]) (s1 := []) (s2 := []) (h1 := h1) (h2 := h1) rfl rfl).trans (mm_ite ?_ ?_)
    · refine (mm_by 1 (pc' := 198) (ls' := [.ref 264, .int x1, .int x2, .int x3, .int x4, .int x5, .int x6, .int x7, .int x8, .null]) (st' := [.int x4]) (h' := h1) rfl).trans ?_
      refine (mm_br (c := ¬ x4 = 0) (p1 := 206) (p2 := 201) (l1 := [.ref 264, .int x1, .int x2, .int x3, .int x4, .int x5, .int x6, .int x7, .int x8, .null]) (l2 := [.ref 264, .int x1, .int x2, .int x3, .int x4, .int x5, .int x6, .int x7, .int x8, .null]) (s1 := []) (s2 := []) (h1 := h1) (h2 := h1) rfl rfl).trans (mm_ite ?_ ?_)
      · exact mm_by_end 2 rfl
      · exact mm_by_end 3 rfl
    · exact mm_by_end 3 rfl
  · refine (mm_by 2 (pc' := 95) (ls' := [.ref 264, .int x1, .int x2, .int x3, .int x4, .int x5, .int x6, .int x7, .int x8, .null]) (st' := [.int x8, .ref 264]) (h' := h) rfl).trans ?_
    refine (mm_c1 (y := 224) (as := [.ref 264, .int x8]) (nx := 98) (rest := []) rfl rfl).trans (mm_congI fun v3 h2 => ?_)
    refine (mm_by 1 (pc' := 99) (ls' := [.ref 264, .int x1, .int x2, .int x3, .int x4, .int x5, .int x6, .int x7, .int x8, .null]) (st' := [.int ((-1)), .int v3]) (h' := h2) rfl).trans ?_
    refine (mm_br (c := v3 = ((-1))) (p1 := 105) (p2 := 102) (l1 := [.ref 264, .int x1, .int x2, .int x3, .int x4, .int x5, .int x6, .int x7, .int x8, .null]) (l2 := [.ref 264, .int x1, .int x2, .int x3, .int x4, .int x5, .int x6, .int x7, .int x8, .null]) (s1 := []) (s2 := []) (h1 := h2) (h2 := h2) rfl rfl).trans (mm_ite ?_ ?_)
    · refine (mm_by 5 (pc' := 112) (ls' := [.ref 264, .int x1, .int x2, .int x3, .int x4, .int x5, .int x6, .int x7, .int x8, .null]) (st' := [.int x2, .int x1, .int x8, .int x5, .ref 264]) (h' := h2) rfl).trans ?_
      refine (mm_c0 (y := 258) (as := [.ref 264, .int x5, .int x8, .int x1, .int x2]) (nx := 115) (rest := []) rfl rfl).trans (mm_congV fun h4 => ?_)
      refine (mm_by 8 (pc' := 127) (ls' := [.ref 264, .int x1, .int x2, .int x3, .int x4, .int x5, .int x6, .int x7, .int x8, .null]) (st' := [.int x3, .ref 264]) (h' := wI h4 264 40 ((h4.1 264 40) + 1)) rfl).trans ?_
      refine (mm_c0 (y := 234) (as := [.ref 264, .int x3]) (nx := 130) (rest := []) rfl rfl).trans (mm_congV fun h5 => ?_)
      refine (mm_by 8 (pc' := 143) (ls' := [.ref 264, .int x1, .int x2, .int x3, .int x4, .int x5, .int x6, .int x7, .int x8, .null]) (st' := [.int x5, .ref 264]) (h' := wI h5 264 40 ((h5.1 264 40) - 1)) rfl).trans ?_
      refine (mm_c1 (y := 219) (as := [.ref 264, .int x5]) (nx := 146) (rest := []) rfl rfl).trans (mm_congI fun v7 h6 => ?_)
      refine (mm_by 2 (pc' := 149) (ls' := [.ref 264, .int x1, .int x2, .int x3, .int x4, .int x5, .int x6, .int x7, .int x8, .int v7]) (st' := [.ref 264]) (h' := h6) rfl).trans ?_
      refine (mm_c0 (y := 236) (as := [.ref 264]) (nx := 152) (rest := []) rfl rfl).trans (mm_congV fun h8 => ?_)
      refine (mm_by 2 (pc' := 155) (ls' := [.ref 264, .int x1, .int x2, .int x3, .int x4, .int x5, .int x6, .int x7, .int x8, .int v7]) (st' := [.int ((-1)), .int x6]) (h' := h8) rfl).trans ?_
      refine (mm_br (c := x6 = ((-1))) (p1 := 168) (p2 := 158) (l1 := [.ref 264, .int x1, .int x2, .int x3, .int x4, .int x5, .int x6, .int x7, .int x8, .int v7]) (l2 := [.ref 264, .int x1, .int x2, .int x3, .int x4, .int x5, .int x6, .int x7, .int x8, .int v7]) (s1 := []) (s2 := []) (h1 := h8) (h2 := h8) rfl rfl).trans (mm_ite ?_ ?_)
      · exact mm_by 6 rfl
      · refine (mm_by 2 (pc' := 162) (ls' := [.ref 264, .int x1, .int x2, .int x3, .int x4, .int x5, .int x6, .int x7, .int x8, .int v7]) (st' := [.int x7, .int v7]) (h' := h8) rfl).trans ?_
        refine (mm_br (c := x7 < v7) (p1 := 168) (p2 := 165) (l1 := [.ref 264, .int x1, .int x2, .int x3, .int x4, .int x5, .int x6, .int x7, .int x8, .int v7]) (l2 := [.ref 264, .int x1, .int x2, .int x3, .int x4, .int x5, .int x6, .int x7, .int x8, .int v7]) (s1 := []) (s2 := []) (h1 := h8) (h2 := h8) rfl rfl).trans (mm_ite ?_ ?_)
        · exact mm_by 6 rfl
        · exact mm_by 3 rfl
    · exact mm_by 3 rfl
set_option maxRecDepth 100000 in
set_option maxHeartbeats 4000000 in
theorem U_X12_isPeace {d : Nat} {x1 : Int32} {h : mm_H} : mm_M mm_T0 (d + 1) 260 [.ref 264, .int x1] h = (mm_D (mm_M mm_T0 d) cd_X12_isPeace 2 [.ref 264, .int x1, .int 0] [] h) := by
  refine (mm_M_eq (ls := [.ref 264, .int x1, .null]) rfl (Nat.le_of_ble_eq_true rfl) rfl h).trans ?_
  exact mm_by 2 rfl
set_option maxRecDepth 100000 in
set_option maxHeartbeats 4000000 in
theorem U_X12_isPeace_2 {d : Nat} {x1 : Int32} {x2 : Int32} {h : mm_H} : mm_D (mm_M mm_T0 d) cd_X12_isPeace 2 [.ref 264, .int x1, .int x2] [] h = (if (h.1 264 38) ≤ (x2 + 1) then (some (some (.int 1), h)) else (mm_bI (mm_M mm_T0 d 243 [.ref 264, .int x2] h) (fun v2 h1 => if ¬ v2 = 1 then (mm_D (mm_M mm_T0 d) cd_X12_isPeace 2 [.ref 264, .int x1, .int (x2 + 1)] [] h1) else (mm_bI (mm_M mm_T0 d 224 [.ref 264, .int x2] h1) (fun v4 h3 => if ¬ ((x1 >>> (v4 &&& 31)) &&& 1) = 0 then (mm_D (mm_M mm_T0 d) cd_X12_isPeace 2 [.ref 264, .int x1, .int (x2 + 1)] [] h3) else (mm_bI (mm_M mm_T0 d 224 [.ref 264, .int (x2 + 1)] h3) (fun v6 h5 => if ¬ ((x1 >>> (v6 &&& 31)) &&& 1) = 0 then (mm_D (mm_M mm_T0 d) cd_X12_isPeace 2 [.ref 264, .int x1, .int (x2 + 1)] [] h5) else (some (some (.int 0), h5))))))))) := by
  refine (mm_by 5 (pc' := 9) (ls' := [.ref 264, .int x1, .int x2]) (st' := [.int (h.1 264 38), .int (x2 + 1)]) (h' := h) rfl).trans ?_
  refine (mm_br (c := (h.1 264 38) ≤ (x2 + 1)) (p1 := 55) (p2 := 12) (l1 := [.ref 264, .int x1, .int x2]) (l2 := [.ref 264, .int x1, .int x2]) (s1 := []) (s2 := []) (h1 := h) (h2 := h) rfl rfl).trans (mm_ite ?_ ?_)
  · exact mm_by_end 2 rfl
  · refine (mm_by 2 (pc' := 14) (ls' := [.ref 264, .int x1, .int x2]) (st' := [.int x2, .ref 264]) (h' := h) rfl).trans ?_
    refine (mm_c1 (y := 243) (as := [.ref 264, .int x2]) (nx := 17) (rest := []) rfl rfl).trans (mm_congI fun v2 h1 => ?_)
    refine (mm_by 1 (pc' := 18) (ls' := [.ref 264, .int x1, .int x2]) (st' := [.int 1, .int v2]) (h' := h1) rfl).trans ?_
    refine (mm_br (c := ¬ v2 = 1) (p1 := 49) (p2 := 21) (l1 := [.ref 264, .int x1, .int x2]) (l2 := [.ref 264, .int x1, .int x2]) (s1 := []) (s2 := []) (h1 := h1) (h2 := h1) rfl rfl).trans (mm_ite ?_ ?_)
    · exact mm_by 2 rfl
    · refine (mm_by 3 (pc' := 24) (ls' := [.ref 264, .int x1, .int x2]) (st' := [.int x2, .ref 264, .int x1]) (h' := h1) rfl).trans ?_
      refine (mm_c1 (y := 224) (as := [.ref 264, .int x2]) (nx := 27) (rest := [.int x1]) rfl rfl).trans (mm_congI fun v4 h3 => ?_)
      refine (mm_by 3 (pc' := 30) (ls' := [.ref 264, .int x1, .int x2]) (st' := [.int ((x1 >>> (v4 &&& 31)) &&& 1)]) (h' := h3) rfl).trans ?_
      refine (mm_br (c := ¬ ((x1 >>> (v4 &&& 31)) &&& 1) = 0) (p1 := 49) (p2 := 33) (l1 := [.ref 264, .int x1, .int x2]) (l2 := [.ref 264, .int x1, .int x2]) (s1 := []) (s2 := []) (h1 := h3) (h2 := h3) rfl rfl).trans (mm_ite ?_ ?_)
      · exact mm_by 2 rfl
      · refine (mm_by 5 (pc' := 38) (ls' := [.ref 264, .int x1, .int x2]) (st' := [.int (x2 + 1), .ref 264, .int x1]) (h' := h3) rfl).trans ?_
        refine (mm_c1 (y := 224) (as := [.ref 264, .int (x2 + 1)]) (nx := 41) (rest := [.int x1]) rfl rfl).trans (mm_congI fun v6 h5 => ?_)
        refine (mm_by 3 (pc' := 44) (ls' := [.ref 264, .int x1, .int x2]) (st' := [.int ((x1 >>> (v6 &&& 31)) &&& 1)]) (h' := h5) rfl).trans ?_
        refine (mm_br (c := ¬ ((x1 >>> (v6 &&& 31)) &&& 1) = 0) (p1 := 49) (p2 := 47) (l1 := [.ref 264, .int x1, .int x2]) (l2 := [.ref 264, .int x1, .int x2]) (s1 := []) (s2 := []) (h1 := h5) (h2 := h5) rfl rfl).trans (mm_ite ?_ ?_)
        · exact mm_by 2 rfl
        · exact mm_by_end 2 rfl
set_option maxRecDepth 100000 in
set_option maxHeartbeats 4000000 in
theorem U_X12_parted {d : Nat} {h : mm_H} : mm_M mm_T0 (d + 1) 261 [.ref 264] h = (mm_D (mm_M mm_T0 d) cd_X12_parted 4 [.ref 264, .int ((-1)), .int 0] [] h) := by
  refine (mm_M_eq (ls := [.ref 264, .null, .null]) rfl (Nat.le_of_ble_eq_true rfl) rfl h).trans ?_
  exact mm_by 4 rfl
set_option maxRecDepth 100000 in
set_option maxHeartbeats 4000000 in
theorem U_X12_parted_4 {d : Nat} {x1 : Int32} {x2 : Int32} {h : mm_H} : mm_D (mm_M mm_T0 d) cd_X12_parted 4 [.ref 264, .int x1, .int x2] [] h = (if ((1 : Int32) <<< ((h.1 264 40) &&& 31)) ≤ x2 then (some (some (.int x1), h)) else (if x1 = ((-1)) then (mm_bI (mm_M mm_T0 d 260 [.ref 264, .int x2] h) (fun v2 h1 => if v2 = 0 then (mm_D (mm_M mm_T0 d) cd_X12_parted 4 [.ref 264, .int x1, .int (x2 + 1)] [] h1) else (mm_D (mm_M mm_T0 d) cd_X12_parted 4 [.ref 264, .int x2, .int (x2 + 1)] [] h1))) else (mm_bI (mm_M mm_T0 d 239 [.int x2] h) (fun v4 h3 => mm_bI (mm_M mm_T0 d 239 [.int x1] h3) (fun v6 h5 => if v6 ≤ v4 then (mm_D (mm_M mm_T0 d) cd_X12_parted 4 [.ref 264, .int x1, .int (x2 + 1)] [] h5) else (mm_bI (mm_M mm_T0 d 260 [.ref 264, .int x2] h5) (fun v8 h7 => if v8 = 0 then (mm_D (mm_M mm_T0 d) cd_X12_parted 4 [.ref 264, .int x1, .int (x2 + 1)] [] h7) else (mm_D (mm_M mm_T0 d) cd_X12_parted 4 [.ref 264, .int x2, .int (x2 + 1)] [] h7)))))))) := by
  refine (mm_by 5 (pc' := 11) (ls' := [.ref 264, .int x1, .int x2]) (st' := [.int ((1 : Int32) <<< ((h.1 264 40) &&& 31)), .int x2]) (h' := h) rfl).trans ?_
  refine (mm_br (c := ((1 : Int32) <<< ((h.1 264 40) &&& 31)) ≤ x2) (p1 := 46) (p2 := 14) (l1 := [.ref 264, .int x1, .int x2]) (l2 := [.ref 264, .int x1, .int x2]) (s1 := []) (s2 := []) (h1 := h) (h2 := h) rfl rfl).trans (mm_ite ?_ ?_)
  · exact mm_by_end 2 rfl
  · refine (mm_by 2 (pc' := 16) (ls' := [.ref 264, .int x1, .int x2]) (st' := [.int ((-1)), .int x1]) (h' := h) rfl).trans ?_
    refine (mm_br (c := x1 = ((-1))) (p1 := 30) (p2 := 19) (l1 := [.ref 264, .int x1, .int x2]) (l2 := [.ref 264, .int x1, .int x2]) (s1 := []) (s2 := []) (h1 := h) (h2 := h) rfl rfl).trans (mm_ite ?_ ?_)
    · refine (mm_by 2 (pc' := 32) (ls' := [.ref 264, .int x1, .int x2]) (st' := [.int x2, .ref 264]) (h' := h) rfl).trans ?_
      refine (mm_c1 (y := 260) (as := [.ref 264, .int x2]) (nx := 35) (rest := []) rfl rfl).trans (mm_congI fun v2 h1 => ?_)
      refine (mm_br (c := v2 = 0) (p1 := 40) (p2 := 38) (l1 := [.ref 264, .int x1, .int x2]) (l2 := [.ref 264, .int x1, .int x2]) (s1 := []) (s2 := []) (h1 := h1) (h2 := h1) rfl rfl).trans (mm_ite ?_ ?_)
      · exact mm_by 2 rfl
      · exact mm_by 4 rfl
    · refine (mm_by 1 (pc' := 20) (ls' := [.ref 264, .int x1, .int x2]) (st' := [.int x2]) (h' := h) rfl).trans ?_
      refine (mm_c1 (y := 239) (as := [.int x2]) (nx := 23) (rest := []) rfl rfl).trans (mm_congI fun v4 h3 => ?_)
      refine (mm_by 1 (pc' := 24) (ls' := [.ref 264, .int x1, .int x2]) (st' := [.int x1, .int v4]) (h' := h3) rfl).trans ?_
      refine (mm_c1 (y := 239) (as := [.int x1]) (nx := 27) (rest := [.int v4]) rfl rfl).trans (mm_congI fun v6 h5 => ?_)
      refine (mm_br (c := v6 ≤ v4) (p1 := 40) (p2 := 30) (l1 := [.ref 264, .int x1, .int x2]) (l2 := [.ref 264, .int x1, .int x2]) (s1 := []) (s2 := []) (h1 := h5) (h2 := h5) rfl rfl).trans (mm_ite ?_ ?_)
      · exact mm_by 2 rfl
      · refine (mm_by 2 (pc' := 32) (ls' := [.ref 264, .int x1, .int x2]) (st' := [.int x2, .ref 264]) (h' := h5) rfl).trans ?_
        refine (mm_c1 (y := 260) (as := [.ref 264, .int x2]) (nx := 35) (rest := []) rfl rfl).trans (mm_congI fun v8 h7 => ?_)
        refine (mm_br (c := v8 = 0) (p1 := 40) (p2 := 38) (l1 := [.ref 264, .int x1, .int x2]) (l2 := [.ref 264, .int x1, .int x2]) (s1 := []) (s2 := []) (h1 := h7) (h2 := h7) rfl rfl).trans (mm_ite ?_ ?_)
        · exact mm_by 2 rfl
        · exact mm_by 4 rfl
set_option maxRecDepth 100000 in
set_option maxHeartbeats 4000000 in
theorem U_X12_laysThen {d : Nat} {x1 : Int32} {h : mm_H} : mm_M mm_T0 (d + 1) 262 [.ref 264, .int x1] h = (mm_bV (mm_M mm_T0 d 235 [.ref 264] h) (fun h1 => mm_D (mm_M mm_T0 d) cd_X12_laysThen 6 [.ref 264, .int x1, .int 0, .null] [] h1)) := by
  refine (mm_M_eq (ls := [.ref 264, .int x1, .null, .null]) rfl (Nat.le_of_ble_eq_true rfl) rfl h).trans ?_
  refine (mm_by 1 (pc' := 1) (ls' := [.ref 264, .int x1, .null, .null]) (st' := [.ref 264]) (h' := h) rfl).trans ?_
  refine (mm_c0 (y := 235) (as := [.ref 264]) (nx := 4) (rest := []) rfl rfl).trans (mm_congV fun h1 => ?_)
  exact mm_by 2 rfl
set_option maxRecDepth 100000 in
set_option maxHeartbeats 4000000 in
theorem U_X12_laysThen_6 {d : Nat} {x1 : Int32} {x2 : Int32} {h : mm_H} : mm_D (mm_M mm_T0 d) cd_X12_laysThen 6 [.ref 264, .int x1, .int x2, .null] [] h = (if ((1 : Int32) <<< ((h.1 264 40) &&& 31)) ≤ x2 then (mm_bV (mm_M mm_T0 d 237 [.ref 264] h) (fun h1 => some (none, h1))) else (mm_D (mm_M mm_T0 d) cd_X12_laysThen 18 [.ref 264, .int x1, .int x2, .int 0] [] h)) := by
  refine (mm_by 5 (pc' := 13) (ls' := [.ref 264, .int x1, .int x2, .null]) (st' := [.int ((1 : Int32) <<< ((h.1 264 40) &&& 31)), .int x2]) (h' := h) rfl).trans ?_
  refine (mm_br (c := ((1 : Int32) <<< ((h.1 264 40) &&& 31)) ≤ x2) (p1 := 94) (p2 := 16) (l1 := [.ref 264, .int x1, .int x2, .null]) (l2 := [.ref 264, .int x1, .int x2, .null]) (s1 := []) (s2 := []) (h1 := h) (h2 := h) rfl rfl).trans (mm_ite ?_ ?_)
  · refine (mm_by 1 (pc' := 95) (ls' := [.ref 264, .int x1, .int x2, .null]) (st' := [.ref 264]) (h' := h) rfl).trans ?_
    refine (mm_c0 (y := 237) (as := [.ref 264]) (nx := 98) (rest := []) rfl rfl).trans (mm_congV fun h1 => ?_)
    exact mm_by_end 1 rfl
  · exact mm_by 2 rfl
set_option maxRecDepth 100000 in
set_option maxHeartbeats 4000000 in
theorem U_X12_laysThen_18 {d : Nat} {x1 : Int32} {x2 : Int32} {x3 : Int32} {h : mm_H} : mm_D (mm_M mm_T0 d) cd_X12_laysThen 18 [.ref 264, .int x1, .int x2, .int x3] [] h = (if (h.1 264 40) ≤ x3 then (mm_bV (mm_M mm_T0 d 234 [.ref 264, .int x1] h) (fun h1 => mm_D (mm_M mm_T0 d) cd_X12_laysThen 54 [.ref 264, .int x1, .int x2, .int 0] [] h1)) else (if (3 + (3 * x3)) < 0 ∨ 210 ≤ (3 + (3 * x3)).toNatClampNeg then none else (mm_D (mm_M mm_T0 d) cd_X12_laysThen 18 [.ref 264, .int x1, .int x2, .int (x3 + 1)] [] (wI h 300 ((3 + (3 * x3)).toNatClampNeg) ((x2 >>> (x3 &&& 31)) &&& 1))))) := by
  refine (mm_by 3 (pc' := 23) (ls' := [.ref 264, .int x1, .int x2, .int x3]) (st' := [.int (h.1 264 40), .int x3]) (h' := h) rfl).trans ?_
  refine (mm_br (c := (h.1 264 40) ≤ x3) (p1 := 47) (p2 := 26) (l1 := [.ref 264, .int x1, .int x2, .int x3]) (l2 := [.ref 264, .int x1, .int x2, .int x3]) (s1 := []) (s2 := []) (h1 := h) (h2 := h) rfl rfl).trans (mm_ite ?_ ?_)
  · refine (mm_by 2 (pc' := 49) (ls' := [.ref 264, .int x1, .int x2, .int x3]) (st' := [.int x1, .ref 264]) (h' := h) rfl).trans ?_
    refine (mm_c0 (y := 234) (as := [.ref 264, .int x1]) (nx := 52) (rest := []) rfl rfl).trans (mm_congV fun h1 => ?_)
    exact mm_by 2 rfl
  · refine (mm_by 12 (pc' := 40) (ls' := [.ref 264, .int x1, .int x2, .int x3]) (st' := [.int ((x2 >>> (x3 &&& 31)) &&& 1), .int (3 + (3 * x3)), .ref 300]) (h' := h) rfl).trans ?_
    refine (mm_gd (c := (3 + (3 * x3)) < 0 ∨ 210 ≤ (3 + (3 * x3)).toNatClampNeg) (p1 := 41) (l1 := [.ref 264, .int x1, .int x2, .int x3]) (s1 := []) (h1 := wI h 300 ((3 + (3 * x3)).toNatClampNeg) ((x2 >>> (x3 &&& 31)) &&& 1)) rfl (q_iast (n := 210) rfl)).trans (mm_ite rfl ?_)
    exact mm_by 2 rfl
set_option maxRecDepth 100000 in
set_option maxHeartbeats 4000000 in
theorem U_X12_laysThen_54 {d : Nat} {x1 : Int32} {x2 : Int32} {x3 : Int32} {h : mm_H} : mm_D (mm_M mm_T0 d) cd_X12_laysThen 54 [.ref 264, .int x1, .int x2, .int x3] [] h = (if (h.1 264 40) ≤ x3 then (mm_bV (mm_M mm_T0 d 236 [.ref 264] h) (fun h1 => mm_D (mm_M mm_T0 d) cd_X12_laysThen 6 [.ref 264, .int x1, .int (x2 + 1), .null] [] h1)) else (mm_bI (mm_M mm_T0 d 219 [.ref 264, .int x3] h) (fun v3 h2 => if ((8 * x2) + x3) < 0 ∨ 2048 ≤ ((8 * x2) + x3).toNatClampNeg then none else (mm_D (mm_M mm_T0 d) cd_X12_laysThen 54 [.ref 264, .int x1, .int x2, .int (x3 + 1)] [] (wI h2 302 (((8 * x2) + x3).toNatClampNeg) v3))))) := by
  refine (mm_by 3 (pc' := 59) (ls' := [.ref 264, .int x1, .int x2, .int x3]) (st' := [.int (h.1 264 40), .int x3]) (h' := h) rfl).trans ?_
  refine (mm_br (c := (h.1 264 40) ≤ x3) (p1 := 84) (p2 := 62) (l1 := [.ref 264, .int x1, .int x2, .int x3]) (l2 := [.ref 264, .int x1, .int x2, .int x3]) (s1 := []) (s2 := []) (h1 := h) (h2 := h) rfl rfl).trans (mm_ite ?_ ?_)
  · refine (mm_by 1 (pc' := 85) (ls' := [.ref 264, .int x1, .int x2, .int x3]) (st' := [.ref 264]) (h' := h) rfl).trans ?_
    refine (mm_c0 (y := 236) (as := [.ref 264]) (nx := 88) (rest := []) rfl rfl).trans (mm_congV fun h1 => ?_)
    exact mm_by 2 rfl
  · refine (mm_by 9 (pc' := 74) (ls' := [.ref 264, .int x1, .int x2, .int x3]) (st' := [.int x3, .ref 264, .int ((8 * x2) + x3), .ref 302]) (h' := h) rfl).trans ?_
    refine (mm_c1 (y := 219) (as := [.ref 264, .int x3]) (nx := 77) (rest := [.int ((8 * x2) + x3), .ref 302]) rfl rfl).trans (mm_congI fun v3 h2 => ?_)
    refine (mm_gd (c := ((8 * x2) + x3) < 0 ∨ 2048 ≤ ((8 * x2) + x3).toNatClampNeg) (p1 := 78) (l1 := [.ref 264, .int x1, .int x2, .int x3]) (s1 := []) (h1 := wI h2 302 (((8 * x2) + x3).toNatClampNeg) v3) rfl (q_iast (n := 2048) rfl)).trans (mm_ite rfl ?_)
    exact mm_by 2 rfl
set_option maxRecDepth 100000 in
set_option maxHeartbeats 4000000 in
theorem U_X12_isRest {d : Nat} {x1 : Int32} {h : mm_H} : mm_M mm_T0 (d + 1) 263 [.ref 264, .int x1] h = (mm_D (mm_M mm_T0 d) cd_X12_isRest 2 [.ref 264, .int x1, .int 0] [] h) := by
  refine (mm_M_eq (ls := [.ref 264, .int x1, .null]) rfl (Nat.le_of_ble_eq_true rfl) rfl h).trans ?_
  exact mm_by 2 rfl
set_option maxRecDepth 100000 in
set_option maxHeartbeats 4000000 in
theorem U_X12_isRest_2 {d : Nat} {x1 : Int32} {x2 : Int32} {h : mm_H} : mm_D (mm_M mm_T0 d) cd_X12_isRest 2 [.ref 264, .int x1, .int x2] [] h = (if (h.1 264 40) ≤ x2 then (some (some (.int 1), h)) else (if ((8 * (x1 ^^^ ((1 : Int32) <<< (x2 &&& 31)))) + x2) < 0 ∨ 2048 ≤ ((8 * (x1 ^^^ ((1 : Int32) <<< (x2 &&& 31)))) + x2).toNatClampNeg then none else (if ((8 * x1) + x2) < 0 ∨ 2048 ≤ ((8 * x1) + x2).toNatClampNeg then none else (if (h.1 302 ((8 * (x1 ^^^ ((1 : Int32) <<< (x2 &&& 31)))) + x2).toNatClampNeg) ≤ (h.1 302 ((8 * x1) + x2).toNatClampNeg) then (mm_D (mm_M mm_T0 d) cd_X12_isRest 2 [.ref 264, .int x1, .int (x2 + 1)] [] h) else (some (some (.int 0), h)))))) := by
  refine (mm_by 3 (pc' := 7) (ls' := [.ref 264, .int x1, .int x2]) (st' := [.int (h.1 264 40), .int x2]) (h' := h) rfl).trans ?_
  refine (mm_br (c := (h.1 264 40) ≤ x2) (p1 := 47) (p2 := 10) (l1 := [.ref 264, .int x1, .int x2]) (l2 := [.ref 264, .int x1, .int x2]) (s1 := []) (s2 := []) (h1 := h) (h2 := h) rfl rfl).trans (mm_ite ?_ ?_)
  · exact mm_by_end 2 rfl
  · refine (mm_by 11 (pc' := 24) (ls' := [.ref 264, .int x1, .int x2]) (st' := [.int ((8 * (x1 ^^^ ((1 : Int32) <<< (x2 &&& 31)))) + x2), .ref 302]) (h' := h) rfl).trans ?_
    refine (mm_gd (c := ((8 * (x1 ^^^ ((1 : Int32) <<< (x2 &&& 31)))) + x2) < 0 ∨ 2048 ≤ ((8 * (x1 ^^^ ((1 : Int32) <<< (x2 &&& 31)))) + x2).toNatClampNeg) (p1 := 25) (l1 := [.ref 264, .int x1, .int x2]) (s1 := [.int (h.1 302 ((8 * (x1 ^^^ ((1 : Int32) <<< (x2 &&& 31)))) + x2).toNatClampNeg)]) (h1 := h) rfl (q_iald (n := 2048) rfl)).trans (mm_ite rfl ?_)
    refine (mm_by 7 (pc' := 35) (ls' := [.ref 264, .int x1, .int x2]) (st' := [.int ((8 * x1) + x2), .ref 302, .int (h.1 302 ((8 * (x1 ^^^ ((1 : Int32) <<< (x2 &&& 31)))) + x2).toNatClampNeg)]) (h' := h) rfl).trans ?_
    refine (mm_gd (c := ((8 * x1) + x2) < 0 ∨ 2048 ≤ ((8 * x1) + x2).toNatClampNeg) (p1 := 36) (l1 := [.ref 264, .int x1, .int x2]) (s1 := [.int (h.1 302 ((8 * x1) + x2).toNatClampNeg), .int (h.1 302 ((8 * (x1 ^^^ ((1 : Int32) <<< (x2 &&& 31)))) + x2).toNatClampNeg)]) (h1 := h) rfl (q_iald (n := 2048) rfl)).trans (mm_ite rfl ?_)
    refine (mm_br (c := (h.1 302 ((8 * (x1 ^^^ ((1 : Int32) <<< (x2 &&& 31)))) + x2).toNatClampNeg) ≤ (h.1 302 ((8 * x1) + x2).toNatClampNeg)) (p1 := 41) (p2 := 39) (l1 := [.ref 264, .int x1, .int x2]) (l2 := [.ref 264, .int x1, .int x2]) (s1 := []) (s2 := []) (h1 := h) (h2 := h) rfl rfl).trans (mm_ite ?_ ?_)
    · exact mm_by 2 rfl
    · exact mm_by_end 2 rfl
set_option maxRecDepth 100000 in
set_option maxHeartbeats 4000000 in
theorem U_X12_rest {d : Nat} {x1 : Int32} {h : mm_H} : mm_M mm_T0 (d + 1) 264 [.ref 264, .int x1] h = (if (h.1 264 53) = 0 then (some (some (.int ((-1))), h)) else (mm_bI (mm_M mm_T0 d 238 [.ref 264, .int x1, .int 1, .int 20] h) (fun v2 h1 => if ¬ v2 = 0 then (mm_bV (mm_M mm_T0 d 262 [.ref 264, .int x1] h1) (fun h3 => mm_D (mm_M mm_T0 d) cd_X12_rest 29 [.ref 264, .null, .int ((-1)), .int 0] [] h3)) else (some (some (.int ((-1))), h1))))) := by
  refine (mm_M_eq (ls := [.ref 264, .int x1, .null, .null]) rfl (Nat.le_of_ble_eq_true rfl) rfl h).trans ?_
  refine (mm_by 2 (pc' := 4) (ls' := [.ref 264, .int x1, .null, .null]) (st' := [.int (h.1 264 53)]) (h' := h) rfl).trans ?_
  refine (mm_br (c := (h.1 264 53) = 0) (p1 := 18) (p2 := 7) (l1 := [.ref 264, .int x1, .null, .null]) (l2 := [.ref 264, .int x1, .null, .null]) (s1 := []) (s2 := []) (h1 := h) (h2 := h) rfl rfl).trans (mm_ite ?_ ?_)
  · exact mm_by_end 2 rfl
  · refine (mm_by 4 (pc' := 12) (ls' := [.ref 264, .int x1, .null, .null]) (st' := [.int 20, .int 1, .int x1, .ref 264]) (h' := h) rfl).trans ?_
    refine (mm_c1 (y := 238) (as := [.ref 264, .int x1, .int 1, .int 20]) (nx := 15) (rest := []) rfl rfl).trans (mm_congI fun v2 h1 => ?_)
    refine (mm_br (c := ¬ v2 = 0) (p1 := 20) (p2 := 18) (l1 := [.ref 264, .int x1, .null, .null]) (l2 := [.ref 264, .int x1, .null, .null]) (s1 := []) (s2 := []) (h1 := h1) (h2 := h1) rfl rfl).trans (mm_ite ?_ ?_)
    · refine (mm_by 2 (pc' := 22) (ls' := [.ref 264, .int x1, .null, .null]) (st' := [.int x1, .ref 264]) (h' := h1) rfl).trans ?_
      refine (mm_c0 (y := 262) (as := [.ref 264, .int x1]) (nx := 25) (rest := []) rfl rfl).trans (mm_congV fun h3 => ?_)
      exact mm_by 4 rfl
    · exact mm_by_end 2 rfl
set_option maxRecDepth 100000 in
set_option maxHeartbeats 4000000 in
theorem U_X12_rest_29 {d : Nat} {x2 : Int32} {x3 : Int32} {h : mm_H} : mm_D (mm_M mm_T0 d) cd_X12_rest 29 [.ref 264, .null, .int x2, .int x3] [] h = (if ((1 : Int32) <<< ((h.1 264 40) &&& 31)) ≤ x3 then (some (some (.int x2), h)) else (if x2 = ((-1)) then (mm_bI (mm_M mm_T0 d 263 [.ref 264, .int x3] h) (fun v2 h1 => if v2 = 0 then (mm_D (mm_M mm_T0 d) cd_X12_rest 29 [.ref 264, .null, .int x2, .int (x3 + 1)] [] h1) else (mm_D (mm_M mm_T0 d) cd_X12_rest 29 [.ref 264, .null, .int x3, .int (x3 + 1)] [] h1))) else (mm_bI (mm_M mm_T0 d 239 [.int x3] h) (fun v4 h3 => mm_bI (mm_M mm_T0 d 239 [.int x2] h3) (fun v6 h5 => if v6 ≤ v4 then (mm_D (mm_M mm_T0 d) cd_X12_rest 29 [.ref 264, .null, .int x2, .int (x3 + 1)] [] h5) else (mm_bI (mm_M mm_T0 d 263 [.ref 264, .int x3] h5) (fun v8 h7 => if v8 = 0 then (mm_D (mm_M mm_T0 d) cd_X12_rest 29 [.ref 264, .null, .int x2, .int (x3 + 1)] [] h7) else (mm_D (mm_M mm_T0 d) cd_X12_rest 29 [.ref 264, .null, .int x3, .int (x3 + 1)] [] h7)))))))) := by
  refine (mm_by 5 (pc' := 36) (ls' := [.ref 264, .null, .int x2, .int x3]) (st' := [.int ((1 : Int32) <<< ((h.1 264 40) &&& 31)), .int x3]) (h' := h) rfl).trans ?_
  refine (mm_br (c := ((1 : Int32) <<< ((h.1 264 40) &&& 31)) ≤ x3) (p1 := 71) (p2 := 39) (l1 := [.ref 264, .null, .int x2, .int x3]) (l2 := [.ref 264, .null, .int x2, .int x3]) (s1 := []) (s2 := []) (h1 := h) (h2 := h) rfl rfl).trans (mm_ite ?_ ?_)
  · exact mm_by_end 2 rfl
  · refine (mm_by 2 (pc' := 41) (ls' := [.ref 264, .null, .int x2, .int x3]) (st' := [.int ((-1)), .int x2]) (h' := h) rfl).trans ?_
    refine (mm_br (c := x2 = ((-1))) (p1 := 55) (p2 := 44) (l1 := [.ref 264, .null, .int x2, .int x3]) (l2 := [.ref 264, .null, .int x2, .int x3]) (s1 := []) (s2 := []) (h1 := h) (h2 := h) rfl rfl).trans (mm_ite ?_ ?_)
    · refine (mm_by 2 (pc' := 57) (ls' := [.ref 264, .null, .int x2, .int x3]) (st' := [.int x3, .ref 264]) (h' := h) rfl).trans ?_
      refine (mm_c1 (y := 263) (as := [.ref 264, .int x3]) (nx := 60) (rest := []) rfl rfl).trans (mm_congI fun v2 h1 => ?_)
      refine (mm_br (c := v2 = 0) (p1 := 65) (p2 := 63) (l1 := [.ref 264, .null, .int x2, .int x3]) (l2 := [.ref 264, .null, .int x2, .int x3]) (s1 := []) (s2 := []) (h1 := h1) (h2 := h1) rfl rfl).trans (mm_ite ?_ ?_)
      · exact mm_by 2 rfl
      · exact mm_by 4 rfl
    · refine (mm_by 1 (pc' := 45) (ls' := [.ref 264, .null, .int x2, .int x3]) (st' := [.int x3]) (h' := h) rfl).trans ?_
      refine (mm_c1 (y := 239) (as := [.int x3]) (nx := 48) (rest := []) rfl rfl).trans (mm_congI fun v4 h3 => ?_)
      refine (mm_by 1 (pc' := 49) (ls' := [.ref 264, .null, .int x2, .int x3]) (st' := [.int x2, .int v4]) (h' := h3) rfl).trans ?_
      refine (mm_c1 (y := 239) (as := [.int x2]) (nx := 52) (rest := [.int v4]) rfl rfl).trans (mm_congI fun v6 h5 => ?_)
      refine (mm_br (c := v6 ≤ v4) (p1 := 65) (p2 := 55) (l1 := [.ref 264, .null, .int x2, .int x3]) (l2 := [.ref 264, .null, .int x2, .int x3]) (s1 := []) (s2 := []) (h1 := h5) (h2 := h5) rfl rfl).trans (mm_ite ?_ ?_)
      · exact mm_by 2 rfl
      · refine (mm_by 2 (pc' := 57) (ls' := [.ref 264, .null, .int x2, .int x3]) (st' := [.int x3, .ref 264]) (h' := h5) rfl).trans ?_
        refine (mm_c1 (y := 263) (as := [.ref 264, .int x3]) (nx := 60) (rest := []) rfl rfl).trans (mm_congI fun v8 h7 => ?_)
        refine (mm_br (c := v8 = 0) (p1 := 65) (p2 := 63) (l1 := [.ref 264, .null, .int x2, .int x3]) (l2 := [.ref 264, .null, .int x2, .int x3]) (s1 := []) (s2 := []) (h1 := h7) (h2 := h7) rfl rfl).trans (mm_ite ?_ ?_)
        · exact mm_by 2 rfl
        · exact mm_by 4 rfl
set_option maxRecDepth 100000 in
set_option maxHeartbeats 4000000 in
theorem U_X12_refuses {d : Nat} {x1 : Int32} {h : mm_H} : mm_M mm_T0 (d + 1) 265 [.ref 264, .int x1] h = (if x1 < 0 ∨ 6 ≤ x1.toNatClampNeg then none else (if x1 < 0 ∨ 6 ≤ x1.toNatClampNeg then none else (some (some (.int ((-1))), wI h 266 x1.toNatClampNeg ((h.1 266 x1.toNatClampNeg) + 1))))) := by
  refine (mm_M_eq (ls := [.ref 264, .int x1]) rfl (Nat.le_of_ble_eq_true rfl) rfl h).trans ?_
  refine (mm_by 4 (pc' := 6) (ls' := [.ref 264, .int x1]) (st' := [.int x1, .ref 266, .int x1, .ref 266]) (h' := h) rfl).trans ?_
  refine (mm_gd (c := x1 < 0 ∨ 6 ≤ x1.toNatClampNeg) (p1 := 7) (l1 := [.ref 264, .int x1]) (s1 := [.int (h.1 266 x1.toNatClampNeg), .int x1, .ref 266]) (h1 := h) rfl (q_iald (n := 6) rfl)).trans (mm_ite rfl ?_)
  refine (mm_by 2 (pc' := 9) (ls' := [.ref 264, .int x1]) (st' := [.int ((h.1 266 x1.toNatClampNeg) + 1), .int x1, .ref 266]) (h' := h) rfl).trans ?_
  refine (mm_gd (c := x1 < 0 ∨ 6 ≤ x1.toNatClampNeg) (p1 := 10) (l1 := [.ref 264, .int x1]) (s1 := []) (h1 := wI h 266 x1.toNatClampNeg ((h.1 266 x1.toNatClampNeg) + 1)) rfl (q_iast (n := 6) rfl)).trans (mm_ite rfl ?_)
  exact mm_by_end 2 rfl
set_option maxRecDepth 100000 in
set_option maxHeartbeats 4000000 in
theorem U_X12_see {d : Nat} {h : mm_H} : mm_M mm_T0 (d + 1) 266 [.ref 264] h = (if (h.1 264 1) ≤ 0 then (mm_D (mm_M mm_T0 d) cd_X12_see 36 [.ref 264, .int (h.1 264 1), .int 0, .int 0] [] (wI h 264 1 0)) else (if ¬ ((h.1 264 1) - (h.1 264 1) / 3 * 3) = 0 then (mm_D (mm_M mm_T0 d) cd_X12_see 36 [.ref 264, .int (h.1 264 1), .int 0, .int 0] [] (wI h 264 1 0)) else (if 16 < ((h.1 264 1) / 3) then (mm_D (mm_M mm_T0 d) cd_X12_see 36 [.ref 264, .int (h.1 264 1), .int 0, .int 0] [] (wI h 264 1 0)) else (mm_D (mm_M mm_T0 d) cd_X12_see 36 [.ref 264, .int (h.1 264 1), .int 1, .int 0] [] (wI h 264 1 0))))) := by
  refine (mm_M_eq (ls := [.ref 264, .null, .null, .null]) rfl (Nat.le_of_ble_eq_true rfl) rfl h).trans ?_
  refine (mm_by 7 (pc' := 11) (ls' := [.ref 264, .int (h.1 264 1), .null, .null]) (st' := [.int (h.1 264 1)]) (h' := wI h 264 1 0) rfl).trans ?_
  refine (mm_br (c := (h.1 264 1) ≤ 0) (p1 := 32) (p2 := 14) (l1 := [.ref 264, .int (h.1 264 1), .null, .null]) (l2 := [.ref 264, .int (h.1 264 1), .null, .null]) (s1 := []) (s2 := []) (h1 := wI h 264 1 0) (h2 := wI h 264 1 0) rfl rfl).trans (mm_ite ?_ ?_)
  · exact mm_by 4 rfl
  · refine (mm_by 3 (pc' := 17) (ls' := [.ref 264, .int (h.1 264 1), .null, .null]) (st' := [.int ((h.1 264 1) - (h.1 264 1) / 3 * 3)]) (h' := wI h 264 1 0) rfl).trans ?_
    refine (mm_br (c := ¬ ((h.1 264 1) - (h.1 264 1) / 3 * 3) = 0) (p1 := 32) (p2 := 20) (l1 := [.ref 264, .int (h.1 264 1), .null, .null]) (l2 := [.ref 264, .int (h.1 264 1), .null, .null]) (s1 := []) (s2 := []) (h1 := wI h 264 1 0) (h2 := wI h 264 1 0) rfl rfl).trans (mm_ite ?_ ?_)
    · exact mm_by 4 rfl
    · refine (mm_by 4 (pc' := 25) (ls' := [.ref 264, .int (h.1 264 1), .null, .null]) (st' := [.int 16, .int ((h.1 264 1) / 3)]) (h' := wI h 264 1 0) rfl).trans ?_
      refine (mm_br (c := 16 < ((h.1 264 1) / 3)) (p1 := 32) (p2 := 28) (l1 := [.ref 264, .int (h.1 264 1), .null, .null]) (l2 := [.ref 264, .int (h.1 264 1), .null, .null]) (s1 := []) (s2 := []) (h1 := wI h 264 1 0) (h2 := wI h 264 1 0) rfl rfl).trans (mm_ite ?_ ?_)
      · exact mm_by 4 rfl
      · exact mm_by 5 rfl
set_option maxRecDepth 100000 in
set_option maxHeartbeats 4000000 in
theorem U_X12_see_36 {d : Nat} {x1 : Int32} {x2 : Int32} {x3 : Int32} {h : mm_H} : mm_D (mm_M mm_T0 d) cd_X12_see 36 [.ref 264, .int x1, .int x2, .int x3] [] h = (if x1 ≤ x3 then (if ¬ x2 = 0 then (mm_D (mm_M mm_T0 d) cd_X12_see 109 [.ref 264, .int x1, .null, .int 0] [] h) else (mm_bI (mm_M mm_T0 d 265 [.ref 264, .int 1] h) (fun v2 h1 => some (some (.int v2), h1)))) else (if x2 = 0 then (if ¬ x2 = 0 then (mm_D (mm_M mm_T0 d) cd_X12_see 109 [.ref 264, .int x1, .null, .int 0] [] h) else (mm_bI (mm_M mm_T0 d 265 [.ref 264, .int 1] h) (fun v4 h3 => some (some (.int v4), h3)))) else (if x3 < 0 ∨ 1600 ≤ x3.toNatClampNeg then none else (if 30 < (h.1 265 x3.toNatClampNeg) then (mm_D (mm_M mm_T0 d) cd_X12_see 36 [.ref 264, .int x1, .int 0, .int (x3 + 3)] [] h) else (if (x3 + 1) < 0 ∨ 1600 ≤ (x3 + 1).toNatClampNeg then none else (mm_bI (mm_M mm_T0 d 214 [.ref 264, .long ((h.1 265 (x3 + 1).toNatClampNeg).toInt64)] h) (fun v6 h5 => if v6 = 0 then (mm_D (mm_M mm_T0 d) cd_X12_see 36 [.ref 264, .int x1, .int 0, .int (x3 + 3)] [] h5) else (if (x3 + 2) < 0 ∨ 1600 ≤ (x3 + 2).toNatClampNeg then none else (if 99 < (h5.1 265 (x3 + 2).toNatClampNeg) then (mm_D (mm_M mm_T0 d) cd_X12_see 36 [.ref 264, .int x1, .int 0, .int (x3 + 3)] [] h5) else (mm_D (mm_M mm_T0 d) cd_X12_see 36 [.ref 264, .int x1, .int 1, .int (x3 + 3)] [] h5)))))))))) := by
  refine (mm_by 2 (pc' := 38) (ls' := [.ref 264, .int x1, .int x2, .int x3]) (st' := [.int x1, .int x3]) (h' := h) rfl).trans ?_
  refine (mm_br (c := x1 ≤ x3) (p1 := 97) (p2 := 41) (l1 := [.ref 264, .int x1, .int x2, .int x3]) (l2 := [.ref 264, .int x1, .int x2, .int x3]) (s1 := []) (s2 := []) (h1 := h) (h2 := h) rfl rfl).trans (mm_ite ?_ ?_)
  · refine (mm_by 1 (pc' := 98) (ls' := [.ref 264, .int x1, .int x2, .int x3]) (st' := [.int x2]) (h' := h) rfl).trans ?_
    refine (mm_br (c := ¬ x2 = 0) (p1 := 107) (p2 := 101) (l1 := [.ref 264, .int x1, .int x2, .int x3]) (l2 := [.ref 264, .int x1, .int x2, .int x3]) (s1 := []) (s2 := []) (h1 := h) (h2 := h) rfl rfl).trans (mm_ite ?_ ?_)
    · exact mm_by 2 rfl
    · refine (mm_by 2 (pc' := 103) (ls' := [.ref 264, .int x1, .int x2, .int x3]) (st' := [.int 1, .ref 264]) (h' := h) rfl).trans ?_
      refine (mm_c1 (y := 265) (as := [.ref 264, .int 1]) (nx := 106) (rest := []) rfl rfl).trans (mm_congI fun v2 h1 => ?_)
      exact mm_by_end 1 rfl
  · refine (mm_by 1 (pc' := 42) (ls' := [.ref 264, .int x1, .int x2, .int x3]) (st' := [.int x2]) (h' := h) rfl).trans ?_
    refine (mm_br (c := x2 = 0) (p1 := 97) (p2 := 45) (l1 := [.ref 264, .int x1, .int x2, .int x3]) (l2 := [.ref 264, .int x1, .int x2, .int x3]) (s1 := []) (s2 := []) (h1 := h) (h2 := h) rfl rfl).trans (mm_ite ?_ ?_)
    · refine (mm_by 1 (pc' := 98) (ls' := [.ref 264, .int x1, .int x2, .int x3]) (st' := [.int x2]) (h' := h) rfl).trans ?_
      refine (mm_br (c := ¬ x2 = 0) (p1 := 107) (p2 := 101) (l1 := [.ref 264, .int x1, .int x2, .int x3]) (l2 := [.ref 264, .int x1, .int x2, .int x3]) (s1 := []) (s2 := []) (h1 := h) (h2 := h) rfl rfl).trans (mm_ite ?_ ?_)
      · exact mm_by 2 rfl
      · refine (mm_by 2 (pc' := 103) (ls' := [.ref 264, .int x1, .int x2, .int x3]) (st' := [.int 1, .ref 264]) (h' := h) rfl).trans ?_
        refine (mm_c1 (y := 265) (as := [.ref 264, .int 1]) (nx := 106) (rest := []) rfl rfl).trans (mm_congI fun v4 h3 => ?_)
        exact mm_by_end 1 rfl
    · refine (mm_by 3 (pc' := 50) (ls' := [.ref 264, .int x1, .int x2, .int x3]) (st' := [.int x3, .ref 265]) (h' := h) rfl).trans ?_
      refine (mm_gd (c := x3 < 0 ∨ 1600 ≤ x3.toNatClampNeg) (p1 := 51) (l1 := [.ref 264, .int x1, .int x2, .int x3]) (s1 := [.int (h.1 265 x3.toNatClampNeg)]) (h1 := h) rfl (q_iald (n := 1600) rfl)).trans (mm_ite rfl ?_)
      refine (mm_by 1 (pc' := 53) (ls' := [.ref 264, .int x1, .int x2, .int x3]) (st' := [.int 30, .int (h.1 265 x3.toNatClampNeg)]) (h' := h) rfl).trans ?_
      refine (mm_br (c := 30 < (h.1 265 x3.toNatClampNeg)) (p1 := 89) (p2 := 56) (l1 := [.ref 264, .int x1, .int x2, .int x3]) (l2 := [.ref 264, .int x1, .int x2, .int x3]) (s1 := []) (s2 := []) (h1 := h) (h2 := h) rfl rfl).trans (mm_ite ?_ ?_)
      · exact mm_by 4 rfl
      · refine (mm_by 6 (pc' := 64) (ls' := [.ref 264, .int x1, .int x2, .int x3]) (st' := [.int (x3 + 1), .ref 265, .ref 264]) (h' := h) rfl).trans ?_
        refine (mm_gd (c := (x3 + 1) < 0 ∨ 1600 ≤ (x3 + 1).toNatClampNeg) (p1 := 65) (l1 := [.ref 264, .int x1, .int x2, .int x3]) (s1 := [.int (h.1 265 (x3 + 1).toNatClampNeg), .ref 264]) (h1 := h) rfl (q_iald (n := 1600) rfl)).trans (mm_ite rfl ?_)
        refine (mm_by 1 (pc' := 66) (ls' := [.ref 264, .int x1, .int x2, .int x3]) (st' := [.long ((h.1 265 (x3 + 1).toNatClampNeg).toInt64), .ref 264]) (h' := h) rfl).trans ?_
        refine (mm_c1 (y := 214) (as := [.ref 264, .long ((h.1 265 (x3 + 1).toNatClampNeg).toInt64)]) (nx := 69) (rest := []) rfl rfl).trans (mm_congI fun v6 h5 => ?_)
        refine (mm_br (c := v6 = 0) (p1 := 89) (p2 := 72) (l1 := [.ref 264, .int x1, .int x2, .int x3]) (l2 := [.ref 264, .int x1, .int x2, .int x3]) (s1 := []) (s2 := []) (h1 := h5) (h2 := h5) rfl rfl).trans (mm_ite ?_ ?_)
        · exact mm_by 4 rfl
        · refine (mm_by 5 (pc' := 79) (ls' := [.ref 264, .int x1, .int x2, .int x3]) (st' := [.int (x3 + 2), .ref 265]) (h' := h5) rfl).trans ?_
          refine (mm_gd (c := (x3 + 2) < 0 ∨ 1600 ≤ (x3 + 2).toNatClampNeg) (p1 := 80) (l1 := [.ref 264, .int x1, .int x2, .int x3]) (s1 := [.int (h5.1 265 (x3 + 2).toNatClampNeg)]) (h1 := h5) rfl (q_iald (n := 1600) rfl)).trans (mm_ite rfl ?_)
          refine (mm_by 1 (pc' := 82) (ls' := [.ref 264, .int x1, .int x2, .int x3]) (st' := [.int 99, .int (h5.1 265 (x3 + 2).toNatClampNeg)]) (h' := h5) rfl).trans ?_
          refine (mm_br (c := 99 < (h5.1 265 (x3 + 2).toNatClampNeg)) (p1 := 89) (p2 := 85) (l1 := [.ref 264, .int x1, .int x2, .int x3]) (l2 := [.ref 264, .int x1, .int x2, .int x3]) (s1 := []) (s2 := []) (h1 := h5) (h2 := h5) rfl rfl).trans (mm_ite ?_ ?_)
          · exact mm_by 4 rfl
          · exact mm_by 5 rfl
set_option maxRecDepth 100000 in
set_option maxHeartbeats 4000000 in
theorem U_X12_see_109 {d : Nat} {x1 : Int32} {x3 : Int32} {h : mm_H} : mm_D (mm_M mm_T0 d) cd_X12_see 109 [.ref 264, .int x1, .null, .int x3] [] h = (if x1 ≤ x3 then (some (some (.int ((wI h 264 67 (x1 / 3)).1 264 67)), wI h 264 67 (x1 / 3))) else (if x3 < 0 ∨ 1600 ≤ x3.toNatClampNeg then none else (if x3 < 0 ∨ 48 ≤ x3.toNatClampNeg then none else (mm_D (mm_M mm_T0 d) cd_X12_see 109 [.ref 264, .int x1, .null, .int (x3 + 1)] [] (wI h 303 x3.toNatClampNeg (h.1 265 x3.toNatClampNeg)))))) := by
  refine (mm_by 2 (pc' := 111) (ls' := [.ref 264, .int x1, .null, .int x3]) (st' := [.int x1, .int x3]) (h' := h) rfl).trans ?_
  refine (mm_br (c := x1 ≤ x3) (p1 := 132) (p2 := 114) (l1 := [.ref 264, .int x1, .null, .int x3]) (l2 := [.ref 264, .int x1, .null, .int x3]) (s1 := []) (s2 := []) (h1 := h) (h2 := h) rfl rfl).trans (mm_ite ?_ ?_)
  · exact mm_by_end 8 rfl
  · refine (mm_by 6 (pc' := 124) (ls' := [.ref 264, .int x1, .null, .int x3]) (st' := [.int x3, .ref 265, .int x3, .ref 303]) (h' := h) rfl).trans ?_
    refine (mm_gd (c := x3 < 0 ∨ 1600 ≤ x3.toNatClampNeg) (p1 := 125) (l1 := [.ref 264, .int x1, .null, .int x3]) (s1 := [.int (h.1 265 x3.toNatClampNeg), .int x3, .ref 303]) (h1 := h) rfl (q_iald (n := 1600) rfl)).trans (mm_ite rfl ?_)
    refine (mm_gd (c := x3 < 0 ∨ 48 ≤ x3.toNatClampNeg) (p1 := 126) (l1 := [.ref 264, .int x1, .null, .int x3]) (s1 := []) (h1 := wI h 303 x3.toNatClampNeg (h.1 265 x3.toNatClampNeg)) rfl (q_iast (n := 48) rfl)).trans (mm_ite rfl ?_)
    exact mm_by 2 rfl
set_option maxRecDepth 100000 in
set_option maxHeartbeats 4000000 in
theorem U_X12_isAsSeen {d : Nat} {x1 : Int32} {h : mm_H} : mm_M mm_T0 (d + 1) 267 [.ref 264, .int x1] h = (mm_D (mm_M mm_T0 d) cd_X12_isAsSeen 2 [.ref 264, .int x1, .int 0] [] h) := by
  refine (mm_M_eq (ls := [.ref 264, .int x1, .null]) rfl (Nat.le_of_ble_eq_true rfl) rfl h).trans ?_
  exact mm_by 2 rfl
set_option maxRecDepth 100000 in
set_option maxHeartbeats 4000000 in
theorem U_X12_isAsSeen_2 {d : Nat} {x1 : Int32} {x2 : Int32} {h : mm_H} : mm_D (mm_M mm_T0 d) cd_X12_isAsSeen 2 [.ref 264, .int x1, .int x2] [] h = (if (h.1 264 67) ≤ x2 then (some (some (.int 1), h)) else (if (3 * x2) < 0 ∨ 48 ≤ (3 * x2).toNatClampNeg then none else (if ¬ (h.1 303 (3 * x2).toNatClampNeg) = x1 then (mm_D (mm_M mm_T0 d) cd_X12_isAsSeen 2 [.ref 264, .int x1, .int (x2 + 1)] [] h) else (if 999 < (h.1 300 0) then (some (some (.int 0), h)) else (if ((3 * x2) + 1) < 0 ∨ 48 ≤ ((3 * x2) + 1).toNatClampNeg then none else (mm_bI (mm_M mm_T0 d 219 [.ref 264, .int (h.1 303 ((3 * x2) + 1).toNatClampNeg)] h) (fun v2 h1 => if ((3 * x2) + 2) < 0 ∨ 48 ≤ ((3 * x2) + 2).toNatClampNeg then none else (if v2 = (h1.1 303 ((3 * x2) + 2).toNatClampNeg) then (mm_D (mm_M mm_T0 d) cd_X12_isAsSeen 2 [.ref 264, .int x1, .int (x2 + 1)] [] h1) else (some (some (.int 0), h1)))))))))) := by
  refine (mm_by 3 (pc' := 7) (ls' := [.ref 264, .int x1, .int x2]) (st' := [.int (h.1 264 67), .int x2]) (h' := h) rfl).trans ?_
  refine (mm_br (c := (h.1 264 67) ≤ x2) (p1 := 69) (p2 := 10) (l1 := [.ref 264, .int x1, .int x2]) (l2 := [.ref 264, .int x1, .int x2]) (s1 := []) (s2 := []) (h1 := h) (h2 := h) rfl rfl).trans (mm_ite ?_ ?_)
  · exact mm_by_end 2 rfl
  · refine (mm_by 5 (pc' := 17) (ls' := [.ref 264, .int x1, .int x2]) (st' := [.int (3 * x2), .ref 303]) (h' := h) rfl).trans ?_
    refine (mm_gd (c := (3 * x2) < 0 ∨ 48 ≤ (3 * x2).toNatClampNeg) (p1 := 18) (l1 := [.ref 264, .int x1, .int x2]) (s1 := [.int (h.1 303 (3 * x2).toNatClampNeg)]) (h1 := h) rfl (q_iald (n := 48) rfl)).trans (mm_ite rfl ?_)
    refine (mm_by 1 (pc' := 19) (ls' := [.ref 264, .int x1, .int x2]) (st' := [.int x1, .int (h.1 303 (3 * x2).toNatClampNeg)]) (h' := h) rfl).trans ?_
    refine (mm_br (c := ¬ (h.1 303 (3 * x2).toNatClampNeg) = x1) (p1 := 63) (p2 := 22) (l1 := [.ref 264, .int x1, .int x2]) (l2 := [.ref 264, .int x1, .int x2]) (s1 := []) (s2 := []) (h1 := h) (h2 := h) rfl rfl).trans (mm_ite ?_ ?_)
    · exact mm_by 2 rfl
    · refine (mm_by 5 (pc' := 31) (ls' := [.ref 264, .int x1, .int x2]) (st' := [.int 999, .int (h.1 300 0)]) (h' := h) rfl).trans ?_
      refine (mm_br (c := 999 < (h.1 300 0)) (p1 := 61) (p2 := 34) (l1 := [.ref 264, .int x1, .int x2]) (l2 := [.ref 264, .int x1, .int x2]) (s1 := []) (s2 := []) (h1 := h) (h2 := h) rfl rfl).trans (mm_ite ?_ ?_)
      · exact mm_by_end 2 rfl
      · refine (mm_by 8 (pc' := 44) (ls' := [.ref 264, .int x1, .int x2]) (st' := [.int ((3 * x2) + 1), .ref 303, .ref 264]) (h' := h) rfl).trans ?_
        refine (mm_gd (c := ((3 * x2) + 1) < 0 ∨ 48 ≤ ((3 * x2) + 1).toNatClampNeg) (p1 := 45) (l1 := [.ref 264, .int x1, .int x2]) (s1 := [.int (h.1 303 ((3 * x2) + 1).toNatClampNeg), .ref 264]) (h1 := h) rfl (q_iald (n := 48) rfl)).trans (mm_ite rfl ?_)
        refine (mm_c1 (y := 219) (as := [.ref 264, .int (h.1 303 ((3 * x2) + 1).toNatClampNeg)]) (nx := 48) (rest := []) rfl rfl).trans (mm_congI fun v2 h1 => ?_)
        refine (mm_by 7 (pc' := 57) (ls' := [.ref 264, .int x1, .int x2]) (st' := [.int ((3 * x2) + 2), .ref 303, .int v2]) (h' := h1) rfl).trans ?_
        refine (mm_gd (c := ((3 * x2) + 2) < 0 ∨ 48 ≤ ((3 * x2) + 2).toNatClampNeg) (p1 := 58) (l1 := [.ref 264, .int x1, .int x2]) (s1 := [.int (h1.1 303 ((3 * x2) + 2).toNatClampNeg), .int v2]) (h1 := h1) rfl (q_iald (n := 48) rfl)).trans (mm_ite rfl ?_)
        refine (mm_br (c := v2 = (h1.1 303 ((3 * x2) + 2).toNatClampNeg)) (p1 := 63) (p2 := 61) (l1 := [.ref 264, .int x1, .int x2]) (l2 := [.ref 264, .int x1, .int x2]) (s1 := []) (s2 := []) (h1 := h1) (h2 := h1) rfl rfl).trans (mm_ite ?_ ?_)
        · exact mm_by 2 rfl
        · exact mm_by_end 2 rfl
set_option maxRecDepth 100000 in
set_option maxHeartbeats 4000000 in
theorem U_X12_laysWay {d : Nat} {x1 : Int32} {x2 : Int32} {h : mm_H} : mm_M mm_T0 (d + 1) 268 [.ref 264, .int x1, .int x2] h = (mm_D (mm_M mm_T0 d) cd_X12_laysWay 5 [.ref 264, .int x1, .int x2, .int 1, .int 0] [] h) := by
  refine (mm_M_eq (ls := [.ref 264, .int x1, .int x2, .null, .null]) rfl (Nat.le_of_ble_eq_true rfl) rfl h).trans ?_
  exact mm_by 4 rfl
set_option maxRecDepth 100000 in
set_option maxHeartbeats 4000000 in
theorem U_X12_laysWay_5 {d : Nat} {x1 : Int32} {x2 : Int32} {x3 : Int32} {x4 : Int32} {h : mm_H} : mm_D (mm_M mm_T0 d) cd_X12_laysWay 5 [.ref 264, .int x1, .int x2, .int x3, .int x4] [] h = (if 30 < x4 then (mm_bV (mm_M mm_T0 d 236 [.ref 264] h) (fun h1 => if x1 < 0 ∨ 10 ≤ x1.toNatClampNeg then none else (if x3 = 0 ∨ x3 = 1 then (if x3 = 0 then (some (none, wI h1 305 x1.toNatClampNeg x3)) else (some (none, wI (wI h1 305 x1.toNatClampNeg x3) 264 71 (((wI h1 305 x1.toNatClampNeg x3).1 264 71) + 1)))) else none))) else (if x3 = 0 then (mm_bI (mm_M mm_T0 d 219 [.ref 264, .int x2] h) (fun v3 h2 => if ((31 * x1) + x4) < 0 ∨ 310 ≤ ((31 * x1) + x4).toNatClampNeg then none else (mm_bV (mm_M mm_T0 d 233 [.ref 264] (wI h2 304 (((31 * x1) + x4).toNatClampNeg) v3)) (fun h4 => mm_D (mm_M mm_T0 d) cd_X12_laysWay 5 [.ref 264, .int x1, .int x2, .int 0, .int (x4 + 1)] [] h4)))) else (mm_bI (mm_M mm_T0 d 267 [.ref 264, .int x4] h) (fun v6 h5 => if v6 = 0 then (mm_bI (mm_M mm_T0 d 219 [.ref 264, .int x2] h5) (fun v8 h7 => if ((31 * x1) + x4) < 0 ∨ 310 ≤ ((31 * x1) + x4).toNatClampNeg then none else (mm_bV (mm_M mm_T0 d 233 [.ref 264] (wI h7 304 (((31 * x1) + x4).toNatClampNeg) v8)) (fun h9 => mm_D (mm_M mm_T0 d) cd_X12_laysWay 5 [.ref 264, .int x1, .int x2, .int 0, .int (x4 + 1)] [] h9)))) else (mm_bI (mm_M mm_T0 d 219 [.ref 264, .int x2] h5) (fun v11 h10 => if ((31 * x1) + x4) < 0 ∨ 310 ≤ ((31 * x1) + x4).toNatClampNeg then none else (mm_bV (mm_M mm_T0 d 233 [.ref 264] (wI h10 304 (((31 * x1) + x4).toNatClampNeg) v11)) (fun h12 => mm_D (mm_M mm_T0 d) cd_X12_laysWay 5 [.ref 264, .int x1, .int x2, .int 1, .int (x4 + 1)] [] h12)))))))) := by
  refine (mm_by 2 (pc' := 9) (ls' := [.ref 264, .int x1, .int x2, .int x3, .int x4]) (st' := [.int 30, .int x4]) (h' := h) rfl).trans ?_
  refine (mm_br (c := 30 < x4) (p1 := 58) (p2 := 12) (l1 := [.ref 264, .int x1, .int x2, .int x3, .int x4]) (l2 := [.ref 264, .int x1, .int x2, .int x3, .int x4]) (s1 := []) (s2 := []) (h1 := h) (h2 := h) rfl rfl).trans (mm_ite ?_ ?_)
  · refine (mm_by 1 (pc' := 59) (ls' := [.ref 264, .int x1, .int x2, .int x3, .int x4]) (st' := [.ref 264]) (h' := h) rfl).trans ?_
    refine (mm_c0 (y := 236) (as := [.ref 264]) (nx := 62) (rest := []) rfl rfl).trans (mm_congV fun h1 => ?_)
    refine (mm_by 4 (pc' := 68) (ls' := [.ref 264, .int x1, .int x2, .int x3, .int x4]) (st' := [.int x3, .int x1, .ref 305]) (h' := h1) rfl).trans ?_
    refine (mm_gd2 (c := x1 < 0 ∨ 10 ≤ x1.toNatClampNeg) (c2 := x3 = 0 ∨ x3 = 1) (p1 := 69) (l1 := [.ref 264, .int x1, .int x2, .int x3, .int x4]) (s1 := []) (h1 := wI h1 305 x1.toNatClampNeg x3) rfl (q_zast (n := 10) rfl)).trans (mm_ite rfl (mm_ite ?_ rfl))
    refine (mm_by 1 (pc' := 70) (ls' := [.ref 264, .int x1, .int x2, .int x3, .int x4]) (st' := [.int x3]) (h' := wI h1 305 x1.toNatClampNeg x3) rfl).trans ?_
    refine (mm_br (c := x3 = 0) (p1 := 83) (p2 := 73) (l1 := [.ref 264, .int x1, .int x2, .int x3, .int x4]) (l2 := [.ref 264, .int x1, .int x2, .int x3, .int x4]) (s1 := []) (s2 := []) (h1 := wI h1 305 x1.toNatClampNeg x3) (h2 := wI h1 305 x1.toNatClampNeg x3) rfl rfl).trans (mm_ite ?_ ?_)
    · exact mm_by_end 1 rfl
    · exact mm_by_end 7 rfl
  · refine (mm_by 1 (pc' := 13) (ls' := [.ref 264, .int x1, .int x2, .int x3, .int x4]) (st' := [.int x3]) (h' := h) rfl).trans ?_
    refine (mm_br (c := x3 = 0) (p1 := 29) (p2 := 16) (l1 := [.ref 264, .int x1, .int x2, .int x3, .int x4]) (l2 := [.ref 264, .int x1, .int x2, .int x3, .int x4]) (s1 := []) (s2 := []) (h1 := h) (h2 := h) rfl rfl).trans (mm_ite ?_ ?_)
    · refine (mm_by 11 (pc' := 44) (ls' := [.ref 264, .int x1, .int x2, .int 0, .int x4]) (st' := [.int x2, .ref 264, .int ((31 * x1) + x4), .ref 304]) (h' := h) rfl).trans ?_
      refine (mm_c1 (y := 219) (as := [.ref 264, .int x2]) (nx := 47) (rest := [.int ((31 * x1) + x4), .ref 304]) rfl rfl).trans (mm_congI fun v3 h2 => ?_)
      refine (mm_gd (c := ((31 * x1) + x4) < 0 ∨ 310 ≤ ((31 * x1) + x4).toNatClampNeg) (p1 := 48) (l1 := [.ref 264, .int x1, .int x2, .int 0, .int x4]) (s1 := []) (h1 := wI h2 304 (((31 * x1) + x4).toNatClampNeg) v3) rfl (q_iast (n := 310) rfl)).trans (mm_ite rfl ?_)
      refine (mm_by 1 (pc' := 49) (ls' := [.ref 264, .int x1, .int x2, .int 0, .int x4]) (st' := [.ref 264]) (h' := wI h2 304 (((31 * x1) + x4).toNatClampNeg) v3) rfl).trans ?_
      refine (mm_c0 (y := 233) (as := [.ref 264]) (nx := 52) (rest := []) rfl rfl).trans (mm_congV fun h4 => ?_)
      exact mm_by 2 rfl
    · refine (mm_by 2 (pc' := 19) (ls' := [.ref 264, .int x1, .int x2, .int x3, .int x4]) (st' := [.int x4, .ref 264]) (h' := h) rfl).trans ?_
      refine (mm_c1 (y := 267) (as := [.ref 264, .int x4]) (nx := 22) (rest := []) rfl rfl).trans (mm_congI fun v6 h5 => ?_)
      refine (mm_br (c := v6 = 0) (p1 := 29) (p2 := 25) (l1 := [.ref 264, .int x1, .int x2, .int x3, .int x4]) (l2 := [.ref 264, .int x1, .int x2, .int x3, .int x4]) (s1 := []) (s2 := []) (h1 := h5) (h2 := h5) rfl rfl).trans (mm_ite ?_ ?_)
      · refine (mm_by 11 (pc' := 44) (ls' := [.ref 264, .int x1, .int x2, .int 0, .int x4]) (st' := [.int x2, .ref 264, .int ((31 * x1) + x4), .ref 304]) (h' := h5) rfl).trans ?_
        refine (mm_c1 (y := 219) (as := [.ref 264, .int x2]) (nx := 47) (rest := [.int ((31 * x1) + x4), .ref 304]) rfl rfl).trans (mm_congI fun v8 h7 => ?_)
        refine (mm_gd (c := ((31 * x1) + x4) < 0 ∨ 310 ≤ ((31 * x1) + x4).toNatClampNeg) (p1 := 48) (l1 := [.ref 264, .int x1, .int x2, .int 0, .int x4]) (s1 := []) (h1 := wI h7 304 (((31 * x1) + x4).toNatClampNeg) v8) rfl (q_iast (n := 310) rfl)).trans (mm_ite rfl ?_)
        refine (mm_by 1 (pc' := 49) (ls' := [.ref 264, .int x1, .int x2, .int 0, .int x4]) (st' := [.ref 264]) (h' := wI h7 304 (((31 * x1) + x4).toNatClampNeg) v8) rfl).trans ?_
        refine (mm_c0 (y := 233) (as := [.ref 264]) (nx := 52) (rest := []) rfl rfl).trans (mm_congV fun h9 => ?_)
        exact mm_by 2 rfl
      · refine (mm_by 12 (pc' := 44) (ls' := [.ref 264, .int x1, .int x2, .int 1, .int x4]) (st' := [.int x2, .ref 264, .int ((31 * x1) + x4), .ref 304]) (h' := h5) rfl).trans ?_
        refine (mm_c1 (y := 219) (as := [.ref 264, .int x2]) (nx := 47) (rest := [.int ((31 * x1) + x4), .ref 304]) rfl rfl).trans (mm_congI fun v11 h10 => ?_)
        refine (mm_gd (c := ((31 * x1) + x4) < 0 ∨ 310 ≤ ((31 * x1) + x4).toNatClampNeg) (p1 := 48) (l1 := [.ref 264, .int x1, .int x2, .int 1, .int x4]) (s1 := []) (h1 := wI h10 304 (((31 * x1) + x4).toNatClampNeg) v11) rfl (q_iast (n := 310) rfl)).trans (mm_ite rfl ?_)
        refine (mm_by 1 (pc' := 49) (ls' := [.ref 264, .int x1, .int x2, .int 1, .int x4]) (st' := [.ref 264]) (h' := wI h10 304 (((31 * x1) + x4).toNatClampNeg) v11) rfl).trans ?_
        refine (mm_c0 (y := 233) (as := [.ref 264]) (nx := 52) (rest := []) rfl rfl).trans (mm_congV fun h12 => ?_)
        exact mm_by 2 rfl
set_option maxRecDepth 100000 in
set_option maxHeartbeats 4000000 in
theorem U_X12_laysThoughts {d : Nat} {x1 : Int32} {x2 : Int32} {h : mm_H} : mm_M mm_T0 (d + 1) 269 [.ref 264, .int x1, .int x2] h = (mm_bV (mm_M mm_T0 d 235 [.ref 264] h) (fun h1 => mm_D (mm_M mm_T0 d) cd_X12_laysThoughts 11 [.ref 264, .int x1, .int x2, .int 0] [] (wI h1 264 71 0))) := by
  refine (mm_M_eq (ls := [.ref 264, .int x1, .int x2, .null]) rfl (Nat.le_of_ble_eq_true rfl) rfl h).trans ?_
  refine (mm_by 1 (pc' := 1) (ls' := [.ref 264, .int x1, .int x2, .null]) (st' := [.ref 264]) (h' := h) rfl).trans ?_
  refine (mm_c0 (y := 235) (as := [.ref 264]) (nx := 4) (rest := []) rfl rfl).trans (mm_congV fun h1 => ?_)
  exact mm_by 5 rfl
set_option maxRecDepth 100000 in
set_option maxHeartbeats 4000000 in
theorem U_X12_laysThoughts_11 {d : Nat} {x1 : Int32} {x2 : Int32} {x3 : Int32} {h : mm_H} : mm_D (mm_M mm_T0 d) cd_X12_laysThoughts 11 [.ref 264, .int x1, .int x2, .int x3] [] h = (if 10 ≤ x3 then (mm_bV (mm_M mm_T0 d 237 [.ref 264] h) (fun h1 => some (none, h1))) else (if ((25 + (8 * x1)) + x2) < 0 ∨ 210 ≤ ((25 + (8 * x1)) + x2).toNatClampNeg then none else (mm_bV (mm_M mm_T0 d 268 [.ref 264, .int x3, .int x2] (wI h 300 (((25 + (8 * x1)) + x2).toNatClampNeg) x3)) (fun h2 => mm_D (mm_M mm_T0 d) cd_X12_laysThoughts 11 [.ref 264, .int x1, .int x2, .int (x3 + 1)] [] h2)))) := by
  refine (mm_by 2 (pc' := 14) (ls' := [.ref 264, .int x1, .int x2, .int x3]) (st' := [.int 10, .int x3]) (h' := h) rfl).trans ?_
  refine (mm_br (c := 10 ≤ x3) (p1 := 44) (p2 := 17) (l1 := [.ref 264, .int x1, .int x2, .int x3]) (l2 := [.ref 264, .int x1, .int x2, .int x3]) (s1 := []) (s2 := []) (h1 := h) (h2 := h) rfl rfl).trans (mm_ite ?_ ?_)
  · refine (mm_by 1 (pc' := 45) (ls' := [.ref 264, .int x1, .int x2, .int x3]) (st' := [.ref 264]) (h' := h) rfl).trans ?_
    refine (mm_c0 (y := 237) (as := [.ref 264]) (nx := 48) (rest := []) rfl rfl).trans (mm_congV fun h1 => ?_)
    exact mm_by_end 1 rfl
  · refine (mm_by 10 (pc' := 31) (ls' := [.ref 264, .int x1, .int x2, .int x3]) (st' := [.int x3, .int ((25 + (8 * x1)) + x2), .ref 300]) (h' := h) rfl).trans ?_
    refine (mm_gd (c := ((25 + (8 * x1)) + x2) < 0 ∨ 210 ≤ ((25 + (8 * x1)) + x2).toNatClampNeg) (p1 := 32) (l1 := [.ref 264, .int x1, .int x2, .int x3]) (s1 := []) (h1 := wI h 300 (((25 + (8 * x1)) + x2).toNatClampNeg) x3) rfl (q_iast (n := 210) rfl)).trans (mm_ite rfl ?_)
    refine (mm_by 3 (pc' := 35) (ls' := [.ref 264, .int x1, .int x2, .int x3]) (st' := [.int x2, .int x3, .ref 264]) (h' := wI h 300 (((25 + (8 * x1)) + x2).toNatClampNeg) x3) rfl).trans ?_
    refine (mm_c0 (y := 268) (as := [.ref 264, .int x3, .int x2]) (nx := 38) (rest := []) rfl rfl).trans (mm_congV fun h2 => ?_)
    exact mm_by 2 rfl
set_option maxRecDepth 100000 in
set_option maxHeartbeats 4000000 in
theorem U_X12_fitSet {d : Nat} {h : mm_H} : mm_M mm_T0 (d + 1) 270 [.ref 264] h = (mm_D (mm_M mm_T0 d) cd_X12_fitSet 4 [.ref 264, .int 0, .int 0] [] h) := by
  refine (mm_M_eq (ls := [.ref 264, .null, .null]) rfl (Nat.le_of_ble_eq_true rfl) rfl h).trans ?_
  exact mm_by 4 rfl
set_option maxRecDepth 100000 in
set_option maxHeartbeats 4000000 in
theorem U_X12_fitSet_4 {d : Nat} {x1 : Int32} {x2 : Int32} {h : mm_H} : mm_D (mm_M mm_T0 d) cd_X12_fitSet 4 [.ref 264, .int x1, .int x2] [] h = (if 10 ≤ x2 then (some (some (.int x1), h)) else (if x2 < 0 ∨ 10 ≤ x2.toNatClampNeg then none else (if (h.1 305 x2.toNatClampNeg) = 0 then (mm_D (mm_M mm_T0 d) cd_X12_fitSet 4 [.ref 264, .int x1, .int (x2 + 1)] [] h) else (mm_D (mm_M mm_T0 d) cd_X12_fitSet 4 [.ref 264, .int (x1 ||| ((1 : Int32) <<< (x2 &&& 31))), .int (x2 + 1)] [] h)))) := by
  refine (mm_by 2 (pc' := 7) (ls' := [.ref 264, .int x1, .int x2]) (st' := [.int 10, .int x2]) (h' := h) rfl).trans ?_
  refine (mm_br (c := 10 ≤ x2) (p1 := 31) (p2 := 10) (l1 := [.ref 264, .int x1, .int x2]) (l2 := [.ref 264, .int x1, .int x2]) (s1 := []) (s2 := []) (h1 := h) (h2 := h) rfl rfl).trans (mm_ite ?_ ?_)
  · exact mm_by_end 2 rfl
  · refine (mm_by 3 (pc' := 15) (ls' := [.ref 264, .int x1, .int x2]) (st' := [.int x2, .ref 305]) (h' := h) rfl).trans ?_
    refine (mm_gd (c := x2 < 0 ∨ 10 ≤ x2.toNatClampNeg) (p1 := 16) (l1 := [.ref 264, .int x1, .int x2]) (s1 := [.int (h.1 305 x2.toNatClampNeg)]) (h1 := h) rfl (q_zald (n := 10) rfl)).trans (mm_ite rfl ?_)
    refine (mm_br (c := (h.1 305 x2.toNatClampNeg) = 0) (p1 := 25) (p2 := 19) (l1 := [.ref 264, .int x1, .int x2]) (l2 := [.ref 264, .int x1, .int x2]) (s1 := []) (s2 := []) (h1 := h) (h2 := h) rfl rfl).trans (mm_ite ?_ ?_)
    · exact mm_by 2 rfl
    · exact mm_by 8 rfl
set_option maxRecDepth 100000 in
set_option maxHeartbeats 4000000 in
theorem U_X12_thoughts {d : Nat} {x1 : Int32} {x2 : Int32} {h : mm_H} : mm_M mm_T0 (d + 1) 271 [.ref 264, .int x1, .int x2] h = (mm_bI (mm_M mm_T0 d 216 [.ref 264, .int x1, .int x2] h) (fun v2 h1 => if ¬ v2 = 0 then (mm_bV (mm_M mm_T0 d 269 [.ref 264, .int x1, .int x2] h1) (fun h3 => mm_bI (mm_M mm_T0 d 270 [.ref 264] h3) (fun v5 h4 => some (some (.int v5), h4)))) else (some (some (.int ((-1))), h1)))) := by
  refine (mm_M_eq (ls := [.ref 264, .int x1, .int x2]) rfl (Nat.le_of_ble_eq_true rfl) rfl h).trans ?_
  refine (mm_by 3 (pc' := 3) (ls' := [.ref 264, .int x1, .int x2]) (st' := [.int x2, .int x1, .ref 264]) (h' := h) rfl).trans ?_
  refine (mm_c1 (y := 216) (as := [.ref 264, .int x1, .int x2]) (nx := 6) (rest := []) rfl rfl).trans (mm_congI fun v2 h1 => ?_)
  refine (mm_br (c := ¬ v2 = 0) (p1 := 11) (p2 := 9) (l1 := [.ref 264, .int x1, .int x2]) (l2 := [.ref 264, .int x1, .int x2]) (s1 := []) (s2 := []) (h1 := h1) (h2 := h1) rfl rfl).trans (mm_ite ?_ ?_)
  · refine (mm_by 3 (pc' := 14) (ls' := [.ref 264, .int x1, .int x2]) (st' := [.int x2, .int x1, .ref 264]) (h' := h1) rfl).trans ?_
    refine (mm_c0 (y := 269) (as := [.ref 264, .int x1, .int x2]) (nx := 17) (rest := []) rfl rfl).trans (mm_congV fun h3 => ?_)
    refine (mm_by 1 (pc' := 18) (ls' := [.ref 264, .int x1, .int x2]) (st' := [.ref 264]) (h' := h3) rfl).trans ?_
    refine (mm_c1 (y := 270) (as := [.ref 264]) (nx := 21) (rest := []) rfl rfl).trans (mm_congI fun v5 h4 => ?_)
    exact mm_by_end 1 rfl
  · exact mm_by_end 2 rfl
set_option maxRecDepth 100000 in
set_option maxHeartbeats 4000000 in
theorem U_X12_faces {d : Nat} {x1 : Int32} {h : mm_H} : mm_M mm_T0 (d + 1) 272 [.ref 264, .int x1] h = (mm_bI (mm_M mm_T0 d 214 [.ref 264, .long x1.toInt64] h) (fun v2 h1 => if ¬ v2 = 0 then (mm_bI (mm_M mm_T0 d 221 [.ref 264, .int x1] h1) (fun v4 h3 => mm_bV (mm_M mm_T0 d 235 [.ref 264] h3) (fun h5 => mm_D (mm_M mm_T0 d) cd_X12_faces 28 [.ref 264, .int x1, .int v4, .int 0] [] (wI h5 264 71 0)))) else (some (some (.int ((-1))), h1)))) := by
  refine (mm_M_eq (ls := [.ref 264, .int x1, .null, .null]) rfl (Nat.le_of_ble_eq_true rfl) rfl h).trans ?_
  refine (mm_by 3 (pc' := 3) (ls' := [.ref 264, .int x1, .null, .null]) (st' := [.long x1.toInt64, .ref 264]) (h' := h) rfl).trans ?_
  refine (mm_c1 (y := 214) (as := [.ref 264, .long x1.toInt64]) (nx := 6) (rest := []) rfl rfl).trans (mm_congI fun v2 h1 => ?_)
  refine (mm_br (c := ¬ v2 = 0) (p1 := 11) (p2 := 9) (l1 := [.ref 264, .int x1, .null, .null]) (l2 := [.ref 264, .int x1, .null, .null]) (s1 := []) (s2 := []) (h1 := h1) (h2 := h1) rfl rfl).trans (mm_ite ?_ ?_)
  · refine (mm_by 2 (pc' := 13) (ls' := [.ref 264, .int x1, .null, .null]) (st' := [.int x1, .ref 264]) (h' := h1) rfl).trans ?_
    refine (mm_c1 (y := 221) (as := [.ref 264, .int x1]) (nx := 16) (rest := []) rfl rfl).trans (mm_congI fun v4 h3 => ?_)
    refine (mm_by 2 (pc' := 18) (ls' := [.ref 264, .int x1, .int v4, .null]) (st' := [.ref 264]) (h' := h3) rfl).trans ?_
    refine (mm_c0 (y := 235) (as := [.ref 264]) (nx := 21) (rest := []) rfl rfl).trans (mm_congV fun h5 => ?_)
    exact mm_by 5 rfl
  · exact mm_by_end 2 rfl
set_option maxRecDepth 100000 in
set_option maxHeartbeats 4000000 in
theorem U_X12_faces_28 {d : Nat} {x1 : Int32} {x2 : Int32} {x3 : Int32} {h : mm_H} : mm_D (mm_M mm_T0 d) cd_X12_faces 28 [.ref 264, .int x1, .int x2, .int x3] [] h = (if 10 ≤ x3 then (if (8 + x1) < 0 ∨ 16 ≤ (8 + x1).toNatClampNeg then none else (mm_bV (mm_M mm_T0 d 237 [.ref 264] (wI h 294 ((8 + x1).toNatClampNeg) x2)) (fun h1 => mm_bI (mm_M mm_T0 d 270 [.ref 264] h1) (fun v3 h2 => some (some (.int v3), h2))))) else (if (8 + x1) < 0 ∨ 16 ≤ (8 + x1).toNatClampNeg then none else (mm_bV (mm_M mm_T0 d 268 [.ref 264, .int x3, .int x1] (wI h 294 ((8 + x1).toNatClampNeg) x3)) (fun h4 => mm_D (mm_M mm_T0 d) cd_X12_faces 28 [.ref 264, .int x1, .int x2, .int (x3 + 1)] [] h4)))) := by
  refine (mm_by 2 (pc' := 31) (ls' := [.ref 264, .int x1, .int x2, .int x3]) (st' := [.int 10, .int x3]) (h' := h) rfl).trans ?_
  refine (mm_br (c := 10 ≤ x3) (p1 := 56) (p2 := 34) (l1 := [.ref 264, .int x1, .int x2, .int x3]) (l2 := [.ref 264, .int x1, .int x2, .int x3]) (s1 := []) (s2 := []) (h1 := h) (h2 := h) rfl rfl).trans (mm_ite ?_ ?_)
  · refine (mm_by 6 (pc' := 65) (ls' := [.ref 264, .int x1, .int x2, .int x3]) (st' := [.int x2, .int (8 + x1), .ref 294]) (h' := h) rfl).trans ?_
    refine (mm_gd (c := (8 + x1) < 0 ∨ 16 ≤ (8 + x1).toNatClampNeg) (p1 := 66) (l1 := [.ref 264, .int x1, .int x2, .int x3]) (s1 := []) (h1 := wI h 294 ((8 + x1).toNatClampNeg) x2) rfl (q_iast (n := 16) rfl)).trans (mm_ite rfl ?_)
    refine (mm_by 1 (pc' := 67) (ls' := [.ref 264, .int x1, .int x2, .int x3]) (st' := [.ref 264]) (h' := wI h 294 ((8 + x1).toNatClampNeg) x2) rfl).trans ?_
    refine (mm_c0 (y := 237) (as := [.ref 264]) (nx := 70) (rest := []) rfl rfl).trans (mm_congV fun h1 => ?_)
    refine (mm_by 1 (pc' := 71) (ls' := [.ref 264, .int x1, .int x2, .int x3]) (st' := [.ref 264]) (h' := h1) rfl).trans ?_
    refine (mm_c1 (y := 270) (as := [.ref 264]) (nx := 74) (rest := []) rfl rfl).trans (mm_congI fun v3 h2 => ?_)
    exact mm_by_end 1 rfl
  · refine (mm_by 6 (pc' := 43) (ls' := [.ref 264, .int x1, .int x2, .int x3]) (st' := [.int x3, .int (8 + x1), .ref 294]) (h' := h) rfl).trans ?_
    refine (mm_gd (c := (8 + x1) < 0 ∨ 16 ≤ (8 + x1).toNatClampNeg) (p1 := 44) (l1 := [.ref 264, .int x1, .int x2, .int x3]) (s1 := []) (h1 := wI h 294 ((8 + x1).toNatClampNeg) x3) rfl (q_iast (n := 16) rfl)).trans (mm_ite rfl ?_)
    refine (mm_by 3 (pc' := 47) (ls' := [.ref 264, .int x1, .int x2, .int x3]) (st' := [.int x1, .int x3, .ref 264]) (h' := wI h 294 ((8 + x1).toNatClampNeg) x3) rfl).trans ?_
    refine (mm_c0 (y := 268) (as := [.ref 264, .int x3, .int x1]) (nx := 50) (rest := []) rfl rfl).trans (mm_congV fun h4 => ?_)
    exact mm_by 2 rfl
set_option maxRecDepth 100000 in
set_option maxHeartbeats 4000000 in
theorem U_X12_mostAlike {d : Nat} {x1 : Int32} {h : mm_H} : mm_M mm_T0 (d + 1) 273 [.ref 264, .int x1] h = (mm_D (mm_M mm_T0 d) cd_X12_mostAlike 4 [.ref 264, .int x1, .int 0, .int 0, .null, .null] [] h) := by
  refine (mm_M_eq (ls := [.ref 264, .int x1, .null, .null, .null, .null]) rfl (Nat.le_of_ble_eq_true rfl) rfl h).trans ?_
  exact mm_by 4 rfl
set_option maxRecDepth 100000 in
set_option maxHeartbeats 4000000 in
theorem U_X12_mostAlike_4 {d : Nat} {x1 : Int32} {x2 : Int32} {x3 : Int32} {h : mm_H} : mm_D (mm_M mm_T0 d) cd_X12_mostAlike 4 [.ref 264, .int x1, .int x2, .int x3, .null, .null] [] h = (if 10 ≤ x3 then (some (some (.int x2), h)) else (if x3 < 0 ∨ 10 ≤ x3.toNatClampNeg then none else (if ¬ (h.1 305 x3.toNatClampNeg) = 0 then (mm_D (mm_M mm_T0 d) cd_X12_mostAlike 28 [.ref 264, .int x1, .int x2, .int x3, .int 0, .int 0] [] h) else (mm_D (mm_M mm_T0 d) cd_X12_mostAlike 4 [.ref 264, .int x1, .int x2, .int (x3 + 1), .null, .null] [] h)))) := by
  refine (mm_by 2 (pc' := 7) (ls' := [.ref 264, .int x1, .int x2, .int x3, .null, .null]) (st' := [.int 10, .int x3]) (h' := h) rfl).trans ?_
  refine (mm_br (c := 10 ≤ x3) (p1 := 95) (p2 := 10) (l1 := [.ref 264, .int x1, .int x2, .int x3, .null, .null]) (l2 := [.ref 264, .int x1, .int x2, .int x3, .null, .null]) (s1 := []) (s2 := []) (h1 := h) (h2 := h) rfl rfl).trans (mm_ite ?_ ?_)
  · exact mm_by_end 2 rfl
  · refine (mm_by 3 (pc' := 15) (ls' := [.ref 264, .int x1, .int x2, .int x3, .null, .null]) (st' := [.int x3, .ref 305]) (h' := h) rfl).trans ?_
    refine (mm_gd (c := x3 < 0 ∨ 10 ≤ x3.toNatClampNeg) (p1 := 16) (l1 := [.ref 264, .int x1, .int x2, .int x3, .null, .null]) (s1 := [.int (h.1 305 x3.toNatClampNeg)]) (h1 := h) rfl (q_zald (n := 10) rfl)).trans (mm_ite rfl ?_)
    refine (mm_br (c := ¬ (h.1 305 x3.toNatClampNeg) = 0) (p1 := 22) (p2 := 19) (l1 := [.ref 264, .int x1, .int x2, .int x3, .null, .null]) (l2 := [.ref 264, .int x1, .int x2, .int x3, .null, .null]) (s1 := []) (s2 := []) (h1 := h) (h2 := h) rfl rfl).trans (mm_ite ?_ ?_)
    · exact mm_by 4 rfl
    · exact mm_by 3 rfl
set_option maxRecDepth 100000 in
set_option maxHeartbeats 4000000 in
theorem U_X12_mostAlike_28 {d : Nat} {x1 : Int32} {x2 : Int32} {x3 : Int32} {x4 : Int32} {x5 : Int32} {h : mm_H} : mm_D (mm_M mm_T0 d) cd_X12_mostAlike 28 [.ref 264, .int x1, .int x2, .int x3, .int x4, .int x5] [] h = (if 10 ≤ x5 then (if x4 ≤ x2 then (mm_D (mm_M mm_T0 d) cd_X12_mostAlike 4 [.ref 264, .int x1, .int x2, .int (x3 + 1), .null, .null] [] h) else (mm_D (mm_M mm_T0 d) cd_X12_mostAlike 4 [.ref 264, .int x1, .int x4, .int (x3 + 1), .null, .null] [] h)) else (if x5 < 0 ∨ 10 ≤ x5.toNatClampNeg then none else (if (h.1 305 x5.toNatClampNeg) = 0 then (mm_D (mm_M mm_T0 d) cd_X12_mostAlike 28 [.ref 264, .int x1, .int x2, .int x3, .int x4, .int (x5 + 1)] [] h) else (if ((31 * x3) + x1) < 0 ∨ 310 ≤ ((31 * x3) + x1).toNatClampNeg then none else (if ((31 * x5) + x1) < 0 ∨ 310 ≤ ((31 * x5) + x1).toNatClampNeg then none else (if ¬ (h.1 304 ((31 * x3) + x1).toNatClampNeg) = (h.1 304 ((31 * x5) + x1).toNatClampNeg) then (mm_D (mm_M mm_T0 d) cd_X12_mostAlike 28 [.ref 264, .int x1, .int x2, .int x3, .int x4, .int (x5 + 1)] [] h) else (mm_D (mm_M mm_T0 d) cd_X12_mostAlike 28 [.ref 264, .int x1, .int x2, .int x3, .int (x4 + 1), .int (x5 + 1)] [] h))))))) := by
  refine (mm_by 2 (pc' := 32) (ls' := [.ref 264, .int x1, .int x2, .int x3, .int x4, .int x5]) (st' := [.int 10, .int x5]) (h' := h) rfl).trans ?_
  refine (mm_br (c := 10 ≤ x5) (p1 := 80) (p2 := 35) (l1 := [.ref 264, .int x1, .int x2, .int x3, .int x4, .int x5]) (l2 := [.ref 264, .int x1, .int x2, .int x3, .int x4, .int x5]) (s1 := []) (s2 := []) (h1 := h) (h2 := h) rfl rfl).trans (mm_ite ?_ ?_)
  · refine (mm_by 2 (pc' := 83) (ls' := [.ref 264, .int x1, .int x2, .int x3, .int x4, .int x5]) (st' := [.int x2, .int x4]) (h' := h) rfl).trans ?_
    refine (mm_br (c := x4 ≤ x2) (p1 := 89) (p2 := 86) (l1 := [.ref 264, .int x1, .int x2, .int x3, .int x4, .int x5]) (l2 := [.ref 264, .int x1, .int x2, .int x3, .int x4, .int x5]) (s1 := []) (s2 := []) (h1 := h) (h2 := h) rfl rfl).trans (mm_ite ?_ ?_)
    · exact mm_by 2 rfl
    · exact mm_by 4 rfl
  · refine (mm_by 3 (pc' := 41) (ls' := [.ref 264, .int x1, .int x2, .int x3, .int x4, .int x5]) (st' := [.int x5, .ref 305]) (h' := h) rfl).trans ?_
    refine (mm_gd (c := x5 < 0 ∨ 10 ≤ x5.toNatClampNeg) (p1 := 42) (l1 := [.ref 264, .int x1, .int x2, .int x3, .int x4, .int x5]) (s1 := [.int (h.1 305 x5.toNatClampNeg)]) (h1 := h) rfl (q_zald (n := 10) rfl)).trans (mm_ite rfl ?_)
    refine (mm_br (c := (h.1 305 x5.toNatClampNeg) = 0) (p1 := 74) (p2 := 45) (l1 := [.ref 264, .int x1, .int x2, .int x3, .int x4, .int x5]) (l2 := [.ref 264, .int x1, .int x2, .int x3, .int x4, .int x5]) (s1 := []) (s2 := []) (h1 := h) (h2 := h) rfl rfl).trans (mm_ite ?_ ?_)
    · exact mm_by 2 rfl
    · refine (mm_by 7 (pc' := 55) (ls' := [.ref 264, .int x1, .int x2, .int x3, .int x4, .int x5]) (st' := [.int ((31 * x3) + x1), .ref 304]) (h' := h) rfl).trans ?_
      refine (mm_gd (c := ((31 * x3) + x1) < 0 ∨ 310 ≤ ((31 * x3) + x1).toNatClampNeg) (p1 := 56) (l1 := [.ref 264, .int x1, .int x2, .int x3, .int x4, .int x5]) (s1 := [.int (h.1 304 ((31 * x3) + x1).toNatClampNeg)]) (h1 := h) rfl (q_iald (n := 310) rfl)).trans (mm_ite rfl ?_)
      refine (mm_by 7 (pc' := 67) (ls' := [.ref 264, .int x1, .int x2, .int x3, .int x4, .int x5]) (st' := [.int ((31 * x5) + x1), .ref 304, .int (h.1 304 ((31 * x3) + x1).toNatClampNeg)]) (h' := h) rfl).trans ?_
      refine (mm_gd (c := ((31 * x5) + x1) < 0 ∨ 310 ≤ ((31 * x5) + x1).toNatClampNeg) (p1 := 68) (l1 := [.ref 264, .int x1, .int x2, .int x3, .int x4, .int x5]) (s1 := [.int (h.1 304 ((31 * x5) + x1).toNatClampNeg), .int (h.1 304 ((31 * x3) + x1).toNatClampNeg)]) (h1 := h) rfl (q_iald (n := 310) rfl)).trans (mm_ite rfl ?_)
      refine (mm_br (c := ¬ (h.1 304 ((31 * x3) + x1).toNatClampNeg) = (h.1 304 ((31 * x5) + x1).toNatClampNeg)) (p1 := 74) (p2 := 71) (l1 := [.ref 264, .int x1, .int x2, .int x3, .int x4, .int x5]) (l2 := [.ref 264, .int x1, .int x2, .int x3, .int x4, .int x5]) (s1 := []) (s2 := []) (h1 := h) (h2 := h) rfl rfl).trans (mm_ite ?_ ?_)
      · exact mm_by 2 rfl
      · exact mm_by 3 rfl
set_option maxRecDepth 100000 in
set_option maxHeartbeats 4000000 in
theorem U_X12_tells {d : Nat} {x1 : Int32} {x2 : Int32} {x3 : Int32} {h : mm_H} : mm_M mm_T0 (d + 1) 274 [.ref 264, .int x1, .int x2, .int x3] h = (mm_bI (mm_M mm_T0 d 216 [.ref 264, .int x1, .int x2] h) (fun v2 h1 => if v2 = 0 then (some (some (.int ((-1))), h1)) else (mm_bI (mm_M mm_T0 d 188 [.long x3.toInt64, .long 0, .long 1] h1) (fun v4 h3 => if ¬ v4 = 0 then (mm_bV (mm_M mm_T0 d 269 [.ref 264, .int x1, .int x2] h3) (fun h5 => mm_D (mm_M mm_T0 d) cd_X12_tells 36 [.ref 264, .null, .null, .int x3, .int ((-1)), .int 0, .int 1, .null] [] h5)) else (some (some (.int ((-1))), h3)))))) := by
  refine (mm_M_eq (ls := [.ref 264, .int x1, .int x2, .int x3, .null, .null, .null, .null]) rfl (Nat.le_of_ble_eq_true rfl) rfl h).trans ?_
  refine (mm_by 3 (pc' := 3) (ls' := [.ref 264, .int x1, .int x2, .int x3, .null, .null, .null, .null]) (st' := [.int x2, .int x1, .ref 264]) (h' := h) rfl).trans ?_
  refine (mm_c1 (y := 216) (as := [.ref 264, .int x1, .int x2]) (nx := 6) (rest := []) rfl rfl).trans (mm_congI fun v2 h1 => ?_)
  refine (mm_br (c := v2 = 0) (p1 := 19) (p2 := 9) (l1 := [.ref 264, .int x1, .int x2, .int x3, .null, .null, .null, .null]) (l2 := [.ref 264, .int x1, .int x2, .int x3, .null, .null, .null, .null]) (s1 := []) (s2 := []) (h1 := h1) (h2 := h1) rfl rfl).trans (mm_ite ?_ ?_)
  · exact mm_by_end 2 rfl
  · refine (mm_by 4 (pc' := 13) (ls' := [.ref 264, .int x1, .int x2, .int x3, .null, .null, .null, .null]) (st' := [.long 1, .long 0, .long x3.toInt64]) (h' := h1) rfl).trans ?_
    refine (mm_c1 (y := 188) (as := [.long x3.toInt64, .long 0, .long 1]) (nx := 16) (rest := []) rfl rfl).trans (mm_congI fun v4 h3 => ?_)
    refine (mm_br (c := ¬ v4 = 0) (p1 := 21) (p2 := 19) (l1 := [.ref 264, .int x1, .int x2, .int x3, .null, .null, .null, .null]) (l2 := [.ref 264, .int x1, .int x2, .int x3, .null, .null, .null, .null]) (s1 := []) (s2 := []) (h1 := h3) (h2 := h3) rfl rfl).trans (mm_ite ?_ ?_)
    · refine (mm_by 3 (pc' := 24) (ls' := [.ref 264, .int x1, .int x2, .int x3, .null, .null, .null, .null]) (st' := [.int x2, .int x1, .ref 264]) (h' := h3) rfl).trans ?_
      refine (mm_c0 (y := 269) (as := [.ref 264, .int x1, .int x2]) (nx := 27) (rest := []) rfl rfl).trans (mm_congV fun h5 => ?_)
      exact mm_by 6 rfl
    · exact mm_by_end 2 rfl
set_option maxRecDepth 100000 in
set_option maxHeartbeats 4000000 in
theorem U_X12_tells_36 {d : Nat} {x3 : Int32} {x4 : Int32} {x5 : Int32} {x6 : Int32} {h : mm_H} : mm_D (mm_M mm_T0 d) cd_X12_tells 36 [.ref 264, .null, .null, .int x3, .int x4, .int x5, .int x6, .null] [] h = (if (h.1 264 71) ≤ 0 then (if ¬ x4 = ((-1)) then (if ¬ x3 = 0 then (some (some (.int x5), h)) else (some (some (.int x4), h))) else (some (some (.int ((-1))), h))) else (mm_bI (mm_M mm_T0 d 238 [.ref 264, .int x6, .int 1, .int 30] h) (fun v2 h1 => if v2 = 0 then (if ¬ x4 = ((-1)) then (if ¬ x3 = 0 then (some (some (.int x5), h1)) else (some (some (.int x4), h1))) else (some (some (.int ((-1))), h1))) else (mm_bI (mm_M mm_T0 d 273 [.ref 264, .int x6] h1) (fun v4 h3 => if x4 = ((-1)) then (mm_D (mm_M mm_T0 d) cd_X12_tells 36 [.ref 264, .null, .null, .int x3, .int x6, .int v4, .int (x6 + 1), .null] [] h3) else (if v4 < x5 then (mm_D (mm_M mm_T0 d) cd_X12_tells 36 [.ref 264, .null, .null, .int x3, .int x6, .int v4, .int (x6 + 1), .null] [] h3) else (mm_D (mm_M mm_T0 d) cd_X12_tells 36 [.ref 264, .null, .null, .int x3, .int x4, .int x5, .int (x6 + 1), .null] [] h3))))))) := by
  refine (mm_by 2 (pc' := 40) (ls' := [.ref 264, .null, .null, .int x3, .int x4, .int x5, .int x6, .null]) (st' := [.int (h.1 264 71)]) (h' := h) rfl).trans ?_
  refine (mm_br (c := (h.1 264 71) ≤ 0) (p1 := 93) (p2 := 43) (l1 := [.ref 264, .null, .null, .int x3, .int x4, .int x5, .int x6, .null]) (l2 := [.ref 264, .null, .null, .int x3, .int x4, .int x5, .int x6, .null]) (s1 := []) (s2 := []) (h1 := h) (h2 := h) rfl rfl).trans (mm_ite ?_ ?_)
  · refine (mm_by 2 (pc' := 96) (ls' := [.ref 264, .null, .null, .int x3, .int x4, .int x5, .int x6, .null]) (st' := [.int ((-1)), .int x4]) (h' := h) rfl).trans ?_
    refine (mm_br (c := ¬ x4 = ((-1))) (p1 := 103) (p2 := 99) (l1 := [.ref 264, .null, .null, .int x3, .int x4, .int x5, .int x6, .null]) (l2 := [.ref 264, .null, .null, .int x3, .int x4, .int x5, .int x6, .null]) (s1 := []) (s2 := []) (h1 := h) (h2 := h) rfl rfl).trans (mm_ite ?_ ?_)
    · refine (mm_by 1 (pc' := 104) (ls' := [.ref 264, .null, .null, .int x3, .int x4, .int x5, .int x6, .null]) (st' := [.int x3]) (h' := h) rfl).trans ?_
      refine (mm_br (c := ¬ x3 = 0) (p1 := 112) (p2 := 107) (l1 := [.ref 264, .null, .null, .int x3, .int x4, .int x5, .int x6, .null]) (l2 := [.ref 264, .null, .null, .int x3, .int x4, .int x5, .int x6, .null]) (s1 := []) (s2 := []) (h1 := h) (h2 := h) rfl rfl).trans (mm_ite ?_ ?_)
      · exact mm_by_end 2 rfl
      · exact mm_by_end 3 rfl
    · exact mm_by_end 3 rfl
  · refine (mm_by 4 (pc' := 49) (ls' := [.ref 264, .null, .null, .int x3, .int x4, .int x5, .int x6, .null]) (st' := [.int 30, .int 1, .int x6, .ref 264]) (h' := h) rfl).trans ?_
    refine (mm_c1 (y := 238) (as := [.ref 264, .int x6, .int 1, .int 30]) (nx := 52) (rest := []) rfl rfl).trans (mm_congI fun v2 h1 => ?_)
    refine (mm_br (c := v2 = 0) (p1 := 93) (p2 := 55) (l1 := [.ref 264, .null, .null, .int x3, .int x4, .int x5, .int x6, .null]) (l2 := [.ref 264, .null, .null, .int x3, .int x4, .int x5, .int x6, .null]) (s1 := []) (s2 := []) (h1 := h1) (h2 := h1) rfl rfl).trans (mm_ite ?_ ?_)
    · refine (mm_by 2 (pc' := 96) (ls' := [.ref 264, .null, .null, .int x3, .int x4, .int x5, .int x6, .null]) (st' := [.int ((-1)), .int x4]) (h' := h1) rfl).trans ?_
      refine (mm_br (c := ¬ x4 = ((-1))) (p1 := 103) (p2 := 99) (l1 := [.ref 264, .null, .null, .int x3, .int x4, .int x5, .int x6, .null]) (l2 := [.ref 264, .null, .null, .int x3, .int x4, .int x5, .int x6, .null]) (s1 := []) (s2 := []) (h1 := h1) (h2 := h1) rfl rfl).trans (mm_ite ?_ ?_)
      · refine (mm_by 1 (pc' := 104) (ls' := [.ref 264, .null, .null, .int x3, .int x4, .int x5, .int x6, .null]) (st' := [.int x3]) (h' := h1) rfl).trans ?_
        refine (mm_br (c := ¬ x3 = 0) (p1 := 112) (p2 := 107) (l1 := [.ref 264, .null, .null, .int x3, .int x4, .int x5, .int x6, .null]) (l2 := [.ref 264, .null, .null, .int x3, .int x4, .int x5, .int x6, .null]) (s1 := []) (s2 := []) (h1 := h1) (h2 := h1) rfl rfl).trans (mm_ite ?_ ?_)
        · exact mm_by_end 2 rfl
        · exact mm_by_end 3 rfl
      · exact mm_by_end 3 rfl
    · refine (mm_by 2 (pc' := 58) (ls' := [.ref 264, .null, .null, .int x3, .int x4, .int x5, .int x6, .null]) (st' := [.int x6, .ref 264]) (h' := h1) rfl).trans ?_
      refine (mm_c1 (y := 273) (as := [.ref 264, .int x6]) (nx := 61) (rest := []) rfl rfl).trans (mm_congI fun v4 h3 => ?_)
      refine (mm_by 3 (pc' := 66) (ls' := [.ref 264, .null, .null, .int x3, .int x4, .int x5, .int x6, .int v4]) (st' := [.int ((-1)), .int x4]) (h' := h3) rfl).trans ?_
      refine (mm_br (c := x4 = ((-1))) (p1 := 79) (p2 := 69) (l1 := [.ref 264, .null, .null, .int x3, .int x4, .int x5, .int x6, .int v4]) (l2 := [.ref 264, .null, .null, .int x3, .int x4, .int x5, .int x6, .int v4]) (s1 := []) (s2 := []) (h1 := h3) (h2 := h3) rfl rfl).trans (mm_ite ?_ ?_)
      · exact mm_by 6 rfl
      · refine (mm_by 2 (pc' := 73) (ls' := [.ref 264, .null, .null, .int x3, .int x4, .int x5, .int x6, .int v4]) (st' := [.int x5, .int v4]) (h' := h3) rfl).trans ?_
        refine (mm_br (c := v4 < x5) (p1 := 79) (p2 := 76) (l1 := [.ref 264, .null, .null, .int x3, .int x4, .int x5, .int x6, .int v4]) (l2 := [.ref 264, .null, .null, .int x3, .int x4, .int x5, .int x6, .int v4]) (s1 := []) (s2 := []) (h1 := h3) (h2 := h3) rfl rfl).trans (mm_ite ?_ ?_)
        · exact mm_by 6 rfl
        · exact mm_by 3 rfl
set_option maxRecDepth 100000 in
set_option maxHeartbeats 4000000 in
theorem U_X12_keeps {d : Nat} {h : mm_H} : mm_M mm_T0 (d + 1) 275 [.ref 264] h = (mm_D (mm_M mm_T0 d) cd_X12_keeps 15 [.ref 264, .int 0] [] (wI h 264 74 (((h.1 264 74) + 1) - ((h.1 264 74) + 1) / 20 * 20))) := by
  refine (mm_M_eq (ls := [.ref 264, .null]) rfl (Nat.le_of_ble_eq_true rfl) rfl h).trans ?_
  exact mm_by 10 rfl
set_option maxRecDepth 100000 in
set_option maxHeartbeats 4000000 in
theorem U_X12_keeps_15 {d : Nat} {x1 : Int32} {h : mm_H} : mm_D (mm_M mm_T0 d) cd_X12_keeps 15 [.ref 264, .int x1] [] h = (if 210 ≤ x1 then (if 20 ≤ (h.1 264 73) then (some (none, h)) else (some (none, wI h 264 73 ((h.1 264 73) + 1)))) else (if x1 < 0 ∨ 210 ≤ x1.toNatClampNeg then none else (if ((210 * (h.1 264 74)) + x1) < 0 ∨ 4200 ≤ ((210 * (h.1 264 74)) + x1).toNatClampNeg then none else (mm_D (mm_M mm_T0 d) cd_X12_keeps 15 [.ref 264, .int (x1 + 1)] [] (wI h 306 (((210 * (h.1 264 74)) + x1).toNatClampNeg) (h.1 300 x1.toNatClampNeg)))))) := by
  refine (mm_by 2 (pc' := 19) (ls' := [.ref 264, .int x1]) (st' := [.int 210, .int x1]) (h' := h) rfl).trans ?_
  refine (mm_br (c := 210 ≤ x1) (p1 := 49) (p2 := 22) (l1 := [.ref 264, .int x1]) (l2 := [.ref 264, .int x1]) (s1 := []) (s2 := []) (h1 := h) (h2 := h) rfl rfl).trans (mm_ite ?_ ?_)
  · refine (mm_by 3 (pc' := 55) (ls' := [.ref 264, .int x1]) (st' := [.int 20, .int (h.1 264 73)]) (h' := h) rfl).trans ?_
    refine (mm_br (c := 20 ≤ (h.1 264 73)) (p1 := 68) (p2 := 58) (l1 := [.ref 264, .int x1]) (l2 := [.ref 264, .int x1]) (s1 := []) (s2 := []) (h1 := h) (h2 := h) rfl rfl).trans (mm_ite ?_ ?_)
    · exact mm_by_end 1 rfl
    · exact mm_by_end 7 rfl
  · refine (mm_by 11 (pc' := 41) (ls' := [.ref 264, .int x1]) (st' := [.int x1, .ref 300, .int ((210 * (h.1 264 74)) + x1), .ref 306]) (h' := h) rfl).trans ?_
    refine (mm_gd (c := x1 < 0 ∨ 210 ≤ x1.toNatClampNeg) (p1 := 42) (l1 := [.ref 264, .int x1]) (s1 := [.int (h.1 300 x1.toNatClampNeg), .int ((210 * (h.1 264 74)) + x1), .ref 306]) (h1 := h) rfl (q_iald (n := 210) rfl)).trans (mm_ite rfl ?_)
    refine (mm_gd (c := ((210 * (h.1 264 74)) + x1) < 0 ∨ 4200 ≤ ((210 * (h.1 264 74)) + x1).toNatClampNeg) (p1 := 43) (l1 := [.ref 264, .int x1]) (s1 := []) (h1 := wI h 306 (((210 * (h.1 264 74)) + x1).toNatClampNeg) (h.1 300 x1.toNatClampNeg)) rfl (q_iast (n := 4200) rfl)).trans (mm_ite rfl ?_)
    exact mm_by 2 rfl
set_option maxRecDepth 100000 in
set_option maxHeartbeats 4000000 in
theorem U_X12_undo {d : Nat} {h : mm_H} : mm_M mm_T0 (d + 1) 276 [.ref 264] h = (if ¬ (h.1 264 73) = 0 then (mm_D (mm_M mm_T0 d) cd_X12_undo 21 [.ref 264, .int 0] [] h) else (some (some (.int 0), wI h 266 4 ((h.1 266 4) + 1)))) := by
  refine (mm_M_eq (ls := [.ref 264, .null]) rfl (Nat.le_of_ble_eq_true rfl) rfl h).trans ?_
  refine (mm_by 2 (pc' := 4) (ls' := [.ref 264, .null]) (st' := [.int (h.1 264 73)]) (h' := h) rfl).trans ?_
  refine (mm_br (c := ¬ (h.1 264 73) = 0) (p1 := 19) (p2 := 7) (l1 := [.ref 264, .null]) (l2 := [.ref 264, .null]) (s1 := []) (s2 := []) (h1 := h) (h2 := h) rfl rfl).trans (mm_ite ?_ ?_)
  · exact mm_by 2 rfl
  · exact mm_by_end 10 rfl
set_option maxRecDepth 100000 in
set_option maxHeartbeats 4000000 in
theorem U_X12_undo_21 {d : Nat} {x1 : Int32} {h : mm_H} : mm_D (mm_M mm_T0 d) cd_X12_undo 21 [.ref 264, .int x1] [] h = (if 210 ≤ x1 then (some (some (.int 1), wI (wI h 264 74 ((((h.1 264 74) + 20) - 1) - (((h.1 264 74) + 20) - 1) / 20 * 20)) 264 73 (((wI h 264 74 ((((h.1 264 74) + 20) - 1) - (((h.1 264 74) + 20) - 1) / 20 * 20)).1 264 73) - 1))) else (if ((210 * (h.1 264 74)) + x1) < 0 ∨ 4200 ≤ ((210 * (h.1 264 74)) + x1).toNatClampNeg then none else (if x1 < 0 ∨ 210 ≤ x1.toNatClampNeg then none else (mm_D (mm_M mm_T0 d) cd_X12_undo 21 [.ref 264, .int (x1 + 1)] [] (wI h 300 x1.toNatClampNeg (h.1 306 ((210 * (h.1 264 74)) + x1).toNatClampNeg)))))) := by
  refine (mm_by 2 (pc' := 25) (ls' := [.ref 264, .int x1]) (st' := [.int 210, .int x1]) (h' := h) rfl).trans ?_
  refine (mm_br (c := 210 ≤ x1) (p1 := 55) (p2 := 28) (l1 := [.ref 264, .int x1]) (l2 := [.ref 264, .int x1]) (s1 := []) (s2 := []) (h1 := h) (h2 := h) rfl rfl).trans (mm_ite ?_ ?_)
  · exact mm_by_end 18 rfl
  · refine (mm_by 11 (pc' := 47) (ls' := [.ref 264, .int x1]) (st' := [.int ((210 * (h.1 264 74)) + x1), .ref 306, .int x1, .ref 300]) (h' := h) rfl).trans ?_
    refine (mm_gd (c := ((210 * (h.1 264 74)) + x1) < 0 ∨ 4200 ≤ ((210 * (h.1 264 74)) + x1).toNatClampNeg) (p1 := 48) (l1 := [.ref 264, .int x1]) (s1 := [.int (h.1 306 ((210 * (h.1 264 74)) + x1).toNatClampNeg), .int x1, .ref 300]) (h1 := h) rfl (q_iald (n := 4200) rfl)).trans (mm_ite rfl ?_)
    refine (mm_gd (c := x1 < 0 ∨ 210 ≤ x1.toNatClampNeg) (p1 := 49) (l1 := [.ref 264, .int x1]) (s1 := []) (h1 := wI h 300 x1.toNatClampNeg (h.1 306 ((210 * (h.1 264 74)) + x1).toNatClampNeg)) rfl (q_iast (n := 210) rfl)).trans (mm_ite rfl ?_)
    exact mm_by 2 rfl
set_option maxRecDepth 100000 in
set_option maxHeartbeats 4000000 in
theorem U_X12_isRefused {d : Nat} {h : mm_H} : mm_M mm_T0 (d + 1) 277 [.ref 264] h = (some (some (.int 0), wI h 266 2 ((h.1 266 2) + 1))) := by
  refine (mm_M_eq (ls := [.ref 264]) rfl (Nat.le_of_ble_eq_true rfl) rfl h).trans ?_
  exact mm_by_end 10 rfl
set_option maxRecDepth 100000 in
set_option maxHeartbeats 4000000 in
theorem U_X12_change {d : Nat} {x1 : Int32} {x2 : Int32} {h : mm_H} : mm_M mm_T0 (d + 1) 278 [.ref 264, .int x1, .int x2] h = (mm_bI (mm_M mm_T0 d 217 [.ref 264, .int x1] h) (fun v2 h1 => if v2 = 0 then (mm_bI (mm_M mm_T0 d 277 [.ref 264] h1) (fun v4 h3 => mm_zr v4 h3)) else (mm_bI (mm_M mm_T0 d 217 [.ref 264, .int x2] h1) (fun v6 h5 => if v6 = 0 then (mm_bI (mm_M mm_T0 d 277 [.ref 264] h5) (fun v8 h7 => mm_zr v8 h7)) else (if x1 = x2 then (mm_bI (mm_M mm_T0 d 277 [.ref 264] h5) (fun v10 h9 => mm_zr v10 h9)) else (mm_bI (mm_M mm_T0 d 224 [.ref 264, .int x1] h5) (fun v12 h11 => if ¬ v12 = ((-1)) then (mm_bV (mm_M mm_T0 d 275 [.ref 264] h11) (fun h13 => mm_bV (mm_M mm_T0 d 256 [.ref 264, .int x1, .int x2] h13) (fun h14 => some (some (.int 1), h14)))) else (mm_bI (mm_M mm_T0 d 224 [.ref 264, .int x2] h11) (fun v16 h15 => if ¬ v16 = ((-1)) then (mm_bV (mm_M mm_T0 d 275 [.ref 264] h15) (fun h17 => mm_bV (mm_M mm_T0 d 256 [.ref 264, .int x1, .int x2] h17) (fun h18 => some (some (.int 1), h18)))) else (mm_bI (mm_M mm_T0 d 277 [.ref 264] h15) (fun v20 h19 => mm_zr v20 h19))))))))))) := by
  refine (mm_M_eq (ls := [.ref 264, .int x1, .int x2]) rfl (Nat.le_of_ble_eq_true rfl) rfl h).trans ?_
  refine (mm_by 2 (pc' := 2) (ls' := [.ref 264, .int x1, .int x2]) (st' := [.int x1, .ref 264]) (h' := h) rfl).trans ?_
  refine (mm_c1 (y := 217) (as := [.ref 264, .int x1]) (nx := 5) (rest := []) rfl rfl).trans (mm_congI fun v2 h1 => ?_)
  refine (mm_br (c := v2 = 0) (p1 := 39) (p2 := 8) (l1 := [.ref 264, .int x1, .int x2]) (l2 := [.ref 264, .int x1, .int x2]) (s1 := []) (s2 := []) (h1 := h1) (h2 := h1) rfl rfl).trans (mm_ite ?_ ?_)
  · refine (mm_by 1 (pc' := 40) (ls' := [.ref 264, .int x1, .int x2]) (st' := [.ref 264]) (h' := h1) rfl).trans ?_
    refine (mm_c1 (y := 277) (as := [.ref 264]) (nx := 43) (rest := []) rfl rfl).trans (mm_congI fun v4 h3 => ?_)
    exact mm_zend rfl
  · refine (mm_by 2 (pc' := 10) (ls' := [.ref 264, .int x1, .int x2]) (st' := [.int x2, .ref 264]) (h' := h1) rfl).trans ?_
    refine (mm_c1 (y := 217) (as := [.ref 264, .int x2]) (nx := 13) (rest := []) rfl rfl).trans (mm_congI fun v6 h5 => ?_)
    refine (mm_br (c := v6 = 0) (p1 := 39) (p2 := 16) (l1 := [.ref 264, .int x1, .int x2]) (l2 := [.ref 264, .int x1, .int x2]) (s1 := []) (s2 := []) (h1 := h5) (h2 := h5) rfl rfl).trans (mm_ite ?_ ?_)
    · refine (mm_by 1 (pc' := 40) (ls' := [.ref 264, .int x1, .int x2]) (st' := [.ref 264]) (h' := h5) rfl).trans ?_
      refine (mm_c1 (y := 277) (as := [.ref 264]) (nx := 43) (rest := []) rfl rfl).trans (mm_congI fun v8 h7 => ?_)
      exact mm_zend rfl
    · refine (mm_by 2 (pc' := 18) (ls' := [.ref 264, .int x1, .int x2]) (st' := [.int x2, .int x1]) (h' := h5) rfl).trans ?_
      refine (mm_br (c := x1 = x2) (p1 := 39) (p2 := 21) (l1 := [.ref 264, .int x1, .int x2]) (l2 := [.ref 264, .int x1, .int x2]) (s1 := []) (s2 := []) (h1 := h5) (h2 := h5) rfl rfl).trans (mm_ite ?_ ?_)
      · refine (mm_by 1 (pc' := 40) (ls' := [.ref 264, .int x1, .int x2]) (st' := [.ref 264]) (h' := h5) rfl).trans ?_
        refine (mm_c1 (y := 277) (as := [.ref 264]) (nx := 43) (rest := []) rfl rfl).trans (mm_congI fun v10 h9 => ?_)
        exact mm_zend rfl
      · refine (mm_by 2 (pc' := 23) (ls' := [.ref 264, .int x1, .int x2]) (st' := [.int x1, .ref 264]) (h' := h5) rfl).trans ?_
        refine (mm_c1 (y := 224) (as := [.ref 264, .int x1]) (nx := 26) (rest := []) rfl rfl).trans (mm_congI fun v12 h11 => ?_)
        refine (mm_by 1 (pc' := 27) (ls' := [.ref 264, .int x1, .int x2]) (st' := [.int ((-1)), .int v12]) (h' := h11) rfl).trans ?_
        refine (mm_br (c := ¬ v12 = ((-1))) (p1 := 44) (p2 := 30) (l1 := [.ref 264, .int x1, .int x2]) (l2 := [.ref 264, .int x1, .int x2]) (s1 := []) (s2 := []) (h1 := h11) (h2 := h11) rfl rfl).trans (mm_ite ?_ ?_)
        · refine (mm_by 1 (pc' := 45) (ls' := [.ref 264, .int x1, .int x2]) (st' := [.ref 264]) (h' := h11) rfl).trans ?_
          refine (mm_c0 (y := 275) (as := [.ref 264]) (nx := 48) (rest := []) rfl rfl).trans (mm_congV fun h13 => ?_)
          refine (mm_by 3 (pc' := 51) (ls' := [.ref 264, .int x1, .int x2]) (st' := [.int x2, .int x1, .ref 264]) (h' := h13) rfl).trans ?_
          refine (mm_c0 (y := 256) (as := [.ref 264, .int x1, .int x2]) (nx := 54) (rest := []) rfl rfl).trans (mm_congV fun h14 => ?_)
          exact mm_by_end 2 rfl
        · refine (mm_by 2 (pc' := 32) (ls' := [.ref 264, .int x1, .int x2]) (st' := [.int x2, .ref 264]) (h' := h11) rfl).trans ?_
          refine (mm_c1 (y := 224) (as := [.ref 264, .int x2]) (nx := 35) (rest := []) rfl rfl).trans (mm_congI fun v16 h15 => ?_)
          refine (mm_by 1 (pc' := 36) (ls' := [.ref 264, .int x1, .int x2]) (st' := [.int ((-1)), .int v16]) (h' := h15) rfl).trans ?_
          refine (mm_br (c := ¬ v16 = ((-1))) (p1 := 44) (p2 := 39) (l1 := [.ref 264, .int x1, .int x2]) (l2 := [.ref 264, .int x1, .int x2]) (s1 := []) (s2 := []) (h1 := h15) (h2 := h15) rfl rfl).trans (mm_ite ?_ ?_)
          · refine (mm_by 1 (pc' := 45) (ls' := [.ref 264, .int x1, .int x2]) (st' := [.ref 264]) (h' := h15) rfl).trans ?_
            refine (mm_c0 (y := 275) (as := [.ref 264]) (nx := 48) (rest := []) rfl rfl).trans (mm_congV fun h17 => ?_)
            refine (mm_by 3 (pc' := 51) (ls' := [.ref 264, .int x1, .int x2]) (st' := [.int x2, .int x1, .ref 264]) (h' := h17) rfl).trans ?_
            refine (mm_c0 (y := 256) (as := [.ref 264, .int x1, .int x2]) (nx := 54) (rest := []) rfl rfl).trans (mm_congV fun h18 => ?_)
            exact mm_by_end 2 rfl
          · refine (mm_by 1 (pc' := 40) (ls' := [.ref 264, .int x1, .int x2]) (st' := [.ref 264]) (h' := h15) rfl).trans ?_
            refine (mm_c1 (y := 277) (as := [.ref 264]) (nx := 43) (rest := []) rfl rfl).trans (mm_congI fun v20 h19 => ?_)
            exact mm_zend rfl
