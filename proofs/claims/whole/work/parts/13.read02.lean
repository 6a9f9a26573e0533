set_option maxRecDepth 100000 in
set_option maxHeartbeats 4000000 in
theorem U_X6_unexpected {d : Nat} {h : mm_H} : mm_M mm_T0 (d + 1) 88 [.ref 3] h = (mm_bI (mm_M mm_T0 d 90 [.ref 3, .int 1, .int (h.1 3 2)] h) (fun v2 h1 => mm_zr v2 h1)) := by
  refine (mm_M_eq (ls := [.ref 3]) rfl (Nat.le_of_ble_eq_true rfl) rfl h).trans ?_
  refine (mm_by 4 (pc' := 6) (ls' := [.ref 3]) (st' := [.int (h.1 3 2), .int 1, .ref 3]) (h' := h) rfl).trans ?_
  refine (mm_c1 (y := 90) (as := [.ref 3, .int 1, .int (h.1 3 2)]) (nx := 9) (rest := []) rfl rfl).trans (mm_congI fun v2 h1 => ?_)
  exact mm_zend rfl
set_option maxRecDepth 100000 in
set_option maxHeartbeats 4000000 in
theorem U_X6_fail {d : Nat} {x1 : Int32} {h : mm_H} : mm_M mm_T0 (d + 1) 89 [.ref 3, .int x1] h = (mm_bI (mm_M mm_T0 d 90 [.ref 3, .int x1, .int (h.1 3 2)] h) (fun v2 h1 => mm_zr v2 h1)) := by
  refine (mm_M_eq (ls := [.ref 3, .int x1]) rfl (Nat.le_of_ble_eq_true rfl) rfl h).trans ?_
  refine (mm_by 4 (pc' := 6) (ls' := [.ref 3, .int x1]) (st' := [.int (h.1 3 2), .int x1, .ref 3]) (h' := h) rfl).trans ?_
  refine (mm_c1 (y := 90) (as := [.ref 3, .int x1, .int (h.1 3 2)]) (nx := 9) (rest := []) rfl rfl).trans (mm_congI fun v2 h1 => ?_)
  exact mm_zend rfl
set_option maxRecDepth 100000 in
set_option maxHeartbeats 4000000 in
theorem U_X6_failAt {d : Nat} {x1 : Int32} {x2 : Int32} {h : mm_H} : mm_M mm_T0 (d + 1) 90 [.ref 3, .int x1, .int x2] h = (some (some (.int 0), wI (wI h 3 5 x1) 3 6 x2)) := by
  refine (mm_M_eq (ls := [.ref 3, .int x1, .int x2]) rfl (Nat.le_of_ble_eq_true rfl) rfl h).trans ?_
  exact mm_by_end 8 rfl
set_option maxRecDepth 100000 in
set_option maxHeartbeats 4000000 in
theorem U_X6_afterBlanks {d : Nat} {x1 : Int32} {h : mm_H} : mm_M mm_T0 (d + 1) 91 [.ref 3, .int x1] h = (mm_D (mm_M mm_T0 d) cd_X6_afterBlanks 2 [.ref 3, .null, .int x1] [] h) := by
  refine (mm_M_eq (ls := [.ref 3, .int x1, .null]) rfl (Nat.le_of_ble_eq_true rfl) rfl h).trans ?_
  exact mm_by 2 rfl
set_option maxRecDepth 100000 in
set_option maxHeartbeats 4000000 in
theorem U_X6_afterBlanks_2 {d : Nat} {x2 : Int32} {h : mm_H} : mm_D (mm_M mm_T0 d) cd_X6_afterBlanks 2 [.ref 3, .null, .int x2] [] h = (mm_bI (mm_M mm_T0 d 125 [.ref 1] h) (fun v2 h1 => if v2 ≤ x2 then (some (some (.int x2), h1)) else (mm_bI (mm_M mm_T0 d 126 [.ref 1, .int x2] h1) (fun v4 h3 => mm_bI (mm_M mm_T0 d 96 [.int v4] h3) (fun v6 h5 => if v6 = 0 then (some (some (.int x2), h5)) else (mm_D (mm_M mm_T0 d) cd_X6_afterBlanks 2 [.ref 3, .null, .int (x2 + 1)] [] h5)))))) := by
  refine (mm_by 3 (pc' := 7) (ls' := [.ref 3, .null, .int x2]) (st' := [.ref 1, .int x2]) (h' := h) rfl).trans ?_
  refine (mm_c1 (y := 125) (as := [.ref 1]) (nx := 10) (rest := [.int x2]) rfl rfl).trans (mm_congI fun v2 h1 => ?_)
  refine (mm_br (c := v2 ≤ x2) (p1 := 33) (p2 := 13) (l1 := [.ref 3, .null, .int x2]) (l2 := [.ref 3, .null, .int x2]) (s1 := []) (s2 := []) (h1 := h1) (h2 := h1) rfl rfl).trans (mm_ite ?_ ?_)
  · exact mm_by_end 2 rfl
  · refine (mm_by 3 (pc' := 18) (ls' := [.ref 3, .null, .int x2]) (st' := [.int x2, .ref 1]) (h' := h1) rfl).trans ?_
    refine (mm_c1 (y := 126) (as := [.ref 1, .int x2]) (nx := 21) (rest := []) rfl rfl).trans (mm_congI fun v4 h3 => ?_)
    refine (mm_c1 (y := 96) (as := [.int v4]) (nx := 24) (rest := []) rfl rfl).trans (mm_congI fun v6 h5 => ?_)
    refine (mm_br (c := v6 = 0) (p1 := 33) (p2 := 27) (l1 := [.ref 3, .null, .int x2]) (l2 := [.ref 3, .null, .int x2]) (s1 := []) (s2 := []) (h1 := h5) (h2 := h5) rfl rfl).trans (mm_ite ?_ ?_)
    · exact mm_by_end 2 rfl
    · exact mm_by 2 rfl
set_option maxRecDepth 100000 in
set_option maxHeartbeats 4000000 in
theorem U_X6_afterLetters {d : Nat} {x1 : Int32} {h : mm_H} : mm_M mm_T0 (d + 1) 92 [.ref 3, .int x1] h = (mm_D (mm_M mm_T0 d) cd_X6_afterLetters 2 [.ref 3, .null, .int x1] [] h) := by
  refine (mm_M_eq (ls := [.ref 3, .int x1, .null]) rfl (Nat.le_of_ble_eq_true rfl) rfl h).trans ?_
  exact mm_by 2 rfl
set_option maxRecDepth 100000 in
set_option maxHeartbeats 4000000 in
theorem U_X6_afterLetters_2 {d : Nat} {x2 : Int32} {h : mm_H} : mm_D (mm_M mm_T0 d) cd_X6_afterLetters 2 [.ref 3, .null, .int x2] [] h = (mm_bI (mm_M mm_T0 d 125 [.ref 1] h) (fun v2 h1 => if v2 ≤ x2 then (some (some (.int x2), h1)) else (mm_bI (mm_M mm_T0 d 126 [.ref 1, .int x2] h1) (fun v4 h3 => mm_bI (mm_M mm_T0 d 97 [.int v4] h3) (fun v6 h5 => if v6 = 0 then (some (some (.int x2), h5)) else (mm_D (mm_M mm_T0 d) cd_X6_afterLetters 2 [.ref 3, .null, .int (x2 + 1)] [] h5)))))) := by
  refine (mm_by 3 (pc' := 7) (ls' := [.ref 3, .null, .int x2]) (st' := [.ref 1, .int x2]) (h' := h) rfl).trans ?_
  refine (mm_c1 (y := 125) (as := [.ref 1]) (nx := 10) (rest := [.int x2]) rfl rfl).trans (mm_congI fun v2 h1 => ?_)
  refine (mm_br (c := v2 ≤ x2) (p1 := 33) (p2 := 13) (l1 := [.ref 3, .null, .int x2]) (l2 := [.ref 3, .null, .int x2]) (s1 := []) (s2 := []) (h1 := h1) (h2 := h1) rfl rfl).trans (mm_ite ?_ ?_)
  · exact mm_by_end 2 rfl
  · refine (mm_by 3 (pc' := 18) (ls' := [.ref 3, .null, .int x2]) (st' := [.int x2, .ref 1]) (h' := h1) rfl).trans ?_
    refine (mm_c1 (y := 126) (as := [.ref 1, .int x2]) (nx := 21) (rest := []) rfl rfl).trans (mm_congI fun v4 h3 => ?_)
    refine (mm_c1 (y := 97) (as := [.int v4]) (nx := 24) (rest := []) rfl rfl).trans (mm_congI fun v6 h5 => ?_)
    refine (mm_br (c := v6 = 0) (p1 := 33) (p2 := 27) (l1 := [.ref 3, .null, .int x2]) (l2 := [.ref 3, .null, .int x2]) (s1 := []) (s2 := []) (h1 := h5) (h2 := h5) rfl rfl).trans (mm_ite ?_ ?_)
    · exact mm_by_end 2 rfl
    · exact mm_by 2 rfl
set_option maxRecDepth 100000 in
set_option maxHeartbeats 4000000 in
theorem U_X6_afterDigits {d : Nat} {x1 : Int32} {h : mm_H} : mm_M mm_T0 (d + 1) 93 [.ref 3, .int x1] h = (mm_D (mm_M mm_T0 d) cd_X6_afterDigits 2 [.ref 3, .null, .int x1] [] h) := by
  refine (mm_M_eq (ls := [.ref 3, .int x1, .null]) rfl (Nat.le_of_ble_eq_true rfl) rfl h).trans ?_
  exact mm_by 2 rfl
set_option maxRecDepth 100000 in
set_option maxHeartbeats 4000000 in
theorem U_X6_afterDigits_2 {d : Nat} {x2 : Int32} {h : mm_H} : mm_D (mm_M mm_T0 d) cd_X6_afterDigits 2 [.ref 3, .null, .int x2] [] h = (mm_bI (mm_M mm_T0 d 125 [.ref 1] h) (fun v2 h1 => if v2 ≤ x2 then (some (some (.int x2), h1)) else (mm_bI (mm_M mm_T0 d 126 [.ref 1, .int x2] h1) (fun v4 h3 => mm_bI (mm_M mm_T0 d 98 [.int v4] h3) (fun v6 h5 => if v6 = 0 then (some (some (.int x2), h5)) else (mm_D (mm_M mm_T0 d) cd_X6_afterDigits 2 [.ref 3, .null, .int (x2 + 1)] [] h5)))))) := by
  refine (mm_by 3 (pc' := 7) (ls' := [.ref 3, .null, .int x2]) (st' := [.ref 1, .int x2]) (h' := h) rfl).trans ?_
  refine (mm_c1 (y := 125) (as := [.ref 1]) (nx := 10) (rest := [.int x2]) rfl rfl).trans (mm_congI fun v2 h1 => ?_)
  refine (mm_br (c := v2 ≤ x2) (p1 := 33) (p2 := 13) (l1 := [.ref 3, .null, .int x2]) (l2 := [.ref 3, .null, .int x2]) (s1 := []) (s2 := []) (h1 := h1) (h2 := h1) rfl rfl).trans (mm_ite ?_ ?_)
  · exact mm_by_end 2 rfl
  · refine (mm_by 3 (pc' := 18) (ls' := [.ref 3, .null, .int x2]) (st' := [.int x2, .ref 1]) (h' := h1) rfl).trans ?_
    refine (mm_c1 (y := 126) (as := [.ref 1, .int x2]) (nx := 21) (rest := []) rfl rfl).trans (mm_congI fun v4 h3 => ?_)
    refine (mm_c1 (y := 98) (as := [.int v4]) (nx := 24) (rest := []) rfl rfl).trans (mm_congI fun v6 h5 => ?_)
    refine (mm_br (c := v6 = 0) (p1 := 33) (p2 := 27) (l1 := [.ref 3, .null, .int x2]) (l2 := [.ref 3, .null, .int x2]) (s1 := []) (s2 := []) (h1 := h5) (h2 := h5) rfl rfl).trans (mm_ite ?_ ?_)
    · exact mm_by_end 2 rfl
    · exact mm_by 2 rfl
set_option maxRecDepth 100000 in
set_option maxHeartbeats 4000000 in
theorem U_X6_wordFrom {d : Nat} {x1 : Int32} {x2 : Int32} {h : mm_H} : mm_M mm_T0 (d + 1) 94 [.ref 3, .int x1, .int x2] h = (mm_D (mm_M mm_T0 d) cd_X6_wordFrom 11 [.ref 3, .int x1, .int x2, .int 0, .int x1, .int 1, .int 0, .null] [] h) := by
  refine (mm_M_eq (ls := [.ref 3, .int x1, .int x2, .null, .null, .null, .null, .null]) rfl (Nat.le_of_ble_eq_true rfl) rfl h).trans ?_
  exact mm_by 8 rfl
set_option maxRecDepth 100000 in
set_option maxHeartbeats 4000000 in
theorem U_X6_wordFrom_11 {d : Nat} {x1 : Int32} {x2 : Int32} {x3 : Int32} {x4 : Int32} {x5 : Int32} {x6 : Int32} {h : mm_H} : mm_D (mm_M mm_T0 d) cd_X6_wordFrom 11 [.ref 3, .int x1, .int x2, .int x3, .int x4, .int x5, .int x6, .null] [] h = (mm_bI (mm_M mm_T0 d 0 [.ref 336] h) (fun v2 h1 => if v2 ≤ x6 then (some (some (.int ((-1))), h1)) else (mm_bI (mm_M mm_T0 d 1 [.ref 336, .int x6] h1) (fun v4 h3 => if v4 = 32 then (if x5 = 0 then (mm_D (mm_M mm_T0 d) cd_X6_wordFrom 11 [.ref 3, .int x1, .int x2, .int (x3 + 1), .int x1, .int 1, .int (x6 + 1), .null] [] h3) else (if ¬ x4 = x2 then (mm_D (mm_M mm_T0 d) cd_X6_wordFrom 11 [.ref 3, .int x1, .int x2, .int (x3 + 1), .int x1, .int 1, .int (x6 + 1), .null] [] h3) else (some (some (.int x3), h3)))) else (if x5 = 0 then (mm_D (mm_M mm_T0 d) cd_X6_wordFrom 11 [.ref 3, .int x1, .int x2, .int x3, .int (x4 + 1), .int 0, .int (x6 + 1), .null] [] h3) else (if x2 ≤ x4 then (mm_D (mm_M mm_T0 d) cd_X6_wordFrom 11 [.ref 3, .int x1, .int x2, .int x3, .int (x4 + 1), .int 0, .int (x6 + 1), .null] [] h3) else (mm_bI (mm_M mm_T0 d 126 [.ref 1, .int x4] h3) (fun v6 h5 => if ¬ v6 = v4 then (mm_D (mm_M mm_T0 d) cd_X6_wordFrom 11 [.ref 3, .int x1, .int x2, .int x3, .int (x4 + 1), .int 0, .int (x6 + 1), .null] [] h5) else (mm_D (mm_M mm_T0 d) cd_X6_wordFrom 11 [.ref 3, .int x1, .int x2, .int x3, .int (x4 + 1), .int 1, .int (x6 + 1), .null] [] h5))))))))) := by
  refine (mm_by 2 (pc' := 15) (ls' := [.ref 3, .int x1, .int x2, .int x3, .int x4, .int x5, .int x6, .null]) (st' := [.ref 336, .int x6]) (h' := h) rfl).trans ?_
  refine (mm_c1 (y := 0) (as := [.ref 336]) (nx := 18) (rest := [.int x6]) rfl rfl).trans (mm_congI fun v2 h1 => ?_)
  refine (mm_br (c := v2 ≤ x6) (p1 := 103) (p2 := 21) (l1 := [.ref 3, .int x1, .int x2, .int x3, .int x4, .int x5, .int x6, .null]) (l2 := [.ref 3, .int x1, .int x2, .int x3, .int x4, .int x5, .int x6, .null]) (s1 := []) (s2 := []) (h1 := h1) (h2 := h1) rfl rfl).trans (mm_ite ?_ ?_)
  · exact mm_by_end 2 rfl
  · refine (mm_by 2 (pc' := 25) (ls' := [.ref 3, .int x1, .int x2, .int x3, .int x4, .int x5, .int x6, .null]) (st' := [.int x6, .ref 336]) (h' := h1) rfl).trans ?_
    refine (mm_c1 (y := 1) (as := [.ref 336, .int x6]) (nx := 28) (rest := []) rfl rfl).trans (mm_congI fun v4 h3 => ?_)
    refine (mm_by 3 (pc' := 34) (ls' := [.ref 3, .int x1, .int x2, .int x3, .int x4, .int x5, .int x6, .int v4]) (st' := [.int 32, .int v4]) (h' := h3) rfl).trans ?_
    refine (mm_br (c := v4 = 32) (p1 := 75) (p2 := 37) (l1 := [.ref 3, .int x1, .int x2, .int x3, .int x4, .int x5, .int x6, .int v4]) (l2 := [.ref 3, .int x1, .int x2, .int x3, .int x4, .int x5, .int x6, .int v4]) (s1 := []) (s2 := []) (h1 := h3) (h2 := h3) rfl rfl).trans (mm_ite ?_ ?_)
    · refine (mm_by 1 (pc' := 77) (ls' := [.ref 3, .int x1, .int x2, .int x3, .int x4, .int x5, .int x6, .int v4]) (st' := [.int x5]) (h' := h3) rfl).trans ?_
      refine (mm_br (c := x5 = 0) (p1 := 88) (p2 := 80) (l1 := [.ref 3, .int x1, .int x2, .int x3, .int x4, .int x5, .int x6, .int v4]) (l2 := [.ref 3, .int x1, .int x2, .int x3, .int x4, .int x5, .int x6, .int v4]) (s1 := []) (s2 := []) (h1 := h3) (h2 := h3) rfl rfl).trans (mm_ite ?_ ?_)
      · exact mm_by 7 rfl
      · refine (mm_by 2 (pc' := 83) (ls' := [.ref 3, .int x1, .int x2, .int x3, .int x4, .int x5, .int x6, .int v4]) (st' := [.int x2, .int x4]) (h' := h3) rfl).trans ?_
        refine (mm_br (c := ¬ x4 = x2) (p1 := 88) (p2 := 86) (l1 := [.ref 3, .int x1, .int x2, .int x3, .int x4, .int x5, .int x6, .int v4]) (l2 := [.ref 3, .int x1, .int x2, .int x3, .int x4, .int x5, .int x6, .int v4]) (s1 := []) (s2 := []) (h1 := h3) (h2 := h3) rfl rfl).trans (mm_ite ?_ ?_)
        · exact mm_by 7 rfl
        · exact mm_by_end 2 rfl
    · refine (mm_by 1 (pc' := 39) (ls' := [.ref 3, .int x1, .int x2, .int x3, .int x4, .int x5, .int x6, .int v4]) (st' := [.int x5]) (h' := h3) rfl).trans ?_
      refine (mm_br (c := x5 = 0) (p1 := 66) (p2 := 42) (l1 := [.ref 3, .int x1, .int x2, .int x3, .int x4, .int x5, .int x6, .int v4]) (l2 := [.ref 3, .int x1, .int x2, .int x3, .int x4, .int x5, .int x6, .int v4]) (s1 := []) (s2 := []) (h1 := h3) (h2 := h3) rfl rfl).trans (mm_ite ?_ ?_)
      · exact mm_by 6 rfl
      · refine (mm_by 2 (pc' := 45) (ls' := [.ref 3, .int x1, .int x2, .int x3, .int x4, .int x5, .int x6, .int v4]) (st' := [.int x2, .int x4]) (h' := h3) rfl).trans ?_
        refine (mm_br (c := x2 ≤ x4) (p1 := 66) (p2 := 48) (l1 := [.ref 3, .int x1, .int x2, .int x3, .int x4, .int x5, .int x6, .int v4]) (l2 := [.ref 3, .int x1, .int x2, .int x3, .int x4, .int x5, .int x6, .int v4]) (s1 := []) (s2 := []) (h1 := h3) (h2 := h3) rfl rfl).trans (mm_ite ?_ ?_)
        · exact mm_by 6 rfl
        · refine (mm_by 3 (pc' := 54) (ls' := [.ref 3, .int x1, .int x2, .int x3, .int x4, .int x5, .int x6, .int v4]) (st' := [.int x4, .ref 1]) (h' := h3) rfl).trans ?_
          refine (mm_c1 (y := 126) (as := [.ref 1, .int x4]) (nx := 57) (rest := []) rfl rfl).trans (mm_congI fun v6 h5 => ?_)
          refine (mm_by 1 (pc' := 59) (ls' := [.ref 3, .int x1, .int x2, .int x3, .int x4, .int x5, .int x6, .int v4]) (st' := [.int v4, .int v6]) (h' := h5) rfl).trans ?_
          refine (mm_br (c := ¬ v6 = v4) (p1 := 66) (p2 := 62) (l1 := [.ref 3, .int x1, .int x2, .int x3, .int x4, .int x5, .int x6, .int v4]) (l2 := [.ref 3, .int x1, .int x2, .int x3, .int x4, .int x5, .int x6, .int v4]) (s1 := []) (s2 := []) (h1 := h5) (h2 := h5) rfl rfl).trans (mm_ite ?_ ?_)
          · exact mm_by 6 rfl
          · exact mm_by 7 rfl
set_option maxRecDepth 100000 in
set_option maxHeartbeats 4000000 in
theorem U_X6_numberFrom {d : Nat} {x1 : Int32} {x2 : Int32} {h : mm_H} : mm_M mm_T0 (d + 1) 95 [.ref 3, .int x1, .int x2] h = (mm_bI (mm_M mm_T0 d 11 [.int x2, .int (x1 + 4)] h) (fun v2 h1 => mm_D (mm_M mm_T0 d) cd_X6_numberFrom 14 [.ref 3, .null, .null, .int v2, .int 0, .int x1] [] h1)) := by
  refine (mm_M_eq (ls := [.ref 3, .int x1, .int x2, .null, .null, .null]) rfl (Nat.le_of_ble_eq_true rfl) rfl h).trans ?_
  refine (mm_by 4 (pc' := 4) (ls' := [.ref 3, .int x1, .int x2, .null, .null, .null]) (st' := [.int (x1 + 4), .int x2]) (h' := h) rfl).trans ?_
  refine (mm_c1 (y := 11) (as := [.int x2, .int (x1 + 4)]) (nx := 7) (rest := []) rfl rfl).trans (mm_congI fun v2 h1 => ?_)
  exact mm_by 5 rfl
set_option maxRecDepth 100000 in
set_option maxHeartbeats 4000000 in
theorem U_X6_numberFrom_14 {d : Nat} {x3 : Int32} {x4 : Int32} {x5 : Int32} {h : mm_H} : mm_D (mm_M mm_T0 d) cd_X6_numberFrom 14 [.ref 3, .null, .null, .int x3, .int x4, .int x5] [] h = (if x3 ≤ x5 then (some (some (.int x4), h)) else (mm_bI (mm_M mm_T0 d 126 [.ref 1, .int x5] h) (fun v2 h1 => mm_D (mm_M mm_T0 d) cd_X6_numberFrom 14 [.ref 3, .null, .null, .int x3, .int (((10 * x4) + v2) - 48), .int (x5 + 1)] [] h1))) := by
  refine (mm_by 2 (pc' := 17) (ls' := [.ref 3, .null, .null, .int x3, .int x4, .int x5]) (st' := [.int x3, .int x5]) (h' := h) rfl).trans ?_
  refine (mm_br (c := x3 ≤ x5) (p1 := 46) (p2 := 20) (l1 := [.ref 3, .null, .null, .int x3, .int x4, .int x5]) (l2 := [.ref 3, .null, .null, .int x3, .int x4, .int x5]) (s1 := []) (s2 := []) (h1 := h) (h2 := h) rfl rfl).trans (mm_ite ?_ ?_)
  · exact mm_by_end 2 rfl
  · refine (mm_by 6 (pc' := 31) (ls' := [.ref 3, .null, .null, .int x3, .int x4, .int x5]) (st' := [.int x5, .ref 1, .int (10 * x4)]) (h' := h) rfl).trans ?_
    refine (mm_c1 (y := 126) (as := [.ref 1, .int x5]) (nx := 34) (rest := [.int (10 * x4)]) rfl rfl).trans (mm_congI fun v2 h1 => ?_)
    exact mm_by 6 rfl
set_option maxRecDepth 100000 in
set_option maxHeartbeats 4000000 in
theorem U_X6_isBlank {d : Nat} {x0 : Int32} {h : mm_H} : mm_M mm_T0 (d + 1) 96 [.int x0] h = (if x0 = 10 then (some (some (.int 1), h)) else (if ¬ x0 = 32 then (some (some (.int 0), h)) else (some (some (.int 1), h)))) := by
  refine (mm_M_eq (ls := [.int x0]) rfl (Nat.le_of_ble_eq_true rfl) rfl h).trans ?_
  refine (mm_by 2 (pc' := 3) (ls' := [.int x0]) (st' := [.int 10, .int x0]) (h' := h) rfl).trans ?_
  refine (mm_br (c := x0 = 10) (p1 := 12) (p2 := 6) (l1 := [.int x0]) (l2 := [.int x0]) (s1 := []) (s2 := []) (h1 := h) (h2 := h) rfl rfl).trans (mm_ite ?_ ?_)
  · exact mm_by_end 3 rfl
  · refine (mm_by 2 (pc' := 9) (ls' := [.int x0]) (st' := [.int 32, .int x0]) (h' := h) rfl).trans ?_
    refine (mm_br (c := ¬ x0 = 32) (p1 := 16) (p2 := 12) (l1 := [.int x0]) (l2 := [.int x0]) (s1 := []) (s2 := []) (h1 := h) (h2 := h) rfl rfl).trans (mm_ite ?_ ?_)
    · exact mm_by_end 2 rfl
    · exact mm_by_end 3 rfl
set_option maxRecDepth 100000 in
set_option maxHeartbeats 4000000 in
theorem U_X6_isLetter {d : Nat} {x0 : Int32} {h : mm_H} : mm_M mm_T0 (d + 1) 97 [.int x0] h = (if x0 < 97 then (some (some (.int 0), h)) else (if 122 < x0 then (some (some (.int 0), h)) else (some (some (.int 1), h)))) := by
  refine (mm_M_eq (ls := [.int x0]) rfl (Nat.le_of_ble_eq_true rfl) rfl h).trans ?_
  refine (mm_by 2 (pc' := 3) (ls' := [.int x0]) (st' := [.int 97, .int x0]) (h' := h) rfl).trans ?_
  refine (mm_br (c := x0 < 97) (p1 := 16) (p2 := 6) (l1 := [.int x0]) (l2 := [.int x0]) (s1 := []) (s2 := []) (h1 := h) (h2 := h) rfl rfl).trans (mm_ite ?_ ?_)
  · exact mm_by_end 2 rfl
  · refine (mm_by 2 (pc' := 9) (ls' := [.int x0]) (st' := [.int 122, .int x0]) (h' := h) rfl).trans ?_
    refine (mm_br (c := 122 < x0) (p1 := 16) (p2 := 12) (l1 := [.int x0]) (l2 := [.int x0]) (s1 := []) (s2 := []) (h1 := h) (h2 := h) rfl rfl).trans (mm_ite ?_ ?_)
    · exact mm_by_end 2 rfl
    · exact mm_by_end 3 rfl
set_option maxRecDepth 100000 in
set_option maxHeartbeats 4000000 in
theorem U_X6_isDigit {d : Nat} {x0 : Int32} {h : mm_H} : mm_M mm_T0 (d + 1) 98 [.int x0] h = (if x0 < 48 then (some (some (.int 0), h)) else (if 57 < x0 then (some (some (.int 0), h)) else (some (some (.int 1), h)))) := by
  refine (mm_M_eq (ls := [.int x0]) rfl (Nat.le_of_ble_eq_true rfl) rfl h).trans ?_
  refine (mm_by 2 (pc' := 3) (ls' := [.int x0]) (st' := [.int 48, .int x0]) (h' := h) rfl).trans ?_
  refine (mm_br (c := x0 < 48) (p1 := 16) (p2 := 6) (l1 := [.int x0]) (l2 := [.int x0]) (s1 := []) (s2 := []) (h1 := h) (h2 := h) rfl rfl).trans (mm_ite ?_ ?_)
  · exact mm_by_end 2 rfl
  · refine (mm_by 2 (pc' := 9) (ls' := [.int x0]) (st' := [.int 57, .int x0]) (h' := h) rfl).trans ?_
    refine (mm_br (c := 57 < x0) (p1 := 16) (p2 := 12) (l1 := [.int x0]) (l2 := [.int x0]) (s1 := []) (s2 := []) (h1 := h) (h2 := h) rfl rfl).trans (mm_ite ?_ ?_)
    · exact mm_by_end 2 rfl
    · exact mm_by_end 3 rfl
set_option maxRecDepth 100000 in
set_option maxHeartbeats 4000000 in
theorem U_X7_clear {d : Nat} {s : Nat} {h : mm_H} (hs : mm_isS s) : mm_M mm_T0 (d + 1) 99 [.ref s] h = (mm_D (mm_M mm_T0 d) cd_X7_clear 22 [.ref s, .int 0] [] (wI (wI (wI (wI h s 8 0) s 9 0) s 10 0) s 11 0)) := by
  refine (mm_M_eq (ls := [.ref s, .null]) rfl (Nat.le_of_ble_eq_true rfl) rfl h).trans ?_
  refine (mm_by 2 (pc' := 2) (ls' := [.ref s, .null]) (st' := [.int 0, .ref s]) (h' := h) rfl).trans ?_
  refine (mm_go (pc' := 5) (ls' := [.ref s, .null]) (st' := []) (h' := wI h s 8 0) rfl (q_putI (isS_0 hs))).trans ?_
  refine (mm_by 2 (pc' := 7) (ls' := [.ref s, .null]) (st' := [.int 0, .ref s]) (h' := wI h s 8 0) rfl).trans ?_
  refine (mm_go (pc' := 10) (ls' := [.ref s, .null]) (st' := []) (h' := wI (wI h s 8 0) s 9 0) rfl (q_putI (isS_0 hs))).trans ?_
  refine (mm_by 2 (pc' := 12) (ls' := [.ref s, .null]) (st' := [.int 0, .ref s]) (h' := wI (wI h s 8 0) s 9 0) rfl).trans ?_
  refine (mm_go (pc' := 15) (ls' := [.ref s, .null]) (st' := []) (h' := wI (wI (wI h s 8 0) s 9 0) s 10 0) rfl (q_putI (isS_0 hs))).trans ?_
  refine (mm_by 2 (pc' := 17) (ls' := [.ref s, .null]) (st' := [.int 0, .ref s]) (h' := wI (wI (wI h s 8 0) s 9 0) s 10 0) rfl).trans ?_
  refine (mm_go (pc' := 20) (ls' := [.ref s, .null]) (st' := []) (h' := wI (wI (wI (wI h s 8 0) s 9 0) s 10 0) s 11 0) rfl (q_putI (isS_0 hs))).trans ?_
  exact mm_by 2 rfl
set_option maxRecDepth 100000 in
set_option maxHeartbeats 4000000 in
theorem U_X7_clear_22 {d : Nat} {s : Nat} {x1 : Int32} {h : mm_H} (hs : mm_isS s) : mm_D (mm_M mm_T0 d) cd_X7_clear 22 [.ref s, .int x1] [] h = (if 9 ≤ x1 then (some (none, h)) else (if x1 < 0 ∨ 9 ≤ x1.toNatClampNeg then none else (mm_D (mm_M mm_T0 d) cd_X7_clear 22 [.ref s, .int (x1 + 1)] [] (wI h (s + 7) x1.toNatClampNeg ((-1)))))) := by
  refine (mm_by 2 (pc' := 25) (ls' := [.ref s, .int x1]) (st' := [.int 9, .int x1]) (h' := h) rfl).trans ?_
  refine (mm_br (c := 9 ≤ x1) (p1 := 41) (p2 := 28) (l1 := [.ref s, .int x1]) (l2 := [.ref s, .int x1]) (s1 := []) (s2 := []) (h1 := h) (h2 := h) rfl rfl).trans (mm_ite ?_ ?_)
  · exact mm_by_end 1 rfl
  · refine (mm_by 1 (pc' := 29) (ls' := [.ref s, .int x1]) (st' := [.ref s]) (h' := h) rfl).trans ?_
    refine (mm_go (pc' := 32) (ls' := [.ref s, .int x1]) (st' := [.ref (s + 7)]) (h' := h) rfl (q_get (isS_0 hs))).trans ?_
    refine (mm_by 2 (pc' := 34) (ls' := [.ref s, .int x1]) (st' := [.int ((-1)), .int x1, .ref (s + 7)]) (h' := h) rfl).trans ?_
    refine (mm_gd (c := x1 < 0 ∨ 9 ≤ x1.toNatClampNeg) (p1 := 35) (l1 := [.ref s, .int x1]) (s1 := []) (h1 := wI h (s + 7) x1.toNatClampNeg ((-1))) rfl (q_iast (n := 9) (isS_7 hs))).trans (mm_ite rfl ?_)
    exact mm_by 2 rfl
set_option maxRecDepth 100000 in
set_option maxHeartbeats 4000000 in
theorem U_X7_copyFrom {d : Nat} {s : Nat} {s2 : Nat} {h : mm_H} (hs : mm_isS s) (hs2 : mm_isS s2) : mm_M mm_T0 (d + 1) 100 [.ref s, .ref s2] h = (some (none, wI (wI (wI (wI (wC (wC (wC (wC (wC (wC (wC (wC h (s2 + 1) (s + 1) 0 0 8) (s2 + 2) (s + 2) 0 0 8) (s2 + 3) (s + 3) 0 0 8) (s2 + 4) (s + 4) 0 0 8) (s2 + 5) (s + 5) 0 0 8) (s2 + 6) (s + 6) 0 0 64) (s2 + 7) (s + 7) 0 0 9) (s2 + 8) (s + 8) 0 0 40) s 8 ((wC (wC (wC (wC (wC (wC (wC (wC h (s2 + 1) (s + 1) 0 0 8) (s2 + 2) (s + 2) 0 0 8) (s2 + 3) (s + 3) 0 0 8) (s2 + 4) (s + 4) 0 0 8) (s2 + 5) (s + 5) 0 0 8) (s2 + 6) (s + 6) 0 0 64) (s2 + 7) (s + 7) 0 0 9) (s2 + 8) (s + 8) 0 0 40).1 s2 8)) s 9 ((wI (wC (wC (wC (wC (wC (wC (wC (wC h (s2 + 1) (s + 1) 0 0 8) (s2 + 2) (s + 2) 0 0 8) (s2 + 3) (s + 3) 0 0 8) (s2 + 4) (s + 4) 0 0 8) (s2 + 5) (s + 5) 0 0 8) (s2 + 6) (s + 6) 0 0 64) (s2 + 7) (s + 7) 0 0 9) (s2 + 8) (s + 8) 0 0 40) s 8 ((wC (wC (wC (wC (wC (wC (wC (wC h (s2 + 1) (s + 1) 0 0 8) (s2 + 2) (s + 2) 0 0 8) (s2 + 3) (s + 3) 0 0 8) (s2 + 4) (s + 4) 0 0 8) (s2 + 5) (s + 5) 0 0 8) (s2 + 6) (s + 6) 0 0 64) (s2 + 7) (s + 7) 0 0 9) (s2 + 8) (s + 8) 0 0 40).1 s2 8)).1 s2 9)) s 10 ((wI (wI (wC (wC (wC (wC (wC (wC (wC (wC h (s2 + 1) (s + 1) 0 0 8) (s2 + 2) (s + 2) 0 0 8) (s2 + 3) (s + 3) 0 0 8) (s2 + 4) (s + 4) 0 0 8) (s2 + 5) (s + 5) 0 0 8) (s2 + 6) (s + 6) 0 0 64) (s2 + 7) (s + 7) 0 0 9) (s2 + 8) (s + 8) 0 0 40) s 8 ((wC (wC (wC (wC (wC (wC (wC (wC h (s2 + 1) (s + 1) 0 0 8) (s2 + 2) (s + 2) 0 0 8) (s2 + 3) (s + 3) 0 0 8) (s2 + 4) (s + 4) 0 0 8) (s2 + 5) (s + 5) 0 0 8) (s2 + 6) (s + 6) 0 0 64) (s2 + 7) (s + 7) 0 0 9) (s2 + 8) (s + 8) 0 0 40).1 s2 8)) s 9 ((wI (wC (wC (wC (wC (wC (wC (wC (wC h (s2 + 1) (s + 1) 0 0 8) (s2 + 2) (s + 2) 0 0 8) (s2 + 3) (s + 3) 0 0 8) (s2 + 4) (s + 4) 0 0 8) (s2 + 5) (s + 5) 0 0 8) (s2 + 6) (s + 6) 0 0 64) (s2 + 7) (s + 7) 0 0 9) (s2 + 8) (s + 8) 0 0 40) s 8 ((wC (wC (wC (wC (wC (wC (wC (wC h (s2 + 1) (s + 1) 0 0 8) (s2 + 2) (s + 2) 0 0 8) (s2 + 3) (s + 3) 0 0 8) (s2 + 4) (s + 4) 0 0 8) (s2 + 5) (s + 5) 0 0 8) (s2 + 6) (s + 6) 0 0 64) (s2 + 7) (s + 7) 0 0 9) (s2 + 8) (s + 8) 0 0 40).1 s2 8)).1 s2 9)).1 s2 10)) s 11 ((wI (wI (wI (wC (wC (wC (wC (wC (wC (wC (wC h (s2 + 1) (s + 1) 0 0 8) (s2 + 2) (s + 2) 0 0 8) (s2 + 3) (s + 3) 0 0 8) (s2 + 4) (s + 4) 0 0 8) (s2 + 5) (s + 5) 0 0 8) (s2 + 6) (s + 6) 0 0 64) (s2 + 7) (s + 7) 0 0 9) (s2 + 8) (s + 8) 0 0 40) s 8 ((wC (wC (wC (wC (wC (wC (wC (wC h (s2 + 1) (s + 1) 0 0 8) (s2 + 2) (s + 2) 0 0 8) (s2 + 3) (s + 3) 0 0 8) (s2 + 4) (s + 4) 0 0 8) (s2 + 5) (s + 5) 0 0 8) (s2 + 6) (s + 6) 0 0 64) (s2 + 7) (s + 7) 0 0 9) (s2 + 8) (s + 8) 0 0 40).1 s2 8)) s 9 ((wI (wC (wC (wC (wC (wC (wC (wC (wC h (s2 + 1) (s + 1) 0 0 8) (s2 + 2) (s + 2) 0 0 8) (s2 + 3) (s + 3) 0 0 8) (s2 + 4) (s + 4) 0 0 8) (s2 + 5) (s + 5) 0 0 8) (s2 + 6) (s + 6) 0 0 64) (s2 + 7) (s + 7) 0 0 9) (s2 + 8) (s + 8) 0 0 40) s 8 ((wC (wC (wC (wC (wC (wC (wC (wC h (s2 + 1) (s + 1) 0 0 8) (s2 + 2) (s + 2) 0 0 8) (s2 + 3) (s + 3) 0 0 8) (s2 + 4) (s + 4) 0 0 8) (s2 + 5) (s + 5) 0 0 8) (s2 + 6) (s + 6) 0 0 64) (s2 + 7) (s + 7) 0 0 9) (s2 + 8) (s + 8) 0 0 40).1 s2 8)).1 s2 9)) s 10 ((wI (wI (wC (wC (wC (wC (wC (wC (wC (wC h (s2 + 1) (s + 1) 0 0 8) (s2 + 2) (s + 2) 0 0 8) (s2 + 3) (s + 3) 0 0 8) (s2 + 4) (s + 4) 0 0 8) (s2 + 5) (s + 5) 0 0 8) (s2 + 6) (s + 6) 0 0 64) (s2 + 7) (s + 7) 0 0 9) (s2 + 8) (s + 8) 0 0 40) s 8 ((wC (wC (wC (wC (wC (wC (wC (wC h (s2 + 1) (s + 1) 0 0 8) (s2 + 2) (s + 2) 0 0 8) (s2 + 3) (s + 3) 0 0 8) (s2 + 4) (s + 4) 0 0 8) (s2 + 5) (s + 5) 0 0 8) (s2 + 6) (s + 6) 0 0 64) (s2 + 7) (s + 7) 0 0 9) (s2 + 8) (s + 8) 0 0 40).1 s2 8)) s 9 ((wI (wC (wC (wC (wC (wC (wC (wC (wC h (s2 + 1) (s + 1) 0 0 8) (s2 + 2) (s + 2) 0 0 8) (s2 + 3) (s + 3) 0 0 8) (s2 + 4) (s + 4) 0 0 8) (s2 + 5) (s + 5) 0 0 8) (s2 + 6) (s + 6) 0 0 64) (s2 + 7) (s + 7) 0 0 9) (s2 + 8) (s + 8) 0 0 40) s 8 ((wC (wC (wC (wC (wC (wC (wC (wC h (s2 + 1) (s + 1) 0 0 8) (s2 + 2) (s + 2) 0 0 8) (s2 + 3) (s + 3) 0 0 8) (s2 + 4) (s + 4) 0 0 8) (s2 + 5) (s + 5) 0 0 8) (s2 + 6) (s + 6) 0 0 64) (s2 + 7) (s + 7) 0 0 9) (s2 + 8) (s + 8) 0 0 40).1 s2 8)).1 s2 9)).1 s2 10)).1 s2 11))) := by
  refine (mm_M_eq (ls := [.ref s, .ref s2]) rfl (Nat.le_of_ble_eq_true rfl) rfl h).trans ?_
  refine (mm_by 1 (pc' := 1) (ls' := [.ref s, .ref s2]) (st' := [.ref s2]) (h' := h) rfl).trans ?_
  refine (mm_go (pc' := 4) (ls' := [.ref s, .ref s2]) (st' := [.ref (s2 + 1)]) (h' := h) rfl (q_get (isS_0 hs2))).trans ?_
  refine (mm_by 2 (pc' := 6) (ls' := [.ref s, .ref s2]) (st' := [.ref s, .int 0, .ref (s2 + 1)]) (h' := h) rfl).trans ?_
  refine (mm_go (pc' := 9) (ls' := [.ref s, .ref s2]) (st' := [.ref (s + 1), .int 0, .ref (s2 + 1)]) (h' := h) rfl (q_get (isS_0 hs))).trans ?_
  refine (mm_by 2 (pc' := 12) (ls' := [.ref s, .ref s2]) (st' := [.int 8, .int 0, .ref (s + 1), .int 0, .ref (s2 + 1)]) (h' := h) rfl).trans ?_
  refine (mm_go (pc' := 15) (ls' := [.ref s, .ref s2]) (st' := []) (h' := wC h (s2 + 1) (s + 1) 0 0 8) rfl (q_copy (n0 := 8) (n1 := 8) (n := 8) (k := 8) (isS_1 hs) (isS_1 hs2) (by decide) (by decide) (Nat.le_of_ble_eq_true rfl))).trans ?_
  refine (mm_by 1 (pc' := 16) (ls' := [.ref s, .ref s2]) (st' := [.ref s2]) (h' := wC h (s2 + 1) (s + 1) 0 0 8) rfl).trans ?_
  refine (mm_go (pc' := 19) (ls' := [.ref s, .ref s2]) (st' := [.ref (s2 + 2)]) (h' := wC h (s2 + 1) (s + 1) 0 0 8) rfl (q_get (isS_0 hs2))).trans ?_
  refine (mm_by 2 (pc' := 21) (ls' := [.ref s, .ref s2]) (st' := [.ref s, .int 0, .ref (s2 + 2)]) (h' := wC h (s2 + 1) (s + 1) 0 0 8) rfl).trans ?_
  refine (mm_go (pc' := 24) (ls' := [.ref s, .ref s2]) (st' := [.ref (s + 2), .int 0, .ref (s2 + 2)]) (h' := wC h (s2 + 1) (s + 1) 0 0 8) rfl (q_get (isS_0 hs))).trans ?_
  refine (mm_by 2 (pc' := 27) (ls' := [.ref s, .ref s2]) (st' := [.int 8, .int 0, .ref (s + 2), .int 0, .ref (s2 + 2)]) (h' := wC h (s2 + 1) (s + 1) 0 0 8) rfl).trans ?_
  refine (mm_go (pc' := 30) (ls' := [.ref s, .ref s2]) (st' := []) (h' := wC (wC h (s2 + 1) (s + 1) 0 0 8) (s2 + 2) (s + 2) 0 0 8) rfl (q_copy (n0 := 8) (n1 := 8) (n := 8) (k := 8) (isS_2 hs) (isS_2 hs2) (by decide) (by decide) (Nat.le_of_ble_eq_true rfl))).trans ?_
  refine (mm_by 1 (pc' := 31) (ls' := [.ref s, .ref s2]) (st' := [.ref s2]) (h' := wC (wC h (s2 + 1) (s + 1) 0 0 8) (s2 + 2) (s + 2) 0 0 8) rfl).trans ?_
  refine (mm_go (pc' := 34) (ls' := [.ref s, .ref s2]) (st' := [.ref (s2 + 3)]) (h' := wC (wC h (s2 + 1) (s + 1) 0 0 8) (s2 + 2) (s + 2) 0 0 8) rfl (q_get (isS_0 hs2))).trans ?_
  refine (mm_by 2 (pc' := 36) (ls' := [.ref s, .ref s2]) (st' := [.ref s, .int 0, .ref (s2 + 3)]) (h' := wC (wC h (s2 + 1) (s + 1) 0 0 8) (s2 + 2) (s + 2) 0 0 8) rfl).trans ?_
  refine (mm_go (pc' := 39) (ls' := [.ref s, .ref s2]) (st' := [.ref (s + 3), .int 0, .ref (s2 + 3)]) (h' := wC (wC h (s2 + 1) (s + 1) 0 0 8) (s2 + 2) (s + 2) 0 0 8) rfl (q_get (isS_0 hs))).trans ?_
  refine (mm_by 2 (pc' := 42) (ls' := [.ref s, .ref s2]) (st' := [.int 8, .int 0, .ref (s + 3), .int 0, .ref (s2 + 3)]) (h' := wC (wC h (s2 + 1) (s + 1) 0 0 8) (s2 + 2) (s + 2) 0 0 8) rfl).trans ?_
  refine (mm_go (pc' := 45) (ls' := [.ref s, .ref s2]) (st' := []) (h' := wC (wC (wC h (s2 + 1) (s + 1) 0 0 8) (s2 + 2) (s + 2) 0 0 8) (s2 + 3) (s + 3) 0 0 8) rfl (q_copy (n0 := 8) (n1 := 8) (n := 8) (k := 8) (isS_3 hs) (isS_3 hs2) (by decide) (by decide) (Nat.le_of_ble_eq_true rfl))).trans ?_
  refine (mm_by 1 (pc' := 46) (ls' := [.ref s, .ref s2]) (st' := [.ref s2]) (h' := wC (wC (wC h (s2 + 1) (s + 1) 0 0 8) (s2 + 2) (s + 2) 0 0 8) (s2 + 3) (s + 3) 0 0 8) rfl).trans ?_
  refine (mm_go (pc' := 49) (ls' := [.ref s, .ref s2]) (st' := [.ref (s2 + 4)]) (h' := wC (wC (wC h (s2 + 1) (s + 1) 0 0 8) (s2 + 2) (s + 2) 0 0 8) (s2 + 3) (s + 3) 0 0 8) rfl (q_get (isS_0 hs2))).trans ?_
  refine (mm_by 2 (pc' := 51) (ls' := [.ref s, .ref s2]) (st' := [.ref s, .int 0, .ref (s2 + 4)]) (h' := wC (wC (wC h (s2 + 1) (s + 1) 0 0 8) (s2 + 2) (s + 2) 0 0 8) (s2 + 3) (s + 3) 0 0 8) rfl).trans ?_
  refine (mm_go (pc' := 54) (ls' := [.ref s, .ref s2]) (st' := [.ref (s + 4), .int 0, .ref (s2 + 4)]) (h' := wC (wC (wC h (s2 + 1) (s + 1) 0 0 8) (s2 + 2) (s + 2) 0 0 8) (s2 + 3) (s + 3) 0 0 8) rfl (q_get (isS_0 hs))).trans ?_
  refine (mm_by 2 (pc' := 57) (ls' := [.ref s, .ref s2]) (st' := [.int 8, .int 0, .ref (s + 4), .int 0, .ref (s2 + 4)]) (h' := wC (wC (wC h (s2 + 1) (s + 1) 0 0 8) (s2 + 2) (s + 2) 0 0 8) (s2 + 3) (s + 3) 0 0 8) rfl).trans ?_
  refine (mm_go (pc' := 60) (ls' := [.ref s, .ref s2]) (st' := []) (h' := wC (wC (wC (wC h (s2 + 1) (s + 1) 0 0 8) (s2 + 2) (s + 2) 0 0 8) (s2 + 3) (s + 3) 0 0 8) (s2 + 4) (s + 4) 0 0 8) rfl (q_copy (n0 := 8) (n1 := 8) (n := 8) (k := 8) (isS_4 hs) (isS_4 hs2) (by decide) (by decide) (Nat.le_of_ble_eq_true rfl))).trans ?_
  refine (mm_by 1 (pc' := 61) (ls' := [.ref s, .ref s2]) (st' := [.ref s2]) (h' := wC (wC (wC (wC h (s2 + 1) (s + 1) 0 0 8) (s2 + 2) (s + 2) 0 0 8) (s2 + 3) (s + 3) 0 0 8) (s2 + 4) (s + 4) 0 0 8) rfl).trans ?_
  refine (mm_go (pc' := 64) (ls' := [.ref s, .ref s2]) (st' := [.ref (s2 + 5)]) (h' := wC (wC (wC (wC h (s2 + 1) (s + 1) 0 0 8) (s2 + 2) (s + 2) 0 0 8) (s2 + 3) (s + 3) 0 0 8) (s2 + 4) (s + 4) 0 0 8) rfl (q_get (isS_0 hs2))).trans ?_
  refine (mm_by 2 (pc' := 66) (ls' := [.ref s, .ref s2]) (st' := [.ref s, .int 0, .ref (s2 + 5)]) (h' := wC (wC (wC (wC h (s2 + 1) (s + 1) 0 0 8) (s2 + 2) (s + 2) 0 0 8) (s2 + 3) (s + 3) 0 0 8) (s2 + 4) (s + 4) 0 0 8) rfl).trans ?_
  refine (mm_go (pc' := 69) (ls' := [.ref s, .ref s2]) (st' := [.ref (s + 5), .int 0, .ref (s2 + 5)]) (h' := wC (wC (wC (wC h (s2 + 1) (s + 1) 0 0 8) (s2 + 2) (s + 2) 0 0 8) (s2 + 3) (s + 3) 0 0 8) (s2 + 4) (s + 4) 0 0 8) rfl (q_get (isS_0 hs))).trans ?_
  refine (mm_by 2 (pc' := 72) (ls' := [.ref s, .ref s2]) (st' := [.int 8, .int 0, .ref (s + 5), .int 0, .ref (s2 + 5)]) (h' := wC (wC (wC (wC h (s2 + 1) (s + 1) 0 0 8) (s2 + 2) (s + 2) 0 0 8) (s2 + 3) (s + 3) 0 0 8) (s2 + 4) (s + 4) 0 0 8) rfl).trans ?_
  refine (mm_go (pc' := 75) (ls' := [.ref s, .ref s2]) (st' := []) (h' := wC (wC (wC (wC (wC h (s2 + 1) (s + 1) 0 0 8) (s2 + 2) (s + 2) 0 0 8) (s2 + 3) (s + 3) 0 0 8) (s2 + 4) (s + 4) 0 0 8) (s2 + 5) (s + 5) 0 0 8) rfl (q_copy (n0 := 8) (n1 := 8) (n := 8) (k := 8) (isS_5 hs) (isS_5 hs2) (by decide) (by decide) (Nat.le_of_ble_eq_true rfl))).trans ?_
  refine (mm_by 1 (pc' := 76) (ls' := [.ref s, .ref s2]) (st' := [.ref s2]) (h' := wC (wC (wC (wC (wC h (s2 + 1) (s + 1) 0 0 8) (s2 + 2) (s + 2) 0 0 8) (s2 + 3) (s + 3) 0 0 8) (s2 + 4) (s + 4) 0 0 8) (s2 + 5) (s + 5) 0 0 8) rfl).trans ?_
  refine (mm_go (pc' := 79) (ls' := [.ref s, .ref s2]) (st' := [.ref (s2 + 6)]) (h' := wC (wC (wC (wC (wC h (s2 + 1) (s + 1) 0 0 8) (s2 + 2) (s + 2) 0 0 8) (s2 + 3) (s + 3) 0 0 8) (s2 + 4) (s + 4) 0 0 8) (s2 + 5) (s + 5) 0 0 8) rfl (q_get (isS_0 hs2))).trans ?_
  refine (mm_by 2 (pc' := 81) (ls' := [.ref s, .ref s2]) (st' := [.ref s, .int 0, .ref (s2 + 6)]) (h' := wC (wC (wC (wC (wC h (s2 + 1) (s + 1) 0 0 8) (s2 + 2) (s + 2) 0 0 8) (s2 + 3) (s + 3) 0 0 8) (s2 + 4) (s + 4) 0 0 8) (s2 + 5) (s + 5) 0 0 8) rfl).trans ?_
  refine (mm_go (pc' := 84) (ls' := [.ref s, .ref s2]) (st' := [.ref (s + 6), .int 0, .ref (s2 + 6)]) (h' := wC (wC (wC (wC (wC h (s2 + 1) (s + 1) 0 0 8) (s2 + 2) (s + 2) 0 0 8) (s2 + 3) (s + 3) 0 0 8) (s2 + 4) (s + 4) 0 0 8) (s2 + 5) (s + 5) 0 0 8) rfl (q_get (isS_0 hs))).trans ?_
  refine (mm_by 2 (pc' := 87) (ls' := [.ref s, .ref s2]) (st' := [.int 64, .int 0, .ref (s + 6), .int 0, .ref (s2 + 6)]) (h' := wC (wC (wC (wC (wC h (s2 + 1) (s + 1) 0 0 8) (s2 + 2) (s + 2) 0 0 8) (s2 + 3) (s + 3) 0 0 8) (s2 + 4) (s + 4) 0 0 8) (s2 + 5) (s + 5) 0 0 8) rfl).trans ?_
  refine (mm_go (pc' := 90) (ls' := [.ref s, .ref s2]) (st' := []) (h' := wC (wC (wC (wC (wC (wC h (s2 + 1) (s + 1) 0 0 8) (s2 + 2) (s + 2) 0 0 8) (s2 + 3) (s + 3) 0 0 8) (s2 + 4) (s + 4) 0 0 8) (s2 + 5) (s + 5) 0 0 8) (s2 + 6) (s + 6) 0 0 64) rfl (q_copy (n0 := 64) (n1 := 64) (n := 64) (k := 64) (isS_6 hs) (isS_6 hs2) (by decide) (by decide) (Nat.le_of_ble_eq_true rfl))).trans ?_
  refine (mm_by 1 (pc' := 91) (ls' := [.ref s, .ref s2]) (st' := [.ref s2]) (h' := wC (wC (wC (wC (wC (wC h (s2 + 1) (s + 1) 0 0 8) (s2 + 2) (s + 2) 0 0 8) (s2 + 3) (s + 3) 0 0 8) (s2 + 4) (s + 4) 0 0 8) (s2 + 5) (s + 5) 0 0 8) (s2 + 6) (s + 6) 0 0 64) rfl).trans ?_
  refine (mm_go (pc' := 94) (ls' := [.ref s, .ref s2]) (st' := [.ref (s2 + 7)]) (h' := wC (wC (wC (wC (wC (wC h (s2 + 1) (s + 1) 0 0 8) (s2 + 2) (s + 2) 0 0 8) (s2 + 3) (s + 3) 0 0 8) (s2 + 4) (s + 4) 0 0 8) (s2 + 5) (s + 5) 0 0 8) (s2 + 6) (s + 6) 0 0 64) rfl (q_get (isS_0 hs2))).trans ?_
  refine (mm_by 2 (pc' := 96) (ls' := [.ref s, .ref s2]) (st' := [.ref s, .int 0, .ref (s2 + 7)]) (h' := wC (wC (wC (wC (wC (wC h (s2 + 1) (s + 1) 0 0 8) (s2 + 2) (s + 2) 0 0 8) (s2 + 3) (s + 3) 0 0 8) (s2 + 4) (s + 4) 0 0 8) (s2 + 5) (s + 5) 0 0 8) (s2 + 6) (s + 6) 0 0 64) rfl).trans ?_
  refine (mm_go (pc' := 99) (ls' := [.ref s, .ref s2]) (st' := [.ref (s + 7), .int 0, .ref (s2 + 7)]) (h' := wC (wC (wC (wC (wC (wC h (s2 + 1) (s + 1) 0 0 8) (s2 + 2) (s + 2) 0 0 8) (s2 + 3) (s + 3) 0 0 8) (s2 + 4) (s + 4) 0 0 8) (s2 + 5) (s + 5) 0 0 8) (s2 + 6) (s + 6) 0 0 64) rfl (q_get (isS_0 hs))).trans ?_
  refine (mm_by 2 (pc' := 102) (ls' := [.ref s, .ref s2]) (st' := [.int 9, .int 0, .ref (s + 7), .int 0, .ref (s2 + 7)]) (h' := wC (wC (wC (wC (wC (wC h (s2 + 1) (s + 1) 0 0 8) (s2 + 2) (s + 2) 0 0 8) (s2 + 3) (s + 3) 0 0 8) (s2 + 4) (s + 4) 0 0 8) (s2 + 5) (s + 5) 0 0 8) (s2 + 6) (s + 6) 0 0 64) rfl).trans ?_
  refine (mm_go (pc' := 105) (ls' := [.ref s, .ref s2]) (st' := []) (h' := wC (wC (wC (wC (wC (wC (wC h (s2 + 1) (s + 1) 0 0 8) (s2 + 2) (s + 2) 0 0 8) (s2 + 3) (s + 3) 0 0 8) (s2 + 4) (s + 4) 0 0 8) (s2 + 5) (s + 5) 0 0 8) (s2 + 6) (s + 6) 0 0 64) (s2 + 7) (s + 7) 0 0 9) rfl (q_copy (n0 := 9) (n1 := 9) (n := 9) (k := 9) (isS_7 hs) (isS_7 hs2) (by decide) (by decide) (Nat.le_of_ble_eq_true rfl))).trans ?_
  refine (mm_by 1 (pc' := 106) (ls' := [.ref s, .ref s2]) (st' := [.ref s2]) (h' := wC (wC (wC (wC (wC (wC (wC h (s2 + 1) (s + 1) 0 0 8) (s2 + 2) (s + 2) 0 0 8) (s2 + 3) (s + 3) 0 0 8) (s2 + 4) (s + 4) 0 0 8) (s2 + 5) (s + 5) 0 0 8) (s2 + 6) (s + 6) 0 0 64) (s2 + 7) (s + 7) 0 0 9) rfl).trans ?_
  refine (mm_go (pc' := 109) (ls' := [.ref s, .ref s2]) (st' := [.ref (s2 + 8)]) (h' := wC (wC (wC (wC (wC (wC (wC h (s2 + 1) (s + 1) 0 0 8) (s2 + 2) (s + 2) 0 0 8) (s2 + 3) (s + 3) 0 0 8) (s2 + 4) (s + 4) 0 0 8) (s2 + 5) (s + 5) 0 0 8) (s2 + 6) (s + 6) 0 0 64) (s2 + 7) (s + 7) 0 0 9) rfl (q_get (isS_0 hs2))).trans ?_
  refine (mm_by 2 (pc' := 111) (ls' := [.ref s, .ref s2]) (st' := [.ref s, .int 0, .ref (s2 + 8)]) (h' := wC (wC (wC (wC (wC (wC (wC h (s2 + 1) (s + 1) 0 0 8) (s2 + 2) (s + 2) 0 0 8) (s2 + 3) (s + 3) 0 0 8) (s2 + 4) (s + 4) 0 0 8) (s2 + 5) (s + 5) 0 0 8) (s2 + 6) (s + 6) 0 0 64) (s2 + 7) (s + 7) 0 0 9) rfl).trans ?_
  refine (mm_go (pc' := 114) (ls' := [.ref s, .ref s2]) (st' := [.ref (s + 8), .int 0, .ref (s2 + 8)]) (h' := wC (wC (wC (wC (wC (wC (wC h (s2 + 1) (s + 1) 0 0 8) (s2 + 2) (s + 2) 0 0 8) (s2 + 3) (s + 3) 0 0 8) (s2 + 4) (s + 4) 0 0 8) (s2 + 5) (s + 5) 0 0 8) (s2 + 6) (s + 6) 0 0 64) (s2 + 7) (s + 7) 0 0 9) rfl (q_get (isS_0 hs))).trans ?_
  refine (mm_by 2 (pc' := 117) (ls' := [.ref s, .ref s2]) (st' := [.int 40, .int 0, .ref (s + 8), .int 0, .ref (s2 + 8)]) (h' := wC (wC (wC (wC (wC (wC (wC h (s2 + 1) (s + 1) 0 0 8) (s2 + 2) (s + 2) 0 0 8) (s2 + 3) (s + 3) 0 0 8) (s2 + 4) (s + 4) 0 0 8) (s2 + 5) (s + 5) 0 0 8) (s2 + 6) (s + 6) 0 0 64) (s2 + 7) (s + 7) 0 0 9) rfl).trans ?_
  refine (mm_go (pc' := 120) (ls' := [.ref s, .ref s2]) (st' := []) (h' := wC (wC (wC (wC (wC (wC (wC (wC h (s2 + 1) (s + 1) 0 0 8) (s2 + 2) (s + 2) 0 0 8) (s2 + 3) (s + 3) 0 0 8) (s2 + 4) (s + 4) 0 0 8) (s2 + 5) (s + 5) 0 0 8) (s2 + 6) (s + 6) 0 0 64) (s2 + 7) (s + 7) 0 0 9) (s2 + 8) (s + 8) 0 0 40) rfl (q_copy (n0 := 40) (n1 := 40) (n := 40) (k := 40) (isS_8 hs) (isS_8 hs2) (by decide) (by decide) (Nat.le_of_ble_eq_true rfl))).trans ?_
  refine (mm_by 2 (pc' := 122) (ls' := [.ref s, .ref s2]) (st' := [.ref s2, .ref s]) (h' := wC (wC (wC (wC (wC (wC (wC (wC h (s2 + 1) (s + 1) 0 0 8) (s2 + 2) (s + 2) 0 0 8) (s2 + 3) (s + 3) 0 0 8) (s2 + 4) (s + 4) 0 0 8) (s2 + 5) (s + 5) 0 0 8) (s2 + 6) (s + 6) 0 0 64) (s2 + 7) (s + 7) 0 0 9) (s2 + 8) (s + 8) 0 0 40) rfl).trans ?_
  refine (mm_go (pc' := 125) (ls' := [.ref s, .ref s2]) (st' := [.int ((wC (wC (wC (wC (wC (wC (wC (wC h (s2 + 1) (s + 1) 0 0 8) (s2 + 2) (s + 2) 0 0 8) (s2 + 3) (s + 3) 0 0 8) (s2 + 4) (s + 4) 0 0 8) (s2 + 5) (s + 5) 0 0 8) (s2 + 6) (s + 6) 0 0 64) (s2 + 7) (s + 7) 0 0 9) (s2 + 8) (s + 8) 0 0 40).1 s2 8), .ref s]) (h' := wC (wC (wC (wC (wC (wC (wC (wC h (s2 + 1) (s + 1) 0 0 8) (s2 + 2) (s + 2) 0 0 8) (s2 + 3) (s + 3) 0 0 8) (s2 + 4) (s + 4) 0 0 8) (s2 + 5) (s + 5) 0 0 8) (s2 + 6) (s + 6) 0 0 64) (s2 + 7) (s + 7) 0 0 9) (s2 + 8) (s + 8) 0 0 40) rfl (q_get (isS_0 hs2))).trans ?_
  refine (mm_go (pc' := 128) (ls' := [.ref s, .ref s2]) (st' := []) (h' := wI (wC (wC (wC (wC (wC (wC (wC (wC h (s2 + 1) (s + 1) 0 0 8) (s2 + 2) (s + 2) 0 0 8) (s2 + 3) (s + 3) 0 0 8) (s2 + 4) (s + 4) 0 0 8) (s2 + 5) (s + 5) 0 0 8) (s2 + 6) (s + 6) 0 0 64) (s2 + 7) (s + 7) 0 0 9) (s2 + 8) (s + 8) 0 0 40) s 8 ((wC (wC (wC (wC (wC (wC (wC (wC h (s2 + 1) (s + 1) 0 0 8) (s2 + 2) (s + 2) 0 0 8) (s2 + 3) (s + 3) 0 0 8) (s2 + 4) (s + 4) 0 0 8) (s2 + 5) (s + 5) 0 0 8) (s2 + 6) (s + 6) 0 0 64) (s2 + 7) (s + 7) 0 0 9) (s2 + 8) (s + 8) 0 0 40).1 s2 8)) rfl (q_putI (isS_0 hs))).trans ?_
  refine (mm_by 2 (pc' := 130) (ls' := [.ref s, .ref s2]) (st' := [.ref s2, .ref s]) (h' := wI (wC (wC (wC (wC (wC (wC (wC (wC h (s2 + 1) (s + 1) 0 0 8) (s2 + 2) (s + 2) 0 0 8) (s2 + 3) (s + 3) 0 0 8) (s2 + 4) (s + 4) 0 0 8) (s2 + 5) (s + 5) 0 0 8) (s2 + 6) (s + 6) 0 0 64) (s2 + 7) (s + 7) 0 0 9) (s2 + 8) (s + 8) 0 0 40) s 8 ((wC (wC (wC (wC (wC (wC (wC (wC h (s2 + 1) (s + 1) 0 0 8) (s2 + 2) (s + 2) 0 0 8) (s2 + 3) (s + 3) 0 0 8) (s2 + 4) (s + 4) 0 0 8) (s2 + 5) (s + 5) 0 0 8) (s2 + 6) (s + 6) 0 0 64) (s2 + 7) (s + 7) 0 0 9) (s2 + 8) (s + 8) 0 0 40).1 s2 8)) rfl).trans ?_
  refine (mm_go (pc' := 133) (ls' := [.ref s, .ref s2]) (st' := [.int ((wI (wC (wC (wC (wC (wC (wC (wC (wC h (s2 + 1) (s + 1) 0 0 8) (s2 + 2) (s + 2) 0 0 8) (s2 + 3) (s + 3) 0 0 8) (s2 + 4) (s + 4) 0 0 8) (s2 + 5) (s + 5) 0 0 8) (s2 + 6) (s + 6) 0 0 64) (s2 + 7) (s + 7) 0 0 9) (s2 + 8) (s + 8) 0 0 40) s 8 ((wC (wC (wC (wC (wC (wC (wC (wC h (s2 + 1) (s + 1) 0 0 8) (s2 + 2) (s + 2) 0 0 8) (s2 + 3) (s + 3) 0 0 8) (s2 + 4) (s + 4) 0 0 8) (s2 + 5) (s + 5) 0 0 8) (s2 + 6) (s + 6) 0 0 64) (s2 + 7) (s + 7) 0 0 9) (s2 + 8) (s + 8) 0 0 40).1 s2 8)).1 s2 9), .ref s]) (h' := wI (wC (wC (wC (wC (wC (wC (wC (wC h (s2 + 1) (s + 1) 0 0 8) (s2 + 2) (s + 2) 0 0 8) (s2 + 3) (s + 3) 0 0 8) (s2 + 4) (s + 4) 0 0 8) (s2 + 5) (s + 5) 0 0 8) (s2 + 6) (s + 6) 0 0 64) (s2 + 7) (s + 7) 0 0 9) (s2 + 8) (s + 8) 0 0 40) s 8 ((wC (wC (wC (wC (wC (wC (wC (wC h (s2 + 1) (s + 1) 0 0 8) (s2 + 2) (s + 2) 0 0 8) (s2 + 3) (s + 3) 0 0 8) (s2 + 4) (s + 4) 0 0 8) (s2 + 5) (s + 5) 0 0 8) (s2 + 6) (s + 6) 0 0 64) (s2 + 7) (s + 7) 0 0 9) (s2 + 8) (s + 8) 0 0 40).1 s2 8)) rfl (q_get (isS_0 hs2))).trans ?_
  refine (mm_go (pc' := 136) (ls' := [.ref s, .ref s2]) (st' := []) (h' := wI (wI (wC (wC (wC (wC (wC (wC (wC (wC h (s2 + 1) (s + 1) 0 0 8) (s2 + 2) (s + 2) 0 0 8) (s2 + 3) (s + 3) 0 0 8) (s2 + 4) (s + 4) 0 0 8) (s2 + 5) (s + 5) 0 0 8) (s2 + 6) (s + 6) 0 0 64) (s2 + 7) (s + 7) 0 0 9) (s2 + 8) (s + 8) 0 0 40) s 8 ((wC (wC (wC (wC (wC (wC (wC (wC h (s2 + 1) (s + 1) 0 0 8) (s2 + 2) (s + 2) 0 0 8) (s2 + 3) (s + 3) 0 0 8) (s2 + 4) (s + 4) 0 0 8) (s2 + 5) (s + 5) 0 0 8) (s2 + 6) (s + 6) 0 0 64) (s2 + 7) (s + 7) 0 0 9) (s2 + 8) (s + 8) 0 0 40).1 s2 8)) s 9 ((wI (wC (wC (wC (wC (wC (wC (wC (wC h (s2 + 1) (s + 1) 0 0 8) (s2 + 2) (s + 2) 0 0 8) (s2 + 3) (s + 3) 0 0 8) (s2 + 4) (s + 4) 0 0 8) (s2 + 5) (s + 5) 0 0 8) (s2 + 6) (s + 6) 0 0 64) (s2 + 7) (s + 7) 0 0 9) (s2 + 8) (s + 8) 0 0 40) s 8 ((wC (wC (wC (wC (wC (wC (wC (wC h (s2 + 1) (s + 1) 0 0 8) (s2 + 2) (s + 2) 0 0 8) (s2 + 3) (s + 3) 0 0 8) (s2 + 4) (s + 4) 0 0 8) (s2 + 5) (s + 5) 0 0 8) (s2 + 6) (s + 6) 0 0 64) (s2 + 7) (s + 7) 0 0 9) (s2 + 8) (s + 8) 0 0 40).1 s2 8)).1 s2 9)) rfl (q_putI (isS_0 hs))).trans ?_
  refine (mm_by 2 (pc' := 138) (ls' := [.ref s, .ref s2]) (st' := [.ref s2, .ref s]) (h' := wI (wI (wC (wC (wC (wC (wC (wC (wC (wC h (s2 + 1) (s + 1) 0 0 8) (s2 + 2) (s + 2) 0 0 8) (s2 + 3) (s + 3) 0 0 8) (s2 + 4) (s + 4) 0 0 8) (s2 + 5) (s + 5) 0 0 8) (s2 + 6) (s + 6) 0 0 64) (s2 + 7) (s + 7) 0 0 9) (s2 + 8) (s + 8) 0 0 40) s 8 ((wC (wC (wC (wC (wC (wC (wC (wC h (s2 + 1) (s + 1) 0 0 8) (s2 + 2) (s + 2) 0 0 8) (s2 + 3) (s + 3) 0 0 8) (s2 + 4) (s + 4) 0 0 8) (s2 + 5) (s + 5) 0 0 8) (s2 + 6) (s + 6) 0 0 64) (s2 + 7) (s + 7) 0 0 9) (s2 + 8) (s + 8) 0 0 40).1 s2 8)) s 9 ((wI (wC (wC (wC (wC (wC (wC (wC (wC h (s2 + 1) (s + 1) 0 0 8) (s2 + 2) (s + 2) 0 0 8) (s2 + 3) (s + 3) 0 0 8) (s2 + 4) (s + 4) 0 0 8) (s2 + 5) (s + 5) 0 0 8) (s2 + 6) (s + 6) 0 0 64) (s2 + 7) (s + 7) 0 0 9) (s2 + 8) (s + 8) 0 0 40) s 8 ((wC (wC (wC (wC (wC (wC (wC (wC h (s2 + 1) (s + 1) 0 0 8) (s2 + 2) (s + 2) 0 0 8) (s2 + 3) (s + 3) 0 0 8) (s2 + 4) (s + 4) 0 0 8) (s2 + 5) (s + 5) 0 0 8) (s2 + 6) (s + 6) 0 0 64) (s2 + 7) (s + 7) 0 0 9) (s2 + 8) (s + 8) 0 0 40).1 s2 8)).1 s2 9)) rfl).trans ?_
  refine (mm_go (pc' := 141) (ls' := [.ref s, .ref s2]) (st' := [.int ((wI (wI (wC (wC (wC (wC (wC (wC (wC (wC h (s2 + 1) (s + 1) 0 0 8) (s2 + 2) (s + 2) 0 0 8) (s2 + 3) (s + 3) 0 0 8) (s2 + 4) (s + 4) 0 0 8) (s2 + 5) (s + 5) 0 0 8) (s2 + 6) (s + 6) 0 0 64) (s2 + 7) (s + 7) 0 0 9) (s2 + 8) (s + 8) 0 0 40) s 8 ((wC (wC (wC (wC (wC (wC (wC (wC h (s2 + 1) (s + 1) 0 0 8) (s2 + 2) (s + 2) 0 0 8) (s2 + 3) (s + 3) 0 0 8) (s2 + 4) (s + 4) 0 0 8) (s2 + 5) (s + 5) 0 0 8) (s2 + 6) (s + 6) 0 0 64) (s2 + 7) (s + 7) 0 0 9) (s2 + 8) (s + 8) 0 0 40).1 s2 8)) s 9 ((wI (wC (wC (wC (wC (wC (wC (wC (wC h (s2 + 1) (s + 1) 0 0 8) (s2 + 2) (s + 2) 0 0 8) (s2 + 3) (s + 3) 0 0 8) (s2 + 4) (s + 4) 0 0 8) (s2 + 5) (s + 5) 0 0 8) (s2 + 6) (s + 6) 0 0 64) (s2 + 7) (s + 7) 0 0 9) (s2 + 8) (s + 8) 0 0 40) s 8 ((wC (wC (wC (wC (wC (wC (wC (wC h (s2 + 1) (s + 1) 0 0 8) (s2 + 2) (s + 2) 0 0 8) (s2 + 3) (s + 3) 0 0 8) (s2 + 4) (s + 4) 0 0 8) (s2 + 5) (s + 5) 0 0 8) (s2 + 6) (s + 6) 0 0 64) (s2 + 7) (s + 7) 0 0 9) (s2 + 8) (s + 8) 0 0 40).1 s2 8)).1 s2 9)).1 s2 10), .ref s]) (h' := wI (wI (wC (wC (wC (wC (wC (wC (wC (wC h (s2 + 1) (s + 1) 0 0 8) (s2 + 2) (s + 2) 0 0 8) (s2 + 3) (s + 3) 0 0 8) (s2 + 4) (s + 4) 0 0 8) (s2 + 5) (s + 5) 0 0 8) (s2 + 6) (s + 6) 0 0 64) (s2 + 7) (s + 7) 0 0 9) (s2 + 8) (s + 8) 0 0 40) s 8 ((wC (wC (wC (wC (wC (wC (wC (wC h (s2 + 1) (s + 1) 0 0 8) (s2 + 2) (s + 2) 0 0 8) (s2 + 3) (s + 3) 0 0 8) (s2 + 4) (s + 4) 0 0 8) (s2 + 5) (s + 5) 0 0 8) (s2 + 6) (s + 6) 0 0 64) (s2 + 7) (s + 7) 0 0 9) (s2 + 8) (s + 8) 0 0 40).1 s2 8)) s 9 ((wI (wC (wC (wC (wC (wC (wC (wC (wC h (s2 + 1) (s + 1) 0 0 8) (s2 + 2) (s + 2) 0 0 8) (s2 + 3) (s + 3) 0 0 8) (s2 + 4) (s + 4) 0 0 8) (s2 + 5) (s + 5) 0 0 8) (s2 + 6) (s + 6) 0 0 64) (s2 + 7) (s + 7) 0 0 9) (s2 + 8) (s + 8) 0 0 40) s 8 ((wC (wC (wC (wC (wC (wC (wC (wC h (s2 + 1) (s + 1) 0 0 8) (s2 + 2) (s + 2) 0 0 8) (s2 + 3) (s + 3) 0 0 8) (s2 + 4) (s + 4) 0 0 8) (s2 + 5) (s + 5) 0 0 8) (s2 + 6) (s + 6) 0 0 64) (s2 + 7) (s + 7) 0 0 9) (s2 + 8) (s + 8) 0 0 40).1 s2 8)).1 s2 9)) rfl (q_get (isS_0 hs2))).trans ?_
  refine (mm_go (pc' := 144) (ls' := [.ref s, .ref s2]) (st' := []) (h' := wI (wI (wI (wC (wC (wC (wC (wC (wC (wC (wC h (s2 + 1) (s + 1) 0 0 8) (s2 + 2) (s + 2) 0 0 8) (s2 + 3) (s + 3) 0 0 8) (s2 + 4) (s + 4) 0 0 8) (s2 + 5) (s + 5) 0 0 8) (s2 + 6) (s + 6) 0 0 64) (s2 + 7) (s + 7) 0 0 9) (s2 + 8) (s + 8) 0 0 40) s 8 ((wC (wC (wC (wC (wC (wC (wC (wC h (s2 + 1) (s + 1) 0 0 8) (s2 + 2) (s + 2) 0 0 8) (s2 + 3) (s + 3) 0 0 8) (s2 + 4) (s + 4) 0 0 8) (s2 + 5) (s + 5) 0 0 8) (s2 + 6) (s + 6) 0 0 64) (s2 + 7) (s + 7) 0 0 9) (s2 + 8) (s + 8) 0 0 40).1 s2 8)) s 9 ((wI (wC (wC (wC (wC (wC (wC (wC (wC h (s2 + 1) (s + 1) 0 0 8) (s2 + 2) (s + 2) 0 0 8) (s2 + 3) (s + 3) 0 0 8) (s2 + 4) (s + 4) 0 0 8) (s2 + 5) (s + 5) 0 0 8) (s2 + 6) (s + 6) 0 0 64) (s2 + 7) (s + 7) 0 0 9) (s2 + 8) (s + 8) 0 0 40) s 8 ((wC (wC (wC (wC (wC (wC (wC (wC h (s2 + 1) (s + 1) 0 0 8) (s2 + 2) (s + 2) 0 0 8) (s2 + 3) (s + 3) 0 0 8) (s2 + 4) (s + 4) 0 0 8) (s2 + 5) (s + 5) 0 0 8) (s2 + 6) (s + 6) 0 0 64) (s2 + 7) (s + 7) 0 0 9) (s2 + 8) (s + 8) 0 0 40).1 s2 8)).1 s2 9)) s 10 ((wI (wI (wC (wC (wC (wC (wC (wC (wC (wC h (s2 + 1) (s + 1) 0 0 8) (s2 + 2) (s + 2) 0 0 8) (s2 + 3) (s + 3) 0 0 8) (s2 + 4) (s + 4) 0 0 8) (s2 + 5) (s + 5) 0 0 8) (s2 + 6) (s + 6) 0 0 64) (s2 + 7) (s + 7) 0 0 9) (s2 + 8) (s + 8) 0 0 40) s 8 ((wC (wC (wC (wC (wC (wC (wC (wC h (s2 + 1) (s + 1) 0 0 8) (s2 + 2) (s + 2) 0 0 8) (s2 + 3) (s + 3) 0 0 8) (s2 + 4) (s + 4) 0 0 8) (s2 + 5) (s + 5) 0 0 8) (s2 + 6) (s + 6) 0 0 64) (s2 + 7) (s + 7) 0 0 9) (s2 + 8) (s + 8) 0 0 40).1 s2 8)) s 9 ((wI (wC (wC (wC (wC (wC (wC (wC (wC h (s2 + 1) (s + 1) 0 0 8) (s2 + 2) (s + 2) 0 0 8) (s2 + 3) (s + 3) 0 0 8) (s2 + 4) (s + 4) 0 0 8) (s2 + 5) (s + 5) 0 0 8) (s2 + 6) (s + 6) 0 0 64) (s2 + 7) (s + 7) 0 0 9) (s2 + 8) (s + 8) 0 0 40) s 8 ((wC (wC (wC (wC (wC (wC (wC (wC h (s2 + 1) (s + 1) 0 0 8) (s2 + 2) (s + 2) 0 0 8) (s2 + 3) (s + 3) 0 0 8) (s2 + 4) (s + 4) 0 0 8) (s2 + 5) (s + 5) 0 0 8) (s2 + 6) (s + 6) 0 0 64) (s2 + 7) (s + 7) 0 0 9) (s2 + 8) (s + 8) 0 0 40).1 s2 8)).1 s2 9)).1 s2 10)) rfl (q_putI (isS_0 hs))).trans ?_
  refine (mm_by 2 (pc' := 146) (ls' := [.ref s, .ref s2]) (st' := [.ref s2, .ref s]) (h' := wI (wI (wI (wC (wC (wC (wC (wC (wC (wC (wC h (s2 + 1) (s + 1) 0 0 8) (s2 + 2) (s + 2) 0 0 8) (s2 + 3) (s + 3) 0 0 8) (s2 + 4) (s + 4) 0 0 8) (s2 + 5) (s + 5) 0 0 8) (s2 + 6) (s + 6) 0 0 64) (s2 + 7) (s + 7) 0 0 9) (s2 + 8) (s + 8) 0 0 40) s 8 ((wC (wC (wC (wC (wC (wC (wC (wC h (s2 + 1) (s + 1) 0 0 8) (s2 + 2) (s + 2) 0 0 8) (s2 + 3) (s + 3) 0 0 8) (s2 + 4) (s + 4) 0 0 8) (s2 + 5) (s + 5) 0 0 8) (s2 + 6) (s + 6) 0 0 64) (s2 + 7) (s + 7) 0 0 9) (s2 + 8) (s + 8) 0 0 40).1 s2 8)) s 9 ((wI (wC (wC (wC (wC (wC (wC (wC (wC h (s2 + 1) (s + 1) 0 0 8) (s2 + 2) (s + 2) 0 0 8) (s2 + 3) (s + 3) 0 0 8) (s2 + 4) (s + 4) 0 0 8) (s2 + 5) (s + 5) 0 0 8) (s2 + 6) (s + 6) 0 0 64) (s2 + 7) (s + 7) 0 0 9) (s2 + 8) (s + 8) 0 0 40) s 8 ((wC (wC (wC (wC (wC (wC (wC (wC h (s2 + 1) (s + 1) 0 0 8) (s2 + 2) (s + 2) 0 0 8) (s2 + 3) (s + 3) 0 0 8) (s2 + 4) (s + 4) 0 0 8) (s2 + 5) (s + 5) 0 0 8) (s2 + 6) (s + 6) 0 0 64) (s2 + 7) (s + 7) 0 0 9) (s2 + 8) (s + 8) 0 0 40).1 s2 8)).1 s2 9)) s 10 ((wI (wI (wC (wC (wC (wC (wC (wC (wC (wC h (s2 + 1) (s + 1) 0 0 8) (s2 + 2) (s + 2) 0 0 8) (s2 + 3) (s + 3) 0 0 8) (s2 + 4) (s + 4) 0 0 8) (s2 + 5) (s + 5) 0 0 8) (s2 + 6) (s + 6) 0 0 64) (s2 + 7) (s + 7) 0 0 9) (s2 + 8) (s + 8) 0 0 40) s 8 ((wC (wC (wC (wC (wC (wC (wC (wC h (s2 + 1) (s + 1) 0 0 8) (s2 + 2) (s + 2) 0 0 8) (s2 + 3) (s + 3) 0 0 8) (s2 + 4) (s + 4) 0 0 8) (s2 + 5) (s + 5) 0 0 8) (s2 + 6) (s + 6) 0 0 64) (s2 + 7) (s + 7) 0 0 9) (s2 + 8) (s + 8) 0 0 40).1 s2 8)) s 9 ((wI (wC (wC (wC (wC (wC (wC (wC (wC h (s2 + 1) (s + 1) 0 0 8) (s2 + 2) (s + 2) 0 0 8) (s2 + 3) (s + 3) 0 0 8) (s2 + 4) (s + 4) 0 0 8) (s2 + 5) (s + 5) 0 0 8) (s2 + 6) (s + 6) 0 0 64) (s2 + 7) (s + 7) 0 0 9) (s2 + 8) (s + 8) 0 0 40) s 8 ((wC (wC (wC (wC (wC (wC (wC (wC h (s2 + 1) (s + 1) 0 0 8) (s2 + 2) (s + 2) 0 0 8) (s2 + 3) (s + 3) 0 0 8) (s2 + 4) (s + 4) 0 0 8) (s2 + 5) (s + 5) 0 0 8) (s2 + 6) (s + 6) 0 0 64) (s2 + 7) (s + 7) 0 0 9) (s2 + 8) (s + 8) 0 0 40).1 s2 8)).1 s2 9)).1 s2 10)) rfl).trans ?_
  refine (mm_go (pc' := 149) (ls' := [.ref s, .ref s2]) (st' := [.int ((wI (wI (wI (wC (wC (wC (wC (wC (wC (wC (wC h (s2 + 1) (s + 1) 0 0 8) (s2 + 2) (s + 2) 0 0 8) (s2 + 3) (s + 3) 0 0 8) (s2 + 4) (s + 4) 0 0 8) (s2 + 5) (s + 5) 0 0 8) (s2 + 6) (s + 6) 0 0 64) (s2 + 7) (s + 7) 0 0 9) (s2 + 8) (s + 8) 0 0 40) s 8 ((wC (wC (wC (wC (wC (wC (wC (wC h (s2 + 1) (s + 1) 0 0 8) (s2 + 2) (s + 2) 0 0 8) (s2 + 3) (s + 3) 0 0 8) (s2 + 4) (s + 4) 0 0 8) (s2 + 5) (s + 5) 0 0 8) (s2 + 6) (s + 6) 0 0 64) (s2 + 7) (s + 7) 0 0 9) (s2 + 8) (s + 8) 0 0 40).1 s2 8)) s 9 ((wI (wC (wC (wC (wC (wC (wC (wC (wC h (s2 + 1) (s + 1) 0 0 8) (s2 + 2) (s + 2) 0 0 8) (s2 + 3) (s + 3) 0 0 8) (s2 + 4) (s + 4) 0 0 8) (s2 + 5) (s + 5) 0 0 8) (s2 + 6) (s + 6) 0 0 64) (s2 + 7) (s + 7) 0 0 9) (s2 + 8) (s + 8) 0 0 40) s 8 ((wC (wC (wC (wC (wC (wC (wC (wC h (s2 + 1) (s + 1) 0 0 8) (s2 + 2) (s + 2) 0 0 8) (s2 + 3) (s + 3) 0 0 8) (s2 + 4) (s + 4) 0 0 8) (s2 + 5) (s + 5) 0 0 8) (s2 + 6) (s + 6) 0 0 64) (s2 + 7) (s + 7) 0 0 9) (s2 + 8) (s + 8) 0 0 40).1 s2 8)).1 s2 9)) s 10 ((wI (wI (wC (wC (wC (wC (wC (wC (wC (wC h (s2 + 1) (s + 1) 0 0 8) (s2 + 2) (s + 2) 0 0 8) (s2 + 3) (s + 3) 0 0 8) (s2 + 4) (s + 4) 0 0 8) (s2 + 5) (s + 5) 0 0 8) (s2 + 6) (s + 6) 0 0 64) (s2 + 7) (s + 7) 0 0 9) (s2 + 8) (s + 8) 0 0 40) s 8 ((wC (wC (wC (wC (wC (wC (wC (wC h (s2 + 1) (s + 1) 0 0 8) (s2 + 2) (s + 2) 0 0 8) (s2 + 3) (s + 3) 0 0 8) (s2 + 4) (s + 4) 0 0 8) (s2 + 5) (s + 5) 0 0 8) (s2 + 6) (s + 6) 0 0 64) (s2 + 7) (s + 7) 0 0 9) (s2 + 8) (s + 8) 0 0 40).1 s2 8)) s 9 ((wI (wC (wC (wC (wC (wC (wC (wC (wC h (s2 + 1) (s + 1) 0 0 8) (s2 + 2) (s + 2) 0 0 8) (s2 + 3) (s + 3) 0 0 8) (s2 + 4) (s + 4) 0 0 8) (s2 + 5) (s + 5) 0 0 8) (s2 + 6) (s + 6) 0 0 64) (s2 + 7) (s + 7) 0 0 9) (s2 + 8) (s + 8) 0 0 40) s 8 ((wC (wC (wC (wC (wC (wC (wC (wC h (s2 + 1) (s + 1) 0 0 8) (s2 + 2) (s + 2) 0 0 8) (s2 + 3) (s + 3) 0 0 8) (s2 + 4) (s + 4) 0 0 8) (s2 + 5) (s + 5) 0 0 8) (s2 + 6) (s + 6) 0 0 64) (s2 + 7) (s + 7) 0 0 9) (s2 + 8) (s + 8) 0 0 40).1 s2 8)).1 s2 9)).1 s2 10)).1 s2 11), .ref s]) (h' := wI (wI (wI (wC (wC (wC (wC (wC (wC (wC (wC h (s2 + 1) (s + 1) 0 0 8) (s2 + 2) (s + 2) 0 0 8) (s2 + 3) (s + 3) 0 0 8) (s2 + 4) (s + 4) 0 0 8) (s2 + 5) (s + 5) 0 0 8) (s2 + 6) (s + 6) 0 0 64) (s2 + 7) (s + 7) 0 0 9) (s2 + 8) (s + 8) 0 0 40) s 8 ((wC (wC (wC (wC (wC (wC (wC (wC h (s2 + 1) (s + 1) 0 0 8) (s2 + 2) (s + 2) 0 0 8) (s2 + 3) (s + 3) 0 0 8) (s2 + 4) (s + 4) 0 0 8) (s2 + 5) (s + 5) 0 0 8) (s2 + 6) (s + 6) 0 0 64) (s2 + 7) (s + 7) 0 0 9) (s2 + 8) (s + 8) 0 0 40).1 s2 8)) s 9 ((wI (wC (wC (wC (wC (wC (wC (wC (wC h (s2 + 1) (s + 1) 0 0 8) (s2 + 2) (s + 2) 0 0 8) (s2 + 3) (s + 3) 0 0 8) (s2 + 4) (s + 4) 0 0 8) (s2 + 5) (s + 5) 0 0 8) (s2 + 6) (s + 6) 0 0 64) (s2 + 7) (s + 7) 0 0 9) (s2 + 8) (s + 8) 0 0 40) s 8 ((wC (wC (wC (wC (wC (wC (wC (wC h (s2 + 1) (s + 1) 0 0 8) (s2 + 2) (s + 2) 0 0 8) (s2 + 3) (s + 3) 0 0 8) (s2 + 4) (s + 4) 0 0 8) (s2 + 5) (s + 5) 0 0 8) (s2 + 6) (s + 6) 0 0 64) (s2 + 7) (s + 7) 0 0 9) (s2 + 8) (s + 8) 0 0 40).1 s2 8)).1 s2 9)) s 10 ((wI (wI (wC (wC (wC (wC (wC (wC (wC (wC h (s2 + 1) (s + 1) 0 0 8) (s2 + 2) (s + 2) 0 0 8) (s2 + 3) (s + 3) 0 0 8) (s2 + 4) (s + 4) 0 0 8) (s2 + 5) (s + 5) 0 0 8) (s2 + 6) (s + 6) 0 0 64) (s2 + 7) (s + 7) 0 0 9) (s2 + 8) (s + 8) 0 0 40) s 8 ((wC (wC (wC (wC (wC (wC (wC (wC h (s2 + 1) (s + 1) 0 0 8) (s2 + 2) (s + 2) 0 0 8) (s2 + 3) (s + 3) 0 0 8) (s2 + 4) (s + 4) 0 0 8) (s2 + 5) (s + 5) 0 0 8) (s2 + 6) (s + 6) 0 0 64) (s2 + 7) (s + 7) 0 0 9) (s2 + 8) (s + 8) 0 0 40).1 s2 8)) s 9 ((wI (wC (wC (wC (wC (wC (wC (wC (wC h (s2 + 1) (s + 1) 0 0 8) (s2 + 2) (s + 2) 0 0 8) (s2 + 3) (s + 3) 0 0 8) (s2 + 4) (s + 4) 0 0 8) (s2 + 5) (s + 5) 0 0 8) (s2 + 6) (s + 6) 0 0 64) (s2 + 7) (s + 7) 0 0 9) (s2 + 8) (s + 8) 0 0 40) s 8 ((wC (wC (wC (wC (wC (wC (wC (wC h (s2 + 1) (s + 1) 0 0 8) (s2 + 2) (s + 2) 0 0 8) (s2 + 3) (s + 3) 0 0 8) (s2 + 4) (s + 4) 0 0 8) (s2 + 5) (s + 5) 0 0 8) (s2 + 6) (s + 6) 0 0 64) (s2 + 7) (s + 7) 0 0 9) (s2 + 8) (s + 8) 0 0 40).1 s2 8)).1 s2 9)).1 s2 10)) rfl (q_get (isS_0 hs2))).trans ?_
  refine (mm_go (pc' := 152) (ls' := [.ref s, .ref s2]) (st' := []) (h' := wI (wI (wI (wI (wC (wC (wC (wC (wC (wC (wC (wC h (s2 + 1) (s + 1) 0 0 8) (s2 + 2) (s + 2) 0 0 8) (s2 + 3) (s + 3) 0 0 8) (s2 + 4) (s + 4) 0 0 8) (s2 + 5) (s + 5) 0 0 8) (s2 + 6) (s + 6) 0 0 64) (s2 + 7) (s + 7) 0 0 9) (s2 + 8) (s + 8) 0 0 40) s 8 ((wC (wC (wC (wC (wC (wC (wC (wC h (s2 + 1) (s + 1) 0 0 8) (s2 + 2) (s + 2) 0 0 8) (s2 + 3) (s + 3) 0 0 8) (s2 + 4) (s + 4) 0 0 8) (s2 + 5) (s + 5) 0 0 8) (s2 + 6) (s + 6) 0 0 64) (s2 + 7) (s + 7) 0 0 9) (s2 + 8) (s + 8) 0 0 40).1 s2 8)) s 9 ((wI (wC (wC (wC (wC (wC (wC (wC (wC h (s2 + 1) (s + 1) 0 0 8) (s2 + 2) (s + 2) 0 0 8) (s2 + 3) (s + 3) 0 0 8) (s2 + 4) (s + 4) 0 0 8) (s2 + 5) (s + 5) 0 0 8) (s2 + 6) (s + 6) 0 0 64) (s2 + 7) (s + 7) 0 0 9) (s2 + 8) (s + 8) 0 0 40) s 8 ((wC (wC (wC (wC (wC (wC (wC (wC h (s2 + 1) (s + 1) 0 0 8) (s2 + 2) (s + 2) 0 0 8) (s2 + 3) (s + 3) 0 0 8) (s2 + 4) (s + 4) 0 0 8) (s2 + 5) (s + 5) 0 0 8) (s2 + 6) (s + 6) 0 0 64) (s2 + 7) (s + 7) 0 0 9) (s2 + 8) (s + 8) 0 0 40).1 s2 8)).1 s2 9)) s 10 ((wI (wI (wC (wC (wC (wC (wC (wC (wC (wC h (s2 + 1) (s + 1) 0 0 8) (s2 + 2) (s + 2) 0 0 8) (s2 + 3) (s + 3) 0 0 8) (s2 + 4) (s + 4) 0 0 8) (s2 + 5) (s + 5) 0 0 8) (s2 + 6) (s + 6) 0 0 64) (s2 + 7) (s + 7) 0 0 9) (s2 + 8) (s + 8) 0 0 40) s 8 ((wC (wC (wC (wC (wC (wC (wC (wC h (s2 + 1) (s + 1) 0 0 8) (s2 + 2) (s + 2) 0 0 8) (s2 + 3) (s + 3) 0 0 8) (s2 + 4) (s + 4) 0 0 8) (s2 + 5) (s + 5) 0 0 8) (s2 + 6) (s + 6) 0 0 64) (s2 + 7) (s + 7) 0 0 9) (s2 + 8) (s + 8) 0 0 40).1 s2 8)) s 9 ((wI (wC (wC (wC (wC (wC (wC (wC (wC h (s2 + 1) (s + 1) 0 0 8) (s2 + 2) (s + 2) 0 0 8) (s2 + 3) (s + 3) 0 0 8) (s2 + 4) (s + 4) 0 0 8) (s2 + 5) (s + 5) 0 0 8) (s2 + 6) (s + 6) 0 0 64) (s2 + 7) (s + 7) 0 0 9) (s2 + 8) (s + 8) 0 0 40) s 8 ((wC (wC (wC (wC (wC (wC (wC (wC h (s2 + 1) (s + 1) 0 0 8) (s2 + 2) (s + 2) 0 0 8) (s2 + 3) (s + 3) 0 0 8) (s2 + 4) (s + 4) 0 0 8) (s2 + 5) (s + 5) 0 0 8) (s2 + 6) (s + 6) 0 0 64) (s2 + 7) (s + 7) 0 0 9) (s2 + 8) (s + 8) 0 0 40).1 s2 8)).1 s2 9)).1 s2 10)) s 11 ((wI (wI (wI (wC (wC (wC (wC (wC (wC (wC (wC h (s2 + 1) (s + 1) 0 0 8) (s2 + 2) (s + 2) 0 0 8) (s2 + 3) (s + 3) 0 0 8) (s2 + 4) (s + 4) 0 0 8) (s2 + 5) (s + 5) 0 0 8) (s2 + 6) (s + 6) 0 0 64) (s2 + 7) (s + 7) 0 0 9) (s2 + 8) (s + 8) 0 0 40) s 8 ((wC (wC (wC (wC (wC (wC (wC (wC h (s2 + 1) (s + 1) 0 0 8) (s2 + 2) (s + 2) 0 0 8) (s2 + 3) (s + 3) 0 0 8) (s2 + 4) (s + 4) 0 0 8) (s2 + 5) (s + 5) 0 0 8) (s2 + 6) (s + 6) 0 0 64) (s2 + 7) (s + 7) 0 0 9) (s2 + 8) (s + 8) 0 0 40).1 s2 8)) s 9 ((wI (wC (wC (wC (wC (wC (wC (wC (wC h (s2 + 1) (s + 1) 0 0 8) (s2 + 2) (s + 2) 0 0 8) (s2 + 3) (s + 3) 0 0 8) (s2 + 4) (s + 4) 0 0 8) (s2 + 5) (s + 5) 0 0 8) (s2 + 6) (s + 6) 0 0 64) (s2 + 7) (s + 7) 0 0 9) (s2 + 8) (s + 8) 0 0 40) s 8 ((wC (wC (wC (wC (wC (wC (wC (wC h (s2 + 1) (s + 1) 0 0 8) (s2 + 2) (s + 2) 0 0 8) (s2 + 3) (s + 3) 0 0 8) (s2 + 4) (s + 4) 0 0 8) (s2 + 5) (s + 5) 0 0 8) (s2 + 6) (s + 6) 0 0 64) (s2 + 7) (s + 7) 0 0 9) (s2 + 8) (s + 8) 0 0 40).1 s2 8)).1 s2 9)) s 10 ((wI (wI (wC (wC (wC (wC (wC (wC (wC (wC h (s2 + 1) (s + 1) 0 0 8) (s2 + 2) (s + 2) 0 0 8) (s2 + 3) (s + 3) 0 0 8) (s2 + 4) (s + 4) 0 0 8) (s2 + 5) (s + 5) 0 0 8) (s2 + 6) (s + 6) 0 0 64) (s2 + 7) (s + 7) 0 0 9) (s2 + 8) (s + 8) 0 0 40) s 8 ((wC (wC (wC (wC (wC (wC (wC (wC h (s2 + 1) (s + 1) 0 0 8) (s2 + 2) (s + 2) 0 0 8) (s2 + 3) (s + 3) 0 0 8) (s2 + 4) (s + 4) 0 0 8) (s2 + 5) (s + 5) 0 0 8) (s2 + 6) (s + 6) 0 0 64) (s2 + 7) (s + 7) 0 0 9) (s2 + 8) (s + 8) 0 0 40).1 s2 8)) s 9 ((wI (wC (wC (wC (wC (wC (wC (wC (wC h (s2 + 1) (s + 1) 0 0 8) (s2 + 2) (s + 2) 0 0 8) (s2 + 3) (s + 3) 0 0 8) (s2 + 4) (s + 4) 0 0 8) (s2 + 5) (s + 5) 0 0 8) (s2 + 6) (s + 6) 0 0 64) (s2 + 7) (s + 7) 0 0 9) (s2 + 8) (s + 8) 0 0 40) s 8 ((wC (wC (wC (wC (wC (wC (wC (wC h (s2 + 1) (s + 1) 0 0 8) (s2 + 2) (s + 2) 0 0 8) (s2 + 3) (s + 3) 0 0 8) (s2 + 4) (s + 4) 0 0 8) (s2 + 5) (s + 5) 0 0 8) (s2 + 6) (s + 6) 0 0 64) (s2 + 7) (s + 7) 0 0 9) (s2 + 8) (s + 8) 0 0 40).1 s2 8)).1 s2 9)).1 s2 10)).1 s2 11)) rfl (q_putI (isS_0 hs))).trans ?_
  exact mm_by_end 1 rfl
set_option maxRecDepth 100000 in
set_option maxHeartbeats 4000000 in
theorem U_X7_isHouse {d : Nat} {s : Nat} {x1 : Int32} {h : mm_H} (hs : mm_isS s) : mm_M mm_T0 (d + 1) 101 [.ref s, .int x1] h = (if x1 < 0 then (some (some (.int 0), h)) else (if (h.1 s 9) ≤ x1 then (some (some (.int 0), h)) else (if 9 ≤ x1 then (some (some (.int 0), h)) else (some (some (.int 1), h))))) := by
  refine (mm_M_eq (ls := [.ref s, .int x1]) rfl (Nat.le_of_ble_eq_true rfl) rfl h).trans ?_
  refine (mm_by 1 (pc' := 1) (ls' := [.ref s, .int x1]) (st' := [.int x1]) (h' := h) rfl).trans ?_
  refine (mm_br (c := x1 < 0) (p1 := 22) (p2 := 4) (l1 := [.ref s, .int x1]) (l2 := [.ref s, .int x1]) (s1 := []) (s2 := []) (h1 := h) (h2 := h) rfl rfl).trans (mm_ite ?_ ?_)
  · exact mm_by_end 2 rfl
  · refine (mm_by 2 (pc' := 6) (ls' := [.ref s, .int x1]) (st' := [.ref s, .int x1]) (h' := h) rfl).trans ?_
    refine (mm_go (pc' := 9) (ls' := [.ref s, .int x1]) (st' := [.int (h.1 s 9), .int x1]) (h' := h) rfl (q_get (isS_0 hs))).trans ?_
    refine (mm_br (c := (h.1 s 9) ≤ x1) (p1 := 22) (p2 := 12) (l1 := [.ref s, .int x1]) (l2 := [.ref s, .int x1]) (s1 := []) (s2 := []) (h1 := h) (h2 := h) rfl rfl).trans (mm_ite ?_ ?_)
    · exact mm_by_end 2 rfl
    · refine (mm_by 2 (pc' := 15) (ls' := [.ref s, .int x1]) (st' := [.int 9, .int x1]) (h' := h) rfl).trans ?_
      refine (mm_br (c := 9 ≤ x1) (p1 := 22) (p2 := 18) (l1 := [.ref s, .int x1]) (l2 := [.ref s, .int x1]) (s1 := []) (s2 := []) (h1 := h) (h2 := h) rfl rfl).trans (mm_ite ?_ ?_)
      · exact mm_by_end 2 rfl
      · exact mm_by_end 3 rfl
set_option maxRecDepth 100000 in
set_option maxHeartbeats 4000000 in
theorem U_X7_isPerson {d : Nat} {s : Nat} {x1 : Int32} {h : mm_H} (hs : mm_isS s) : mm_M mm_T0 (d + 1) 102 [.ref s, .int x1] h = (if x1 < 0 then (some (some (.int 0), h)) else (if (h.1 s 10) ≤ x1 then (some (some (.int 0), h)) else (if 8 ≤ x1 then (some (some (.int 0), h)) else (some (some (.int 1), h))))) := by
  refine (mm_M_eq (ls := [.ref s, .int x1]) rfl (Nat.le_of_ble_eq_true rfl) rfl h).trans ?_
  refine (mm_by 1 (pc' := 1) (ls' := [.ref s, .int x1]) (st' := [.int x1]) (h' := h) rfl).trans ?_
  refine (mm_br (c := x1 < 0) (p1 := 22) (p2 := 4) (l1 := [.ref s, .int x1]) (l2 := [.ref s, .int x1]) (s1 := []) (s2 := []) (h1 := h) (h2 := h) rfl rfl).trans (mm_ite ?_ ?_)
  · exact mm_by_end 2 rfl
  · refine (mm_by 2 (pc' := 6) (ls' := [.ref s, .int x1]) (st' := [.ref s, .int x1]) (h' := h) rfl).trans ?_
    refine (mm_go (pc' := 9) (ls' := [.ref s, .int x1]) (st' := [.int (h.1 s 10), .int x1]) (h' := h) rfl (q_get (isS_0 hs))).trans ?_
    refine (mm_br (c := (h.1 s 10) ≤ x1) (p1 := 22) (p2 := 12) (l1 := [.ref s, .int x1]) (l2 := [.ref s, .int x1]) (s1 := []) (s2 := []) (h1 := h) (h2 := h) rfl rfl).trans (mm_ite ?_ ?_)
    · exact mm_by_end 2 rfl
    · refine (mm_by 2 (pc' := 15) (ls' := [.ref s, .int x1]) (st' := [.int 8, .int x1]) (h' := h) rfl).trans ?_
      refine (mm_br (c := 8 ≤ x1) (p1 := 22) (p2 := 18) (l1 := [.ref s, .int x1]) (l2 := [.ref s, .int x1]) (s1 := []) (s2 := []) (h1 := h) (h2 := h) rfl rfl).trans (mm_ite ?_ ?_)
      · exact mm_by_end 2 rfl
      · exact mm_by_end 3 rfl
set_option maxRecDepth 100000 in
set_option maxHeartbeats 4000000 in
theorem U_X7_arePair {d : Nat} {s : Nat} {x1 : Int32} {x2 : Int32} {h : mm_H} (hs : mm_isS s) : mm_M mm_T0 (d + 1) 103 [.ref s, .int x1, .int x2] h = (mm_bI (mm_M mm_T0 d 102 [.ref s, .int x1] h) (fun v2 h1 => if v2 = 0 then (some (some (.int 0), h1)) else (mm_bI (mm_M mm_T0 d 102 [.ref s, .int x2] h1) (fun v4 h3 => if v4 = 0 then (some (some (.int 0), h3)) else (if x1 = x2 then (some (some (.int 0), h3)) else (some (some (.int 1), h3))))))) := by
  refine (mm_M_eq (ls := [.ref s, .int x1, .int x2]) rfl (Nat.le_of_ble_eq_true rfl) rfl h).trans ?_
  refine (mm_by 2 (pc' := 2) (ls' := [.ref s, .int x1, .int x2]) (st' := [.int x1, .ref s]) (h' := h) rfl).trans ?_
  refine (mm_c1 (y := 102) (as := [.ref s, .int x1]) (nx := 5) (rest := []) rfl (if_pos ⟨(isS_0 hs), Nat.le_of_ble_eq_true rfl⟩)).trans (mm_congI fun v2 h1 => ?_)
  refine (mm_br (c := v2 = 0) (p1 := 25) (p2 := 8) (l1 := [.ref s, .int x1, .int x2]) (l2 := [.ref s, .int x1, .int x2]) (s1 := []) (s2 := []) (h1 := h1) (h2 := h1) rfl rfl).trans (mm_ite ?_ ?_)
  · exact mm_by_end 2 rfl
  · refine (mm_by 2 (pc' := 10) (ls' := [.ref s, .int x1, .int x2]) (st' := [.int x2, .ref s]) (h' := h1) rfl).trans ?_
    refine (mm_c1 (y := 102) (as := [.ref s, .int x2]) (nx := 13) (rest := []) rfl (if_pos ⟨(isS_0 hs), Nat.le_of_ble_eq_true rfl⟩)).trans (mm_congI fun v4 h3 => ?_)
    refine (mm_br (c := v4 = 0) (p1 := 25) (p2 := 16) (l1 := [.ref s, .int x1, .int x2]) (l2 := [.ref s, .int x1, .int x2]) (s1 := []) (s2 := []) (h1 := h3) (h2 := h3) rfl rfl).trans (mm_ite ?_ ?_)
    · exact mm_by_end 2 rfl
    · refine (mm_by 2 (pc' := 18) (ls' := [.ref s, .int x1, .int x2]) (st' := [.int x2, .int x1]) (h' := h3) rfl).trans ?_
      refine (mm_br (c := x1 = x2) (p1 := 25) (p2 := 21) (l1 := [.ref s, .int x1, .int x2]) (l2 := [.ref s, .int x1, .int x2]) (s1 := []) (s2 := []) (h1 := h3) (h2 := h3) rfl rfl).trans (mm_ite ?_ ?_)
      · exact mm_by_end 2 rfl
      · exact mm_by_end 3 rfl
set_option maxRecDepth 100000 in
set_option maxHeartbeats 4000000 in
theorem U_X7_lodgerAt {d : Nat} {s : Nat} {x1 : Int32} {h : mm_H} (hs : mm_isS s) : mm_M mm_T0 (d + 1) 104 [.ref s, .int x1] h = (mm_bI (mm_M mm_T0 d 101 [.ref s, .int x1] h) (fun v2 h1 => if v2 = 0 then (some (some (.int ((-1))), h1)) else (if x1 < 0 ∨ 9 ≤ x1.toNatClampNeg then none else (some (some (.int (h1.1 (s + 7) x1.toNatClampNeg)), h1))))) := by
  refine (mm_M_eq (ls := [.ref s, .int x1]) rfl (Nat.le_of_ble_eq_true rfl) rfl h).trans ?_
  refine (mm_by 2 (pc' := 2) (ls' := [.ref s, .int x1]) (st' := [.int x1, .ref s]) (h' := h) rfl).trans ?_
  refine (mm_c1 (y := 101) (as := [.ref s, .int x1]) (nx := 5) (rest := []) rfl (if_pos ⟨(isS_0 hs), Nat.le_of_ble_eq_true rfl⟩)).trans (mm_congI fun v2 h1 => ?_)
  refine (mm_br (c := v2 = 0) (p1 := 17) (p2 := 8) (l1 := [.ref s, .int x1]) (l2 := [.ref s, .int x1]) (s1 := []) (s2 := []) (h1 := h1) (h2 := h1) rfl rfl).trans (mm_ite ?_ ?_)
  · exact mm_by_end 2 rfl
  · refine (mm_by 1 (pc' := 9) (ls' := [.ref s, .int x1]) (st' := [.ref s]) (h' := h1) rfl).trans ?_
    refine (mm_go (pc' := 12) (ls' := [.ref s, .int x1]) (st' := [.ref (s + 7)]) (h' := h1) rfl (q_get (isS_0 hs))).trans ?_
    refine (mm_by 1 (pc' := 13) (ls' := [.ref s, .int x1]) (st' := [.int x1, .ref (s + 7)]) (h' := h1) rfl).trans ?_
    refine (mm_gd (c := x1 < 0 ∨ 9 ≤ x1.toNatClampNeg) (p1 := 14) (l1 := [.ref s, .int x1]) (s1 := [.int (h1.1 (s + 7) x1.toNatClampNeg)]) (h1 := h1) rfl (q_iald (n := 9) (isS_7 hs))).trans (mm_ite rfl ?_)
    exact mm_by_end 2 rfl
set_option maxRecDepth 100000 in
set_option maxHeartbeats 4000000 in
theorem U_X7_homeOf {d : Nat} {s : Nat} {x1 : Int32} {h : mm_H} (hs : mm_isS s) : mm_M mm_T0 (d + 1) 105 [.ref s, .int x1] h = (mm_bI (mm_M mm_T0 d 102 [.ref s, .int x1] h) (fun v2 h1 => if v2 = 0 then (some (some (.int ((-1))), h1)) else (if x1 < 0 ∨ 8 ≤ x1.toNatClampNeg then none else (some (some (.int (h1.1 (s + 3) x1.toNatClampNeg)), h1))))) := by
  refine (mm_M_eq (ls := [.ref s, .int x1]) rfl (Nat.le_of_ble_eq_true rfl) rfl h).trans ?_
  refine (mm_by 2 (pc' := 2) (ls' := [.ref s, .int x1]) (st' := [.int x1, .ref s]) (h' := h) rfl).trans ?_
  refine (mm_c1 (y := 102) (as := [.ref s, .int x1]) (nx := 5) (rest := []) rfl (if_pos ⟨(isS_0 hs), Nat.le_of_ble_eq_true rfl⟩)).trans (mm_congI fun v2 h1 => ?_)
  refine (mm_br (c := v2 = 0) (p1 := 17) (p2 := 8) (l1 := [.ref s, .int x1]) (l2 := [.ref s, .int x1]) (s1 := []) (s2 := []) (h1 := h1) (h2 := h1) rfl rfl).trans (mm_ite ?_ ?_)
  · exact mm_by_end 2 rfl
  · refine (mm_by 1 (pc' := 9) (ls' := [.ref s, .int x1]) (st' := [.ref s]) (h' := h1) rfl).trans ?_
    refine (mm_go (pc' := 12) (ls' := [.ref s, .int x1]) (st' := [.ref (s + 3)]) (h' := h1) rfl (q_get (isS_0 hs))).trans ?_
    refine (mm_by 1 (pc' := 13) (ls' := [.ref s, .int x1]) (st' := [.int x1, .ref (s + 3)]) (h' := h1) rfl).trans ?_
    refine (mm_gd (c := x1 < 0 ∨ 8 ≤ x1.toNatClampNeg) (p1 := 14) (l1 := [.ref s, .int x1]) (s1 := [.int (h1.1 (s + 3) x1.toNatClampNeg)]) (h1 := h1) rfl (q_iald (n := 8) (isS_3 hs))).trans (mm_ite rfl ?_)
    exact mm_by_end 2 rfl
set_option maxRecDepth 100000 in
set_option maxHeartbeats 4000000 in
theorem U_X7_lookOf {d : Nat} {s : Nat} {x1 : Int32} {h : mm_H} (hs : mm_isS s) : mm_M mm_T0 (d + 1) 106 [.ref s, .int x1] h = (mm_bI (mm_M mm_T0 d 102 [.ref s, .int x1] h) (fun v2 h1 => if v2 = 0 then (some (some (.int 0), h1)) else (if x1 < 0 ∨ 8 ≤ x1.toNatClampNeg then none else (some (some (.int (h1.1 (s + 4) x1.toNatClampNeg)), h1))))) := by
  refine (mm_M_eq (ls := [.ref s, .int x1]) rfl (Nat.le_of_ble_eq_true rfl) rfl h).trans ?_
  refine (mm_by 2 (pc' := 2) (ls' := [.ref s, .int x1]) (st' := [.int x1, .ref s]) (h' := h) rfl).trans ?_
  refine (mm_c1 (y := 102) (as := [.ref s, .int x1]) (nx := 5) (rest := []) rfl (if_pos ⟨(isS_0 hs), Nat.le_of_ble_eq_true rfl⟩)).trans (mm_congI fun v2 h1 => ?_)
  refine (mm_br (c := v2 = 0) (p1 := 17) (p2 := 8) (l1 := [.ref s, .int x1]) (l2 := [.ref s, .int x1]) (s1 := []) (s2 := []) (h1 := h1) (h2 := h1) rfl rfl).trans (mm_ite ?_ ?_)
  · exact mm_by_end 2 rfl
  · refine (mm_by 1 (pc' := 9) (ls' := [.ref s, .int x1]) (st' := [.ref s]) (h' := h1) rfl).trans ?_
    refine (mm_go (pc' := 12) (ls' := [.ref s, .int x1]) (st' := [.ref (s + 4)]) (h' := h1) rfl (q_get (isS_0 hs))).trans ?_
    refine (mm_by 1 (pc' := 13) (ls' := [.ref s, .int x1]) (st' := [.int x1, .ref (s + 4)]) (h' := h1) rfl).trans ?_
    refine (mm_gd (c := x1 < 0 ∨ 8 ≤ x1.toNatClampNeg) (p1 := 14) (l1 := [.ref s, .int x1]) (s1 := [.int (h1.1 (s + 4) x1.toNatClampNeg)]) (h1 := h1) rfl (q_iald (n := 8) (isS_4 hs))).trans (mm_ite rfl ?_)
    exact mm_by_end 2 rfl
set_option maxRecDepth 100000 in
set_option maxHeartbeats 4000000 in
theorem U_X7_faceOf {d : Nat} {s : Nat} {x1 : Int32} {h : mm_H} (hs : mm_isS s) : mm_M mm_T0 (d + 1) 107 [.ref s, .int x1] h = (mm_bI (mm_M mm_T0 d 102 [.ref s, .int x1] h) (fun v2 h1 => if v2 = 0 then (some (some (.int 0), h1)) else (if x1 < 0 ∨ 8 ≤ x1.toNatClampNeg then none else (some (some (.int (h1.1 (s + 1) x1.toNatClampNeg)), h1))))) := by
  refine (mm_M_eq (ls := [.ref s, .int x1]) rfl (Nat.le_of_ble_eq_true rfl) rfl h).trans ?_
  refine (mm_by 2 (pc' := 2) (ls' := [.ref s, .int x1]) (st' := [.int x1, .ref s]) (h' := h) rfl).trans ?_
  refine (mm_c1 (y := 102) (as := [.ref s, .int x1]) (nx := 5) (rest := []) rfl (if_pos ⟨(isS_0 hs), Nat.le_of_ble_eq_true rfl⟩)).trans (mm_congI fun v2 h1 => ?_)
  refine (mm_br (c := v2 = 0) (p1 := 17) (p2 := 8) (l1 := [.ref s, .int x1]) (l2 := [.ref s, .int x1]) (s1 := []) (s2 := []) (h1 := h1) (h2 := h1) rfl rfl).trans (mm_ite ?_ ?_)
  · exact mm_by_end 2 rfl
  · refine (mm_by 1 (pc' := 9) (ls' := [.ref s, .int x1]) (st' := [.ref s]) (h' := h1) rfl).trans ?_
    refine (mm_go (pc' := 12) (ls' := [.ref s, .int x1]) (st' := [.ref (s + 1)]) (h' := h1) rfl (q_get (isS_0 hs))).trans ?_
    refine (mm_by 1 (pc' := 13) (ls' := [.ref s, .int x1]) (st' := [.int x1, .ref (s + 1)]) (h' := h1) rfl).trans ?_
    refine (mm_gd (c := x1 < 0 ∨ 8 ≤ x1.toNatClampNeg) (p1 := 14) (l1 := [.ref s, .int x1]) (s1 := [.int (h1.1 (s + 1) x1.toNatClampNeg)]) (h1 := h1) rfl (q_iald (n := 8) (isS_1 hs))).trans (mm_ite rfl ?_)
    exact mm_by_end 2 rfl
set_option maxRecDepth 100000 in
set_option maxHeartbeats 4000000 in
theorem U_X7_kindOf {d : Nat} {s : Nat} {x1 : Int32} {h : mm_H} (hs : mm_isS s) : mm_M mm_T0 (d + 1) 108 [.ref s, .int x1] h = (mm_bI (mm_M mm_T0 d 102 [.ref s, .int x1] h) (fun v2 h1 => if v2 = 0 then (some (some (.int 0), h1)) else (if x1 < 0 ∨ 8 ≤ x1.toNatClampNeg then none else (some (some (.int (h1.1 (s + 2) x1.toNatClampNeg)), h1))))) := by
  refine (mm_M_eq (ls := [.ref s, .int x1]) rfl (Nat.le_of_ble_eq_true rfl) rfl h).trans ?_
  refine (mm_by 2 (pc' := 2) (ls' := [.ref s, .int x1]) (st' := [.int x1, .ref s]) (h' := h) rfl).trans ?_
  refine (mm_c1 (y := 102) (as := [.ref s, .int x1]) (nx := 5) (rest := []) rfl (if_pos ⟨(isS_0 hs), Nat.le_of_ble_eq_true rfl⟩)).trans (mm_congI fun v2 h1 => ?_)
  refine (mm_br (c := v2 = 0) (p1 := 17) (p2 := 8) (l1 := [.ref s, .int x1]) (l2 := [.ref s, .int x1]) (s1 := []) (s2 := []) (h1 := h1) (h2 := h1) rfl rfl).trans (mm_ite ?_ ?_)
  · exact mm_by_end 2 rfl
  · refine (mm_by 1 (pc' := 9) (ls' := [.ref s, .int x1]) (st' := [.ref s]) (h' := h1) rfl).trans ?_
    refine (mm_go (pc' := 12) (ls' := [.ref s, .int x1]) (st' := [.ref (s + 2)]) (h' := h1) rfl (q_get (isS_0 hs))).trans ?_
    refine (mm_by 1 (pc' := 13) (ls' := [.ref s, .int x1]) (st' := [.int x1, .ref (s + 2)]) (h' := h1) rfl).trans ?_
    refine (mm_gd (c := x1 < 0 ∨ 8 ≤ x1.toNatClampNeg) (p1 := 14) (l1 := [.ref s, .int x1]) (s1 := [.int (h1.1 (s + 2) x1.toNatClampNeg)]) (h1 := h1) rfl (q_iald (n := 8) (isS_2 hs))).trans (mm_ite rfl ?_)
    exact mm_by_end 2 rfl
set_option maxRecDepth 100000 in
set_option maxHeartbeats 4000000 in
theorem U_X7_sparingOf {d : Nat} {s : Nat} {x1 : Int32} {h : mm_H} (hs : mm_isS s) : mm_M mm_T0 (d + 1) 109 [.ref s, .int x1] h = (mm_bI (mm_M mm_T0 d 102 [.ref s, .int x1] h) (fun v2 h1 => if v2 = 0 then (some (some (.int 0), h1)) else (if x1 < 0 ∨ 8 ≤ x1.toNatClampNeg then none else (some (some (.int (h1.1 (s + 5) x1.toNatClampNeg)), h1))))) := by
  refine (mm_M_eq (ls := [.ref s, .int x1]) rfl (Nat.le_of_ble_eq_true rfl) rfl h).trans ?_
  refine (mm_by 2 (pc' := 2) (ls' := [.ref s, .int x1]) (st' := [.int x1, .ref s]) (h' := h) rfl).trans ?_
  refine (mm_c1 (y := 102) (as := [.ref s, .int x1]) (nx := 5) (rest := []) rfl (if_pos ⟨(isS_0 hs), Nat.le_of_ble_eq_true rfl⟩)).trans (mm_congI fun v2 h1 => ?_)
  refine (mm_br (c := v2 = 0) (p1 := 17) (p2 := 8) (l1 := [.ref s, .int x1]) (l2 := [.ref s, .int x1]) (s1 := []) (s2 := []) (h1 := h1) (h2 := h1) rfl rfl).trans (mm_ite ?_ ?_)
  · exact mm_by_end 2 rfl
  · refine (mm_by 1 (pc' := 9) (ls' := [.ref s, .int x1]) (st' := [.ref s]) (h' := h1) rfl).trans ?_
    refine (mm_go (pc' := 12) (ls' := [.ref s, .int x1]) (st' := [.ref (s + 5)]) (h' := h1) rfl (q_get (isS_0 hs))).trans ?_
    refine (mm_by 1 (pc' := 13) (ls' := [.ref s, .int x1]) (st' := [.int x1, .ref (s + 5)]) (h' := h1) rfl).trans ?_
    refine (mm_gd (c := x1 < 0 ∨ 8 ≤ x1.toNatClampNeg) (p1 := 14) (l1 := [.ref s, .int x1]) (s1 := [.int (h1.1 (s + 5) x1.toNatClampNeg)]) (h1 := h1) rfl (q_iald (n := 8) (isS_5 hs))).trans (mm_ite rfl ?_)
    exact mm_by_end 2 rfl
set_option maxRecDepth 100000 in
set_option maxHeartbeats 4000000 in
theorem U_X7_thoughtOf {d : Nat} {s : Nat} {x1 : Int32} {x2 : Int32} {h : mm_H} (hs : mm_isS s) : mm_M mm_T0 (d + 1) 110 [.ref s, .int x1, .int x2] h = (if x1 < 0 then (some (some (.int 0), h)) else (if (h.1 s 10) ≤ x1 then (some (some (.int 0), h)) else (if x2 < 0 then (some (some (.int 0), h)) else (if (h.1 s 10) ≤ x2 then (some (some (.int 0), h)) else (if 8 < (h.1 s 10) then (some (some (.int 0), h)) else (if x1 = x2 then (some (some (.int 0), h)) else (if ((x1 * 8) + x2) < 0 ∨ 64 ≤ ((x1 * 8) + x2).toNatClampNeg then none else (some (some (.int (h.1 (s + 6) ((x1 * 8) + x2).toNatClampNeg)), h))))))))) := by
  refine (mm_M_eq (ls := [.ref s, .int x1, .int x2, .null]) rfl (Nat.le_of_ble_eq_true rfl) rfl h).trans ?_
  refine (mm_by 1 (pc' := 1) (ls' := [.ref s, .int x1, .int x2, .null]) (st' := [.int x1]) (h' := h) rfl).trans ?_
  refine (mm_br (c := x1 < 0) (p1 := 37) (p2 := 4) (l1 := [.ref s, .int x1, .int x2, .null]) (l2 := [.ref s, .int x1, .int x2, .null]) (s1 := []) (s2 := []) (h1 := h) (h2 := h) rfl rfl).trans (mm_ite ?_ ?_)
  · exact mm_by_end 6 rfl
  · refine (mm_by 2 (pc' := 6) (ls' := [.ref s, .int x1, .int x2, .null]) (st' := [.ref s, .int x1]) (h' := h) rfl).trans ?_
    refine (mm_go (pc' := 9) (ls' := [.ref s, .int x1, .int x2, .null]) (st' := [.int (h.1 s 10), .int x1]) (h' := h) rfl (q_get (isS_0 hs))).trans ?_
    refine (mm_br (c := (h.1 s 10) ≤ x1) (p1 := 37) (p2 := 12) (l1 := [.ref s, .int x1, .int x2, .null]) (l2 := [.ref s, .int x1, .int x2, .null]) (s1 := []) (s2 := []) (h1 := h) (h2 := h) rfl rfl).trans (mm_ite ?_ ?_)
    · exact mm_by_end 6 rfl
    · refine (mm_by 1 (pc' := 13) (ls' := [.ref s, .int x1, .int x2, .null]) (st' := [.int x2]) (h' := h) rfl).trans ?_
      refine (mm_br (c := x2 < 0) (p1 := 37) (p2 := 16) (l1 := [.ref s, .int x1, .int x2, .null]) (l2 := [.ref s, .int x1, .int x2, .null]) (s1 := []) (s2 := []) (h1 := h) (h2 := h) rfl rfl).trans (mm_ite ?_ ?_)
      · exact mm_by_end 6 rfl
      · refine (mm_by 2 (pc' := 18) (ls' := [.ref s, .int x1, .int x2, .null]) (st' := [.ref s, .int x2]) (h' := h) rfl).trans ?_
        refine (mm_go (pc' := 21) (ls' := [.ref s, .int x1, .int x2, .null]) (st' := [.int (h.1 s 10), .int x2]) (h' := h) rfl (q_get (isS_0 hs))).trans ?_
        refine (mm_br (c := (h.1 s 10) ≤ x2) (p1 := 37) (p2 := 24) (l1 := [.ref s, .int x1, .int x2, .null]) (l2 := [.ref s, .int x1, .int x2, .null]) (s1 := []) (s2 := []) (h1 := h) (h2 := h) rfl rfl).trans (mm_ite ?_ ?_)
        · exact mm_by_end 6 rfl
        · refine (mm_by 1 (pc' := 25) (ls' := [.ref s, .int x1, .int x2, .null]) (st' := [.ref s]) (h' := h) rfl).trans ?_
          refine (mm_go (pc' := 28) (ls' := [.ref s, .int x1, .int x2, .null]) (st' := [.int (h.1 s 10)]) (h' := h) rfl (q_get (isS_0 hs))).trans ?_
          refine (mm_by 1 (pc' := 30) (ls' := [.ref s, .int x1, .int x2, .null]) (st' := [.int 8, .int (h.1 s 10)]) (h' := h) rfl).trans ?_
          refine (mm_br (c := 8 < (h.1 s 10)) (p1 := 37) (p2 := 33) (l1 := [.ref s, .int x1, .int x2, .null]) (l2 := [.ref s, .int x1, .int x2, .null]) (s1 := []) (s2 := []) (h1 := h) (h2 := h) rfl rfl).trans (mm_ite ?_ ?_)
          · exact mm_by_end 6 rfl
          · refine (mm_by 7 (pc' := 45) (ls' := [.ref s, .int x1, .int x2, .int 1]) (st' := [.int x2, .int x1]) (h' := h) rfl).trans ?_
            refine (mm_br (c := x1 = x2) (p1 := 62) (p2 := 48) (l1 := [.ref s, .int x1, .int x2, .int 1]) (l2 := [.ref s, .int x1, .int x2, .int 1]) (s1 := []) (s2 := []) (h1 := h) (h2 := h) rfl rfl).trans (mm_ite ?_ ?_)
            · exact mm_by_end 2 rfl
            · refine (mm_by 1 (pc' := 49) (ls' := [.ref s, .int x1, .int x2, .int 1]) (st' := [.ref s]) (h' := h) rfl).trans ?_
              refine (mm_go (pc' := 52) (ls' := [.ref s, .int x1, .int x2, .int 1]) (st' := [.ref (s + 6)]) (h' := h) rfl (q_get (isS_0 hs))).trans ?_
              refine (mm_by 5 (pc' := 58) (ls' := [.ref s, .int x1, .int x2, .int 1]) (st' := [.int ((x1 * 8) + x2), .ref (s + 6)]) (h' := h) rfl).trans ?_
              refine (mm_gd (c := ((x1 * 8) + x2) < 0 ∨ 64 ≤ ((x1 * 8) + x2).toNatClampNeg) (p1 := 59) (l1 := [.ref s, .int x1, .int x2, .int 1]) (s1 := [.int (h.1 (s + 6) ((x1 * 8) + x2).toNatClampNeg)]) (h1 := h) rfl (q_iald (n := 64) (isS_6 hs))).trans (mm_ite rfl ?_)
              exact mm_by_end 2 rfl
set_option maxRecDepth 100000 in
set_option maxHeartbeats 4000000 in
theorem U_X7_neighbourOf {d : Nat} {s : Nat} {x1 : Int32} {x2 : Int32} {h : mm_H} (hs : mm_isS s) : mm_M mm_T0 (d + 1) 111 [.ref s, .int x1, .int x2] h = (mm_bI (mm_M mm_T0 d 102 [.ref s, .int x1] h) (fun v2 h1 => if v2 = 0 then (some (some (.int ((-1))), h1)) else (if x2 < 0 then (some (some (.int ((-1))), h1)) else (if x2 ≤ 1 then (if x1 < 0 ∨ 8 ≤ x1.toNatClampNeg then none else (if ¬ x2 = 0 then (mm_bI (mm_M mm_T0 d 104 [.ref s, .int ((h1.1 (s + 3) x1.toNatClampNeg) + 1)] h1) (fun v4 h3 => some (some (.int v4), h3))) else (mm_bI (mm_M mm_T0 d 104 [.ref s, .int ((h1.1 (s + 3) x1.toNatClampNeg) + ((-1)))] h1) (fun v6 h5 => some (some (.int v6), h5))))) else (some (some (.int ((-1))), h1)))))) := by
  refine (mm_M_eq (ls := [.ref s, .int x1, .int x2]) rfl (Nat.le_of_ble_eq_true rfl) rfl h).trans ?_
  refine (mm_by 2 (pc' := 2) (ls' := [.ref s, .int x1, .int x2]) (st' := [.int x1, .ref s]) (h' := h) rfl).trans ?_
  refine (mm_c1 (y := 102) (as := [.ref s, .int x1]) (nx := 5) (rest := []) rfl (if_pos ⟨(isS_0 hs), Nat.le_of_ble_eq_true rfl⟩)).trans (mm_congI fun v2 h1 => ?_)
  refine (mm_br (c := v2 = 0) (p1 := 17) (p2 := 8) (l1 := [.ref s, .int x1, .int x2]) (l2 := [.ref s, .int x1, .int x2]) (s1 := []) (s2 := []) (h1 := h1) (h2 := h1) rfl rfl).trans (mm_ite ?_ ?_)
  · exact mm_by_end 2 rfl
  · refine (mm_by 1 (pc' := 9) (ls' := [.ref s, .int x1, .int x2]) (st' := [.int x2]) (h' := h1) rfl).trans ?_
    refine (mm_br (c := x2 < 0) (p1 := 17) (p2 := 12) (l1 := [.ref s, .int x1, .int x2]) (l2 := [.ref s, .int x1, .int x2]) (s1 := []) (s2 := []) (h1 := h1) (h2 := h1) rfl rfl).trans (mm_ite ?_ ?_)
    · exact mm_by_end 2 rfl
    · refine (mm_by 2 (pc' := 14) (ls' := [.ref s, .int x1, .int x2]) (st' := [.int 1, .int x2]) (h' := h1) rfl).trans ?_
      refine (mm_br (c := x2 ≤ 1) (p1 := 19) (p2 := 17) (l1 := [.ref s, .int x1, .int x2]) (l2 := [.ref s, .int x1, .int x2]) (s1 := []) (s2 := []) (h1 := h1) (h2 := h1) rfl rfl).trans (mm_ite ?_ ?_)
      · refine (mm_by 2 (pc' := 21) (ls' := [.ref s, .int x1, .int x2]) (st' := [.ref s, .ref s]) (h' := h1) rfl).trans ?_
        refine (mm_go (pc' := 24) (ls' := [.ref s, .int x1, .int x2]) (st' := [.ref (s + 3), .ref s]) (h' := h1) rfl (q_get (isS_0 hs))).trans ?_
        refine (mm_by 1 (pc' := 25) (ls' := [.ref s, .int x1, .int x2]) (st' := [.int x1, .ref (s + 3), .ref s]) (h' := h1) rfl).trans ?_
        refine (mm_gd (c := x1 < 0 ∨ 8 ≤ x1.toNatClampNeg) (p1 := 26) (l1 := [.ref s, .int x1, .int x2]) (s1 := [.int (h1.1 (s + 3) x1.toNatClampNeg), .ref s]) (h1 := h1) rfl (q_iald (n := 8) (isS_3 hs))).trans (mm_ite rfl ?_)
        refine (mm_by 1 (pc' := 27) (ls' := [.ref s, .int x1, .int x2]) (st' := [.int x2, .int (h1.1 (s + 3) x1.toNatClampNeg), .ref s]) (h' := h1) rfl).trans ?_
        refine (mm_br (c := ¬ x2 = 0) (p1 := 34) (p2 := 30) (l1 := [.ref s, .int x1, .int x2]) (l2 := [.ref s, .int x1, .int x2]) (s1 := [.int (h1.1 (s + 3) x1.toNatClampNeg), .ref s]) (s2 := [.int (h1.1 (s + 3) x1.toNatClampNeg), .ref s]) (h1 := h1) (h2 := h1) rfl rfl).trans (mm_ite ?_ ?_)
        · refine (mm_by 2 (pc' := 36) (ls' := [.ref s, .int x1, .int x2]) (st' := [.int ((h1.1 (s + 3) x1.toNatClampNeg) + 1), .ref s]) (h' := h1) rfl).trans ?_
          refine (mm_c1 (y := 104) (as := [.ref s, .int ((h1.1 (s + 3) x1.toNatClampNeg) + 1)]) (nx := 39) (rest := []) rfl (if_pos ⟨(isS_0 hs), Nat.le_of_ble_eq_true rfl⟩)).trans (mm_congI fun v4 h3 => ?_)
          exact mm_by_end 1 rfl
        · refine (mm_by 3 (pc' := 36) (ls' := [.ref s, .int x1, .int x2]) (st' := [.int ((h1.1 (s + 3) x1.toNatClampNeg) + ((-1))), .ref s]) (h' := h1) rfl).trans ?_
          refine (mm_c1 (y := 104) (as := [.ref s, .int ((h1.1 (s + 3) x1.toNatClampNeg) + ((-1)))]) (nx := 39) (rest := []) rfl (if_pos ⟨(isS_0 hs), Nat.le_of_ble_eq_true rfl⟩)).trans (mm_congI fun v6 h5 => ?_)
          exact mm_by_end 1 rfl
      · exact mm_by_end 2 rfl
set_option maxRecDepth 100000 in
set_option maxHeartbeats 4000000 in
theorem U_X7_setLook {d : Nat} {s : Nat} {x1 : Int32} {x2 : Int32} {h : mm_H} (hs : mm_isS s) : mm_M mm_T0 (d + 1) 112 [.ref s, .int x1, .int x2] h = (mm_bI (mm_M mm_T0 d 102 [.ref s, .int x1] h) (fun v2 h1 => if v2 = 0 then (some (none, h1)) else (if x1 < 0 ∨ 8 ≤ x1.toNatClampNeg then none else (some (none, wI h1 (s + 4) x1.toNatClampNeg x2))))) := by
  refine (mm_M_eq (ls := [.ref s, .int x1, .int x2]) rfl (Nat.le_of_ble_eq_true rfl) rfl h).trans ?_
  refine (mm_by 2 (pc' := 2) (ls' := [.ref s, .int x1, .int x2]) (st' := [.int x1, .ref s]) (h' := h) rfl).trans ?_
  refine (mm_c1 (y := 102) (as := [.ref s, .int x1]) (nx := 5) (rest := []) rfl (if_pos ⟨(isS_0 hs), Nat.le_of_ble_eq_true rfl⟩)).trans (mm_congI fun v2 h1 => ?_)
  refine (mm_br (c := v2 = 0) (p1 := 15) (p2 := 8) (l1 := [.ref s, .int x1, .int x2]) (l2 := [.ref s, .int x1, .int x2]) (s1 := []) (s2 := []) (h1 := h1) (h2 := h1) rfl rfl).trans (mm_ite ?_ ?_)
  · exact mm_by_end 1 rfl
  · refine (mm_by 1 (pc' := 9) (ls' := [.ref s, .int x1, .int x2]) (st' := [.ref s]) (h' := h1) rfl).trans ?_
    refine (mm_go (pc' := 12) (ls' := [.ref s, .int x1, .int x2]) (st' := [.ref (s + 4)]) (h' := h1) rfl (q_get (isS_0 hs))).trans ?_
    refine (mm_by 2 (pc' := 14) (ls' := [.ref s, .int x1, .int x2]) (st' := [.int x2, .int x1, .ref (s + 4)]) (h' := h1) rfl).trans ?_
    refine (mm_gd (c := x1 < 0 ∨ 8 ≤ x1.toNatClampNeg) (p1 := 15) (l1 := [.ref s, .int x1, .int x2]) (s1 := []) (h1 := wI h1 (s + 4) x1.toNatClampNeg x2) rfl (q_iast (n := 8) (isS_4 hs))).trans (mm_ite rfl ?_)
    exact mm_by_end 1 rfl
set_option maxRecDepth 100000 in
set_option maxHeartbeats 4000000 in
theorem U_X7_setFace {d : Nat} {s : Nat} {x1 : Int32} {x2 : Int32} {h : mm_H} (hs : mm_isS s) : mm_M mm_T0 (d + 1) 113 [.ref s, .int x1, .int x2] h = (mm_bI (mm_M mm_T0 d 102 [.ref s, .int x1] h) (fun v2 h1 => if v2 = 0 then (some (none, h1)) else (if x1 < 0 ∨ 8 ≤ x1.toNatClampNeg then none else (some (none, wI h1 (s + 1) x1.toNatClampNeg x2))))) := by
  refine (mm_M_eq (ls := [.ref s, .int x1, .int x2]) rfl (Nat.le_of_ble_eq_true rfl) rfl h).trans ?_
  refine (mm_by 2 (pc' := 2) (ls' := [.ref s, .int x1, .int x2]) (st' := [.int x1, .ref s]) (h' := h) rfl).trans ?_
  refine (mm_c1 (y := 102) (as := [.ref s, .int x1]) (nx := 5) (rest := []) rfl (if_pos ⟨(isS_0 hs), Nat.le_of_ble_eq_true rfl⟩)).trans (mm_congI fun v2 h1 => ?_)
  refine (mm_br (c := v2 = 0) (p1 := 15) (p2 := 8) (l1 := [.ref s, .int x1, .int x2]) (l2 := [.ref s, .int x1, .int x2]) (s1 := []) (s2 := []) (h1 := h1) (h2 := h1) rfl rfl).trans (mm_ite ?_ ?_)
  · exact mm_by_end 1 rfl
  · refine (mm_by 1 (pc' := 9) (ls' := [.ref s, .int x1, .int x2]) (st' := [.ref s]) (h' := h1) rfl).trans ?_
    refine (mm_go (pc' := 12) (ls' := [.ref s, .int x1, .int x2]) (st' := [.ref (s + 1)]) (h' := h1) rfl (q_get (isS_0 hs))).trans ?_
    refine (mm_by 2 (pc' := 14) (ls' := [.ref s, .int x1, .int x2]) (st' := [.int x2, .int x1, .ref (s + 1)]) (h' := h1) rfl).trans ?_
    refine (mm_gd (c := x1 < 0 ∨ 8 ≤ x1.toNatClampNeg) (p1 := 15) (l1 := [.ref s, .int x1, .int x2]) (s1 := []) (h1 := wI h1 (s + 1) x1.toNatClampNeg x2) rfl (q_iast (n := 8) (isS_1 hs))).trans (mm_ite rfl ?_)
    exact mm_by_end 1 rfl
set_option maxRecDepth 100000 in
set_option maxHeartbeats 4000000 in
theorem U_X7_setSparing {d : Nat} {s : Nat} {x1 : Int32} {x2 : Int32} {h : mm_H} (hs : mm_isS s) : mm_M mm_T0 (d + 1) 114 [.ref s, .int x1, .int x2] h = (mm_bI (mm_M mm_T0 d 102 [.ref s, .int x1] h) (fun v2 h1 => if v2 = 0 then (some (none, h1)) else (if x1 < 0 ∨ 8 ≤ x1.toNatClampNeg then none else (some (none, wI h1 (s + 5) x1.toNatClampNeg x2))))) := by
  refine (mm_M_eq (ls := [.ref s, .int x1, .int x2]) rfl (Nat.le_of_ble_eq_true rfl) rfl h).trans ?_
  refine (mm_by 2 (pc' := 2) (ls' := [.ref s, .int x1, .int x2]) (st' := [.int x1, .ref s]) (h' := h) rfl).trans ?_
  refine (mm_c1 (y := 102) (as := [.ref s, .int x1]) (nx := 5) (rest := []) rfl (if_pos ⟨(isS_0 hs), Nat.le_of_ble_eq_true rfl⟩)).trans (mm_congI fun v2 h1 => ?_)
  refine (mm_br (c := v2 = 0) (p1 := 15) (p2 := 8) (l1 := [.ref s, .int x1, .int x2]) (l2 := [.ref s, .int x1, .int x2]) (s1 := []) (s2 := []) (h1 := h1) (h2 := h1) rfl rfl).trans (mm_ite ?_ ?_)
  · exact mm_by_end 1 rfl
  · refine (mm_by 1 (pc' := 9) (ls' := [.ref s, .int x1, .int x2]) (st' := [.ref s]) (h' := h1) rfl).trans ?_
    refine (mm_go (pc' := 12) (ls' := [.ref s, .int x1, .int x2]) (st' := [.ref (s + 5)]) (h' := h1) rfl (q_get (isS_0 hs))).trans ?_
    refine (mm_by 2 (pc' := 14) (ls' := [.ref s, .int x1, .int x2]) (st' := [.int x2, .int x1, .ref (s + 5)]) (h' := h1) rfl).trans ?_
    refine (mm_gd (c := x1 < 0 ∨ 8 ≤ x1.toNatClampNeg) (p1 := 15) (l1 := [.ref s, .int x1, .int x2]) (s1 := []) (h1 := wI h1 (s + 5) x1.toNatClampNeg x2) rfl (q_iast (n := 8) (isS_5 hs))).trans (mm_ite rfl ?_)
    exact mm_by_end 1 rfl
set_option maxRecDepth 100000 in
set_option maxHeartbeats 4000000 in
theorem U_X7_setThought {d : Nat} {s : Nat} {x1 : Int32} {x2 : Int32} {x3 : Int32} {h : mm_H} (hs : mm_isS s) : mm_M mm_T0 (d + 1) 115 [.ref s, .int x1, .int x2, .int x3] h = (mm_bI (mm_M mm_T0 d 103 [.ref s, .int x1, .int x2] h) (fun v2 h1 => if v2 = 0 then (some (none, h1)) else (if ((x1 * 8) + x2) < 0 ∨ 64 ≤ ((x1 * 8) + x2).toNatClampNeg then none else (some (none, wI h1 (s + 6) (((x1 * 8) + x2).toNatClampNeg) x3))))) := by
  refine (mm_M_eq (ls := [.ref s, .int x1, .int x2, .int x3]) rfl (Nat.le_of_ble_eq_true rfl) rfl h).trans ?_
  refine (mm_by 3 (pc' := 3) (ls' := [.ref s, .int x1, .int x2, .int x3]) (st' := [.int x2, .int x1, .ref s]) (h' := h) rfl).trans ?_
  refine (mm_c1 (y := 103) (as := [.ref s, .int x1, .int x2]) (nx := 6) (rest := []) rfl (if_pos ⟨(isS_0 hs), Nat.le_of_ble_eq_true rfl⟩)).trans (mm_congI fun v2 h1 => ?_)
  refine (mm_br (c := v2 = 0) (p1 := 21) (p2 := 9) (l1 := [.ref s, .int x1, .int x2, .int x3]) (l2 := [.ref s, .int x1, .int x2, .int x3]) (s1 := []) (s2 := []) (h1 := h1) (h2 := h1) rfl rfl).trans (mm_ite ?_ ?_)
  · exact mm_by_end 1 rfl
  · refine (mm_by 1 (pc' := 10) (ls' := [.ref s, .int x1, .int x2, .int x3]) (st' := [.ref s]) (h' := h1) rfl).trans ?_
    refine (mm_go (pc' := 13) (ls' := [.ref s, .int x1, .int x2, .int x3]) (st' := [.ref (s + 6)]) (h' := h1) rfl (q_get (isS_0 hs))).trans ?_
    refine (mm_by 6 (pc' := 20) (ls' := [.ref s, .int x1, .int x2, .int x3]) (st' := [.int x3, .int ((x1 * 8) + x2), .ref (s + 6)]) (h' := h1) rfl).trans ?_
    refine (mm_gd (c := ((x1 * 8) + x2) < 0 ∨ 64 ≤ ((x1 * 8) + x2).toNatClampNeg) (p1 := 21) (l1 := [.ref s, .int x1, .int x2, .int x3]) (s1 := []) (h1 := wI h1 (s + 6) (((x1 * 8) + x2).toNatClampNeg) x3) rfl (q_iast (n := 64) (isS_6 hs))).trans (mm_ite rfl ?_)
    exact mm_by_end 1 rfl
set_option maxRecDepth 100000 in
set_option maxHeartbeats 4000000 in
theorem U_X7_place {d : Nat} {s : Nat} {x1 : Int32} {x2 : Int32} {h : mm_H} (hs : mm_isS s) : mm_M mm_T0 (d + 1) 116 [.ref s, .int x1, .int x2] h = (mm_bI (mm_M mm_T0 d 101 [.ref s, .int x2] h) (fun v2 h1 => if v2 = 0 then (mm_bI (mm_M mm_T0 d 102 [.ref s, .int x1] h1) (fun v4 h3 => if v4 = 0 then (some (none, h3)) else (if x1 < 0 ∨ 8 ≤ x1.toNatClampNeg then none else (some (none, wI h3 (s + 3) x1.toNatClampNeg x2))))) else (if x2 < 0 ∨ 9 ≤ x2.toNatClampNeg then none else (mm_bI (mm_M mm_T0 d 102 [.ref s, .int x1] (wI h1 (s + 7) x2.toNatClampNeg x1)) (fun v6 h5 => if v6 = 0 then (some (none, h5)) else (if x1 < 0 ∨ 8 ≤ x1.toNatClampNeg then none else (some (none, wI h5 (s + 3) x1.toNatClampNeg x2)))))))) := by
  refine (mm_M_eq (ls := [.ref s, .int x1, .int x2]) rfl (Nat.le_of_ble_eq_true rfl) rfl h).trans ?_
  refine (mm_by 2 (pc' := 2) (ls' := [.ref s, .int x1, .int x2]) (st' := [.int x2, .ref s]) (h' := h) rfl).trans ?_
  refine (mm_c1 (y := 101) (as := [.ref s, .int x2]) (nx := 5) (rest := []) rfl (if_pos ⟨(isS_0 hs), Nat.le_of_ble_eq_true rfl⟩)).trans (mm_congI fun v2 h1 => ?_)
  refine (mm_br (c := v2 = 0) (p1 := 15) (p2 := 8) (l1 := [.ref s, .int x1, .int x2]) (l2 := [.ref s, .int x1, .int x2]) (s1 := []) (s2 := []) (h1 := h1) (h2 := h1) rfl rfl).trans (mm_ite ?_ ?_)
  · refine (mm_by 2 (pc' := 17) (ls' := [.ref s, .int x1, .int x2]) (st' := [.int x1, .ref s]) (h' := h1) rfl).trans ?_
    refine (mm_c1 (y := 102) (as := [.ref s, .int x1]) (nx := 20) (rest := []) rfl (if_pos ⟨(isS_0 hs), Nat.le_of_ble_eq_true rfl⟩)).trans (mm_congI fun v4 h3 => ?_)
    refine (mm_br (c := v4 = 0) (p1 := 30) (p2 := 23) (l1 := [.ref s, .int x1, .int x2]) (l2 := [.ref s, .int x1, .int x2]) (s1 := []) (s2 := []) (h1 := h3) (h2 := h3) rfl rfl).trans (mm_ite ?_ ?_)
    · exact mm_by_end 1 rfl
    · refine (mm_by 1 (pc' := 24) (ls' := [.ref s, .int x1, .int x2]) (st' := [.ref s]) (h' := h3) rfl).trans ?_
      refine (mm_go (pc' := 27) (ls' := [.ref s, .int x1, .int x2]) (st' := [.ref (s + 3)]) (h' := h3) rfl (q_get (isS_0 hs))).trans ?_
      refine (mm_by 2 (pc' := 29) (ls' := [.ref s, .int x1, .int x2]) (st' := [.int x2, .int x1, .ref (s + 3)]) (h' := h3) rfl).trans ?_
      refine (mm_gd (c := x1 < 0 ∨ 8 ≤ x1.toNatClampNeg) (p1 := 30) (l1 := [.ref s, .int x1, .int x2]) (s1 := []) (h1 := wI h3 (s + 3) x1.toNatClampNeg x2) rfl (q_iast (n := 8) (isS_3 hs))).trans (mm_ite rfl ?_)
      exact mm_by_end 1 rfl
  · refine (mm_by 1 (pc' := 9) (ls' := [.ref s, .int x1, .int x2]) (st' := [.ref s]) (h' := h1) rfl).trans ?_
    refine (mm_go (pc' := 12) (ls' := [.ref s, .int x1, .int x2]) (st' := [.ref (s + 7)]) (h' := h1) rfl (q_get (isS_0 hs))).trans ?_
    refine (mm_by 2 (pc' := 14) (ls' := [.ref s, .int x1, .int x2]) (st' := [.int x1, .int x2, .ref (s + 7)]) (h' := h1) rfl).trans ?_
    refine (mm_gd (c := x2 < 0 ∨ 9 ≤ x2.toNatClampNeg) (p1 := 15) (l1 := [.ref s, .int x1, .int x2]) (s1 := []) (h1 := wI h1 (s + 7) x2.toNatClampNeg x1) rfl (q_iast (n := 9) (isS_7 hs))).trans (mm_ite rfl ?_)
    refine (mm_by 2 (pc' := 17) (ls' := [.ref s, .int x1, .int x2]) (st' := [.int x1, .ref s]) (h' := wI h1 (s + 7) x2.toNatClampNeg x1) rfl).trans ?_
    refine (mm_c1 (y := 102) (as := [.ref s, .int x1]) (nx := 20) (rest := []) rfl (if_pos ⟨(isS_0 hs), Nat.le_of_ble_eq_true rfl⟩)).trans (mm_congI fun v6 h5 => ?_)
    refine (mm_br (c := v6 = 0) (p1 := 30) (p2 := 23) (l1 := [.ref s, .int x1, .int x2]) (l2 := [.ref s, .int x1, .int x2]) (s1 := []) (s2 := []) (h1 := h5) (h2 := h5) rfl rfl).trans (mm_ite ?_ ?_)
    · exact mm_by_end 1 rfl
    · refine (mm_by 1 (pc' := 24) (ls' := [.ref s, .int x1, .int x2]) (st' := [.ref s]) (h' := h5) rfl).trans ?_
      refine (mm_go (pc' := 27) (ls' := [.ref s, .int x1, .int x2]) (st' := [.ref (s + 3)]) (h' := h5) rfl (q_get (isS_0 hs))).trans ?_
      refine (mm_by 2 (pc' := 29) (ls' := [.ref s, .int x1, .int x2]) (st' := [.int x2, .int x1, .ref (s + 3)]) (h' := h5) rfl).trans ?_
      refine (mm_gd (c := x1 < 0 ∨ 8 ≤ x1.toNatClampNeg) (p1 := 30) (l1 := [.ref s, .int x1, .int x2]) (s1 := []) (h1 := wI h5 (s + 3) x1.toNatClampNeg x2) rfl (q_iast (n := 8) (isS_3 hs))).trans (mm_ite rfl ?_)
      exact mm_by_end 1 rfl
set_option maxRecDepth 100000 in
set_option maxHeartbeats 4000000 in
theorem U_X7_swapHouses {d : Nat} {s : Nat} {x1 : Int32} {x2 : Int32} {h : mm_H} (hs : mm_isS s) : mm_M mm_T0 (d + 1) 117 [.ref s, .int x1, .int x2] h = (mm_bI (mm_M mm_T0 d 104 [.ref s, .int x1] h) (fun v2 h1 => mm_bI (mm_M mm_T0 d 104 [.ref s, .int x2] h1) (fun v4 h3 => mm_bV (mm_M mm_T0 d 116 [.ref s, .int v4, .int x1] h3) (fun h5 => mm_bV (mm_M mm_T0 d 116 [.ref s, .int v2, .int x2] h5) (fun h6 => some (none, h6)))))) := by
  refine (mm_M_eq (ls := [.ref s, .int x1, .int x2, .null]) rfl (Nat.le_of_ble_eq_true rfl) rfl h).trans ?_
  refine (mm_by 2 (pc' := 2) (ls' := [.ref s, .int x1, .int x2, .null]) (st' := [.int x1, .ref s]) (h' := h) rfl).trans ?_
  refine (mm_c1 (y := 104) (as := [.ref s, .int x1]) (nx := 5) (rest := []) rfl (if_pos ⟨(isS_0 hs), Nat.le_of_ble_eq_true rfl⟩)).trans (mm_congI fun v2 h1 => ?_)
  refine (mm_by 4 (pc' := 9) (ls' := [.ref s, .int x1, .int x2, .int v2]) (st' := [.int x2, .ref s, .ref s]) (h' := h1) rfl).trans ?_
  refine (mm_c1 (y := 104) (as := [.ref s, .int x2]) (nx := 12) (rest := [.ref s]) rfl (if_pos ⟨(isS_0 hs), Nat.le_of_ble_eq_true rfl⟩)).trans (mm_congI fun v4 h3 => ?_)
  refine (mm_by 1 (pc' := 13) (ls' := [.ref s, .int x1, .int x2, .int v2]) (st' := [.int x1, .int v4, .ref s]) (h' := h3) rfl).trans ?_
  refine (mm_c0 (y := 116) (as := [.ref s, .int v4, .int x1]) (nx := 16) (rest := []) rfl (if_pos ⟨(isS_0 hs), Nat.le_of_ble_eq_true rfl⟩)).trans (mm_congV fun h5 => ?_)
  refine (mm_by 3 (pc' := 19) (ls' := [.ref s, .int x1, .int x2, .int v2]) (st' := [.int x2, .int v2, .ref s]) (h' := h5) rfl).trans ?_
  refine (mm_c0 (y := 116) (as := [.ref s, .int v2, .int x2]) (nx := 22) (rest := []) rfl (if_pos ⟨(isS_0 hs), Nat.le_of_ble_eq_true rfl⟩)).trans (mm_congV fun h6 => ?_)
  exact mm_by_end 1 rfl
set_option maxRecDepth 100000 in
set_option maxHeartbeats 4000000 in
theorem U_X7_moveIn {d : Nat} {s : Nat} {x1 : Int32} {x2 : Int32} {x3 : Int32} {h : mm_H} (hs : mm_isS s) : mm_M mm_T0 (d + 1) 118 [.ref s, .int x1, .int x2, .int x3] h = (if (h.1 s 10) < 8 then (if (h.1 s 10) < 0 ∨ 8 ≤ (h.1 s 10).toNatClampNeg then none else (if (h.1 s 10) < 0 ∨ 8 ≤ (h.1 s 10).toNatClampNeg then none else (if (h.1 s 10) < 0 ∨ 8 ≤ (h.1 s 10).toNatClampNeg then none else (if (h.1 s 10) < 0 ∨ 8 ≤ (h.1 s 10).toNatClampNeg then none else (mm_bV (mm_M mm_T0 d 116 [.ref s, .int (h.1 s 10), .int x1] (wI (wI (wI (wI (wI h s 10 ((h.1 s 10) + 1)) (s + 1) ((h.1 s 10).toNatClampNeg) x2) (s + 2) ((h.1 s 10).toNatClampNeg) x3) (s + 4) ((h.1 s 10).toNatClampNeg) (x2 * 10)) (s + 5) ((h.1 s 10).toNatClampNeg) 0)) (fun h1 => mm_D (mm_M mm_T0 d) cd_X7_moveIn 71 [.ref s, .null, .null, .null, .int (h.1 s 10), .int 0] [] h1)))))) else (some (none, h))) := by
  refine (mm_M_eq (ls := [.ref s, .int x1, .int x2, .int x3, .null, .null]) rfl (Nat.le_of_ble_eq_true rfl) rfl h).trans ?_
  refine (mm_by 1 (pc' := 1) (ls' := [.ref s, .int x1, .int x2, .int x3, .null, .null]) (st' := [.ref s]) (h' := h) rfl).trans ?_
  refine (mm_go (pc' := 4) (ls' := [.ref s, .int x1, .int x2, .int x3, .null, .null]) (st' := [.int (h.1 s 10)]) (h' := h) rfl (q_get (isS_0 hs))).trans ?_
  refine (mm_by 1 (pc' := 6) (ls' := [.ref s, .int x1, .int x2, .int x3, .null, .null]) (st' := [.int 8, .int (h.1 s 10)]) (h' := h) rfl).trans ?_
  refine (mm_br (c := (h.1 s 10) < 8) (p1 := 10) (p2 := 9) (l1 := [.ref s, .int x1, .int x2, .int x3, .null, .null]) (l2 := [.ref s, .int x1, .int x2, .int x3, .null, .null]) (s1 := []) (s2 := []) (h1 := h) (h2 := h) rfl rfl).trans (mm_ite ?_ ?_)
  · refine (mm_by 1 (pc' := 11) (ls' := [.ref s, .int x1, .int x2, .int x3, .null, .null]) (st' := [.ref s]) (h' := h) rfl).trans ?_
    refine (mm_go (pc' := 14) (ls' := [.ref s, .int x1, .int x2, .int x3, .null, .null]) (st' := [.int (h.1 s 10)]) (h' := h) rfl (q_get (isS_0 hs))).trans ?_
    refine (mm_by 3 (pc' := 18) (ls' := [.ref s, .int x1, .int x2, .int x3, .int (h.1 s 10), .null]) (st' := [.ref s, .ref s]) (h' := h) rfl).trans ?_
    refine (mm_go (pc' := 21) (ls' := [.ref s, .int x1, .int x2, .int x3, .int (h.1 s 10), .null]) (st' := [.int (h.1 s 10), .ref s]) (h' := h) rfl (q_get (isS_0 hs))).trans ?_
    refine (mm_by 2 (pc' := 23) (ls' := [.ref s, .int x1, .int x2, .int x3, .int (h.1 s 10), .null]) (st' := [.int ((h.1 s 10) + 1), .ref s]) (h' := h) rfl).trans ?_
    refine (mm_go (pc' := 26) (ls' := [.ref s, .int x1, .int x2, .int x3, .int (h.1 s 10), .null]) (st' := []) (h' := wI h s 10 ((h.1 s 10) + 1)) rfl (q_putI (isS_0 hs))).trans ?_
    refine (mm_by 1 (pc' := 27) (ls' := [.ref s, .int x1, .int x2, .int x3, .int (h.1 s 10), .null]) (st' := [.ref s]) (h' := wI h s 10 ((h.1 s 10) + 1)) rfl).trans ?_
    refine (mm_go (pc' := 30) (ls' := [.ref s, .int x1, .int x2, .int x3, .int (h.1 s 10), .null]) (st' := [.ref (s + 1)]) (h' := wI h s 10 ((h.1 s 10) + 1)) rfl (q_get (isS_0 hs))).trans ?_
    refine (mm_by 2 (pc' := 33) (ls' := [.ref s, .int x1, .int x2, .int x3, .int (h.1 s 10), .null]) (st' := [.int x2, .int (h.1 s 10), .ref (s + 1)]) (h' := wI h s 10 ((h.1 s 10) + 1)) rfl).trans ?_
    refine (mm_gd (c := (h.1 s 10) < 0 ∨ 8 ≤ (h.1 s 10).toNatClampNeg) (p1 := 34) (l1 := [.ref s, .int x1, .int x2, .int x3, .int (h.1 s 10), .null]) (s1 := []) (h1 := wI (wI h s 10 ((h.1 s 10) + 1)) (s + 1) ((h.1 s 10).toNatClampNeg) x2) rfl (q_iast (n := 8) (isS_1 hs))).trans (mm_ite rfl ?_)
    refine (mm_by 1 (pc' := 35) (ls' := [.ref s, .int x1, .int x2, .int x3, .int (h.1 s 10), .null]) (st' := [.ref s]) (h' := wI (wI h s 10 ((h.1 s 10) + 1)) (s + 1) ((h.1 s 10).toNatClampNeg) x2) rfl).trans ?_
    refine (mm_go (pc' := 38) (ls' := [.ref s, .int x1, .int x2, .int x3, .int (h.1 s 10), .null]) (st' := [.ref (s + 2)]) (h' := wI (wI h s 10 ((h.1 s 10) + 1)) (s + 1) ((h.1 s 10).toNatClampNeg) x2) rfl (q_get (isS_0 hs))).trans ?_
    refine (mm_by 2 (pc' := 41) (ls' := [.ref s, .int x1, .int x2, .int x3, .int (h.1 s 10), .null]) (st' := [.int x3, .int (h.1 s 10), .ref (s + 2)]) (h' := wI (wI h s 10 ((h.1 s 10) + 1)) (s + 1) ((h.1 s 10).toNatClampNeg) x2) rfl).trans ?_
    refine (mm_gd (c := (h.1 s 10) < 0 ∨ 8 ≤ (h.1 s 10).toNatClampNeg) (p1 := 42) (l1 := [.ref s, .int x1, .int x2, .int x3, .int (h.1 s 10), .null]) (s1 := []) (h1 := wI (wI (wI h s 10 ((h.1 s 10) + 1)) (s + 1) ((h.1 s 10).toNatClampNeg) x2) (s + 2) ((h.1 s 10).toNatClampNeg) x3) rfl (q_iast (n := 8) (isS_2 hs))).trans (mm_ite rfl ?_)
    refine (mm_by 1 (pc' := 43) (ls' := [.ref s, .int x1, .int x2, .int x3, .int (h.1 s 10), .null]) (st' := [.ref s]) (h' := wI (wI (wI h s 10 ((h.1 s 10) + 1)) (s + 1) ((h.1 s 10).toNatClampNeg) x2) (s + 2) ((h.1 s 10).toNatClampNeg) x3) rfl).trans ?_
    refine (mm_go (pc' := 46) (ls' := [.ref s, .int x1, .int x2, .int x3, .int (h.1 s 10), .null]) (st' := [.ref (s + 4)]) (h' := wI (wI (wI h s 10 ((h.1 s 10) + 1)) (s + 1) ((h.1 s 10).toNatClampNeg) x2) (s + 2) ((h.1 s 10).toNatClampNeg) x3) rfl (q_get (isS_0 hs))).trans ?_
    refine (mm_by 4 (pc' := 52) (ls' := [.ref s, .int x1, .int x2, .int x3, .int (h.1 s 10), .null]) (st' := [.int (x2 * 10), .int (h.1 s 10), .ref (s + 4)]) (h' := wI (wI (wI h s 10 ((h.1 s 10) + 1)) (s + 1) ((h.1 s 10).toNatClampNeg) x2) (s + 2) ((h.1 s 10).toNatClampNeg) x3) rfl).trans ?_
    refine (mm_gd (c := (h.1 s 10) < 0 ∨ 8 ≤ (h.1 s 10).toNatClampNeg) (p1 := 53) (l1 := [.ref s, .int x1, .int x2, .int x3, .int (h.1 s 10), .null]) (s1 := []) (h1 := wI (wI (wI (wI h s 10 ((h.1 s 10) + 1)) (s + 1) ((h.1 s 10).toNatClampNeg) x2) (s + 2) ((h.1 s 10).toNatClampNeg) x3) (s + 4) ((h.1 s 10).toNatClampNeg) (x2 * 10)) rfl (q_iast (n := 8) (isS_4 hs))).trans (mm_ite rfl ?_)
    refine (mm_by 1 (pc' := 54) (ls' := [.ref s, .int x1, .int x2, .int x3, .int (h.1 s 10), .null]) (st' := [.ref s]) (h' := wI (wI (wI (wI h s 10 ((h.1 s 10) + 1)) (s + 1) ((h.1 s 10).toNatClampNeg) x2) (s + 2) ((h.1 s 10).toNatClampNeg) x3) (s + 4) ((h.1 s 10).toNatClampNeg) (x2 * 10)) rfl).trans ?_
    refine (mm_go (pc' := 57) (ls' := [.ref s, .int x1, .int x2, .int x3, .int (h.1 s 10), .null]) (st' := [.ref (s + 5)]) (h' := wI (wI (wI (wI h s 10 ((h.1 s 10) + 1)) (s + 1) ((h.1 s 10).toNatClampNeg) x2) (s + 2) ((h.1 s 10).toNatClampNeg) x3) (s + 4) ((h.1 s 10).toNatClampNeg) (x2 * 10)) rfl (q_get (isS_0 hs))).trans ?_
    refine (mm_by 2 (pc' := 60) (ls' := [.ref s, .int x1, .int x2, .int x3, .int (h.1 s 10), .null]) (st' := [.int 0, .int (h.1 s 10), .ref (s + 5)]) (h' := wI (wI (wI (wI h s 10 ((h.1 s 10) + 1)) (s + 1) ((h.1 s 10).toNatClampNeg) x2) (s + 2) ((h.1 s 10).toNatClampNeg) x3) (s + 4) ((h.1 s 10).toNatClampNeg) (x2 * 10)) rfl).trans ?_
    refine (mm_gd (c := (h.1 s 10) < 0 ∨ 8 ≤ (h.1 s 10).toNatClampNeg) (p1 := 61) (l1 := [.ref s, .int x1, .int x2, .int x3, .int (h.1 s 10), .null]) (s1 := []) (h1 := wI (wI (wI (wI (wI h s 10 ((h.1 s 10) + 1)) (s + 1) ((h.1 s 10).toNatClampNeg) x2) (s + 2) ((h.1 s 10).toNatClampNeg) x3) (s + 4) ((h.1 s 10).toNatClampNeg) (x2 * 10)) (s + 5) ((h.1 s 10).toNatClampNeg) 0) rfl (q_iast (n := 8) (isS_5 hs))).trans (mm_ite rfl ?_)
    refine (mm_by 3 (pc' := 65) (ls' := [.ref s, .int x1, .int x2, .int x3, .int (h.1 s 10), .null]) (st' := [.int x1, .int (h.1 s 10), .ref s]) (h' := wI (wI (wI (wI (wI h s 10 ((h.1 s 10) + 1)) (s + 1) ((h.1 s 10).toNatClampNeg) x2) (s + 2) ((h.1 s 10).toNatClampNeg) x3) (s + 4) ((h.1 s 10).toNatClampNeg) (x2 * 10)) (s + 5) ((h.1 s 10).toNatClampNeg) 0) rfl).trans ?_
    refine (mm_c0 (y := 116) (as := [.ref s, .int (h.1 s 10), .int x1]) (nx := 68) (rest := []) rfl (if_pos ⟨(isS_0 hs), Nat.le_of_ble_eq_true rfl⟩)).trans (mm_congV fun h1 => ?_)
    exact mm_by 2 rfl
  · exact mm_by_end 1 rfl
set_option maxRecDepth 100000 in
set_option maxHeartbeats 4000000 in
theorem U_X7_moveIn_71 {d : Nat} {s : Nat} {x4 : Int32} {x5 : Int32} {h : mm_H} (hs : mm_isS s) : mm_D (mm_M mm_T0 d) cd_X7_moveIn 71 [.ref s, .null, .null, .null, .int x4, .int x5] [] h = (if x4 ≤ x5 then (some (none, h)) else (mm_bV (mm_M mm_T0 d 115 [.ref s, .int x4, .int x5, .int 5] h) (fun h1 => mm_bV (mm_M mm_T0 d 115 [.ref s, .int x5, .int x4, .int 5] h1) (fun h2 => mm_D (mm_M mm_T0 d) cd_X7_moveIn 71 [.ref s, .null, .null, .null, .int x4, .int (x5 + 1)] [] h2)))) := by
  refine (mm_by 2 (pc' := 75) (ls' := [.ref s, .null, .null, .null, .int x4, .int x5]) (st' := [.int x4, .int x5]) (h' := h) rfl).trans ?_
  refine (mm_br (c := x4 ≤ x5) (p1 := 102) (p2 := 78) (l1 := [.ref s, .null, .null, .null, .int x4, .int x5]) (l2 := [.ref s, .null, .null, .null, .int x4, .int x5]) (s1 := []) (s2 := []) (h1 := h) (h2 := h) rfl rfl).trans (mm_ite ?_ ?_)
  · exact mm_by_end 1 rfl
  · refine (mm_by 4 (pc' := 84) (ls' := [.ref s, .null, .null, .null, .int x4, .int x5]) (st' := [.int 5, .int x5, .int x4, .ref s]) (h' := h) rfl).trans ?_
    refine (mm_c0 (y := 115) (as := [.ref s, .int x4, .int x5, .int 5]) (nx := 87) (rest := []) rfl (if_pos ⟨(isS_0 hs), Nat.le_of_ble_eq_true rfl⟩)).trans (mm_congV fun h1 => ?_)
    refine (mm_by 4 (pc' := 93) (ls' := [.ref s, .null, .null, .null, .int x4, .int x5]) (st' := [.int 5, .int x4, .int x5, .ref s]) (h' := h1) rfl).trans ?_
    refine (mm_c0 (y := 115) (as := [.ref s, .int x5, .int x4, .int 5]) (nx := 96) (rest := []) rfl (if_pos ⟨(isS_0 hs), Nat.le_of_ble_eq_true rfl⟩)).trans (mm_congV fun h2 => ?_)
    exact mm_by 2 rfl
set_option maxRecDepth 100000 in
set_option maxHeartbeats 4000000 in
theorem U_X7_keep {d : Nat} {s : Nat} {x1 : Int32} {x2 : Int32} {h : mm_H} (hs : mm_isS s) : mm_M mm_T0 (d + 1) 119 [.ref s, .int x1, .int x2] h = (mm_bI (mm_M mm_T0 d 8 [.int (h.1 s 8), .int 40] h) (fun v2 h1 => if v2 < 0 ∨ 40 ≤ v2.toNatClampNeg then none else (some (none, wI (wI h1 (s + 8) v2.toNatClampNeg (((((h1.1 s 11) * 8) + x1) * 8) + x2)) s 8 (((wI h1 (s + 8) v2.toNatClampNeg (((((h1.1 s 11) * 8) + x1) * 8) + x2)).1 s 8) + 1))))) := by
  refine (mm_M_eq (ls := [.ref s, .int x1, .int x2]) rfl (Nat.le_of_ble_eq_true rfl) rfl h).trans ?_
  refine (mm_by 1 (pc' := 1) (ls' := [.ref s, .int x1, .int x2]) (st' := [.ref s]) (h' := h) rfl).trans ?_
  refine (mm_go (pc' := 4) (ls' := [.ref s, .int x1, .int x2]) (st' := [.ref (s + 8)]) (h' := h) rfl (q_get (isS_0 hs))).trans ?_
  refine (mm_by 1 (pc' := 5) (ls' := [.ref s, .int x1, .int x2]) (st' := [.ref s, .ref (s + 8)]) (h' := h) rfl).trans ?_
  refine (mm_go (pc' := 8) (ls' := [.ref s, .int x1, .int x2]) (st' := [.int (h.1 s 8), .ref (s + 8)]) (h' := h) rfl (q_get (isS_0 hs))).trans ?_
  refine (mm_by 1 (pc' := 10) (ls' := [.ref s, .int x1, .int x2]) (st' := [.int 40, .int (h.1 s 8), .ref (s + 8)]) (h' := h) rfl).trans ?_
  refine (mm_c1 (y := 8) (as := [.int (h.1 s 8), .int 40]) (nx := 13) (rest := [.ref (s + 8)]) rfl rfl).trans (mm_congI fun v2 h1 => ?_)
  refine (mm_by 1 (pc' := 14) (ls' := [.ref s, .int x1, .int x2]) (st' := [.ref s, .int v2, .ref (s + 8)]) (h' := h1) rfl).trans ?_
  refine (mm_go (pc' := 17) (ls' := [.ref s, .int x1, .int x2]) (st' := [.int (h1.1 s 11), .int v2, .ref (s + 8)]) (h' := h1) rfl (q_get (isS_0 hs))).trans ?_
  refine (mm_by 8 (pc' := 27) (ls' := [.ref s, .int x1, .int x2]) (st' := [.int (((((h1.1 s 11) * 8) + x1) * 8) + x2), .int v2, .ref (s + 8)]) (h' := h1) rfl).trans ?_
  refine (mm_gd (c := v2 < 0 ∨ 40 ≤ v2.toNatClampNeg) (p1 := 28) (l1 := [.ref s, .int x1, .int x2]) (s1 := []) (h1 := wI h1 (s + 8) v2.toNatClampNeg (((((h1.1 s 11) * 8) + x1) * 8) + x2)) rfl (q_iast (n := 40) (isS_8 hs))).trans (mm_ite rfl ?_)
  refine (mm_by 2 (pc' := 30) (ls' := [.ref s, .int x1, .int x2]) (st' := [.ref s, .ref s]) (h' := wI h1 (s + 8) v2.toNatClampNeg (((((h1.1 s 11) * 8) + x1) * 8) + x2)) rfl).trans ?_
  refine (mm_go (pc' := 33) (ls' := [.ref s, .int x1, .int x2]) (st' := [.int ((wI h1 (s + 8) v2.toNatClampNeg (((((h1.1 s 11) * 8) + x1) * 8) + x2)).1 s 8), .ref s]) (h' := wI h1 (s + 8) v2.toNatClampNeg (((((h1.1 s 11) * 8) + x1) * 8) + x2)) rfl (q_get (isS_0 hs))).trans ?_
  refine (mm_by 2 (pc' := 35) (ls' := [.ref s, .int x1, .int x2]) (st' := [.int (((wI h1 (s + 8) v2.toNatClampNeg (((((h1.1 s 11) * 8) + x1) * 8) + x2)).1 s 8) + 1), .ref s]) (h' := wI h1 (s + 8) v2.toNatClampNeg (((((h1.1 s 11) * 8) + x1) * 8) + x2)) rfl).trans ?_
  refine (mm_go (pc' := 38) (ls' := [.ref s, .int x1, .int x2]) (st' := []) (h' := wI (wI h1 (s + 8) v2.toNatClampNeg (((((h1.1 s 11) * 8) + x1) * 8) + x2)) s 8 (((wI h1 (s + 8) v2.toNatClampNeg (((((h1.1 s 11) * 8) + x1) * 8) + x2)).1 s 8) + 1)) rfl (q_putI (isS_0 hs))).trans ?_
  exact mm_by_end 1 rfl
set_option maxRecDepth 100000 in
set_option maxHeartbeats 4000000 in
theorem U_X7_countKept {d : Nat} {s : Nat} {h : mm_H} (hs : mm_isS s) : mm_M mm_T0 (d + 1) 120 [.ref s] h = (mm_bI (mm_M mm_T0 d 11 [.int (h.1 s 8), .int 40] h) (fun v2 h1 => some (some (.int v2), h1))) := by
  refine (mm_M_eq (ls := [.ref s]) rfl (Nat.le_of_ble_eq_true rfl) rfl h).trans ?_
  refine (mm_by 1 (pc' := 1) (ls' := [.ref s]) (st' := [.ref s]) (h' := h) rfl).trans ?_
  refine (mm_go (pc' := 4) (ls' := [.ref s]) (st' := [.int (h.1 s 8)]) (h' := h) rfl (q_get (isS_0 hs))).trans ?_
  refine (mm_by 1 (pc' := 6) (ls' := [.ref s]) (st' := [.int 40, .int (h.1 s 8)]) (h' := h) rfl).trans ?_
  refine (mm_c1 (y := 11) (as := [.int (h.1 s 8), .int 40]) (nx := 9) (rest := []) rfl rfl).trans (mm_congI fun v2 h1 => ?_)
  exact mm_by_end 1 rfl
set_option maxRecDepth 100000 in
set_option maxHeartbeats 4000000 in
theorem U_X7_keptAt {d : Nat} {s : Nat} {x1 : Int32} {x2 : Int32} {h : mm_H} (hs : mm_isS s) : mm_M mm_T0 (d + 1) 121 [.ref s, .int x1, .int x2] h = (if x1 < 0 then (some (some (.int ((-1))), h)) else (mm_bI (mm_M mm_T0 d 120 [.ref s] h) (fun v2 h1 => if x1 < v2 then (mm_bI (mm_M mm_T0 d 120 [.ref s] h1) (fun v4 h3 => mm_bI (mm_M mm_T0 d 8 [.int (((h1.1 s 8) - v4) + x1), .int 40] h3) (fun v6 h5 => if v6 < 0 ∨ 40 ≤ v6.toNatClampNeg then none else (if x2 = 0 then (some (some (.int (((h5.1 (s + 8) v6.toNatClampNeg) / 8) / 8)), h5)) else (if x2 = 1 then (some (some (.int (((h5.1 (s + 8) v6.toNatClampNeg) / 8) - ((h5.1 (s + 8) v6.toNatClampNeg) / 8) / 8 * 8)), h5)) else (if x2 = 2 then (some (some (.int ((h5.1 (s + 8) v6.toNatClampNeg) - (h5.1 (s + 8) v6.toNatClampNeg) / 8 * 8)), h5)) else (some (some (.int ((-1))), h5)))))))) else (some (some (.int ((-1))), h1))))) := by
  refine (mm_M_eq (ls := [.ref s, .int x1, .int x2, .null]) rfl (Nat.le_of_ble_eq_true rfl) rfl h).trans ?_
  refine (mm_by 1 (pc' := 1) (ls' := [.ref s, .int x1, .int x2, .null]) (st' := [.int x1]) (h' := h) rfl).trans ?_
  refine (mm_br (c := x1 < 0) (p1 := 12) (p2 := 4) (l1 := [.ref s, .int x1, .int x2, .null]) (l2 := [.ref s, .int x1, .int x2, .null]) (s1 := []) (s2 := []) (h1 := h) (h2 := h) rfl rfl).trans (mm_ite ?_ ?_)
  · exact mm_by_end 2 rfl
  · refine (mm_by 2 (pc' := 6) (ls' := [.ref s, .int x1, .int x2, .null]) (st' := [.ref s, .int x1]) (h' := h) rfl).trans ?_
    refine (mm_c1 (y := 120) (as := [.ref s]) (nx := 9) (rest := [.int x1]) rfl (if_pos ⟨(isS_0 hs), Nat.le_of_ble_eq_true rfl⟩)).trans (mm_congI fun v2 h1 => ?_)
    refine (mm_br (c := x1 < v2) (p1 := 14) (p2 := 12) (l1 := [.ref s, .int x1, .int x2, .null]) (l2 := [.ref s, .int x1, .int x2, .null]) (s1 := []) (s2 := []) (h1 := h1) (h2 := h1) rfl rfl).trans (mm_ite ?_ ?_)
    · refine (mm_by 1 (pc' := 15) (ls' := [.ref s, .int x1, .int x2, .null]) (st' := [.ref s]) (h' := h1) rfl).trans ?_
      refine (mm_go (pc' := 18) (ls' := [.ref s, .int x1, .int x2, .null]) (st' := [.ref (s + 8)]) (h' := h1) rfl (q_get (isS_0 hs))).trans ?_
      refine (mm_by 1 (pc' := 19) (ls' := [.ref s, .int x1, .int x2, .null]) (st' := [.ref s, .ref (s + 8)]) (h' := h1) rfl).trans ?_
      refine (mm_go (pc' := 22) (ls' := [.ref s, .int x1, .int x2, .null]) (st' := [.int (h1.1 s 8), .ref (s + 8)]) (h' := h1) rfl (q_get (isS_0 hs))).trans ?_
      refine (mm_by 1 (pc' := 23) (ls' := [.ref s, .int x1, .int x2, .null]) (st' := [.ref s, .int (h1.1 s 8), .ref (s + 8)]) (h' := h1) rfl).trans ?_
      refine (mm_c1 (y := 120) (as := [.ref s]) (nx := 26) (rest := [.int (h1.1 s 8), .ref (s + 8)]) rfl (if_pos ⟨(isS_0 hs), Nat.le_of_ble_eq_true rfl⟩)).trans (mm_congI fun v4 h3 => ?_)
      refine (mm_by 4 (pc' := 31) (ls' := [.ref s, .int x1, .int x2, .null]) (st' := [.int 40, .int (((h1.1 s 8) - v4) + x1), .ref (s + 8)]) (h' := h3) rfl).trans ?_
      refine (mm_c1 (y := 8) (as := [.int (((h1.1 s 8) - v4) + x1), .int 40]) (nx := 34) (rest := [.ref (s + 8)]) rfl rfl).trans (mm_congI fun v6 h5 => ?_)
      refine (mm_gd (c := v6 < 0 ∨ 40 ≤ v6.toNatClampNeg) (p1 := 35) (l1 := [.ref s, .int x1, .int x2, .null]) (s1 := [.int (h5.1 (s + 8) v6.toNatClampNeg)]) (h1 := h5) rfl (q_iald (n := 40) (isS_8 hs))).trans (mm_ite rfl ?_)
      refine (mm_by 2 (pc' := 37) (ls' := [.ref s, .int x1, .int x2, .int (h5.1 (s + 8) v6.toNatClampNeg)]) (st' := [.int x2]) (h' := h5) rfl).trans ?_
      refine (mm_go (pc' := mm_sw [(0, 64), (1, 72), (2, 80)] 85 x2) (ls' := [.ref s, .int x1, .int x2, .int (h5.1 (s + 8) v6.toNatClampNeg)]) (st' := []) (h' := h5) rfl rfl).trans ?_
      refine mm_sw_c.trans (mm_ite ?_ ?_)
      · exact mm_by_end 6 rfl
      · refine mm_sw_c.trans (mm_ite ?_ ?_)
        · exact mm_by_end 6 rfl
        · refine mm_sw_c.trans (mm_ite ?_ ?_)
          · exact mm_by_end 4 rfl
          · refine Eq.trans (show mm_D _ _ (mm_sw [] 85 x2) _ _ _ = mm_D _ _ 85 _ _ _ from rfl) ?_
            exact mm_by_end 2 rfl
    · exact mm_by_end 2 rfl
set_option maxRecDepth 100000 in
set_option maxHeartbeats 4000000 in
theorem U_X7_countCurtains {d : Nat} {s : Nat} {h : mm_H} (hs : mm_isS s) : mm_M mm_T0 (d + 1) 122 [.ref s] h = (mm_D (mm_M mm_T0 d) cd_X7_countCurtains 4 [.ref s, .int 0, .int 0] [] h) := by
  refine (mm_M_eq (ls := [.ref s, .null, .null]) rfl (Nat.le_of_ble_eq_true rfl) rfl h).trans ?_
  exact mm_by 4 rfl
set_option maxRecDepth 100000 in
set_option maxHeartbeats 4000000 in
theorem U_X7_countCurtains_4 {d : Nat} {s : Nat} {x1 : Int32} {x2 : Int32} {h : mm_H} (hs : mm_isS s) : mm_D (mm_M mm_T0 d) cd_X7_countCurtains 4 [.ref s, .int x1, .int x2] [] h = (if (h.1 s 10) ≤ x2 then (some (some (.int x1), h)) else (mm_bI (mm_M mm_T0 d 106 [.ref s, .int x2] h) (fun v2 h1 => if ¬ v2 = 0 then (mm_D (mm_M mm_T0 d) cd_X7_countCurtains 4 [.ref s, .int (x1 + 0), .int (x2 + 1)] [] h1) else (mm_D (mm_M mm_T0 d) cd_X7_countCurtains 4 [.ref s, .int (x1 + 1), .int (x2 + 1)] [] h1)))) := by
  refine (mm_by 2 (pc' := 6) (ls' := [.ref s, .int x1, .int x2]) (st' := [.ref s, .int x2]) (h' := h) rfl).trans ?_
  refine (mm_go (pc' := 9) (ls' := [.ref s, .int x1, .int x2]) (st' := [.int (h.1 s 10), .int x2]) (h' := h) rfl (q_get (isS_0 hs))).trans ?_
  refine (mm_br (c := (h.1 s 10) ≤ x2) (p1 := 34) (p2 := 12) (l1 := [.ref s, .int x1, .int x2]) (l2 := [.ref s, .int x1, .int x2]) (s1 := []) (s2 := []) (h1 := h) (h2 := h) rfl rfl).trans (mm_ite ?_ ?_)
  · exact mm_by_end 2 rfl
  · refine (mm_by 3 (pc' := 15) (ls' := [.ref s, .int x1, .int x2]) (st' := [.int x2, .ref s, .int x1]) (h' := h) rfl).trans ?_
    refine (mm_c1 (y := 106) (as := [.ref s, .int x2]) (nx := 18) (rest := [.int x1]) rfl (if_pos ⟨(isS_0 hs), Nat.le_of_ble_eq_true rfl⟩)).trans (mm_congI fun v2 h1 => ?_)
    refine (mm_br (c := ¬ v2 = 0) (p1 := 25) (p2 := 21) (l1 := [.ref s, .int x1, .int x2]) (l2 := [.ref s, .int x1, .int x2]) (s1 := [.int x1]) (s2 := [.int x1]) (h1 := h1) (h2 := h1) rfl rfl).trans (mm_ite ?_ ?_)
    · exact mm_by 5 rfl
    · exact mm_by 6 rfl
set_option maxRecDepth 100000 in
set_option maxHeartbeats 4000000 in
theorem U_X7_countSparing {d : Nat} {s : Nat} {h : mm_H} (hs : mm_isS s) : mm_M mm_T0 (d + 1) 123 [.ref s] h = (mm_D (mm_M mm_T0 d) cd_X7_countSparing 4 [.ref s, .int 0, .int 0] [] h) := by
  refine (mm_M_eq (ls := [.ref s, .null, .null]) rfl (Nat.le_of_ble_eq_true rfl) rfl h).trans ?_
  exact mm_by 4 rfl
set_option maxRecDepth 100000 in
set_option maxHeartbeats 4000000 in
theorem U_X7_countSparing_4 {d : Nat} {s : Nat} {x1 : Int32} {x2 : Int32} {h : mm_H} (hs : mm_isS s) : mm_D (mm_M mm_T0 d) cd_X7_countSparing 4 [.ref s, .int x1, .int x2] [] h = (if (h.1 s 10) ≤ x2 then (some (some (.int x1), h)) else (mm_bI (mm_M mm_T0 d 109 [.ref s, .int x2] h) (fun v2 h1 => mm_D (mm_M mm_T0 d) cd_X7_countSparing 4 [.ref s, .int (x1 + v2), .int (x2 + 1)] [] h1))) := by
  refine (mm_by 2 (pc' := 6) (ls' := [.ref s, .int x1, .int x2]) (st' := [.ref s, .int x2]) (h' := h) rfl).trans ?_
  refine (mm_go (pc' := 9) (ls' := [.ref s, .int x1, .int x2]) (st' := [.int (h.1 s 10), .int x2]) (h' := h) rfl (q_get (isS_0 hs))).trans ?_
  refine (mm_br (c := (h.1 s 10) ≤ x2) (p1 := 26) (p2 := 12) (l1 := [.ref s, .int x1, .int x2]) (l2 := [.ref s, .int x1, .int x2]) (s1 := []) (s2 := []) (h1 := h) (h2 := h) rfl rfl).trans (mm_ite ?_ ?_)
  · exact mm_by_end 2 rfl
  · refine (mm_by 3 (pc' := 15) (ls' := [.ref s, .int x1, .int x2]) (st' := [.int x2, .ref s, .int x1]) (h' := h) rfl).trans ?_
    refine (mm_c1 (y := 109) (as := [.ref s, .int x2]) (nx := 18) (rest := [.int x1]) rfl (if_pos ⟨(isS_0 hs), Nat.le_of_ble_eq_true rfl⟩)).trans (mm_congI fun v2 h1 => ?_)
    exact mm_by 4 rfl
set_option maxRecDepth 100000 in
set_option maxHeartbeats 4000000 in
theorem U_X7_allLooks {d : Nat} {s : Nat} {h : mm_H} (hs : mm_isS s) : mm_M mm_T0 (d + 1) 124 [.ref s] h = (mm_D (mm_M mm_T0 d) cd_X7_allLooks 4 [.ref s, .int 0, .int 0] [] h) := by
  refine (mm_M_eq (ls := [.ref s, .null, .null]) rfl (Nat.le_of_ble_eq_true rfl) rfl h).trans ?_
  exact mm_by 4 rfl
set_option maxRecDepth 100000 in
set_option maxHeartbeats 4000000 in
theorem U_X7_allLooks_4 {d : Nat} {s : Nat} {x1 : Int32} {x2 : Int32} {h : mm_H} (hs : mm_isS s) : mm_D (mm_M mm_T0 d) cd_X7_allLooks 4 [.ref s, .int x1, .int x2] [] h = (if (h.1 s 10) ≤ x2 then (some (some (.int x1), h)) else (mm_bI (mm_M mm_T0 d 106 [.ref s, .int x2] h) (fun v2 h1 => mm_D (mm_M mm_T0 d) cd_X7_allLooks 4 [.ref s, .int (x1 + v2), .int (x2 + 1)] [] h1))) := by
  refine (mm_by 2 (pc' := 6) (ls' := [.ref s, .int x1, .int x2]) (st' := [.ref s, .int x2]) (h' := h) rfl).trans ?_
  refine (mm_go (pc' := 9) (ls' := [.ref s, .int x1, .int x2]) (st' := [.int (h.1 s 10), .int x2]) (h' := h) rfl (q_get (isS_0 hs))).trans ?_
  refine (mm_br (c := (h.1 s 10) ≤ x2) (p1 := 26) (p2 := 12) (l1 := [.ref s, .int x1, .int x2]) (l2 := [.ref s, .int x1, .int x2]) (s1 := []) (s2 := []) (h1 := h) (h2 := h) rfl rfl).trans (mm_ite ?_ ?_)
  · exact mm_by_end 2 rfl
  · refine (mm_by 3 (pc' := 15) (ls' := [.ref s, .int x1, .int x2]) (st' := [.int x2, .ref s, .int x1]) (h' := h) rfl).trans ?_
    refine (mm_c1 (y := 106) (as := [.ref s, .int x2]) (nx := 18) (rest := [.int x1]) rfl (if_pos ⟨(isS_0 hs), Nat.le_of_ble_eq_true rfl⟩)).trans (mm_congI fun v2 h1 => ?_)
    exact mm_by 4 rfl
set_option maxRecDepth 100000 in
set_option maxHeartbeats 4000000 in
theorem U_X8_size {d : Nat} {h : mm_H} : mm_M mm_T0 (d + 1) 125 [.ref 1] h = (some (some (.int (h.1 1 1)), h)) := by
  refine (mm_M_eq (ls := [.ref 1]) rfl (Nat.le_of_ble_eq_true rfl) rfl h).trans ?_
  exact mm_by_end 3 rfl
set_option maxRecDepth 100000 in
set_option maxHeartbeats 4000000 in
theorem U_X8_byteAt {d : Nat} {x1 : Int32} {h : mm_H} : mm_M mm_T0 (d + 1) 126 [.ref 1, .int x1] h = (if x1 < 0 then (some (some (.int ((-1))), h)) else (if (h.1 1 1) ≤ x1 then (some (some (.int ((-1))), h)) else (if 1600 ≤ x1 then (some (some (.int ((-1))), h)) else (if x1 < 0 ∨ 1600 ≤ x1.toNatClampNeg then none else (some (some (.int (h.1 2 x1.toNatClampNeg)), h)))))) := by
  refine (mm_M_eq (ls := [.ref 1, .int x1]) rfl (Nat.le_of_ble_eq_true rfl) rfl h).trans ?_
  refine (mm_by 1 (pc' := 1) (ls' := [.ref 1, .int x1]) (st' := [.int x1]) (h' := h) rfl).trans ?_
  refine (mm_br (c := x1 < 0) (p1 := 30) (p2 := 4) (l1 := [.ref 1, .int x1]) (l2 := [.ref 1, .int x1]) (s1 := []) (s2 := []) (h1 := h) (h2 := h) rfl rfl).trans (mm_ite ?_ ?_)
  · exact mm_by_end 2 rfl
  · refine (mm_by 3 (pc' := 9) (ls' := [.ref 1, .int x1]) (st' := [.int (h.1 1 1), .int x1]) (h' := h) rfl).trans ?_
    refine (mm_br (c := (h.1 1 1) ≤ x1) (p1 := 30) (p2 := 12) (l1 := [.ref 1, .int x1]) (l2 := [.ref 1, .int x1]) (s1 := []) (s2 := []) (h1 := h) (h2 := h) rfl rfl).trans (mm_ite ?_ ?_)
    · exact mm_by_end 2 rfl
    · refine (mm_by 4 (pc' := 18) (ls' := [.ref 1, .int x1]) (st' := [.int 1600, .int x1]) (h' := h) rfl).trans ?_
      refine (mm_br (c := 1600 ≤ x1) (p1 := 30) (p2 := 21) (l1 := [.ref 1, .int x1]) (l2 := [.ref 1, .int x1]) (s1 := []) (s2 := []) (h1 := h) (h2 := h) rfl rfl).trans (mm_ite ?_ ?_)
      · exact mm_by_end 2 rfl
      · refine (mm_by 3 (pc' := 26) (ls' := [.ref 1, .int x1]) (st' := [.int x1, .ref 2]) (h' := h) rfl).trans ?_
        refine (mm_gd (c := x1 < 0 ∨ 1600 ≤ x1.toNatClampNeg) (p1 := 27) (l1 := [.ref 1, .int x1]) (s1 := [.int (h.1 2 x1.toNatClampNeg)]) (h1 := h) rfl (q_iald (n := 1600) rfl)).trans (mm_ite rfl ?_)
        exact mm_by_end 2 rfl
set_option maxRecDepth 100000 in
set_option maxHeartbeats 4000000 in
theorem U_X8_addNumber {d : Nat} {x1 : Int32} {h : mm_H} : mm_M mm_T0 (d + 1) 127 [.ref 1, .int x1] h = (mm_D (mm_M mm_T0 d) cd_X8_addNumber 3 [.ref 1, .int x1, .int 24] [] h) := by
  refine (mm_M_eq (ls := [.ref 1, .int x1, .null]) rfl (Nat.le_of_ble_eq_true rfl) rfl h).trans ?_
  exact mm_by 2 rfl
set_option maxRecDepth 100000 in
set_option maxHeartbeats 4000000 in
theorem U_X8_addNumber_3 {d : Nat} {x1 : Int32} {x2 : Int32} {h : mm_H} : mm_D (mm_M mm_T0 d) cd_X8_addNumber 3 [.ref 1, .int x1, .int x2] [] h = (if x2 < 0 then (some (none, h)) else (if 1600 ≤ (h.1 1 1) then (mm_D (mm_M mm_T0 d) cd_X8_addNumber 3 [.ref 1, .int x1, .int (x2 + (-8))] [] h) else (if (h.1 1 1) < 0 ∨ 1600 ≤ (h.1 1 1).toNatClampNeg then none else (mm_D (mm_M mm_T0 d) cd_X8_addNumber 3 [.ref 1, .int x1, .int (x2 + (-8))] [] (wI (wI h 2 ((h.1 1 1).toNatClampNeg) ((x1 >>> (x2 &&& 31)) &&& 255)) 1 1 (((wI h 2 ((h.1 1 1).toNatClampNeg) ((x1 >>> (x2 &&& 31)) &&& 255)).1 1 1) + 1)))))) := by
  refine (mm_by 1 (pc' := 4) (ls' := [.ref 1, .int x1, .int x2]) (st' := [.int x2]) (h' := h) rfl).trans ?_
  refine (mm_br (c := x2 < 0) (p1 := 51) (p2 := 7) (l1 := [.ref 1, .int x1, .int x2]) (l2 := [.ref 1, .int x1, .int x2]) (s1 := []) (s2 := []) (h1 := h) (h2 := h) rfl rfl).trans (mm_ite ?_ ?_)
  · exact mm_by_end 1 rfl
  · refine (mm_by 5 (pc' := 16) (ls' := [.ref 1, .int x1, .int x2]) (st' := [.int 1600, .int (h.1 1 1)]) (h' := h) rfl).trans ?_
    refine (mm_br (c := 1600 ≤ (h.1 1 1)) (p1 := 45) (p2 := 19) (l1 := [.ref 1, .int x1, .int x2]) (l2 := [.ref 1, .int x1, .int x2]) (s1 := []) (s2 := []) (h1 := h) (h2 := h) rfl rfl).trans (mm_ite ?_ ?_)
    · exact mm_by 2 rfl
    · refine (mm_by 9 (pc' := 34) (ls' := [.ref 1, .int x1, .int x2]) (st' := [.int ((x1 >>> (x2 &&& 31)) &&& 255), .int (h.1 1 1), .ref 2]) (h' := h) rfl).trans ?_
      refine (mm_gd (c := (h.1 1 1) < 0 ∨ 1600 ≤ (h.1 1 1).toNatClampNeg) (p1 := 35) (l1 := [.ref 1, .int x1, .int x2]) (s1 := []) (h1 := wI h 2 ((h.1 1 1).toNatClampNeg) ((x1 >>> (x2 &&& 31)) &&& 255)) rfl (q_iast (n := 1600) rfl)).trans (mm_ite rfl ?_)
      exact mm_by 8 rfl
set_option maxRecDepth 100000 in
set_option maxHeartbeats 4000000 in
theorem U_X8_shorten {d : Nat} {x1 : Int32} {h : mm_H} : mm_M mm_T0 (d + 1) 128 [.ref 1, .int x1] h = (mm_bI (mm_M mm_T0 d 11 [.int (h.1 1 1), .int x1] h) (fun v2 h1 => mm_bI (mm_M mm_T0 d 9 [.int 0, .int v2] h1) (fun v4 h3 => some (none, wI h3 1 1 v4)))) := by
  refine (mm_M_eq (ls := [.ref 1, .int x1]) rfl (Nat.le_of_ble_eq_true rfl) rfl h).trans ?_
  refine (mm_by 5 (pc' := 7) (ls' := [.ref 1, .int x1]) (st' := [.int x1, .int (h.1 1 1), .int 0, .ref 1]) (h' := h) rfl).trans ?_
  refine (mm_c1 (y := 11) (as := [.int (h.1 1 1), .int x1]) (nx := 10) (rest := [.int 0, .ref 1]) rfl rfl).trans (mm_congI fun v2 h1 => ?_)
  refine (mm_c1 (y := 9) (as := [.int 0, .int v2]) (nx := 13) (rest := [.ref 1]) rfl rfl).trans (mm_congI fun v4 h3 => ?_)
  exact mm_by_end 2 rfl
set_option maxRecDepth 100000 in
set_option maxHeartbeats 4000000 in
theorem U_X9_readTerrace {d : Nat} {t : Nat} {h : mm_H} (ht : mm_isT t) : mm_M mm_T0 (d + 1) 129 [.ref 12, .ref t] h = (mm_bV (mm_M mm_T0 d 136 [.ref t] h) (fun h1 => mm_bV (mm_M mm_T0 d 74 [.ref 3] h1) (fun h2 => mm_bI (mm_M mm_T0 d 130 [.ref 12, .ref t] h2) (fun v4 h3 => if v4 = 0 then (some (some (.int 0), h3)) else (mm_bI (mm_M mm_T0 d 82 [.ref 3, .int 59] h3) (fun v6 h5 => if ¬ v6 = 0 then (mm_D (mm_M mm_T0 d) cd_X9_readTerrace 35 [.ref 12, .ref t, .int 1] [] h5) else (some (some (.int 0), h5)))))))) := by
  refine (mm_M_eq (ls := [.ref 12, .ref t, .null]) rfl (Nat.le_of_ble_eq_true rfl) rfl h).trans ?_
  refine (mm_by 1 (pc' := 1) (ls' := [.ref 12, .ref t, .null]) (st' := [.ref t]) (h' := h) rfl).trans ?_
  refine (mm_c0 (y := 136) (as := [.ref t]) (nx := 4) (rest := []) rfl (if_pos ⟨(isT_0 ht), Nat.le_of_ble_eq_true rfl⟩)).trans (mm_congV fun h1 => ?_)
  refine (mm_by 2 (pc' := 8) (ls' := [.ref 12, .ref t, .null]) (st' := [.ref 3]) (h' := h1) rfl).trans ?_
  refine (mm_c0 (y := 74) (as := [.ref 3]) (nx := 11) (rest := []) rfl rfl).trans (mm_congV fun h2 => ?_)
  refine (mm_by 2 (pc' := 13) (ls' := [.ref 12, .ref t, .null]) (st' := [.ref t, .ref 12]) (h' := h2) rfl).trans ?_
  refine (mm_c1 (y := 130) (as := [.ref 12, .ref t]) (nx := 16) (rest := []) rfl rfl).trans (mm_congI fun v4 h3 => ?_)
  refine (mm_br (c := v4 = 0) (p1 := 31) (p2 := 19) (l1 := [.ref 12, .ref t, .null]) (l2 := [.ref 12, .ref t, .null]) (s1 := []) (s2 := []) (h1 := h3) (h2 := h3) rfl rfl).trans (mm_ite ?_ ?_)
  · exact mm_by_end 2 rfl
  · refine (mm_by 3 (pc' := 25) (ls' := [.ref 12, .ref t, .null]) (st' := [.int 59, .ref 3]) (h' := h3) rfl).trans ?_
    refine (mm_c1 (y := 82) (as := [.ref 3, .int 59]) (nx := 28) (rest := []) rfl rfl).trans (mm_congI fun v6 h5 => ?_)
    refine (mm_br (c := ¬ v6 = 0) (p1 := 33) (p2 := 31) (l1 := [.ref 12, .ref t, .null]) (l2 := [.ref 12, .ref t, .null]) (s1 := []) (s2 := []) (h1 := h5) (h2 := h5) rfl rfl).trans (mm_ite ?_ ?_)
    · exact mm_by 2 rfl
    · exact mm_by_end 2 rfl
set_option maxRecDepth 100000 in
set_option maxHeartbeats 4000000 in
theorem U_X9_readTerrace_35 {d : Nat} {t : Nat} {x2 : Int32} {h : mm_H} (ht : mm_isT t) : mm_D (mm_M mm_T0 d) cd_X9_readTerrace 35 [.ref 12, .ref t, .int x2] [] h = (if 80 ≤ x2 then (mm_bI (mm_M mm_T0 d 76 [.ref 3] h) (fun v2 h1 => if ¬ v2 = 0 then (mm_bV (mm_M mm_T0 d 140 [.ref t] (wI h1 t 4 x2)) (fun h3 => some (some (.int 1), h3))) else (mm_bI (mm_M mm_T0 d 89 [.ref 3, .int 5] h1) (fun v5 h4 => mm_zr v5 h4)))) else (mm_bI (mm_M mm_T0 d 76 [.ref 3] h) (fun v7 h6 => if ¬ v7 = 0 then (mm_bI (mm_M mm_T0 d 76 [.ref 3] h6) (fun v9 h8 => if ¬ v9 = 0 then (mm_bV (mm_M mm_T0 d 140 [.ref t] (wI h8 t 4 x2)) (fun h10 => some (some (.int 1), h10))) else (mm_bI (mm_M mm_T0 d 89 [.ref 3, .int 5] h8) (fun v12 h11 => mm_zr v12 h11)))) else (mm_bI (mm_M mm_T0 d 131 [.ref 12, .ref t] h6) (fun v14 h13 => if v14 = 0 then (some (some (.int 0), h13)) else (mm_bI (mm_M mm_T0 d 82 [.ref 3, .int 59] h13) (fun v16 h15 => if ¬ v16 = 0 then (mm_D (mm_M mm_T0 d) cd_X9_readTerrace 35 [.ref 12, .ref t, .int (x2 + 1)] [] h15) else (some (some (.int 0), h15))))))))) := by
  refine (mm_by 2 (pc' := 38) (ls' := [.ref 12, .ref t, .int x2]) (st' := [.int 80, .int x2]) (h' := h) rfl).trans ?_
  refine (mm_br (c := 80 ≤ x2) (p1 := 79) (p2 := 41) (l1 := [.ref 12, .ref t, .int x2]) (l2 := [.ref 12, .ref t, .int x2]) (s1 := []) (s2 := []) (h1 := h) (h2 := h) rfl rfl).trans (mm_ite ?_ ?_)
  · refine (mm_by 2 (pc' := 83) (ls' := [.ref 12, .ref t, .int x2]) (st' := [.ref 3]) (h' := h) rfl).trans ?_
    refine (mm_c1 (y := 76) (as := [.ref 3]) (nx := 86) (rest := []) rfl rfl).trans (mm_congI fun v2 h1 => ?_)
    refine (mm_br (c := ¬ v2 = 0) (p1 := 98) (p2 := 89) (l1 := [.ref 12, .ref t, .int x2]) (l2 := [.ref 12, .ref t, .int x2]) (s1 := []) (s2 := []) (h1 := h1) (h2 := h1) rfl rfl).trans (mm_ite ?_ ?_)
    · refine (mm_by 2 (pc' := 100) (ls' := [.ref 12, .ref t, .int x2]) (st' := [.int x2, .ref t]) (h' := h1) rfl).trans ?_
      refine (mm_go (pc' := 103) (ls' := [.ref 12, .ref t, .int x2]) (st' := []) (h' := wI h1 t 4 x2) rfl (q_putI (isT_0 ht))).trans ?_
      refine (mm_by 1 (pc' := 104) (ls' := [.ref 12, .ref t, .int x2]) (st' := [.ref t]) (h' := wI h1 t 4 x2) rfl).trans ?_
      refine (mm_c0 (y := 140) (as := [.ref t]) (nx := 107) (rest := []) rfl (if_pos ⟨(isT_0 ht), Nat.le_of_ble_eq_true rfl⟩)).trans (mm_congV fun h3 => ?_)
      exact mm_by_end 2 rfl
    · refine (mm_by 3 (pc' := 94) (ls' := [.ref 12, .ref t, .int x2]) (st' := [.int 5, .ref 3]) (h' := h1) rfl).trans ?_
      refine (mm_c1 (y := 89) (as := [.ref 3, .int 5]) (nx := 97) (rest := []) rfl rfl).trans (mm_congI fun v5 h4 => ?_)
      exact mm_zend rfl
  · refine (mm_by 2 (pc' := 45) (ls' := [.ref 12, .ref t, .int x2]) (st' := [.ref 3]) (h' := h) rfl).trans ?_
    refine (mm_c1 (y := 76) (as := [.ref 3]) (nx := 48) (rest := []) rfl rfl).trans (mm_congI fun v7 h6 => ?_)
    refine (mm_br (c := ¬ v7 = 0) (p1 := 79) (p2 := 51) (l1 := [.ref 12, .ref t, .int x2]) (l2 := [.ref 12, .ref t, .int x2]) (s1 := []) (s2 := []) (h1 := h6) (h2 := h6) rfl rfl).trans (mm_ite ?_ ?_)
    · refine (mm_by 2 (pc' := 83) (ls' := [.ref 12, .ref t, .int x2]) (st' := [.ref 3]) (h' := h6) rfl).trans ?_
      refine (mm_c1 (y := 76) (as := [.ref 3]) (nx := 86) (rest := []) rfl rfl).trans (mm_congI fun v9 h8 => ?_)
      refine (mm_br (c := ¬ v9 = 0) (p1 := 98) (p2 := 89) (l1 := [.ref 12, .ref t, .int x2]) (l2 := [.ref 12, .ref t, .int x2]) (s1 := []) (s2 := []) (h1 := h8) (h2 := h8) rfl rfl).trans (mm_ite ?_ ?_)
      · refine (mm_by 2 (pc' := 100) (ls' := [.ref 12, .ref t, .int x2]) (st' := [.int x2, .ref t]) (h' := h8) rfl).trans ?_
        refine (mm_go (pc' := 103) (ls' := [.ref 12, .ref t, .int x2]) (st' := []) (h' := wI h8 t 4 x2) rfl (q_putI (isT_0 ht))).trans ?_
        refine (mm_by 1 (pc' := 104) (ls' := [.ref 12, .ref t, .int x2]) (st' := [.ref t]) (h' := wI h8 t 4 x2) rfl).trans ?_
        refine (mm_c0 (y := 140) (as := [.ref t]) (nx := 107) (rest := []) rfl (if_pos ⟨(isT_0 ht), Nat.le_of_ble_eq_true rfl⟩)).trans (mm_congV fun h10 => ?_)
        exact mm_by_end 2 rfl
      · refine (mm_by 3 (pc' := 94) (ls' := [.ref 12, .ref t, .int x2]) (st' := [.int 5, .ref 3]) (h' := h8) rfl).trans ?_
        refine (mm_c1 (y := 89) (as := [.ref 3, .int 5]) (nx := 97) (rest := []) rfl rfl).trans (mm_congI fun v12 h11 => ?_)
        exact mm_zend rfl
    · refine (mm_by 2 (pc' := 53) (ls' := [.ref 12, .ref t, .int x2]) (st' := [.ref t, .ref 12]) (h' := h6) rfl).trans ?_
      refine (mm_c1 (y := 131) (as := [.ref 12, .ref t]) (nx := 56) (rest := []) rfl rfl).trans (mm_congI fun v14 h13 => ?_)
      refine (mm_br (c := v14 = 0) (p1 := 71) (p2 := 59) (l1 := [.ref 12, .ref t, .int x2]) (l2 := [.ref 12, .ref t, .int x2]) (s1 := []) (s2 := []) (h1 := h13) (h2 := h13) rfl rfl).trans (mm_ite ?_ ?_)
      · exact mm_by_end 2 rfl
      · refine (mm_by 3 (pc' := 65) (ls' := [.ref 12, .ref t, .int x2]) (st' := [.int 59, .ref 3]) (h' := h13) rfl).trans ?_
        refine (mm_c1 (y := 82) (as := [.ref 3, .int 59]) (nx := 68) (rest := []) rfl rfl).trans (mm_congI fun v16 h15 => ?_)
        refine (mm_br (c := ¬ v16 = 0) (p1 := 73) (p2 := 71) (l1 := [.ref 12, .ref t, .int x2]) (l2 := [.ref 12, .ref t, .int x2]) (s1 := []) (s2 := []) (h1 := h15) (h2 := h15) rfl rfl).trans (mm_ite ?_ ?_)
        · exact mm_by 2 rfl
        · exact mm_by_end 2 rfl
set_option maxRecDepth 100000 in
set_option maxHeartbeats 4000000 in
theorem U_X9_readHouses {d : Nat} {t : Nat} {h : mm_H} (ht : mm_isT t) : mm_M mm_T0 (d + 1) 130 [.ref 12, .ref t] h = (mm_bI (mm_M mm_T0 d 81 [.ref 3, .int 0] h) (fun v2 h1 => if v2 = 0 then (some (some (.int 0), h1)) else (mm_bI (mm_M mm_T0 d 83 [.ref 3, .int 2, .int 9] h1) (fun v4 h3 => if ¬ v4 = 0 then (mm_bI (mm_M mm_T0 d 85 [.ref 3] h3) (fun v6 h5 => some (some (.int 1), wI h5 (t + 1) 9 v6))) else (some (some (.int 0), h3)))))) := by
  refine (mm_M_eq (ls := [.ref 12, .ref t]) rfl (Nat.le_of_ble_eq_true rfl) rfl h).trans ?_
  refine (mm_by 3 (pc' := 5) (ls' := [.ref 12, .ref t]) (st' := [.int 0, .ref 3]) (h' := h) rfl).trans ?_
  refine (mm_c1 (y := 81) (as := [.ref 3, .int 0]) (nx := 8) (rest := []) rfl rfl).trans (mm_congI fun v2 h1 => ?_)
  refine (mm_br (c := v2 = 0) (p1 := 24) (p2 := 11) (l1 := [.ref 12, .ref t]) (l2 := [.ref 12, .ref t]) (s1 := []) (s2 := []) (h1 := h1) (h2 := h1) rfl rfl).trans (mm_ite ?_ ?_)
  · exact mm_by_end 2 rfl
  · refine (mm_by 4 (pc' := 18) (ls' := [.ref 12, .ref t]) (st' := [.int 9, .int 2, .ref 3]) (h' := h1) rfl).trans ?_
    refine (mm_c1 (y := 83) (as := [.ref 3, .int 2, .int 9]) (nx := 21) (rest := []) rfl rfl).trans (mm_congI fun v4 h3 => ?_)
    refine (mm_br (c := ¬ v4 = 0) (p1 := 26) (p2 := 24) (l1 := [.ref 12, .ref t]) (l2 := [.ref 12, .ref t]) (s1 := []) (s2 := []) (h1 := h3) (h2 := h3) rfl rfl).trans (mm_ite ?_ ?_)
    · refine (mm_by 1 (pc' := 27) (ls' := [.ref 12, .ref t]) (st' := [.ref t]) (h' := h3) rfl).trans ?_
      refine (mm_go (pc' := 30) (ls' := [.ref 12, .ref t]) (st' := [.ref (t + 1)]) (h' := h3) rfl (q_get (isT_0 ht))).trans ?_
      refine (mm_by 2 (pc' := 34) (ls' := [.ref 12, .ref t]) (st' := [.ref 3, .ref (t + 1)]) (h' := h3) rfl).trans ?_
      refine (mm_c1 (y := 85) (as := [.ref 3]) (nx := 37) (rest := [.ref (t + 1)]) rfl rfl).trans (mm_congI fun v6 h5 => ?_)
      refine (mm_go (pc' := 40) (ls' := [.ref 12, .ref t]) (st' := []) (h' := wI h5 (t + 1) 9 v6) rfl (q_putI (isT_1 ht))).trans ?_
      exact mm_by_end 2 rfl
    · exact mm_by_end 2 rfl
set_option maxRecDepth 100000 in
set_option maxHeartbeats 4000000 in
theorem U_X9_readStatement {d : Nat} {t : Nat} {h : mm_H} (ht : mm_isT t) : mm_M mm_T0 (d + 1) 131 [.ref 12, .ref t] h = (mm_bI (mm_M mm_T0 d 77 [.ref 3] h) (fun v2 h1 => if ¬ v2 = 0 then (if (h1.1 3 4) = 1 then (mm_bI (mm_M mm_T0 d 132 [.ref 12, .ref t] h1) (fun v4 h3 => mm_zr v4 h3)) else (if (h1.1 3 4) = 2 then (mm_bI (mm_M mm_T0 d 88 [.ref 3] h1) (fun v6 h5 => mm_zr v6 h5)) else (if (h1.1 3 4) = 3 then (mm_bI (mm_M mm_T0 d 88 [.ref 3] h1) (fun v8 h7 => mm_zr v8 h7)) else (if (h1.1 3 4) = 4 then (mm_bI (mm_M mm_T0 d 88 [.ref 3] h1) (fun v10 h9 => mm_zr v10 h9)) else (if (h1.1 3 4) = 5 then (mm_bI (mm_M mm_T0 d 133 [.ref 12, .ref t] h1) (fun v12 h11 => mm_zr v12 h11)) else (if (h1.1 3 4) = 6 then (mm_bI (mm_M mm_T0 d 88 [.ref 3] h1) (fun v14 h13 => mm_zr v14 h13)) else (if (h1.1 3 4) = 7 then (mm_bI (mm_M mm_T0 d 46 [.ref 11, .ref (t + 10), .int 0, .int 0] h1) (fun v16 h15 => mm_zr v16 h15)) else (if (h1.1 3 4) = 8 then (mm_bI (mm_M mm_T0 d 46 [.ref 11, .ref (t + 10), .int 1, .int 0] h1) (fun v18 h17 => mm_zr v18 h17)) else (if (h1.1 3 4) = 9 then (mm_bI (mm_M mm_T0 d 46 [.ref 11, .ref (t + 10), .int 2, .int 1] h1) (fun v20 h19 => mm_zr v20 h19)) else (if (h1.1 3 4) = 10 then (mm_bI (mm_M mm_T0 d 135 [.ref 12, .ref t] h1) (fun v22 h21 => mm_zr v22 h21)) else (mm_bI (mm_M mm_T0 d 88 [.ref 3] h1) (fun v24 h23 => mm_zr v24 h23)))))))))))) else (mm_bI (mm_M mm_T0 d 88 [.ref 3] h1) (fun v26 h25 => mm_zr v26 h25)))) := by
  refine (mm_M_eq (ls := [.ref 12, .ref t]) rfl (Nat.le_of_ble_eq_true rfl) rfl h).trans ?_
  refine (mm_by 2 (pc' := 4) (ls' := [.ref 12, .ref t]) (st' := [.ref 3]) (h' := h) rfl).trans ?_
  refine (mm_c1 (y := 77) (as := [.ref 3]) (nx := 7) (rest := []) rfl rfl).trans (mm_congI fun v2 h1 => ?_)
  refine (mm_br (c := ¬ v2 = 0) (p1 := 18) (p2 := 10) (l1 := [.ref 12, .ref t]) (l2 := [.ref 12, .ref t]) (s1 := []) (s2 := []) (h1 := h1) (h2 := h1) rfl rfl).trans (mm_ite ?_ ?_)
  · refine (mm_by 3 (pc' := 25) (ls' := [.ref 12, .ref t]) (st' := [.int (h1.1 3 4)]) (h' := h1) rfl).trans ?_
    refine (mm_go (pc' := mm_sw [(1, 80), (2, 140), (3, 140), (4, 140), (5, 86), (6, 140), (7, 92), (8, 106), (9, 120), (10, 134)] 140 (h1.1 3 4)) (ls' := [.ref 12, .ref t]) (st' := []) (h' := h1) rfl rfl).trans ?_
    refine mm_sw_c.trans (mm_ite ?_ ?_)
    · refine (mm_by 2 (pc' := 82) (ls' := [.ref 12, .ref t]) (st' := [.ref t, .ref 12]) (h' := h1) rfl).trans ?_
      refine (mm_c1 (y := 132) (as := [.ref 12, .ref t]) (nx := 85) (rest := []) rfl rfl).trans (mm_congI fun v4 h3 => ?_)
      exact mm_zend rfl
    · refine mm_sw_c.trans (mm_ite ?_ ?_)
      · refine (mm_by 2 (pc' := 144) (ls' := [.ref 12, .ref t]) (st' := [.ref 3]) (h' := h1) rfl).trans ?_
        refine (mm_c1 (y := 88) (as := [.ref 3]) (nx := 147) (rest := []) rfl rfl).trans (mm_congI fun v6 h5 => ?_)
        exact mm_zend rfl
      · refine mm_sw_c.trans (mm_ite ?_ ?_)
        · refine (mm_by 2 (pc' := 144) (ls' := [.ref 12, .ref t]) (st' := [.ref 3]) (h' := h1) rfl).trans ?_
          refine (mm_c1 (y := 88) (as := [.ref 3]) (nx := 147) (rest := []) rfl rfl).trans (mm_congI fun v8 h7 => ?_)
          exact mm_zend rfl
        · refine mm_sw_c.trans (mm_ite ?_ ?_)
          · refine (mm_by 2 (pc' := 144) (ls' := [.ref 12, .ref t]) (st' := [.ref 3]) (h' := h1) rfl).trans ?_
            refine (mm_c1 (y := 88) (as := [.ref 3]) (nx := 147) (rest := []) rfl rfl).trans (mm_congI fun v10 h9 => ?_)
            exact mm_zend rfl
          · refine mm_sw_c.trans (mm_ite ?_ ?_)
            · refine (mm_by 2 (pc' := 88) (ls' := [.ref 12, .ref t]) (st' := [.ref t, .ref 12]) (h' := h1) rfl).trans ?_
              refine (mm_c1 (y := 133) (as := [.ref 12, .ref t]) (nx := 91) (rest := []) rfl rfl).trans (mm_congI fun v12 h11 => ?_)
              exact mm_zend rfl
            · refine mm_sw_c.trans (mm_ite ?_ ?_)
              · refine (mm_by 2 (pc' := 144) (ls' := [.ref 12, .ref t]) (st' := [.ref 3]) (h' := h1) rfl).trans ?_
                refine (mm_c1 (y := 88) (as := [.ref 3]) (nx := 147) (rest := []) rfl rfl).trans (mm_congI fun v14 h13 => ?_)
                exact mm_zend rfl
              · refine mm_sw_c.trans (mm_ite ?_ ?_)
                · refine (mm_by 3 (pc' := 97) (ls' := [.ref 12, .ref t]) (st' := [.ref t, .ref 11]) (h' := h1) rfl).trans ?_
                  refine (mm_go (pc' := 100) (ls' := [.ref 12, .ref t]) (st' := [.ref (t + 10), .ref 11]) (h' := h1) rfl (q_get (isT_0 ht))).trans ?_
                  refine (mm_by 2 (pc' := 102) (ls' := [.ref 12, .ref t]) (st' := [.int 0, .int 0, .ref (t + 10), .ref 11]) (h' := h1) rfl).trans ?_
                  refine (mm_c1 (y := 46) (as := [.ref 11, .ref (t + 10), .int 0, .int 0]) (nx := 105) (rest := []) rfl rfl).trans (mm_congI fun v16 h15 => ?_)
                  exact mm_zend rfl
                · refine mm_sw_c.trans (mm_ite ?_ ?_)
                  · refine (mm_by 3 (pc' := 111) (ls' := [.ref 12, .ref t]) (st' := [.ref t, .ref 11]) (h' := h1) rfl).trans ?_
                    refine (mm_go (pc' := 114) (ls' := [.ref 12, .ref t]) (st' := [.ref (t + 10), .ref 11]) (h' := h1) rfl (q_get (isT_0 ht))).trans ?_
                    refine (mm_by 2 (pc' := 116) (ls' := [.ref 12, .ref t]) (st' := [.int 0, .int 1, .ref (t + 10), .ref 11]) (h' := h1) rfl).trans ?_
                    refine (mm_c1 (y := 46) (as := [.ref 11, .ref (t + 10), .int 1, .int 0]) (nx := 119) (rest := []) rfl rfl).trans (mm_congI fun v18 h17 => ?_)
                    exact mm_zend rfl
                  · refine mm_sw_c.trans (mm_ite ?_ ?_)
                    · refine (mm_by 3 (pc' := 125) (ls' := [.ref 12, .ref t]) (st' := [.ref t, .ref 11]) (h' := h1) rfl).trans ?_
                      refine (mm_go (pc' := 128) (ls' := [.ref 12, .ref t]) (st' := [.ref (t + 10), .ref 11]) (h' := h1) rfl (q_get (isT_0 ht))).trans ?_
                      refine (mm_by 2 (pc' := 130) (ls' := [.ref 12, .ref t]) (st' := [.int 1, .int 2, .ref (t + 10), .ref 11]) (h' := h1) rfl).trans ?_
                      refine (mm_c1 (y := 46) (as := [.ref 11, .ref (t + 10), .int 2, .int 1]) (nx := 133) (rest := []) rfl rfl).trans (mm_congI fun v20 h19 => ?_)
                      exact mm_zend rfl
                    · refine mm_sw_c.trans (mm_ite ?_ ?_)
                      · refine (mm_by 2 (pc' := 136) (ls' := [.ref 12, .ref t]) (st' := [.ref t, .ref 12]) (h' := h1) rfl).trans ?_
                        refine (mm_c1 (y := 135) (as := [.ref 12, .ref t]) (nx := 139) (rest := []) rfl rfl).trans (mm_congI fun v22 h21 => ?_)
                        exact mm_zend rfl
                      · refine Eq.trans (show mm_D _ _ (mm_sw [] 140 (h1.1 3 4)) _ _ _ = mm_D _ _ 140 _ _ _ from rfl) ?_
                        refine (mm_by 2 (pc' := 144) (ls' := [.ref 12, .ref t]) (st' := [.ref 3]) (h' := h1) rfl).trans ?_
                        refine (mm_c1 (y := 88) (as := [.ref 3]) (nx := 147) (rest := []) rfl rfl).trans (mm_congI fun v24 h23 => ?_)
                        exact mm_zend rfl
  · refine (mm_by 2 (pc' := 14) (ls' := [.ref 12, .ref t]) (st' := [.ref 3]) (h' := h1) rfl).trans ?_
    refine (mm_c1 (y := 88) (as := [.ref 3]) (nx := 17) (rest := []) rfl rfl).trans (mm_congI fun v26 h25 => ?_)
    exact mm_zend rfl
set_option maxRecDepth 100000 in
set_option maxHeartbeats 4000000 in
theorem U_X9_readSoul {d : Nat} {t : Nat} {h : mm_H} (ht : mm_isT t) : mm_M mm_T0 (d + 1) 132 [.ref 12, .ref t] h = (if (h.1 (t + 1) 10) < 8 then (mm_bV (mm_M mm_T0 d 75 [.ref 3] h) (fun h1 => mm_bI (mm_M mm_T0 d 84 [.ref 3] h1) (fun v3 h2 => if ¬ v3 = 0 then (mm_bI (mm_M mm_T0 d 138 [.ref t, .ref 3] h2) (fun v5 h4 => if v5 = ((-1)) then (mm_bV (mm_M mm_T0 d 137 [.ref t, .ref 3] h4) (fun h6 => mm_bV (mm_M mm_T0 d 75 [.ref 3] h6) (fun h7 => mm_bI (mm_M mm_T0 d 81 [.ref 3, .int 2] h7) (fun v9 h8 => if v9 = 0 then (some (some (.int 0), h8)) else (mm_bI (mm_M mm_T0 d 83 [.ref 3, .int 0, .int ((h8.1 (t + 1) 9) - 1)] h8) (fun v11 h10 => if ¬ v11 = 0 then (mm_bI (mm_M mm_T0 d 104 [.ref (t + 1), .int (h10.1 3 4)] h10) (fun v13 h12 => if v13 = ((-1)) then (mm_bI (mm_M mm_T0 d 85 [.ref 3] h12) (fun v15 h14 => mm_bI (mm_M mm_T0 d 81 [.ref 3, .int 3] h14) (fun v17 h16 => if v17 = 0 then (some (some (.int 0), h16)) else (mm_bI (mm_M mm_T0 d 83 [.ref 3, .int 0, .int 9] h16) (fun v19 h18 => if ¬ v19 = 0 then (mm_bI (mm_M mm_T0 d 85 [.ref 3] h18) (fun v21 h20 => mm_bI (mm_M mm_T0 d 81 [.ref 3, .int 4] h20) (fun v23 h22 => if v23 = 0 then (some (some (.int 0), h22)) else (mm_bI (mm_M mm_T0 d 83 [.ref 3, .int 0, .int 9] h22) (fun v25 h24 => if ¬ v25 = 0 then (mm_bI (mm_M mm_T0 d 85 [.ref 3] h24) (fun v27 h26 => mm_bV (mm_M mm_T0 d 118 [.ref (t + 1), .int v15, .int v21, .int v27] h26) (fun h28 => some (some (.int 1), h28)))) else (some (some (.int 0), h24))))))) else (some (some (.int 0), h18))))))) else (mm_bI (mm_M mm_T0 d 89 [.ref 3, .int 2] h12) (fun v30 h29 => mm_zr v30 h29)))) else (some (some (.int 0), h10)))))))) else (mm_bI (mm_M mm_T0 d 89 [.ref 3, .int 3] h4) (fun v32 h31 => mm_zr v32 h31)))) else (some (some (.int 0), h2))))) else (mm_bI (mm_M mm_T0 d 89 [.ref 3, .int 5] h) (fun v34 h33 => mm_zr v34 h33))) := by
  refine (mm_M_eq (ls := [.ref 12, .ref t, .null, .null]) rfl (Nat.le_of_ble_eq_true rfl) rfl h).trans ?_
  refine (mm_by 1 (pc' := 1) (ls' := [.ref 12, .ref t, .null, .null]) (st' := [.ref t]) (h' := h) rfl).trans ?_
  refine (mm_go (pc' := 4) (ls' := [.ref 12, .ref t, .null, .null]) (st' := [.ref (t + 1)]) (h' := h) rfl (q_get (isT_0 ht))).trans ?_
  refine (mm_go (pc' := 7) (ls' := [.ref 12, .ref t, .null, .null]) (st' := [.int (h.1 (t + 1) 10)]) (h' := h) rfl (q_get (isT_1 ht))).trans ?_
  refine (mm_by 1 (pc' := 9) (ls' := [.ref 12, .ref t, .null, .null]) (st' := [.int 8, .int (h.1 (t + 1) 10)]) (h' := h) rfl).trans ?_
  refine (mm_br (c := (h.1 (t + 1) 10) < 8) (p1 := 21) (p2 := 12) (l1 := [.ref 12, .ref t, .null, .null]) (l2 := [.ref 12, .ref t, .null, .null]) (s1 := []) (s2 := []) (h1 := h) (h2 := h) rfl rfl).trans (mm_ite ?_ ?_)
  · refine (mm_by 2 (pc' := 25) (ls' := [.ref 12, .ref t, .null, .null]) (st' := [.ref 3]) (h' := h) rfl).trans ?_
    refine (mm_c0 (y := 75) (as := [.ref 3]) (nx := 28) (rest := []) rfl rfl).trans (mm_congV fun h1 => ?_)
    refine (mm_by 2 (pc' := 32) (ls' := [.ref 12, .ref t, .null, .null]) (st' := [.ref 3]) (h' := h1) rfl).trans ?_
    refine (mm_c1 (y := 84) (as := [.ref 3]) (nx := 35) (rest := []) rfl rfl).trans (mm_congI fun v3 h2 => ?_)
    refine (mm_br (c := ¬ v3 = 0) (p1 := 40) (p2 := 38) (l1 := [.ref 12, .ref t, .null, .null]) (l2 := [.ref 12, .ref t, .null, .null]) (s1 := []) (s2 := []) (h1 := h2) (h2 := h2) rfl rfl).trans (mm_ite ?_ ?_)
    · refine (mm_by 3 (pc' := 45) (ls' := [.ref 12, .ref t, .null, .null]) (st' := [.ref 3, .ref t]) (h' := h2) rfl).trans ?_
      refine (mm_c1 (y := 138) (as := [.ref t, .ref 3]) (nx := 48) (rest := []) rfl (if_pos ⟨(isT_0 ht), Nat.le_of_ble_eq_true rfl⟩)).trans (mm_congI fun v5 h4 => ?_)
      refine (mm_by 1 (pc' := 49) (ls' := [.ref 12, .ref t, .null, .null]) (st' := [.int ((-1)), .int v5]) (h' := h4) rfl).trans ?_
      refine (mm_br (c := v5 = ((-1))) (p1 := 61) (p2 := 52) (l1 := [.ref 12, .ref t, .null, .null]) (l2 := [.ref 12, .ref t, .null, .null]) (s1 := []) (s2 := []) (h1 := h4) (h2 := h4) rfl rfl).trans (mm_ite ?_ ?_)
      · refine (mm_by 3 (pc' := 66) (ls' := [.ref 12, .ref t, .null, .null]) (st' := [.ref 3, .ref t]) (h' := h4) rfl).trans ?_
        refine (mm_c0 (y := 137) (as := [.ref t, .ref 3]) (nx := 69) (rest := []) rfl (if_pos ⟨(isT_0 ht), Nat.le_of_ble_eq_true rfl⟩)).trans (mm_congV fun h6 => ?_)
        refine (mm_by 2 (pc' := 73) (ls' := [.ref 12, .ref t, .null, .null]) (st' := [.ref 3]) (h' := h6) rfl).trans ?_
        refine (mm_c0 (y := 75) (as := [.ref 3]) (nx := 76) (rest := []) rfl rfl).trans (mm_congV fun h7 => ?_)
        refine (mm_by 3 (pc' := 81) (ls' := [.ref 12, .ref t, .null, .null]) (st' := [.int 2, .ref 3]) (h' := h7) rfl).trans ?_
        refine (mm_c1 (y := 81) (as := [.ref 3, .int 2]) (nx := 84) (rest := []) rfl rfl).trans (mm_congI fun v9 h8 => ?_)
        refine (mm_br (c := v9 = 0) (p1 := 107) (p2 := 87) (l1 := [.ref 12, .ref t, .null, .null]) (l2 := [.ref 12, .ref t, .null, .null]) (s1 := []) (s2 := []) (h1 := h8) (h2 := h8) rfl rfl).trans (mm_ite ?_ ?_)
        · exact mm_by_end 2 rfl
        · refine (mm_by 4 (pc' := 93) (ls' := [.ref 12, .ref t, .null, .null]) (st' := [.ref t, .int 0, .ref 3]) (h' := h8) rfl).trans ?_
          refine (mm_go (pc' := 96) (ls' := [.ref 12, .ref t, .null, .null]) (st' := [.ref (t + 1), .int 0, .ref 3]) (h' := h8) rfl (q_get (isT_0 ht))).trans ?_
          refine (mm_go (pc' := 99) (ls' := [.ref 12, .ref t, .null, .null]) (st' := [.int (h8.1 (t + 1) 9), .int 0, .ref 3]) (h' := h8) rfl (q_get (isT_1 ht))).trans ?_
          refine (mm_by 2 (pc' := 101) (ls' := [.ref 12, .ref t, .null, .null]) (st' := [.int ((h8.1 (t + 1) 9) - 1), .int 0, .ref 3]) (h' := h8) rfl).trans ?_
          refine (mm_c1 (y := 83) (as := [.ref 3, .int 0, .int ((h8.1 (t + 1) 9) - 1)]) (nx := 104) (rest := []) rfl rfl).trans (mm_congI fun v11 h10 => ?_)
          refine (mm_br (c := ¬ v11 = 0) (p1 := 109) (p2 := 107) (l1 := [.ref 12, .ref t, .null, .null]) (l2 := [.ref 12, .ref t, .null, .null]) (s1 := []) (s2 := []) (h1 := h10) (h2 := h10) rfl rfl).trans (mm_ite ?_ ?_)
          · refine (mm_by 1 (pc' := 110) (ls' := [.ref 12, .ref t, .null, .null]) (st' := [.ref t]) (h' := h10) rfl).trans ?_
            refine (mm_go (pc' := 113) (ls' := [.ref 12, .ref t, .null, .null]) (st' := [.ref (t + 1)]) (h' := h10) rfl (q_get (isT_0 ht))).trans ?_
            refine (mm_by 3 (pc' := 120) (ls' := [.ref 12, .ref t, .null, .null]) (st' := [.int (h10.1 3 4), .ref (t + 1)]) (h' := h10) rfl).trans ?_
            refine (mm_c1 (y := 104) (as := [.ref (t + 1), .int (h10.1 3 4)]) (nx := 123) (rest := []) rfl (if_pos ⟨(isT_1 ht), Nat.le_of_ble_eq_true rfl⟩)).trans (mm_congI fun v13 h12 => ?_)
            refine (mm_by 1 (pc' := 124) (ls' := [.ref 12, .ref t, .null, .null]) (st' := [.int ((-1)), .int v13]) (h' := h12) rfl).trans ?_
            refine (mm_br (c := v13 = ((-1))) (p1 := 136) (p2 := 127) (l1 := [.ref 12, .ref t, .null, .null]) (l2 := [.ref 12, .ref t, .null, .null]) (s1 := []) (s2 := []) (h1 := h12) (h2 := h12) rfl rfl).trans (mm_ite ?_ ?_)
            · refine (mm_by 2 (pc' := 140) (ls' := [.ref 12, .ref t, .null, .null]) (st' := [.ref 3]) (h' := h12) rfl).trans ?_
              refine (mm_c1 (y := 85) (as := [.ref 3]) (nx := 143) (rest := []) rfl rfl).trans (mm_congI fun v15 h14 => ?_)
              refine (mm_by 4 (pc' := 149) (ls' := [.ref 12, .ref t, .int v15, .null]) (st' := [.int 3, .ref 3]) (h' := h14) rfl).trans ?_
              refine (mm_c1 (y := 81) (as := [.ref 3, .int 3]) (nx := 152) (rest := []) rfl rfl).trans (mm_congI fun v17 h16 => ?_)
              refine (mm_br (c := v17 = 0) (p1 := 168) (p2 := 155) (l1 := [.ref 12, .ref t, .int v15, .null]) (l2 := [.ref 12, .ref t, .int v15, .null]) (s1 := []) (s2 := []) (h1 := h16) (h2 := h16) rfl rfl).trans (mm_ite ?_ ?_)
              · exact mm_by_end 2 rfl
              · refine (mm_by 4 (pc' := 162) (ls' := [.ref 12, .ref t, .int v15, .null]) (st' := [.int 9, .int 0, .ref 3]) (h' := h16) rfl).trans ?_
                refine (mm_c1 (y := 83) (as := [.ref 3, .int 0, .int 9]) (nx := 165) (rest := []) rfl rfl).trans (mm_congI fun v19 h18 => ?_)
                refine (mm_br (c := ¬ v19 = 0) (p1 := 170) (p2 := 168) (l1 := [.ref 12, .ref t, .int v15, .null]) (l2 := [.ref 12, .ref t, .int v15, .null]) (s1 := []) (s2 := []) (h1 := h18) (h2 := h18) rfl rfl).trans (mm_ite ?_ ?_)
                · refine (mm_by 2 (pc' := 174) (ls' := [.ref 12, .ref t, .int v15, .null]) (st' := [.ref 3]) (h' := h18) rfl).trans ?_
                  refine (mm_c1 (y := 85) (as := [.ref 3]) (nx := 177) (rest := []) rfl rfl).trans (mm_congI fun v21 h20 => ?_)
                  refine (mm_by 4 (pc' := 183) (ls' := [.ref 12, .ref t, .int v15, .int v21]) (st' := [.int 4, .ref 3]) (h' := h20) rfl).trans ?_
                  refine (mm_c1 (y := 81) (as := [.ref 3, .int 4]) (nx := 186) (rest := []) rfl rfl).trans (mm_congI fun v23 h22 => ?_)
                  refine (mm_br (c := v23 = 0) (p1 := 202) (p2 := 189) (l1 := [.ref 12, .ref t, .int v15, .int v21]) (l2 := [.ref 12, .ref t, .int v15, .int v21]) (s1 := []) (s2 := []) (h1 := h22) (h2 := h22) rfl rfl).trans (mm_ite ?_ ?_)
                  · exact mm_by_end 2 rfl
                  · refine (mm_by 4 (pc' := 196) (ls' := [.ref 12, .ref t, .int v15, .int v21]) (st' := [.int 9, .int 0, .ref 3]) (h' := h22) rfl).trans ?_
                    refine (mm_c1 (y := 83) (as := [.ref 3, .int 0, .int 9]) (nx := 199) (rest := []) rfl rfl).trans (mm_congI fun v25 h24 => ?_)
                    refine (mm_br (c := ¬ v25 = 0) (p1 := 204) (p2 := 202) (l1 := [.ref 12, .ref t, .int v15, .int v21]) (l2 := [.ref 12, .ref t, .int v15, .int v21]) (s1 := []) (s2 := []) (h1 := h24) (h2 := h24) rfl rfl).trans (mm_ite ?_ ?_)
                    · refine (mm_by 1 (pc' := 205) (ls' := [.ref 12, .ref t, .int v15, .int v21]) (st' := [.ref t]) (h' := h24) rfl).trans ?_
                      refine (mm_go (pc' := 208) (ls' := [.ref 12, .ref t, .int v15, .int v21]) (st' := [.ref (t + 1)]) (h' := h24) rfl (q_get (isT_0 ht))).trans ?_
                      refine (mm_by 4 (pc' := 214) (ls' := [.ref 12, .ref t, .int v15, .int v21]) (st' := [.ref 3, .int v21, .int v15, .ref (t + 1)]) (h' := h24) rfl).trans ?_
                      refine (mm_c1 (y := 85) (as := [.ref 3]) (nx := 217) (rest := [.int v21, .int v15, .ref (t + 1)]) rfl rfl).trans (mm_congI fun v27 h26 => ?_)
                      refine (mm_c0 (y := 118) (as := [.ref (t + 1), .int v15, .int v21, .int v27]) (nx := 220) (rest := []) rfl (if_pos ⟨(isT_1 ht), Nat.le_of_ble_eq_true rfl⟩)).trans (mm_congV fun h28 => ?_)
                      exact mm_by_end 2 rfl
                    · exact mm_by_end 2 rfl
                · exact mm_by_end 2 rfl
            · refine (mm_by 3 (pc' := 132) (ls' := [.ref 12, .ref t, .null, .null]) (st' := [.int 2, .ref 3]) (h' := h12) rfl).trans ?_
              refine (mm_c1 (y := 89) (as := [.ref 3, .int 2]) (nx := 135) (rest := []) rfl rfl).trans (mm_congI fun v30 h29 => ?_)
              exact mm_zend rfl
          · exact mm_by_end 2 rfl
      · refine (mm_by 3 (pc' := 57) (ls' := [.ref 12, .ref t, .null, .null]) (st' := [.int 3, .ref 3]) (h' := h4) rfl).trans ?_
        refine (mm_c1 (y := 89) (as := [.ref 3, .int 3]) (nx := 60) (rest := []) rfl rfl).trans (mm_congI fun v32 h31 => ?_)
        exact mm_zend rfl
    · exact mm_by_end 2 rfl
  · refine (mm_by 3 (pc' := 17) (ls' := [.ref 12, .ref t, .null, .null]) (st' := [.int 5, .ref 3]) (h' := h) rfl).trans ?_
    refine (mm_c1 (y := 89) (as := [.ref 3, .int 5]) (nx := 20) (rest := []) rfl rfl).trans (mm_congI fun v34 h33 => ?_)
    exact mm_zend rfl
set_option maxRecDepth 100000 in
set_option maxHeartbeats 4000000 in
theorem U_X9_readThought {d : Nat} {t : Nat} {h : mm_H} (ht : mm_isT t) : mm_M mm_T0 (d + 1) 133 [.ref 12, .ref t] h = (mm_bV (mm_M mm_T0 d 75 [.ref 3] h) (fun h1 => mm_bI (mm_M mm_T0 d 134 [.ref 12, .ref t] h1) (fun v3 h2 => if v3 = ((-1)) then (some (some (.int 0), h2)) else (mm_bI (mm_M mm_T0 d 81 [.ref 3, .int 6] h2) (fun v5 h4 => if v5 = 0 then (some (some (.int 0), h4)) else (mm_bI (mm_M mm_T0 d 84 [.ref 3] h4) (fun v7 h6 => if ¬ v7 = 0 then (mm_bI (mm_M mm_T0 d 138 [.ref t, .ref 3] h6) (fun v9 h8 => if ¬ v9 = v3 then (mm_bI (mm_M mm_T0 d 134 [.ref 12, .ref t] h8) (fun v11 h10 => if v11 = ((-1)) then (some (some (.int 0), h10)) else (mm_bI (mm_M mm_T0 d 83 [.ref 3, .int 0, .int 9] h10) (fun v13 h12 => if ¬ v13 = 0 then (mm_bI (mm_M mm_T0 d 85 [.ref 3] h12) (fun v15 h14 => mm_bV (mm_M mm_T0 d 115 [.ref (t + 1), .int v3, .int v11, .int v15] h14) (fun h16 => some (some (.int 1), h16)))) else (some (some (.int 0), h12)))))) else (mm_bI (mm_M mm_T0 d 89 [.ref 3, .int 3] h8) (fun v18 h17 => mm_zr v18 h17)))) else (some (some (.int 0), h6))))))))) := by
  refine (mm_M_eq (ls := [.ref 12, .ref t, .null, .null]) rfl (Nat.le_of_ble_eq_true rfl) rfl h).trans ?_
  refine (mm_by 2 (pc' := 4) (ls' := [.ref 12, .ref t, .null, .null]) (st' := [.ref 3]) (h' := h) rfl).trans ?_
  refine (mm_c0 (y := 75) (as := [.ref 3]) (nx := 7) (rest := []) rfl rfl).trans (mm_congV fun h1 => ?_)
  refine (mm_by 2 (pc' := 9) (ls' := [.ref 12, .ref t, .null, .null]) (st' := [.ref t, .ref 12]) (h' := h1) rfl).trans ?_
  refine (mm_c1 (y := 134) (as := [.ref 12, .ref t]) (nx := 12) (rest := []) rfl rfl).trans (mm_congI fun v3 h2 => ?_)
  refine (mm_by 3 (pc' := 15) (ls' := [.ref 12, .ref t, .int v3, .null]) (st' := [.int ((-1)), .int v3]) (h' := h2) rfl).trans ?_
  refine (mm_br (c := v3 = ((-1))) (p1 := 40) (p2 := 18) (l1 := [.ref 12, .ref t, .int v3, .null]) (l2 := [.ref 12, .ref t, .int v3, .null]) (s1 := []) (s2 := []) (h1 := h2) (h2 := h2) rfl rfl).trans (mm_ite ?_ ?_)
  · exact mm_by_end 2 rfl
  · refine (mm_by 3 (pc' := 24) (ls' := [.ref 12, .ref t, .int v3, .null]) (st' := [.int 6, .ref 3]) (h' := h2) rfl).trans ?_
    refine (mm_c1 (y := 81) (as := [.ref 3, .int 6]) (nx := 27) (rest := []) rfl rfl).trans (mm_congI fun v5 h4 => ?_)
    refine (mm_br (c := v5 = 0) (p1 := 40) (p2 := 30) (l1 := [.ref 12, .ref t, .int v3, .null]) (l2 := [.ref 12, .ref t, .int v3, .null]) (s1 := []) (s2 := []) (h1 := h4) (h2 := h4) rfl rfl).trans (mm_ite ?_ ?_)
    · exact mm_by_end 2 rfl
    · refine (mm_by 2 (pc' := 34) (ls' := [.ref 12, .ref t, .int v3, .null]) (st' := [.ref 3]) (h' := h4) rfl).trans ?_
      refine (mm_c1 (y := 84) (as := [.ref 3]) (nx := 37) (rest := []) rfl rfl).trans (mm_congI fun v7 h6 => ?_)
      refine (mm_br (c := ¬ v7 = 0) (p1 := 42) (p2 := 40) (l1 := [.ref 12, .ref t, .int v3, .null]) (l2 := [.ref 12, .ref t, .int v3, .null]) (s1 := []) (s2 := []) (h1 := h6) (h2 := h6) rfl rfl).trans (mm_ite ?_ ?_)
      · refine (mm_by 3 (pc' := 47) (ls' := [.ref 12, .ref t, .int v3, .null]) (st' := [.ref 3, .ref t]) (h' := h6) rfl).trans ?_
        refine (mm_c1 (y := 138) (as := [.ref t, .ref 3]) (nx := 50) (rest := []) rfl (if_pos ⟨(isT_0 ht), Nat.le_of_ble_eq_true rfl⟩)).trans (mm_congI fun v9 h8 => ?_)
        refine (mm_by 1 (pc' := 51) (ls' := [.ref 12, .ref t, .int v3, .null]) (st' := [.int v3, .int v9]) (h' := h8) rfl).trans ?_
        refine (mm_br (c := ¬ v9 = v3) (p1 := 63) (p2 := 54) (l1 := [.ref 12, .ref t, .int v3, .null]) (l2 := [.ref 12, .ref t, .int v3, .null]) (s1 := []) (s2 := []) (h1 := h8) (h2 := h8) rfl rfl).trans (mm_ite ?_ ?_)
        · refine (mm_by 2 (pc' := 65) (ls' := [.ref 12, .ref t, .int v3, .null]) (st' := [.ref t, .ref 12]) (h' := h8) rfl).trans ?_
          refine (mm_c1 (y := 134) (as := [.ref 12, .ref t]) (nx := 68) (rest := []) rfl rfl).trans (mm_congI fun v11 h10 => ?_)
          refine (mm_by 3 (pc' := 71) (ls' := [.ref 12, .ref t, .int v3, .int v11]) (st' := [.int ((-1)), .int v11]) (h' := h10) rfl).trans ?_
          refine (mm_br (c := v11 = ((-1))) (p1 := 87) (p2 := 74) (l1 := [.ref 12, .ref t, .int v3, .int v11]) (l2 := [.ref 12, .ref t, .int v3, .int v11]) (s1 := []) (s2 := []) (h1 := h10) (h2 := h10) rfl rfl).trans (mm_ite ?_ ?_)
          · exact mm_by_end 2 rfl
          · refine (mm_by 4 (pc' := 81) (ls' := [.ref 12, .ref t, .int v3, .int v11]) (st' := [.int 9, .int 0, .ref 3]) (h' := h10) rfl).trans ?_
            refine (mm_c1 (y := 83) (as := [.ref 3, .int 0, .int 9]) (nx := 84) (rest := []) rfl rfl).trans (mm_congI fun v13 h12 => ?_)
            refine (mm_br (c := ¬ v13 = 0) (p1 := 89) (p2 := 87) (l1 := [.ref 12, .ref t, .int v3, .int v11]) (l2 := [.ref 12, .ref t, .int v3, .int v11]) (s1 := []) (s2 := []) (h1 := h12) (h2 := h12) rfl rfl).trans (mm_ite ?_ ?_)
            · refine (mm_by 1 (pc' := 90) (ls' := [.ref 12, .ref t, .int v3, .int v11]) (st' := [.ref t]) (h' := h12) rfl).trans ?_
              refine (mm_go (pc' := 93) (ls' := [.ref 12, .ref t, .int v3, .int v11]) (st' := [.ref (t + 1)]) (h' := h12) rfl (q_get (isT_0 ht))).trans ?_
              refine (mm_by 4 (pc' := 99) (ls' := [.ref 12, .ref t, .int v3, .int v11]) (st' := [.ref 3, .int v11, .int v3, .ref (t + 1)]) (h' := h12) rfl).trans ?_
              refine (mm_c1 (y := 85) (as := [.ref 3]) (nx := 102) (rest := [.int v11, .int v3, .ref (t + 1)]) rfl rfl).trans (mm_congI fun v15 h14 => ?_)
              refine (mm_c0 (y := 115) (as := [.ref (t + 1), .int v3, .int v11, .int v15]) (nx := 105) (rest := []) rfl (if_pos ⟨(isT_1 ht), Nat.le_of_ble_eq_true rfl⟩)).trans (mm_congV fun h16 => ?_)
              exact mm_by_end 2 rfl
            · exact mm_by_end 2 rfl
        · refine (mm_by 3 (pc' := 59) (ls' := [.ref 12, .ref t, .int v3, .null]) (st' := [.int 3, .ref 3]) (h' := h8) rfl).trans ?_
          refine (mm_c1 (y := 89) (as := [.ref 3, .int 3]) (nx := 62) (rest := []) rfl rfl).trans (mm_congI fun v18 h17 => ?_)
          exact mm_zend rfl
      · exact mm_by_end 2 rfl
set_option maxRecDepth 100000 in
set_option maxHeartbeats 4000000 in
theorem U_X9_takePerson {d : Nat} {t : Nat} {h : mm_H} (ht : mm_isT t) : mm_M mm_T0 (d + 1) 134 [.ref 12, .ref t] h = (mm_bI (mm_M mm_T0 d 84 [.ref 3] h) (fun v2 h1 => if ¬ v2 = 0 then (mm_bI (mm_M mm_T0 d 138 [.ref t, .ref 3] h1) (fun v4 h3 => if ¬ v4 = ((-1)) then (mm_bV (mm_M mm_T0 d 75 [.ref 3] h3) (fun h5 => some (some (.int v4), h5))) else (mm_bI (mm_M mm_T0 d 89 [.ref 3, .int 3] h3) (fun v7 h6 => some (some (.int ((-1))), h6))))) else (some (some (.int ((-1))), h1)))) := by
  refine (mm_M_eq (ls := [.ref 12, .ref t, .null]) rfl (Nat.le_of_ble_eq_true rfl) rfl h).trans ?_
  refine (mm_by 2 (pc' := 4) (ls' := [.ref 12, .ref t, .null]) (st' := [.ref 3]) (h' := h) rfl).trans ?_
  refine (mm_c1 (y := 84) (as := [.ref 3]) (nx := 7) (rest := []) rfl rfl).trans (mm_congI fun v2 h1 => ?_)
  refine (mm_br (c := ¬ v2 = 0) (p1 := 12) (p2 := 10) (l1 := [.ref 12, .ref t, .null]) (l2 := [.ref 12, .ref t, .null]) (s1 := []) (s2 := []) (h1 := h1) (h2 := h1) rfl rfl).trans (mm_ite ?_ ?_)
  · refine (mm_by 3 (pc' := 17) (ls' := [.ref 12, .ref t, .null]) (st' := [.ref 3, .ref t]) (h' := h1) rfl).trans ?_
    refine (mm_c1 (y := 138) (as := [.ref t, .ref 3]) (nx := 20) (rest := []) rfl (if_pos ⟨(isT_0 ht), Nat.le_of_ble_eq_true rfl⟩)).trans (mm_congI fun v4 h3 => ?_)
    refine (mm_by 3 (pc' := 23) (ls' := [.ref 12, .ref t, .int v4]) (st' := [.int ((-1)), .int v4]) (h' := h3) rfl).trans ?_
    refine (mm_br (c := ¬ v4 = ((-1))) (p1 := 37) (p2 := 26) (l1 := [.ref 12, .ref t, .int v4]) (l2 := [.ref 12, .ref t, .int v4]) (s1 := []) (s2 := []) (h1 := h3) (h2 := h3) rfl rfl).trans (mm_ite ?_ ?_)
    · refine (mm_by 2 (pc' := 41) (ls' := [.ref 12, .ref t, .int v4]) (st' := [.ref 3]) (h' := h3) rfl).trans ?_
      refine (mm_c0 (y := 75) (as := [.ref 3]) (nx := 44) (rest := []) rfl rfl).trans (mm_congV fun h5 => ?_)
      exact mm_by_end 2 rfl
    · refine (mm_by 3 (pc' := 31) (ls' := [.ref 12, .ref t, .int v4]) (st' := [.int 3, .ref 3]) (h' := h3) rfl).trans ?_
      refine (mm_c1 (y := 89) (as := [.ref 3, .int 3]) (nx := 34) (rest := []) rfl rfl).trans (mm_congI fun v7 h6 => ?_)
      exact mm_by_end 3 rfl
  · exact mm_by_end 2 rfl
set_option maxRecDepth 100000 in
set_option maxHeartbeats 4000000 in
theorem U_X9_readSlip {d : Nat} {t : Nat} {h : mm_H} (ht : mm_isT t) : mm_M mm_T0 (d + 1) 135 [.ref 12, .ref t] h = (mm_bV (mm_M mm_T0 d 75 [.ref 3] h) (fun h1 => mm_bI (mm_M mm_T0 d 83 [.ref 3, .int 0, .int 100] h1) (fun v3 h2 => if ¬ v3 = 0 then (mm_bI (mm_M mm_T0 d 85 [.ref 3] h2) (fun v5 h4 => some (some (.int 1), wI h4 t 3 v5))) else (some (some (.int 0), h2))))) := by
  refine (mm_M_eq (ls := [.ref 12, .ref t]) rfl (Nat.le_of_ble_eq_true rfl) rfl h).trans ?_
  refine (mm_by 2 (pc' := 4) (ls' := [.ref 12, .ref t]) (st' := [.ref 3]) (h' := h) rfl).trans ?_
  refine (mm_c0 (y := 75) (as := [.ref 3]) (nx := 7) (rest := []) rfl rfl).trans (mm_congV fun h1 => ?_)
  refine (mm_by 4 (pc' := 14) (ls' := [.ref 12, .ref t]) (st' := [.int 100, .int 0, .ref 3]) (h' := h1) rfl).trans ?_
  refine (mm_c1 (y := 83) (as := [.ref 3, .int 0, .int 100]) (nx := 17) (rest := []) rfl rfl).trans (mm_congI fun v3 h2 => ?_)
  refine (mm_br (c := ¬ v3 = 0) (p1 := 22) (p2 := 20) (l1 := [.ref 12, .ref t]) (l2 := [.ref 12, .ref t]) (s1 := []) (s2 := []) (h1 := h2) (h2 := h2) rfl rfl).trans (mm_ite ?_ ?_)
  · refine (mm_by 3 (pc' := 27) (ls' := [.ref 12, .ref t]) (st' := [.ref 3, .ref t]) (h' := h2) rfl).trans ?_
    refine (mm_c1 (y := 85) (as := [.ref 3]) (nx := 30) (rest := [.ref t]) rfl rfl).trans (mm_congI fun v5 h4 => ?_)
    refine (mm_go (pc' := 33) (ls' := [.ref 12, .ref t]) (st' := []) (h' := wI h4 t 3 v5) rfl (q_putI (isT_0 ht))).trans ?_
    exact mm_by_end 2 rfl
  · exact mm_by_end 2 rfl
set_option maxRecDepth 100000 in
set_option maxHeartbeats 4000000 in
theorem U_X10_clear {d : Nat} {t : Nat} {h : mm_H} (ht : mm_isT t) : mm_M mm_T0 (d + 1) 136 [.ref t] h = (mm_bV (mm_M mm_T0 d 99 [.ref (t + 1)] h) (fun h1 => mm_bV (mm_M mm_T0 d 33 [.ref (t + 10)] h1) (fun h2 => some (none, wI (wI h2 t 3 0) t 4 0)))) := by
  refine (mm_M_eq (ls := [.ref t]) rfl (Nat.le_of_ble_eq_true rfl) rfl h).trans ?_
  refine (mm_by 1 (pc' := 1) (ls' := [.ref t]) (st' := [.ref t]) (h' := h) rfl).trans ?_
  refine (mm_go (pc' := 4) (ls' := [.ref t]) (st' := [.ref (t + 1)]) (h' := h) rfl (q_get (isT_0 ht))).trans ?_
  refine (mm_c0 (y := 99) (as := [.ref (t + 1)]) (nx := 7) (rest := []) rfl (if_pos ⟨(isT_1 ht), Nat.le_of_ble_eq_true rfl⟩)).trans (mm_congV fun h1 => ?_)
  refine (mm_by 1 (pc' := 8) (ls' := [.ref t]) (st' := [.ref t]) (h' := h1) rfl).trans ?_
  refine (mm_go (pc' := 11) (ls' := [.ref t]) (st' := [.ref (t + 10)]) (h' := h1) rfl (q_get (isT_0 ht))).trans ?_
  refine (mm_c0 (y := 33) (as := [.ref (t + 10)]) (nx := 14) (rest := []) rfl (if_pos ⟨(isT_10 ht), Nat.le_of_ble_eq_true rfl⟩)).trans (mm_congV fun h2 => ?_)
  refine (mm_by 2 (pc' := 16) (ls' := [.ref t]) (st' := [.int 0, .ref t]) (h' := h2) rfl).trans ?_
  refine (mm_go (pc' := 19) (ls' := [.ref t]) (st' := []) (h' := wI h2 t 3 0) rfl (q_putI (isT_0 ht))).trans ?_
  refine (mm_by 2 (pc' := 21) (ls' := [.ref t]) (st' := [.int 0, .ref t]) (h' := wI h2 t 3 0) rfl).trans ?_
  refine (mm_go (pc' := 24) (ls' := [.ref t]) (st' := []) (h' := wI (wI h2 t 3 0) t 4 0) rfl (q_putI (isT_0 ht))).trans ?_
  exact mm_by_end 1 rfl
set_option maxRecDepth 100000 in
set_option maxHeartbeats 4000000 in
theorem U_X10_nameNext {d : Nat} {t : Nat} {h : mm_H} (ht : mm_isT t) : mm_M mm_T0 (d + 1) 137 [.ref t, .ref 3] h = (mm_D (mm_M mm_T0 d) cd_X10_nameNext 13 [.ref t, .ref 3, .int ((h.1 (t + 1) 10) * 6), .int 0] [] h) := by
  refine (mm_M_eq (ls := [.ref t, .ref 3, .null, .null]) rfl (Nat.le_of_ble_eq_true rfl) rfl h).trans ?_
  refine (mm_by 1 (pc' := 1) (ls' := [.ref t, .ref 3, .null, .null]) (st' := [.ref t]) (h' := h) rfl).trans ?_
  refine (mm_go (pc' := 4) (ls' := [.ref t, .ref 3, .null, .null]) (st' := [.ref (t + 1)]) (h' := h) rfl (q_get (isT_0 ht))).trans ?_
  refine (mm_go (pc' := 7) (ls' := [.ref t, .ref 3, .null, .null]) (st' := [.int (h.1 (t + 1) 10)]) (h' := h) rfl (q_get (isT_1 ht))).trans ?_
  exact mm_by 5 rfl
set_option maxRecDepth 100000 in
set_option maxHeartbeats 4000000 in
theorem U_X10_nameNext_13 {d : Nat} {t : Nat} {x2 : Int32} {x3 : Int32} {h : mm_H} (ht : mm_isT t) : mm_D (mm_M mm_T0 d) cd_X10_nameNext 13 [.ref t, .ref 3, .int x2, .int x3] [] h = (if 6 ≤ x3 then (some (none, h)) else (if 48 ≤ (x2 + x3) then (mm_D (mm_M mm_T0 d) cd_X10_nameNext 13 [.ref t, .ref 3, .int x2, .int (x3 + 1)] [] h) else (mm_bI (mm_M mm_T0 d 86 [.ref 3, .int x3] h) (fun v2 h1 => if (x2 + x3) < 0 ∨ 48 ≤ (x2 + x3).toNatClampNeg then none else (mm_D (mm_M mm_T0 d) cd_X10_nameNext 13 [.ref t, .ref 3, .int x2, .int (x3 + 1)] [] (wI h1 (t + 16) ((x2 + x3).toNatClampNeg) v2)))))) := by
  refine (mm_by 2 (pc' := 16) (ls' := [.ref t, .ref 3, .int x2, .int x3]) (st' := [.int 6, .int x3]) (h' := h) rfl).trans ?_
  refine (mm_br (c := 6 ≤ x3) (p1 := 49) (p2 := 19) (l1 := [.ref t, .ref 3, .int x2, .int x3]) (l2 := [.ref t, .ref 3, .int x2, .int x3]) (s1 := []) (s2 := []) (h1 := h) (h2 := h) rfl rfl).trans (mm_ite ?_ ?_)
  · exact mm_by_end 1 rfl
  · refine (mm_by 4 (pc' := 23) (ls' := [.ref t, .ref 3, .int x2, .int x3]) (st' := [.ref t, .int (x2 + x3)]) (h' := h) rfl).trans ?_
    refine (mm_go (pc' := 26) (ls' := [.ref t, .ref 3, .int x2, .int x3]) (st' := [.ref (t + 16), .int (x2 + x3)]) (h' := h) rfl (q_get (isT_0 ht))).trans ?_
    refine (mm_go (pc' := 27) (ls' := [.ref t, .ref 3, .int x2, .int x3]) (st' := [.int 48, .int (x2 + x3)]) (h' := h) rfl (q_alen (isT_16 ht) (by decide) (by decide))).trans ?_
    refine (mm_br (c := 48 ≤ (x2 + x3)) (p1 := 43) (p2 := 30) (l1 := [.ref t, .ref 3, .int x2, .int x3]) (l2 := [.ref t, .ref 3, .int x2, .int x3]) (s1 := []) (s2 := []) (h1 := h) (h2 := h) rfl rfl).trans (mm_ite ?_ ?_)
    · exact mm_by 2 rfl
    · refine (mm_by 1 (pc' := 31) (ls' := [.ref t, .ref 3, .int x2, .int x3]) (st' := [.ref t]) (h' := h) rfl).trans ?_
      refine (mm_go (pc' := 34) (ls' := [.ref t, .ref 3, .int x2, .int x3]) (st' := [.ref (t + 16)]) (h' := h) rfl (q_get (isT_0 ht))).trans ?_
      refine (mm_by 5 (pc' := 39) (ls' := [.ref t, .ref 3, .int x2, .int x3]) (st' := [.int x3, .ref 3, .int (x2 + x3), .ref (t + 16)]) (h' := h) rfl).trans ?_
      refine (mm_c1 (y := 86) (as := [.ref 3, .int x3]) (nx := 42) (rest := [.int (x2 + x3), .ref (t + 16)]) rfl rfl).trans (mm_congI fun v2 h1 => ?_)
      refine (mm_gd (c := (x2 + x3) < 0 ∨ 48 ≤ (x2 + x3).toNatClampNeg) (p1 := 43) (l1 := [.ref t, .ref 3, .int x2, .int x3]) (s1 := []) (h1 := wI h1 (t + 16) ((x2 + x3).toNatClampNeg) v2) rfl (q_iast (n := 48) (isT_16 ht))).trans (mm_ite rfl ?_)
      exact mm_by 2 rfl
set_option maxRecDepth 100000 in
set_option maxHeartbeats 4000000 in
theorem U_X10_personNamed {d : Nat} {t : Nat} {h : mm_H} (ht : mm_isT t) : mm_M mm_T0 (d + 1) 138 [.ref t, .ref 3] h = (mm_D (mm_M mm_T0 d) cd_X10_personNamed 2 [.ref t, .ref 3, .int 0, .null, .null] [] h) := by
  refine (mm_M_eq (ls := [.ref t, .ref 3, .null, .null, .null]) rfl (Nat.le_of_ble_eq_true rfl) rfl h).trans ?_
  exact mm_by 2 rfl
set_option maxRecDepth 100000 in
set_option maxHeartbeats 4000000 in
theorem U_X10_personNamed_2 {d : Nat} {t : Nat} {x2 : Int32} {h : mm_H} (ht : mm_isT t) : mm_D (mm_M mm_T0 d) cd_X10_personNamed 2 [.ref t, .ref 3, .int x2, .null, .null] [] h = (if (h.1 (t + 1) 10) ≤ x2 then (some (some (.int ((-1))), h)) else (mm_D (mm_M mm_T0 d) cd_X10_personNamed 18 [.ref t, .ref 3, .int x2, .int 1, .int 0] [] h)) := by
  refine (mm_by 2 (pc' := 4) (ls' := [.ref t, .ref 3, .int x2, .null, .null]) (st' := [.ref t, .int x2]) (h' := h) rfl).trans ?_
  refine (mm_go (pc' := 7) (ls' := [.ref t, .ref 3, .int x2, .null, .null]) (st' := [.ref (t + 1), .int x2]) (h' := h) rfl (q_get (isT_0 ht))).trans ?_
  refine (mm_go (pc' := 10) (ls' := [.ref t, .ref 3, .int x2, .null, .null]) (st' := [.int (h.1 (t + 1) 10), .int x2]) (h' := h) rfl (q_get (isT_1 ht))).trans ?_
  refine (mm_br (c := (h.1 (t + 1) 10) ≤ x2) (p1 := 69) (p2 := 13) (l1 := [.ref t, .ref 3, .int x2, .null, .null]) (l2 := [.ref t, .ref 3, .int x2, .null, .null]) (s1 := []) (s2 := []) (h1 := h) (h2 := h) rfl rfl).trans (mm_ite ?_ ?_)
  · exact mm_by_end 2 rfl
  · exact mm_by 4 rfl
set_option maxRecDepth 100000 in
set_option maxHeartbeats 4000000 in
theorem U_X10_personNamed_18 {d : Nat} {t : Nat} {x2 : Int32} {x3 : Int32} {x4 : Int32} {h : mm_H} (ht : mm_isT t) : mm_D (mm_M mm_T0 d) cd_X10_personNamed 18 [.ref t, .ref 3, .int x2, .int x3, .int x4] [] h = (if 6 ≤ x4 then (if x3 = 0 then (mm_D (mm_M mm_T0 d) cd_X10_personNamed 2 [.ref t, .ref 3, .int (x2 + 1), .null, .null] [] h) else (some (some (.int x2), h))) else (if x3 = 0 then (mm_D (mm_M mm_T0 d) cd_X10_personNamed 18 [.ref t, .ref 3, .int x2, .int 0, .int (x4 + 1)] [] h) else (mm_bI (mm_M mm_T0 d 139 [.ref t, .int x2, .int x4] h) (fun v2 h1 => mm_bI (mm_M mm_T0 d 86 [.ref 3, .int x4] h1) (fun v4 h3 => if ¬ v2 = v4 then (mm_D (mm_M mm_T0 d) cd_X10_personNamed 18 [.ref t, .ref 3, .int x2, .int 0, .int (x4 + 1)] [] h3) else (mm_D (mm_M mm_T0 d) cd_X10_personNamed 18 [.ref t, .ref 3, .int x2, .int 1, .int (x4 + 1)] [] h3)))))) := by
  refine (mm_by 2 (pc' := 22) (ls' := [.ref t, .ref 3, .int x2, .int x3, .int x4]) (st' := [.int 6, .int x4]) (h' := h) rfl).trans ?_
  refine (mm_br (c := 6 ≤ x4) (p1 := 57) (p2 := 25) (l1 := [.ref t, .ref 3, .int x2, .int x3, .int x4]) (l2 := [.ref t, .ref 3, .int x2, .int x3, .int x4]) (s1 := []) (s2 := []) (h1 := h) (h2 := h) rfl rfl).trans (mm_ite ?_ ?_)
  · refine (mm_by 1 (pc' := 58) (ls' := [.ref t, .ref 3, .int x2, .int x3, .int x4]) (st' := [.int x3]) (h' := h) rfl).trans ?_
    refine (mm_br (c := x3 = 0) (p1 := 63) (p2 := 61) (l1 := [.ref t, .ref 3, .int x2, .int x3, .int x4]) (l2 := [.ref t, .ref 3, .int x2, .int x3, .int x4]) (s1 := []) (s2 := []) (h1 := h) (h2 := h) rfl rfl).trans (mm_ite ?_ ?_)
    · exact mm_by 2 rfl
    · exact mm_by_end 2 rfl
  · refine (mm_by 1 (pc' := 26) (ls' := [.ref t, .ref 3, .int x2, .int x3, .int x4]) (st' := [.int x3]) (h' := h) rfl).trans ?_
    refine (mm_br (c := x3 = 0) (p1 := 49) (p2 := 29) (l1 := [.ref t, .ref 3, .int x2, .int x3, .int x4]) (l2 := [.ref t, .ref 3, .int x2, .int x3, .int x4]) (s1 := []) (s2 := []) (h1 := h) (h2 := h) rfl rfl).trans (mm_ite ?_ ?_)
    · exact mm_by 4 rfl
    · refine (mm_by 3 (pc' := 33) (ls' := [.ref t, .ref 3, .int x2, .int x3, .int x4]) (st' := [.int x4, .int x2, .ref t]) (h' := h) rfl).trans ?_
      refine (mm_c1 (y := 139) (as := [.ref t, .int x2, .int x4]) (nx := 36) (rest := []) rfl (if_pos ⟨(isT_0 ht), Nat.le_of_ble_eq_true rfl⟩)).trans (mm_congI fun v2 h1 => ?_)
      refine (mm_by 2 (pc' := 39) (ls' := [.ref t, .ref 3, .int x2, .int x3, .int x4]) (st' := [.int x4, .ref 3, .int v2]) (h' := h1) rfl).trans ?_
      refine (mm_c1 (y := 86) (as := [.ref 3, .int x4]) (nx := 42) (rest := [.int v2]) rfl rfl).trans (mm_congI fun v4 h3 => ?_)
      refine (mm_br (c := ¬ v2 = v4) (p1 := 49) (p2 := 45) (l1 := [.ref t, .ref 3, .int x2, .int x3, .int x4]) (l2 := [.ref t, .ref 3, .int x2, .int x3, .int x4]) (s1 := []) (s2 := []) (h1 := h3) (h2 := h3) rfl rfl).trans (mm_ite ?_ ?_)
      · exact mm_by 4 rfl
      · exact mm_by 5 rfl
set_option maxRecDepth 100000 in
set_option maxHeartbeats 4000000 in
theorem U_X10_letterOf {d : Nat} {t : Nat} {x1 : Int32} {x2 : Int32} {h : mm_H} (ht : mm_isT t) : mm_M mm_T0 (d + 1) 139 [.ref t, .int x1, .int x2] h = (mm_bI (mm_M mm_T0 d 102 [.ref (t + 1), .int x1] h) (fun v2 h1 => if v2 = 0 then (some (some (.int ((-1))), h1)) else (if x2 < 0 then (some (some (.int ((-1))), h1)) else (if 6 ≤ x2 then (some (some (.int ((-1))), h1)) else (if ((x1 * 6) + x2) < 0 ∨ 48 ≤ ((x1 * 6) + x2).toNatClampNeg then none else (some (some (.int (h1.1 (t + 16) ((x1 * 6) + x2).toNatClampNeg)), h1))))))) := by
  refine (mm_M_eq (ls := [.ref t, .int x1, .int x2, .null]) rfl (Nat.le_of_ble_eq_true rfl) rfl h).trans ?_
  refine (mm_by 1 (pc' := 1) (ls' := [.ref t, .int x1, .int x2, .null]) (st' := [.ref t]) (h' := h) rfl).trans ?_
  refine (mm_go (pc' := 4) (ls' := [.ref t, .int x1, .int x2, .null]) (st' := [.ref (t + 1)]) (h' := h) rfl (q_get (isT_0 ht))).trans ?_
  refine (mm_by 1 (pc' := 5) (ls' := [.ref t, .int x1, .int x2, .null]) (st' := [.int x1, .ref (t + 1)]) (h' := h) rfl).trans ?_
  refine (mm_c1 (y := 102) (as := [.ref (t + 1), .int x1]) (nx := 8) (rest := []) rfl (if_pos ⟨(isT_1 ht), Nat.le_of_ble_eq_true rfl⟩)).trans (mm_congI fun v2 h1 => ?_)
  refine (mm_br (c := v2 = 0) (p1 := 25) (p2 := 11) (l1 := [.ref t, .int x1, .int x2, .null]) (l2 := [.ref t, .int x1, .int x2, .null]) (s1 := []) (s2 := []) (h1 := h1) (h2 := h1) rfl rfl).trans (mm_ite ?_ ?_)
  · exact mm_by_end 6 rfl
  · refine (mm_by 1 (pc' := 12) (ls' := [.ref t, .int x1, .int x2, .null]) (st' := [.int x2]) (h' := h1) rfl).trans ?_
    refine (mm_br (c := x2 < 0) (p1 := 25) (p2 := 15) (l1 := [.ref t, .int x1, .int x2, .null]) (l2 := [.ref t, .int x1, .int x2, .null]) (s1 := []) (s2 := []) (h1 := h1) (h2 := h1) rfl rfl).trans (mm_ite ?_ ?_)
    · exact mm_by_end 6 rfl
    · refine (mm_by 2 (pc' := 18) (ls' := [.ref t, .int x1, .int x2, .null]) (st' := [.int 6, .int x2]) (h' := h1) rfl).trans ?_
      refine (mm_br (c := 6 ≤ x2) (p1 := 25) (p2 := 21) (l1 := [.ref t, .int x1, .int x2, .null]) (l2 := [.ref t, .int x1, .int x2, .null]) (s1 := []) (s2 := []) (h1 := h1) (h2 := h1) rfl rfl).trans (mm_ite ?_ ?_)
      · exact mm_by_end 6 rfl
      · refine (mm_by 6 (pc' := 32) (ls' := [.ref t, .int x1, .int x2, .int 1]) (st' := [.ref t]) (h' := h1) rfl).trans ?_
        refine (mm_go (pc' := 35) (ls' := [.ref t, .int x1, .int x2, .int 1]) (st' := [.ref (t + 16)]) (h' := h1) rfl (q_get (isT_0 ht))).trans ?_
        refine (mm_by 5 (pc' := 41) (ls' := [.ref t, .int x1, .int x2, .int 1]) (st' := [.int ((x1 * 6) + x2), .ref (t + 16)]) (h' := h1) rfl).trans ?_
        refine (mm_gd (c := ((x1 * 6) + x2) < 0 ∨ 48 ≤ ((x1 * 6) + x2).toNatClampNeg) (p1 := 42) (l1 := [.ref t, .int x1, .int x2, .int 1]) (s1 := [.int (h1.1 (t + 16) ((x1 * 6) + x2).toNatClampNeg)]) (h1 := h1) rfl (q_iald (n := 48) (isT_16 ht))).trans (mm_ite rfl ?_)
        exact mm_by_end 2 rfl
set_option maxRecDepth 100000 in
set_option maxHeartbeats 4000000 in
theorem U_X10_addUntoldRules {d : Nat} {t : Nat} {h : mm_H} (ht : mm_isT t) : mm_M mm_T0 (d + 1) 140 [.ref t] h = (mm_bI (mm_M mm_T0 d 34 [.ref (t + 10), .int 0] h) (fun v2 h1 => if ¬ v2 = 0 then (mm_bI (mm_M mm_T0 d 34 [.ref (t + 10), .int 1] h1) (fun v4 h3 => if ¬ v4 = 0 then (mm_bI (mm_M mm_T0 d 34 [.ref (t + 10), .int 2] h3) (fun v6 h5 => if ¬ v6 = 0 then (some (none, h5)) else (mm_bV (mm_M mm_T0 d 35 [.ref (t + 10), .int 2] h5) (fun h7 => mm_bV (mm_M mm_T0 d 37 [.ref (t + 10), .int 10005] h7) (fun h8 => mm_bV (mm_M mm_T0 d 37 [.ref (t + 10), .int 10014] h8) (fun h9 => mm_bV (mm_M mm_T0 d 37 [.ref (t + 10), .int 11000] h9) (fun h10 => mm_bV (mm_M mm_T0 d 37 [.ref (t + 10), .int 6] h10) (fun h11 => mm_bV (mm_M mm_T0 d 37 [.ref (t + 10), .int 11004] h11) (fun h12 => mm_bV (mm_M mm_T0 d 36 [.ref (t + 10), .int 2] h12) (fun h13 => some (none, h13))))))))))) else (mm_bV (mm_M mm_T0 d 35 [.ref (t + 10), .int 1] h3) (fun h14 => mm_bV (mm_M mm_T0 d 37 [.ref (t + 10), .int 10005] h14) (fun h15 => mm_bV (mm_M mm_T0 d 36 [.ref (t + 10), .int 1] h15) (fun h16 => mm_bI (mm_M mm_T0 d 34 [.ref (t + 10), .int 2] h16) (fun v18 h17 => if ¬ v18 = 0 then (some (none, h17)) else (mm_bV (mm_M mm_T0 d 35 [.ref (t + 10), .int 2] h17) (fun h19 => mm_bV (mm_M mm_T0 d 37 [.ref (t + 10), .int 10005] h19) (fun h20 => mm_bV (mm_M mm_T0 d 37 [.ref (t + 10), .int 10014] h20) (fun h21 => mm_bV (mm_M mm_T0 d 37 [.ref (t + 10), .int 11000] h21) (fun h22 => mm_bV (mm_M mm_T0 d 37 [.ref (t + 10), .int 6] h22) (fun h23 => mm_bV (mm_M mm_T0 d 37 [.ref (t + 10), .int 11004] h23) (fun h24 => mm_bV (mm_M mm_T0 d 36 [.ref (t + 10), .int 2] h24) (fun h25 => some (none, h25)))))))))))))))) else (mm_bV (mm_M mm_T0 d 35 [.ref (t + 10), .int 0] h1) (fun h26 => mm_bV (mm_M mm_T0 d 37 [.ref (t + 10), .int 10011] h26) (fun h27 => mm_bV (mm_M mm_T0 d 36 [.ref (t + 10), .int 0] h27) (fun h28 => mm_bI (mm_M mm_T0 d 34 [.ref (t + 10), .int 1] h28) (fun v30 h29 => if ¬ v30 = 0 then (mm_bI (mm_M mm_T0 d 34 [.ref (t + 10), .int 2] h29) (fun v32 h31 => if ¬ v32 = 0 then (some (none, h31)) else (mm_bV (mm_M mm_T0 d 35 [.ref (t + 10), .int 2] h31) (fun h33 => mm_bV (mm_M mm_T0 d 37 [.ref (t + 10), .int 10005] h33) (fun h34 => mm_bV (mm_M mm_T0 d 37 [.ref (t + 10), .int 10014] h34) (fun h35 => mm_bV (mm_M mm_T0 d 37 [.ref (t + 10), .int 11000] h35) (fun h36 => mm_bV (mm_M mm_T0 d 37 [.ref (t + 10), .int 6] h36) (fun h37 => mm_bV (mm_M mm_T0 d 37 [.ref (t + 10), .int 11004] h37) (fun h38 => mm_bV (mm_M mm_T0 d 36 [.ref (t + 10), .int 2] h38) (fun h39 => some (none, h39))))))))))) else (mm_bV (mm_M mm_T0 d 35 [.ref (t + 10), .int 1] h29) (fun h40 => mm_bV (mm_M mm_T0 d 37 [.ref (t + 10), .int 10005] h40) (fun h41 => mm_bV (mm_M mm_T0 d 36 [.ref (t + 10), .int 1] h41) (fun h42 => mm_bI (mm_M mm_T0 d 34 [.ref (t + 10), .int 2] h42) (fun v44 h43 => if ¬ v44 = 0 then (some (none, h43)) else (mm_bV (mm_M mm_T0 d 35 [.ref (t + 10), .int 2] h43) (fun h45 => mm_bV (mm_M mm_T0 d 37 [.ref (t + 10), .int 10005] h45) (fun h46 => mm_bV (mm_M mm_T0 d 37 [.ref (t + 10), .int 10014] h46) (fun h47 => mm_bV (mm_M mm_T0 d 37 [.ref (t + 10), .int 11000] h47) (fun h48 => mm_bV (mm_M mm_T0 d 37 [.ref (t + 10), .int 6] h48) (fun h49 => mm_bV (mm_M mm_T0 d 37 [.ref (t + 10), .int 11004] h49) (fun h50 => mm_bV (mm_M mm_T0 d 36 [.ref (t + 10), .int 2] h50) (fun h51 => some (none, h51))))))))))))))))))))) := by
  refine (mm_M_eq (ls := [.ref t]) rfl (Nat.le_of_ble_eq_true rfl) rfl h).trans ?_
  refine (mm_by 1 (pc' := 1) (ls' := [.ref t]) (st' := [.ref t]) (h' := h) rfl).trans ?_
  refine (mm_go (pc' := 4) (ls' := [.ref t]) (st' := [.ref (t + 10)]) (h' := h) rfl (q_get (isT_0 ht))).trans ?_
  refine (mm_by 1 (pc' := 5) (ls' := [.ref t]) (st' := [.int 0, .ref (t + 10)]) (h' := h) rfl).trans ?_
  refine (mm_c1 (y := 34) (as := [.ref (t + 10), .int 0]) (nx := 8) (rest := []) rfl (if_pos ⟨(isT_10 ht), Nat.le_of_ble_eq_true rfl⟩)).trans (mm_congI fun v2 h1 => ?_)
  refine (mm_br (c := ¬ v2 = 0) (p1 := 37) (p2 := 11) (l1 := [.ref t]) (l2 := [.ref t]) (s1 := []) (s2 := []) (h1 := h1) (h2 := h1) rfl rfl).trans (mm_ite ?_ ?_)
  · refine (mm_by 1 (pc' := 38) (ls' := [.ref t]) (st' := [.ref t]) (h' := h1) rfl).trans ?_
    refine (mm_go (pc' := 41) (ls' := [.ref t]) (st' := [.ref (t + 10)]) (h' := h1) rfl (q_get (isT_0 ht))).trans ?_
    refine (mm_by 1 (pc' := 42) (ls' := [.ref t]) (st' := [.int 1, .ref (t + 10)]) (h' := h1) rfl).trans ?_
    refine (mm_c1 (y := 34) (as := [.ref (t + 10), .int 1]) (nx := 45) (rest := []) rfl (if_pos ⟨(isT_10 ht), Nat.le_of_ble_eq_true rfl⟩)).trans (mm_congI fun v4 h3 => ?_)
    refine (mm_br (c := ¬ v4 = 0) (p1 := 74) (p2 := 48) (l1 := [.ref t]) (l2 := [.ref t]) (s1 := []) (s2 := []) (h1 := h3) (h2 := h3) rfl rfl).trans (mm_ite ?_ ?_)
    · refine (mm_by 1 (pc' := 75) (ls' := [.ref t]) (st' := [.ref t]) (h' := h3) rfl).trans ?_
      refine (mm_go (pc' := 78) (ls' := [.ref t]) (st' := [.ref (t + 10)]) (h' := h3) rfl (q_get (isT_0 ht))).trans ?_
      refine (mm_by 1 (pc' := 79) (ls' := [.ref t]) (st' := [.int 2, .ref (t + 10)]) (h' := h3) rfl).trans ?_
      refine (mm_c1 (y := 34) (as := [.ref (t + 10), .int 2]) (nx := 82) (rest := []) rfl (if_pos ⟨(isT_10 ht), Nat.le_of_ble_eq_true rfl⟩)).trans (mm_congI fun v6 h5 => ?_)
      refine (mm_br (c := ¬ v6 = 0) (p1 := 150) (p2 := 85) (l1 := [.ref t]) (l2 := [.ref t]) (s1 := []) (s2 := []) (h1 := h5) (h2 := h5) rfl rfl).trans (mm_ite ?_ ?_)
      · exact mm_by_end 1 rfl
      · refine (mm_by 1 (pc' := 86) (ls' := [.ref t]) (st' := [.ref t]) (h' := h5) rfl).trans ?_
        refine (mm_go (pc' := 89) (ls' := [.ref t]) (st' := [.ref (t + 10)]) (h' := h5) rfl (q_get (isT_0 ht))).trans ?_
        refine (mm_by 1 (pc' := 90) (ls' := [.ref t]) (st' := [.int 2, .ref (t + 10)]) (h' := h5) rfl).trans ?_
        refine (mm_c0 (y := 35) (as := [.ref (t + 10), .int 2]) (nx := 93) (rest := []) rfl (if_pos ⟨(isT_10 ht), Nat.le_of_ble_eq_true rfl⟩)).trans (mm_congV fun h7 => ?_)
        refine (mm_by 1 (pc' := 94) (ls' := [.ref t]) (st' := [.ref t]) (h' := h7) rfl).trans ?_
        refine (mm_go (pc' := 97) (ls' := [.ref t]) (st' := [.ref (t + 10)]) (h' := h7) rfl (q_get (isT_0 ht))).trans ?_
        refine (mm_by 1 (pc' := 100) (ls' := [.ref t]) (st' := [.int 10005, .ref (t + 10)]) (h' := h7) rfl).trans ?_
        refine (mm_c0 (y := 37) (as := [.ref (t + 10), .int 10005]) (nx := 103) (rest := []) rfl (if_pos ⟨(isT_10 ht), Nat.le_of_ble_eq_true rfl⟩)).trans (mm_congV fun h8 => ?_)
        refine (mm_by 1 (pc' := 104) (ls' := [.ref t]) (st' := [.ref t]) (h' := h8) rfl).trans ?_
        refine (mm_go (pc' := 107) (ls' := [.ref t]) (st' := [.ref (t + 10)]) (h' := h8) rfl (q_get (isT_0 ht))).trans ?_
        refine (mm_by 1 (pc' := 110) (ls' := [.ref t]) (st' := [.int 10014, .ref (t + 10)]) (h' := h8) rfl).trans ?_
        refine (mm_c0 (y := 37) (as := [.ref (t + 10), .int 10014]) (nx := 113) (rest := []) rfl (if_pos ⟨(isT_10 ht), Nat.le_of_ble_eq_true rfl⟩)).trans (mm_congV fun h9 => ?_)
        refine (mm_by 1 (pc' := 114) (ls' := [.ref t]) (st' := [.ref t]) (h' := h9) rfl).trans ?_
        refine (mm_go (pc' := 117) (ls' := [.ref t]) (st' := [.ref (t + 10)]) (h' := h9) rfl (q_get (isT_0 ht))).trans ?_
        refine (mm_by 1 (pc' := 120) (ls' := [.ref t]) (st' := [.int 11000, .ref (t + 10)]) (h' := h9) rfl).trans ?_
        refine (mm_c0 (y := 37) (as := [.ref (t + 10), .int 11000]) (nx := 123) (rest := []) rfl (if_pos ⟨(isT_10 ht), Nat.le_of_ble_eq_true rfl⟩)).trans (mm_congV fun h10 => ?_)
        refine (mm_by 1 (pc' := 124) (ls' := [.ref t]) (st' := [.ref t]) (h' := h10) rfl).trans ?_
        refine (mm_go (pc' := 127) (ls' := [.ref t]) (st' := [.ref (t + 10)]) (h' := h10) rfl (q_get (isT_0 ht))).trans ?_
        refine (mm_by 1 (pc' := 129) (ls' := [.ref t]) (st' := [.int 6, .ref (t + 10)]) (h' := h10) rfl).trans ?_
        refine (mm_c0 (y := 37) (as := [.ref (t + 10), .int 6]) (nx := 132) (rest := []) rfl (if_pos ⟨(isT_10 ht), Nat.le_of_ble_eq_true rfl⟩)).trans (mm_congV fun h11 => ?_)
        refine (mm_by 1 (pc' := 133) (ls' := [.ref t]) (st' := [.ref t]) (h' := h11) rfl).trans ?_
        refine (mm_go (pc' := 136) (ls' := [.ref t]) (st' := [.ref (t + 10)]) (h' := h11) rfl (q_get (isT_0 ht))).trans ?_
        refine (mm_by 1 (pc' := 139) (ls' := [.ref t]) (st' := [.int 11004, .ref (t + 10)]) (h' := h11) rfl).trans ?_
        refine (mm_c0 (y := 37) (as := [.ref (t + 10), .int 11004]) (nx := 142) (rest := []) rfl (if_pos ⟨(isT_10 ht), Nat.le_of_ble_eq_true rfl⟩)).trans (mm_congV fun h12 => ?_)
        refine (mm_by 1 (pc' := 143) (ls' := [.ref t]) (st' := [.ref t]) (h' := h12) rfl).trans ?_
        refine (mm_go (pc' := 146) (ls' := [.ref t]) (st' := [.ref (t + 10)]) (h' := h12) rfl (q_get (isT_0 ht))).trans ?_
        refine (mm_by 1 (pc' := 147) (ls' := [.ref t]) (st' := [.int 2, .ref (t + 10)]) (h' := h12) rfl).trans ?_
        refine (mm_c0 (y := 36) (as := [.ref (t + 10), .int 2]) (nx := 150) (rest := []) rfl (if_pos ⟨(isT_10 ht), Nat.le_of_ble_eq_true rfl⟩)).trans (mm_congV fun h13 => ?_)
        exact mm_by_end 1 rfl
    · refine (mm_by 1 (pc' := 49) (ls' := [.ref t]) (st' := [.ref t]) (h' := h3) rfl).trans ?_
      refine (mm_go (pc' := 52) (ls' := [.ref t]) (st' := [.ref (t + 10)]) (h' := h3) rfl (q_get (isT_0 ht))).trans ?_
      refine (mm_by 1 (pc' := 53) (ls' := [.ref t]) (st' := [.int 1, .ref (t + 10)]) (h' := h3) rfl).trans ?_
      refine (mm_c0 (y := 35) (as := [.ref (t + 10), .int 1]) (nx := 56) (rest := []) rfl (if_pos ⟨(isT_10 ht), Nat.le_of_ble_eq_true rfl⟩)).trans (mm_congV fun h14 => ?_)
      refine (mm_by 1 (pc' := 57) (ls' := [.ref t]) (st' := [.ref t]) (h' := h14) rfl).trans ?_
      refine (mm_go (pc' := 60) (ls' := [.ref t]) (st' := [.ref (t + 10)]) (h' := h14) rfl (q_get (isT_0 ht))).trans ?_
      refine (mm_by 1 (pc' := 63) (ls' := [.ref t]) (st' := [.int 10005, .ref (t + 10)]) (h' := h14) rfl).trans ?_
      refine (mm_c0 (y := 37) (as := [.ref (t + 10), .int 10005]) (nx := 66) (rest := []) rfl (if_pos ⟨(isT_10 ht), Nat.le_of_ble_eq_true rfl⟩)).trans (mm_congV fun h15 => ?_)
      refine (mm_by 1 (pc' := 67) (ls' := [.ref t]) (st' := [.ref t]) (h' := h15) rfl).trans ?_
      refine (mm_go (pc' := 70) (ls' := [.ref t]) (st' := [.ref (t + 10)]) (h' := h15) rfl (q_get (isT_0 ht))).trans ?_
      refine (mm_by 1 (pc' := 71) (ls' := [.ref t]) (st' := [.int 1, .ref (t + 10)]) (h' := h15) rfl).trans ?_
      refine (mm_c0 (y := 36) (as := [.ref (t + 10), .int 1]) (nx := 74) (rest := []) rfl (if_pos ⟨(isT_10 ht), Nat.le_of_ble_eq_true rfl⟩)).trans (mm_congV fun h16 => ?_)
      refine (mm_by 1 (pc' := 75) (ls' := [.ref t]) (st' := [.ref t]) (h' := h16) rfl).trans ?_
      refine (mm_go (pc' := 78) (ls' := [.ref t]) (st' := [.ref (t + 10)]) (h' := h16) rfl (q_get (isT_0 ht))).trans ?_
      refine (mm_by 1 (pc' := 79) (ls' := [.ref t]) (st' := [.int 2, .ref (t + 10)]) (h' := h16) rfl).trans ?_
      refine (mm_c1 (y := 34) (as := [.ref (t + 10), .int 2]) (nx := 82) (rest := []) rfl (if_pos ⟨(isT_10 ht), Nat.le_of_ble_eq_true rfl⟩)).trans (mm_congI fun v18 h17 => ?_)
      refine (mm_br (c := ¬ v18 = 0) (p1 := 150) (p2 := 85) (l1 := [.ref t]) (l2 := [.ref t]) (s1 := []) (s2 := []) (h1 := h17) (h2 := h17) rfl rfl).trans (mm_ite ?_ ?_)
      · exact mm_by_end 1 rfl
      · refine (mm_by 1 (pc' := 86) (ls' := [.ref t]) (st' := [.ref t]) (h' := h17) rfl).trans ?_
        refine (mm_go (pc' := 89) (ls' := [.ref t]) (st' := [.ref (t + 10)]) (h' := h17) rfl (q_get (isT_0 ht))).trans ?_
        refine (mm_by 1 (pc' := 90) (ls' := [.ref t]) (st' := [.int 2, .ref (t + 10)]) (h' := h17) rfl).trans ?_
        refine (mm_c0 (y := 35) (as := [.ref (t + 10), .int 2]) (nx := 93) (rest := []) rfl (if_pos ⟨(isT_10 ht), Nat.le_of_ble_eq_true rfl⟩)).trans (mm_congV fun h19 => ?_)
        refine (mm_by 1 (pc' := 94) (ls' := [.ref t]) (st' := [.ref t]) (h' := h19) rfl).trans ?_
        refine (mm_go (pc' := 97) (ls' := [.ref t]) (st' := [.ref (t + 10)]) (h' := h19) rfl (q_get (isT_0 ht))).trans ?_
        refine (mm_by 1 (pc' := 100) (ls' := [.ref t]) (st' := [.int 10005, .ref (t + 10)]) (h' := h19) rfl).trans ?_
        refine (mm_c0 (y := 37) (as := [.ref (t + 10), .int 10005]) (nx := 103) (rest := []) rfl (if_pos ⟨(isT_10 ht), Nat.le_of_ble_eq_true rfl⟩)).trans (mm_congV fun h20 => ?_)
        refine (mm_by 1 (pc' := 104) (ls' := [.ref t]) (st' := [.ref t]) (h' := h20) rfl).trans ?_
        refine (mm_go (pc' := 107) (ls' := [.ref t]) (st' := [.ref (t + 10)]) (h' := h20) rfl (q_get (isT_0 ht))).trans ?_
        refine (mm_by 1 (pc' := 110) (ls' := [.ref t]) (st' := [.int 10014, .ref (t + 10)]) (h' := h20) rfl).trans ?_
        refine (mm_c0 (y := 37) (as := [.ref (t + 10), .int 10014]) (nx := 113) (rest := []) rfl (if_pos ⟨(isT_10 ht), Nat.le_of_ble_eq_true rfl⟩)).trans (mm_congV fun h21 => ?_)
        refine (mm_by 1 (pc' := 114) (ls' := [.ref t]) (st' := [.ref t]) (h' := h21) rfl).trans ?_
        refine (mm_go (pc' := 117) (ls' := [.ref t]) (st' := [.ref (t + 10)]) (h' := h21) rfl (q_get (isT_0 ht))).trans ?_
        refine (mm_by 1 (pc' := 120) (ls' := [.ref t]) (st' := [.int 11000, .ref (t + 10)]) (h' := h21) rfl).trans ?_
        refine (mm_c0 (y := 37) (as := [.ref (t + 10), .int 11000]) (nx := 123) (rest := []) rfl (if_pos ⟨(isT_10 ht), Nat.le_of_ble_eq_true rfl⟩)).trans (mm_congV fun h22 => ?_)
        refine (mm_by 1 (pc' := 124) (ls' := [.ref t]) (st' := [.ref t]) (h' := h22) rfl).trans ?_
        refine (mm_go (pc' := 127) (ls' := [.ref t]) (st' := [.ref (t + 10)]) (h' := h22) rfl (q_get (isT_0 ht))).trans ?_
        refine (mm_by 1 (pc' := 129) (ls' := [.ref t]) (st' := [.int 6, .ref (t + 10)]) (h' := h22) rfl).trans ?_
        refine (mm_c0 (y := 37) (as := [.ref (t + 10), .int 6]) (nx := 132) (rest := []) rfl (if_pos ⟨(isT_10 ht), Nat.le_of_ble_eq_true rfl⟩)).trans (mm_congV fun h23 => ?_)
        refine (mm_by 1 (pc' := 133) (ls' := [.ref t]) (st' := [.ref t]) (h' := h23) rfl).trans ?_
        refine (mm_go (pc' := 136) (ls' := [.ref t]) (st' := [.ref (t + 10)]) (h' := h23) rfl (q_get (isT_0 ht))).trans ?_
        refine (mm_by 1 (pc' := 139) (ls' := [.ref t]) (st' := [.int 11004, .ref (t + 10)]) (h' := h23) rfl).trans ?_
        refine (mm_c0 (y := 37) (as := [.ref (t + 10), .int 11004]) (nx := 142) (rest := []) rfl (if_pos ⟨(isT_10 ht), Nat.le_of_ble_eq_true rfl⟩)).trans (mm_congV fun h24 => ?_)
        refine (mm_by 1 (pc' := 143) (ls' := [.ref t]) (st' := [.ref t]) (h' := h24) rfl).trans ?_
        refine (mm_go (pc' := 146) (ls' := [.ref t]) (st' := [.ref (t + 10)]) (h' := h24) rfl (q_get (isT_0 ht))).trans ?_
        refine (mm_by 1 (pc' := 147) (ls' := [.ref t]) (st' := [.int 2, .ref (t + 10)]) (h' := h24) rfl).trans ?_
        refine (mm_c0 (y := 36) (as := [.ref (t + 10), .int 2]) (nx := 150) (rest := []) rfl (if_pos ⟨(isT_10 ht), Nat.le_of_ble_eq_true rfl⟩)).trans (mm_congV fun h25 => ?_)
        exact mm_by_end 1 rfl
  · refine (mm_by 1 (pc' := 12) (ls' := [.ref t]) (st' := [.ref t]) (h' := h1) rfl).trans ?_
    refine (mm_go (pc' := 15) (ls' := [.ref t]) (st' := [.ref (t + 10)]) (h' := h1) rfl (q_get (isT_0 ht))).trans ?_
    refine (mm_by 1 (pc' := 16) (ls' := [.ref t]) (st' := [.int 0, .ref (t + 10)]) (h' := h1) rfl).trans ?_
    refine (mm_c0 (y := 35) (as := [.ref (t + 10), .int 0]) (nx := 19) (rest := []) rfl (if_pos ⟨(isT_10 ht), Nat.le_of_ble_eq_true rfl⟩)).trans (mm_congV fun h26 => ?_)
    refine (mm_by 1 (pc' := 20) (ls' := [.ref t]) (st' := [.ref t]) (h' := h26) rfl).trans ?_
    refine (mm_go (pc' := 23) (ls' := [.ref t]) (st' := [.ref (t + 10)]) (h' := h26) rfl (q_get (isT_0 ht))).trans ?_
    refine (mm_by 1 (pc' := 26) (ls' := [.ref t]) (st' := [.int 10011, .ref (t + 10)]) (h' := h26) rfl).trans ?_
    refine (mm_c0 (y := 37) (as := [.ref (t + 10), .int 10011]) (nx := 29) (rest := []) rfl (if_pos ⟨(isT_10 ht), Nat.le_of_ble_eq_true rfl⟩)).trans (mm_congV fun h27 => ?_)
    refine (mm_by 1 (pc' := 30) (ls' := [.ref t]) (st' := [.ref t]) (h' := h27) rfl).trans ?_
    refine (mm_go (pc' := 33) (ls' := [.ref t]) (st' := [.ref (t + 10)]) (h' := h27) rfl (q_get (isT_0 ht))).trans ?_
    refine (mm_by 1 (pc' := 34) (ls' := [.ref t]) (st' := [.int 0, .ref (t + 10)]) (h' := h27) rfl).trans ?_
    refine (mm_c0 (y := 36) (as := [.ref (t + 10), .int 0]) (nx := 37) (rest := []) rfl (if_pos ⟨(isT_10 ht), Nat.le_of_ble_eq_true rfl⟩)).trans (mm_congV fun h28 => ?_)
    refine (mm_by 1 (pc' := 38) (ls' := [.ref t]) (st' := [.ref t]) (h' := h28) rfl).trans ?_
    refine (mm_go (pc' := 41) (ls' := [.ref t]) (st' := [.ref (t + 10)]) (h' := h28) rfl (q_get (isT_0 ht))).trans ?_
    refine (mm_by 1 (pc' := 42) (ls' := [.ref t]) (st' := [.int 1, .ref (t + 10)]) (h' := h28) rfl).trans ?_
    refine (mm_c1 (y := 34) (as := [.ref (t + 10), .int 1]) (nx := 45) (rest := []) rfl (if_pos ⟨(isT_10 ht), Nat.le_of_ble_eq_true rfl⟩)).trans (mm_congI fun v30 h29 => ?_)
    refine (mm_br (c := ¬ v30 = 0) (p1 := 74) (p2 := 48) (l1 := [.ref t]) (l2 := [.ref t]) (s1 := []) (s2 := []) (h1 := h29) (h2 := h29) rfl rfl).trans (mm_ite ?_ ?_)
    · refine (mm_by 1 (pc' := 75) (ls' := [.ref t]) (st' := [.ref t]) (h' := h29) rfl).trans ?_
      refine (mm_go (pc' := 78) (ls' := [.ref t]) (st' := [.ref (t + 10)]) (h' := h29) rfl (q_get (isT_0 ht))).trans ?_
      refine (mm_by 1 (pc' := 79) (ls' := [.ref t]) (st' := [.int 2, .ref (t + 10)]) (h' := h29) rfl).trans ?_
      refine (mm_c1 (y := 34) (as := [.ref (t + 10), .int 2]) (nx := 82) (rest := []) rfl (if_pos ⟨(isT_10 ht), Nat.le_of_ble_eq_true rfl⟩)).trans (mm_congI fun v32 h31 => ?_)
      refine (mm_br (c := ¬ v32 = 0) (p1 := 150) (p2 := 85) (l1 := [.ref t]) (l2 := [.ref t]) (s1 := []) (s2 := []) (h1 := h31) (h2 := h31) rfl rfl).trans (mm_ite ?_ ?_)
      · exact mm_by_end 1 rfl
      · refine (mm_by 1 (pc' := 86) (ls' := [.ref t]) (st' := [.ref t]) (h' := h31) rfl).trans ?_
        refine (mm_go (pc' := 89) (ls' := [.ref t]) (st' := [.ref (t + 10)]) (h' := h31) rfl (q_get (isT_0 ht))).trans ?_
        refine (mm_by 1 (pc' := 90) (ls' := [.ref t]) (st' := [.int 2, .ref (t + 10)]) (h' := h31) rfl).trans ?_
        refine (mm_c0 (y := 35) (as := [.ref (t + 10), .int 2]) (nx := 93) (rest := []) rfl (if_pos ⟨(isT_10 ht), Nat.le_of_ble_eq_true rfl⟩)).trans (mm_congV fun h33 => ?_)
        refine (mm_by 1 (pc' := 94) (ls' := [.ref t]) (st' := [.ref t]) (h' := h33) rfl).trans ?_
        refine (mm_go (pc' := 97) (ls' := [.ref t]) (st' := [.ref (t + 10)]) (h' := h33) rfl (q_get (isT_0 ht))).trans ?_
        refine (mm_by 1 (pc' := 100) (ls' := [.ref t]) (st' := [.int 10005, .ref (t + 10)]) (h' := h33) rfl).trans ?_
        refine (mm_c0 (y := 37) (as := [.ref (t + 10), .int 10005]) (nx := 103) (rest := []) rfl (if_pos ⟨(isT_10 ht), Nat.le_of_ble_eq_true rfl⟩)).trans (mm_congV fun h34 => ?_)
        refine (mm_by 1 (pc' := 104) (ls' := [.ref t]) (st' := [.ref t]) (h' := h34) rfl).trans ?_
        refine (mm_go (pc' := 107) (ls' := [.ref t]) (st' := [.ref (t + 10)]) (h' := h34) rfl (q_get (isT_0 ht))).trans ?_
        refine (mm_by 1 (pc' := 110) (ls' := [.ref t]) (st' := [.int 10014, .ref (t + 10)]) (h' := h34) rfl).trans ?_
        refine (mm_c0 (y := 37) (as := [.ref (t + 10), .int 10014]) (nx := 113) (rest := []) rfl (if_pos ⟨(isT_10 ht), Nat.le_of_ble_eq_true rfl⟩)).trans (mm_congV fun h35 => ?_)
        refine (mm_by 1 (pc' := 114) (ls' := [.ref t]) (st' := [.ref t]) (h' := h35) rfl).trans ?_
        refine (mm_go (pc' := 117) (ls' := [.ref t]) (st' := [.ref (t + 10)]) (h' := h35) rfl (q_get (isT_0 ht))).trans ?_
        refine (mm_by 1 (pc' := 120) (ls' := [.ref t]) (st' := [.int 11000, .ref (t + 10)]) (h' := h35) rfl).trans ?_
        refine (mm_c0 (y := 37) (as := [.ref (t + 10), .int 11000]) (nx := 123) (rest := []) rfl (if_pos ⟨(isT_10 ht), Nat.le_of_ble_eq_true rfl⟩)).trans (mm_congV fun h36 => ?_)
        refine (mm_by 1 (pc' := 124) (ls' := [.ref t]) (st' := [.ref t]) (h' := h36) rfl).trans ?_
        refine (mm_go (pc' := 127) (ls' := [.ref t]) (st' := [.ref (t + 10)]) (h' := h36) rfl (q_get (isT_0 ht))).trans ?_
        refine (mm_by 1 (pc' := 129) (ls' := [.ref t]) (st' := [.int 6, .ref (t + 10)]) (h' := h36) rfl).trans ?_
        refine (mm_c0 (y := 37) (as := [.ref (t + 10), .int 6]) (nx := 132) (rest := []) rfl (if_pos ⟨(isT_10 ht), Nat.le_of_ble_eq_true rfl⟩)).trans (mm_congV fun h37 => ?_)
        refine (mm_by 1 (pc' := 133) (ls' := [.ref t]) (st' := [.ref t]) (h' := h37) rfl).trans ?_
        refine (mm_go (pc' := 136) (ls' := [.ref t]) (st' := [.ref (t + 10)]) (h' := h37) rfl (q_get (isT_0 ht))).trans ?_
        refine (mm_by 1 (pc' := 139) (ls' := [.ref t]) (st' := [.int 11004, .ref (t + 10)]) (h' := h37) rfl).trans ?_
        refine (mm_c0 (y := 37) (as := [.ref (t + 10), .int 11004]) (nx := 142) (rest := []) rfl (if_pos ⟨(isT_10 ht), Nat.le_of_ble_eq_true rfl⟩)).trans (mm_congV fun h38 => ?_)
        refine (mm_by 1 (pc' := 143) (ls' := [.ref t]) (st' := [.ref t]) (h' := h38) rfl).trans ?_
        refine (mm_go (pc' := 146) (ls' := [.ref t]) (st' := [.ref (t + 10)]) (h' := h38) rfl (q_get (isT_0 ht))).trans ?_
        refine (mm_by 1 (pc' := 147) (ls' := [.ref t]) (st' := [.int 2, .ref (t + 10)]) (h' := h38) rfl).trans ?_
        refine (mm_c0 (y := 36) (as := [.ref (t + 10), .int 2]) (nx := 150) (rest := []) rfl (if_pos ⟨(isT_10 ht), Nat.le_of_ble_eq_true rfl⟩)).trans (mm_congV fun h39 => ?_)
        exact mm_by_end 1 rfl
    · refine (mm_by 1 (pc' := 49) (ls' := [.ref t]) (st' := [.ref t]) (h' := h29) rfl).trans ?_
      refine (mm_go (pc' := 52) (ls' := [.ref t]) (st' := [.ref (t + 10)]) (h' := h29) rfl (q_get (isT_0 ht))).trans ?_
      refine (mm_by 1 (pc' := 53) (ls' := [.ref t]) (st' := [.int 1, .ref (t + 10)]) (h' := h29) rfl).trans ?_
      refine (mm_c0 (y := 35) (as := [.ref (t + 10), .int 1]) (nx := 56) (rest := []) rfl (if_pos ⟨(isT_10 ht), Nat.le_of_ble_eq_true rfl⟩)).trans (mm_congV fun h40 => ?_)
      refine (mm_by 1 (pc' := 57) (ls' := [.ref t]) (st' := [.ref t]) (h' := h40) rfl).trans ?_
      refine (mm_go (pc' := 60) (ls' := [.ref t]) (st' := [.ref (t + 10)]) (h' := h40) rfl (q_get (isT_0 ht))).trans ?_
      refine (mm_by 1 (pc' := 63) (ls' := [.ref t]) (st' := [.int 10005, .ref (t + 10)]) (h' := h40) rfl).trans ?_
      refine (mm_c0 (y := 37) (as := [.ref (t + 10), .int 10005]) (nx := 66) (rest := []) rfl (if_pos ⟨(isT_10 ht), Nat.le_of_ble_eq_true rfl⟩)).trans (mm_congV fun h41 => ?_)
      refine (mm_by 1 (pc' := 67) (ls' := [.ref t]) (st' := [.ref t]) (h' := h41) rfl).trans ?_
      refine (mm_go (pc' := 70) (ls' := [.ref t]) (st' := [.ref (t + 10)]) (h' := h41) rfl (q_get (isT_0 ht))).trans ?_
      refine (mm_by 1 (pc' := 71) (ls' := [.ref t]) (st' := [.int 1, .ref (t + 10)]) (h' := h41) rfl).trans ?_
      refine (mm_c0 (y := 36) (as := [.ref (t + 10), .int 1]) (nx := 74) (rest := []) rfl (if_pos ⟨(isT_10 ht), Nat.le_of_ble_eq_true rfl⟩)).trans (mm_congV fun h42 => ?_)
      refine (mm_by 1 (pc' := 75) (ls' := [.ref t]) (st' := [.ref t]) (h' := h42) rfl).trans ?_
      refine (mm_go (pc' := 78) (ls' := [.ref t]) (st' := [.ref (t + 10)]) (h' := h42) rfl (q_get (isT_0 ht))).trans ?_
      refine (mm_by 1 (pc' := 79) (ls' := [.ref t]) (st' := [.int 2, .ref (t + 10)]) (h' := h42) rfl).trans ?_
      refine (mm_c1 (y := 34) (as := [.ref (t + 10), .int 2]) (nx := 82) (rest := []) rfl (if_pos ⟨(isT_10 ht), Nat.le_of_ble_eq_true rfl⟩)).trans (mm_congI fun v44 h43 => ?_)
      refine (mm_br (c := ¬ v44 = 0) (p1 := 150) (p2 := 85) (l1 := [.ref t]) (l2 := [.ref t]) (s1 := []) (s2 := []) (h1 := h43) (h2 := h43) rfl rfl).trans (mm_ite ?_ ?_)
      · exact mm_by_end 1 rfl
      · refine (mm_by 1 (pc' := 86) (ls' := [.ref t]) (st' := [.ref t]) (h' := h43) rfl).trans ?_
        refine (mm_go (pc' := 89) (ls' := [.ref t]) (st' := [.ref (t + 10)]) (h' := h43) rfl (q_get (isT_0 ht))).trans ?_
        refine (mm_by 1 (pc' := 90) (ls' := [.ref t]) (st' := [.int 2, .ref (t + 10)]) (h' := h43) rfl).trans ?_
        refine (mm_c0 (y := 35) (as := [.ref (t + 10), .int 2]) (nx := 93) (rest := []) rfl (if_pos ⟨(isT_10 ht), Nat.le_of_ble_eq_true rfl⟩)).trans (mm_congV fun h45 => ?_)
        refine (mm_by 1 (pc' := 94) (ls' := [.ref t]) (st' := [.ref t]) (h' := h45) rfl).trans ?_
        refine (mm_go (pc' := 97) (ls' := [.ref t]) (st' := [.ref (t + 10)]) (h' := h45) rfl (q_get (isT_0 ht))).trans ?_
        refine (mm_by 1 (pc' := 100) (ls' := [.ref t]) (st' := [.int 10005, .ref (t + 10)]) (h' := h45) rfl).trans ?_
        refine (mm_c0 (y := 37) (as := [.ref (t + 10), .int 10005]) (nx := 103) (rest := []) rfl (if_pos ⟨(isT_10 ht), Nat.le_of_ble_eq_true rfl⟩)).trans (mm_congV fun h46 => ?_)
        refine (mm_by 1 (pc' := 104) (ls' := [.ref t]) (st' := [.ref t]) (h' := h46) rfl).trans ?_
        refine (mm_go (pc' := 107) (ls' := [.ref t]) (st' := [.ref (t + 10)]) (h' := h46) rfl (q_get (isT_0 ht))).trans ?_
        refine (mm_by 1 (pc' := 110) (ls' := [.ref t]) (st' := [.int 10014, .ref (t + 10)]) (h' := h46) rfl).trans ?_
        refine (mm_c0 (y := 37) (as := [.ref (t + 10), .int 10014]) (nx := 113) (rest := []) rfl (if_pos ⟨(isT_10 ht), Nat.le_of_ble_eq_true rfl⟩)).trans (mm_congV fun h47 => ?_)
        refine (mm_by 1 (pc' := 114) (ls' := [.ref t]) (st' := [.ref t]) (h' := h47) rfl).trans ?_
        refine (mm_go (pc' := 117) (ls' := [.ref t]) (st' := [.ref (t + 10)]) (h' := h47) rfl (q_get (isT_0 ht))).trans ?_
        refine (mm_by 1 (pc' := 120) (ls' := [.ref t]) (st' := [.int 11000, .ref (t + 10)]) (h' := h47) rfl).trans ?_
        refine (mm_c0 (y := 37) (as := [.ref (t + 10), .int 11000]) (nx := 123) (rest := []) rfl (if_pos ⟨(isT_10 ht), Nat.le_of_ble_eq_true rfl⟩)).trans (mm_congV fun h48 => ?_)
        refine (mm_by 1 (pc' := 124) (ls' := [.ref t]) (st' := [.ref t]) (h' := h48) rfl).trans ?_
        refine (mm_go (pc' := 127) (ls' := [.ref t]) (st' := [.ref (t + 10)]) (h' := h48) rfl (q_get (isT_0 ht))).trans ?_
        refine (mm_by 1 (pc' := 129) (ls' := [.ref t]) (st' := [.int 6, .ref (t + 10)]) (h' := h48) rfl).trans ?_
        refine (mm_c0 (y := 37) (as := [.ref (t + 10), .int 6]) (nx := 132) (rest := []) rfl (if_pos ⟨(isT_10 ht), Nat.le_of_ble_eq_true rfl⟩)).trans (mm_congV fun h49 => ?_)
        refine (mm_by 1 (pc' := 133) (ls' := [.ref t]) (st' := [.ref t]) (h' := h49) rfl).trans ?_
        refine (mm_go (pc' := 136) (ls' := [.ref t]) (st' := [.ref (t + 10)]) (h' := h49) rfl (q_get (isT_0 ht))).trans ?_
        refine (mm_by 1 (pc' := 139) (ls' := [.ref t]) (st' := [.int 11004, .ref (t + 10)]) (h' := h49) rfl).trans ?_
        refine (mm_c0 (y := 37) (as := [.ref (t + 10), .int 11004]) (nx := 142) (rest := []) rfl (if_pos ⟨(isT_10 ht), Nat.le_of_ble_eq_true rfl⟩)).trans (mm_congV fun h50 => ?_)
        refine (mm_by 1 (pc' := 143) (ls' := [.ref t]) (st' := [.ref t]) (h' := h50) rfl).trans ?_
        refine (mm_go (pc' := 146) (ls' := [.ref t]) (st' := [.ref (t + 10)]) (h' := h50) rfl (q_get (isT_0 ht))).trans ?_
        refine (mm_by 1 (pc' := 147) (ls' := [.ref t]) (st' := [.int 2, .ref (t + 10)]) (h' := h50) rfl).trans ?_
        refine (mm_c0 (y := 36) (as := [.ref (t + 10), .int 2]) (nx := 150) (rest := []) rfl (if_pos ⟨(isT_10 ht), Nat.le_of_ble_eq_true rfl⟩)).trans (mm_congV fun h51 => ?_)
        exact mm_by_end 1 rfl
