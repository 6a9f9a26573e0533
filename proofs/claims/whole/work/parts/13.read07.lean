set_option maxRecDepth 100000 in
set_option maxHeartbeats 4000000 in
theorem U_X12_qSums {d : Nat} {h : mm_H} : mm_M mm_T0 (d + 1) 298 [.ref 264] h = (mm_D (mm_M mm_T0 d) cd_X12_qSums 15 [.ref 264, .int (h.1 264 106), .int 1] [] (wI h 264 106 (h.1 264 104))) := by
  refine (mm_M_eq (ls := [.ref 264, .null, .null]) rfl (Nat.le_of_ble_eq_true rfl) rfl h).trans ?_
  exact mm_by 9 rfl
set_option maxRecDepth 100000 in
set_option maxHeartbeats 4000000 in
theorem U_X12_qSums_15 {d : Nat} {x1 : Int32} {x2 : Int32} {h : mm_H} : mm_D (mm_M mm_T0 d) cd_X12_qSums 15 [.ref 264, .int x1, .int x2] [] h = (if x2 = 0 then (mm_D (mm_M mm_T0 d) cd_X12_qSums 53 [.ref 264, .int x1, .null] [] h) else (if ¬ (h.1 264 5) = 0 then (mm_D (mm_M mm_T0 d) cd_X12_qSums 53 [.ref 264, .int x1, .null] [] h) else (mm_bV (mm_M mm_T0 d 296 [.ref 264] h) (fun h1 => if ¬ (h1.1 264 5) = 0 then (mm_D (mm_M mm_T0 d) cd_X12_qSums 15 [.ref 264, .int x1, .int 0] [] h1) else (mm_bI (mm_M mm_T0 d 297 [.ref 264] h1) (fun v3 h2 => if v3 = 0 then (mm_D (mm_M mm_T0 d) cd_X12_qSums 15 [.ref 264, .int x1, .int 0] [] h2) else (mm_D (mm_M mm_T0 d) cd_X12_qSums 15 [.ref 264, .int x1, .int 1] [] h2))))))) := by
  refine (mm_by 1 (pc' := 16) (ls' := [.ref 264, .int x1, .int x2]) (st' := [.int x2]) (h' := h) rfl).trans ?_
  refine (mm_brK (c := x2 = 0) (p1 := 53) (p2 := 19) (l1 := [.ref 264, .int x1, .int x2]) (l2 := [.ref 264, .int x1, .int x2]) (s1 := []) (s2 := []) (h1 := h) (h2 := h) rfl rfl (l1' := [.ref 264, .int x1, .null]) (l2' := [.ref 264, .int x1, .int x2]) rfl rfl).trans (mm_ite ?_ ?_)
  · exact rfl
  · refine (mm_by 2 (pc' := 23) (ls' := [.ref 264, .int x1, .int x2]) (st' := [.int (h.1 264 5)]) (h' := h) rfl).trans ?_
    refine (mm_brK (c := ¬ (h.1 264 5) = 0) (p1 := 53) (p2 := 26) (l1 := [.ref 264, .int x1, .int x2]) (l2 := [.ref 264, .int x1, .int x2]) (s1 := []) (s2 := []) (h1 := h) (h2 := h) rfl rfl (l1' := [.ref 264, .int x1, .null]) (l2' := [.ref 264, .int x1, .int x2]) rfl rfl).trans (mm_ite ?_ ?_)
    · exact rfl
    · refine (mm_by 1 (pc' := 27) (ls' := [.ref 264, .int x1, .int x2]) (st' := [.ref 264]) (h' := h) rfl).trans ?_
      refine (mm_c0 (y := 296) (as := [.ref 264]) (nx := 30) (rest := []) rfl rfl).trans (mm_congV fun h1 => ?_)
      refine (mm_by 2 (pc' := 34) (ls' := [.ref 264, .int x1, .int x2]) (st' := [.int (h1.1 264 5)]) (h' := h1) rfl).trans ?_
      refine (mm_br (c := ¬ (h1.1 264 5) = 0) (p1 := 48) (p2 := 37) (l1 := [.ref 264, .int x1, .int x2]) (l2 := [.ref 264, .int x1, .int x2]) (s1 := []) (s2 := []) (h1 := h1) (h2 := h1) rfl rfl).trans (mm_ite ?_ ?_)
      · exact mm_by 3 rfl
      · refine (mm_by 1 (pc' := 38) (ls' := [.ref 264, .int x1, .int x2]) (st' := [.ref 264]) (h' := h1) rfl).trans ?_
        refine (mm_c1 (y := 297) (as := [.ref 264]) (nx := 41) (rest := []) rfl rfl).trans (mm_congI fun v3 h2 => ?_)
        refine (mm_br (c := v3 = 0) (p1 := 48) (p2 := 44) (l1 := [.ref 264, .int x1, .int x2]) (l2 := [.ref 264, .int x1, .int x2]) (s1 := []) (s2 := []) (h1 := h2) (h2 := h2) rfl rfl).trans (mm_ite ?_ ?_)
        · exact mm_by 3 rfl
        · exact mm_by 4 rfl
set_option maxRecDepth 100000 in
set_option maxHeartbeats 4000000 in
theorem U_X12_qSums_53 {d : Nat} {x1 : Int32} {h : mm_H} : mm_D (mm_M mm_T0 d) cd_X12_qSums 53 [.ref 264, .int x1, .null] [] h = (if ¬ (h.1 264 5) = 0 then (some (none, wI h 264 106 x1)) else (if (h.1 264 104) ≤ (h.1 264 106) then (some (none, wI h 264 106 x1)) else (mm_bV (mm_M mm_T0 d 288 [.ref 264] h) (fun h1 => mm_D (mm_M mm_T0 d) cd_X12_qSums 53 [.ref 264, .int x1, .null] [] h1)))) := by
  refine (mm_by 2 (pc' := 57) (ls' := [.ref 264, .int x1, .null]) (st' := [.int (h.1 264 5)]) (h' := h) rfl).trans ?_
  refine (mm_br (c := ¬ (h.1 264 5) = 0) (p1 := 78) (p2 := 60) (l1 := [.ref 264, .int x1, .null]) (l2 := [.ref 264, .int x1, .null]) (s1 := []) (s2 := []) (h1 := h) (h2 := h) rfl rfl).trans (mm_ite ?_ ?_)
  · exact mm_by_end 4 rfl
  · refine (mm_by 4 (pc' := 68) (ls' := [.ref 264, .int x1, .null]) (st' := [.int (h.1 264 106), .int (h.1 264 104)]) (h' := h) rfl).trans ?_
    refine (mm_br (c := (h.1 264 104) ≤ (h.1 264 106)) (p1 := 78) (p2 := 71) (l1 := [.ref 264, .int x1, .null]) (l2 := [.ref 264, .int x1, .null]) (s1 := []) (s2 := []) (h1 := h) (h2 := h) rfl rfl).trans (mm_ite ?_ ?_)
    · exact mm_by_end 4 rfl
    · refine (mm_by 1 (pc' := 72) (ls' := [.ref 264, .int x1, .null]) (st' := [.ref 264]) (h' := h) rfl).trans ?_
      refine (mm_c0 (y := 288) (as := [.ref 264]) (nx := 75) (rest := []) rfl rfl).trans (mm_congV fun h1 => ?_)
      exact mm_by 1 rfl
set_option maxRecDepth 100000 in
set_option maxHeartbeats 4000000 in
theorem U_X12_qFact {d : Nat} {h : mm_H} : mm_M mm_T0 (d + 1) 299 [.ref 264] h = (mm_bI (mm_M mm_T0 d 196 [.ref 264, .ref 316] h) (fun v2 h1 => if v2 = 0 then (mm_bV (mm_M mm_T0 d 298 [.ref 264] h1) (fun h3 => if (h3.1 264 5) = 0 then (mm_bI (mm_M mm_T0 d 194 [.ref 264] h3) (fun v5 h4 => if v5 = 60 then (mm_bV (mm_M mm_T0 d 298 [.ref 264] (wI h4 264 2 ((h4.1 264 2) + 1))) (fun h6 => if ¬ v5 = 60 then (if ¬ v5 = 62 then (mm_bV (mm_M mm_T0 d 285 [.ref 264, .int 9] h6) (fun h7 => some (none, h7))) else (mm_bV (mm_M mm_T0 d 285 [.ref 264, .int 8] h6) (fun h8 => some (none, h8)))) else (mm_bV (mm_M mm_T0 d 285 [.ref 264, .int 7] h6) (fun h9 => some (none, h9))))) else (if v5 = 62 then (mm_bV (mm_M mm_T0 d 298 [.ref 264] (wI h4 264 2 ((h4.1 264 2) + 1))) (fun h10 => if ¬ v5 = 60 then (if ¬ v5 = 62 then (mm_bV (mm_M mm_T0 d 285 [.ref 264, .int 9] h10) (fun h11 => some (none, h11))) else (mm_bV (mm_M mm_T0 d 285 [.ref 264, .int 8] h10) (fun h12 => some (none, h12)))) else (mm_bV (mm_M mm_T0 d 285 [.ref 264, .int 7] h10) (fun h13 => some (none, h13))))) else (if v5 = 61 then (mm_bV (mm_M mm_T0 d 298 [.ref 264] (wI h4 264 2 ((h4.1 264 2) + 1))) (fun h14 => if ¬ v5 = 60 then (if ¬ v5 = 62 then (mm_bV (mm_M mm_T0 d 285 [.ref 264, .int 9] h14) (fun h15 => some (none, h15))) else (mm_bV (mm_M mm_T0 d 285 [.ref 264, .int 8] h14) (fun h16 => some (none, h16)))) else (mm_bV (mm_M mm_T0 d 285 [.ref 264, .int 7] h14) (fun h17 => some (none, h17))))) else (mm_bV (mm_M mm_T0 d 191 [.ref 264, .int 1, .int (h4.1 264 2)] h4) (fun h18 => some (none, h18))))))) else (some (none, h3)))) else (mm_bV (mm_M mm_T0 d 285 [.ref 264, .int 13] h1) (fun h19 => some (none, h19))))) := by
  refine (mm_M_eq (ls := [.ref 264, .null]) rfl (Nat.le_of_ble_eq_true rfl) rfl h).trans ?_
  refine (mm_by 3 (pc' := 5) (ls' := [.ref 264, .null]) (st' := [.ref 316, .ref 264]) (h' := h) rfl).trans ?_
  refine (mm_c1 (y := 196) (as := [.ref 264, .ref 316]) (nx := 8) (rest := []) rfl rfl).trans (mm_congI fun v2 h1 => ?_)
  refine (mm_br (c := v2 = 0) (p1 := 18) (p2 := 11) (l1 := [.ref 264, .null]) (l2 := [.ref 264, .null]) (s1 := []) (s2 := []) (h1 := h1) (h2 := h1) rfl rfl).trans (mm_ite ?_ ?_)
  · refine (mm_by 1 (pc' := 19) (ls' := [.ref 264, .null]) (st' := [.ref 264]) (h' := h1) rfl).trans ?_
    refine (mm_c0 (y := 298) (as := [.ref 264]) (nx := 22) (rest := []) rfl rfl).trans (mm_congV fun h3 => ?_)
    refine (mm_by 2 (pc' := 26) (ls' := [.ref 264, .null]) (st' := [.int (h3.1 264 5)]) (h' := h3) rfl).trans ?_
    refine (mm_br (c := (h3.1 264 5) = 0) (p1 := 30) (p2 := 29) (l1 := [.ref 264, .null]) (l2 := [.ref 264, .null]) (s1 := []) (s2 := []) (h1 := h3) (h2 := h3) rfl rfl).trans (mm_ite ?_ ?_)
    · refine (mm_by 1 (pc' := 31) (ls' := [.ref 264, .null]) (st' := [.ref 264]) (h' := h3) rfl).trans ?_
      refine (mm_c1 (y := 194) (as := [.ref 264]) (nx := 34) (rest := []) rfl rfl).trans (mm_congI fun v5 h4 => ?_)
      refine (mm_by 3 (pc' := 38) (ls' := [.ref 264, .int v5]) (st' := [.int 60, .int v5]) (h' := h4) rfl).trans ?_
      refine (mm_br (c := v5 = 60) (p1 := 63) (p2 := 41) (l1 := [.ref 264, .int v5]) (l2 := [.ref 264, .int v5]) (s1 := []) (s2 := []) (h1 := h4) (h2 := h4) rfl rfl).trans (mm_ite ?_ ?_)
      · refine (mm_by 7 (pc' := 74) (ls' := [.ref 264, .int v5]) (st' := [.ref 264]) (h' := wI h4 264 2 ((h4.1 264 2) + 1)) rfl).trans ?_
        refine (mm_c0 (y := 298) (as := [.ref 264]) (nx := 77) (rest := []) rfl rfl).trans (mm_congV fun h6 => ?_)
        refine (mm_by 3 (pc' := 81) (ls' := [.ref 264, .int v5]) (st' := [.int 60, .int v5, .ref 264]) (h' := h6) rfl).trans ?_
        refine (mm_br (c := ¬ v5 = 60) (p1 := 89) (p2 := 84) (l1 := [.ref 264, .int v5]) (l2 := [.ref 264, .int v5]) (s1 := [.ref 264]) (s2 := [.ref 264]) (h1 := h6) (h2 := h6) rfl rfl).trans (mm_ite ?_ ?_)
        · refine (mm_by 2 (pc' := 92) (ls' := [.ref 264, .int v5]) (st' := [.int 62, .int v5, .ref 264]) (h' := h6) rfl).trans ?_
          refine (mm_br (c := ¬ v5 = 62) (p1 := 100) (p2 := 95) (l1 := [.ref 264, .int v5]) (l2 := [.ref 264, .int v5]) (s1 := [.ref 264]) (s2 := [.ref 264]) (h1 := h6) (h2 := h6) rfl rfl).trans (mm_ite ?_ ?_)
          · refine (mm_by 1 (pc' := 102) (ls' := [.ref 264, .int v5]) (st' := [.int 9, .ref 264]) (h' := h6) rfl).trans ?_
            refine (mm_c0 (y := 285) (as := [.ref 264, .int 9]) (nx := 105) (rest := []) rfl rfl).trans (mm_congV fun h7 => ?_)
            exact mm_by_end 1 rfl
          · refine (mm_by 2 (pc' := 102) (ls' := [.ref 264, .int v5]) (st' := [.int 8, .ref 264]) (h' := h6) rfl).trans ?_
            refine (mm_c0 (y := 285) (as := [.ref 264, .int 8]) (nx := 105) (rest := []) rfl rfl).trans (mm_congV fun h8 => ?_)
            exact mm_by_end 1 rfl
        · refine (mm_by 2 (pc' := 102) (ls' := [.ref 264, .int v5]) (st' := [.int 7, .ref 264]) (h' := h6) rfl).trans ?_
          refine (mm_c0 (y := 285) (as := [.ref 264, .int 7]) (nx := 105) (rest := []) rfl rfl).trans (mm_congV fun h9 => ?_)
          exact mm_by_end 1 rfl
      · refine (mm_by 2 (pc' := 44) (ls' := [.ref 264, .int v5]) (st' := [.int 62, .int v5]) (h' := h4) rfl).trans ?_
        refine (mm_br (c := v5 = 62) (p1 := 63) (p2 := 47) (l1 := [.ref 264, .int v5]) (l2 := [.ref 264, .int v5]) (s1 := []) (s2 := []) (h1 := h4) (h2 := h4) rfl rfl).trans (mm_ite ?_ ?_)
        · refine (mm_by 7 (pc' := 74) (ls' := [.ref 264, .int v5]) (st' := [.ref 264]) (h' := wI h4 264 2 ((h4.1 264 2) + 1)) rfl).trans ?_
          refine (mm_c0 (y := 298) (as := [.ref 264]) (nx := 77) (rest := []) rfl rfl).trans (mm_congV fun h10 => ?_)
          refine (mm_by 3 (pc' := 81) (ls' := [.ref 264, .int v5]) (st' := [.int 60, .int v5, .ref 264]) (h' := h10) rfl).trans ?_
          refine (mm_br (c := ¬ v5 = 60) (p1 := 89) (p2 := 84) (l1 := [.ref 264, .int v5]) (l2 := [.ref 264, .int v5]) (s1 := [.ref 264]) (s2 := [.ref 264]) (h1 := h10) (h2 := h10) rfl rfl).trans (mm_ite ?_ ?_)
          · refine (mm_by 2 (pc' := 92) (ls' := [.ref 264, .int v5]) (st' := [.int 62, .int v5, .ref 264]) (h' := h10) rfl).trans ?_
            refine (mm_br (c := ¬ v5 = 62) (p1 := 100) (p2 := 95) (l1 := [.ref 264, .int v5]) (l2 := [.ref 264, .int v5]) (s1 := [.ref 264]) (s2 := [.ref 264]) (h1 := h10) (h2 := h10) rfl rfl).trans (mm_ite ?_ ?_)
            · refine (mm_by 1 (pc' := 102) (ls' := [.ref 264, .int v5]) (st' := [.int 9, .ref 264]) (h' := h10) rfl).trans ?_
              refine (mm_c0 (y := 285) (as := [.ref 264, .int 9]) (nx := 105) (rest := []) rfl rfl).trans (mm_congV fun h11 => ?_)
              exact mm_by_end 1 rfl
            · refine (mm_by 2 (pc' := 102) (ls' := [.ref 264, .int v5]) (st' := [.int 8, .ref 264]) (h' := h10) rfl).trans ?_
              refine (mm_c0 (y := 285) (as := [.ref 264, .int 8]) (nx := 105) (rest := []) rfl rfl).trans (mm_congV fun h12 => ?_)
              exact mm_by_end 1 rfl
          · refine (mm_by 2 (pc' := 102) (ls' := [.ref 264, .int v5]) (st' := [.int 7, .ref 264]) (h' := h10) rfl).trans ?_
            refine (mm_c0 (y := 285) (as := [.ref 264, .int 7]) (nx := 105) (rest := []) rfl rfl).trans (mm_congV fun h13 => ?_)
            exact mm_by_end 1 rfl
        · refine (mm_by 2 (pc' := 50) (ls' := [.ref 264, .int v5]) (st' := [.int 61, .int v5]) (h' := h4) rfl).trans ?_
          refine (mm_br (c := v5 = 61) (p1 := 63) (p2 := 53) (l1 := [.ref 264, .int v5]) (l2 := [.ref 264, .int v5]) (s1 := []) (s2 := []) (h1 := h4) (h2 := h4) rfl rfl).trans (mm_ite ?_ ?_)
          · refine (mm_by 7 (pc' := 74) (ls' := [.ref 264, .int v5]) (st' := [.ref 264]) (h' := wI h4 264 2 ((h4.1 264 2) + 1)) rfl).trans ?_
            refine (mm_c0 (y := 298) (as := [.ref 264]) (nx := 77) (rest := []) rfl rfl).trans (mm_congV fun h14 => ?_)
            refine (mm_by 3 (pc' := 81) (ls' := [.ref 264, .int v5]) (st' := [.int 60, .int v5, .ref 264]) (h' := h14) rfl).trans ?_
            refine (mm_br (c := ¬ v5 = 60) (p1 := 89) (p2 := 84) (l1 := [.ref 264, .int v5]) (l2 := [.ref 264, .int v5]) (s1 := [.ref 264]) (s2 := [.ref 264]) (h1 := h14) (h2 := h14) rfl rfl).trans (mm_ite ?_ ?_)
            · refine (mm_by 2 (pc' := 92) (ls' := [.ref 264, .int v5]) (st' := [.int 62, .int v5, .ref 264]) (h' := h14) rfl).trans ?_
              refine (mm_br (c := ¬ v5 = 62) (p1 := 100) (p2 := 95) (l1 := [.ref 264, .int v5]) (l2 := [.ref 264, .int v5]) (s1 := [.ref 264]) (s2 := [.ref 264]) (h1 := h14) (h2 := h14) rfl rfl).trans (mm_ite ?_ ?_)
              · refine (mm_by 1 (pc' := 102) (ls' := [.ref 264, .int v5]) (st' := [.int 9, .ref 264]) (h' := h14) rfl).trans ?_
                refine (mm_c0 (y := 285) (as := [.ref 264, .int 9]) (nx := 105) (rest := []) rfl rfl).trans (mm_congV fun h15 => ?_)
                exact mm_by_end 1 rfl
              · refine (mm_by 2 (pc' := 102) (ls' := [.ref 264, .int v5]) (st' := [.int 8, .ref 264]) (h' := h14) rfl).trans ?_
                refine (mm_c0 (y := 285) (as := [.ref 264, .int 8]) (nx := 105) (rest := []) rfl rfl).trans (mm_congV fun h16 => ?_)
                exact mm_by_end 1 rfl
            · refine (mm_by 2 (pc' := 102) (ls' := [.ref 264, .int v5]) (st' := [.int 7, .ref 264]) (h' := h14) rfl).trans ?_
              refine (mm_c0 (y := 285) (as := [.ref 264, .int 7]) (nx := 105) (rest := []) rfl rfl).trans (mm_congV fun h17 => ?_)
              exact mm_by_end 1 rfl
          · refine (mm_by 4 (pc' := 59) (ls' := [.ref 264, .int v5]) (st' := [.int (h4.1 264 2), .int 1, .ref 264]) (h' := h4) rfl).trans ?_
            refine (mm_c0 (y := 191) (as := [.ref 264, .int 1, .int (h4.1 264 2)]) (nx := 62) (rest := []) rfl rfl).trans (mm_congV fun h18 => ?_)
            exact mm_by_end 1 rfl
    · exact mm_by_end 1 rfl
  · refine (mm_by 2 (pc' := 14) (ls' := [.ref 264, .null]) (st' := [.int 13, .ref 264]) (h' := h1) rfl).trans ?_
    refine (mm_c0 (y := 285) (as := [.ref 264, .int 13]) (nx := 17) (rest := []) rfl rfl).trans (mm_congV fun h19 => ?_)
    exact mm_by_end 1 rfl
set_option maxRecDepth 100000 in
set_option maxHeartbeats 4000000 in
theorem U_X12_qHasSquare {d : Nat} {h : mm_H} : mm_M mm_T0 (d + 1) 300 [.ref 264] h = (mm_D (mm_M mm_T0 d) cd_X12_qHasSquare 2 [.ref 264, .int 0] [] h) := by
  refine (mm_M_eq (ls := [.ref 264, .null]) rfl (Nat.le_of_ble_eq_true rfl) rfl h).trans ?_
  exact mm_by 2 rfl
set_option maxRecDepth 100000 in
set_option maxHeartbeats 4000000 in
theorem U_X12_qHasSquare_2 {d : Nat} {x1 : Int32} {h : mm_H} : mm_D (mm_M mm_T0 d) cd_X12_qHasSquare 2 [.ref 264, .int x1] [] h = (if (h.1 264 104) ≤ x1 then (some (some (.int 0), h)) else (if x1 < 0 ∨ 1700 ≤ x1.toNatClampNeg then none else (if ¬ (h.1 333 x1.toNatClampNeg) = 25 then (mm_D (mm_M mm_T0 d) cd_X12_qHasSquare 2 [.ref 264, .int (x1 + 1)] [] h) else (some (some (.int 1), h))))) := by
  refine (mm_by 3 (pc' := 7) (ls' := [.ref 264, .int x1]) (st' := [.int (h.1 264 104), .int x1]) (h' := h) rfl).trans ?_
  refine (mm_br (c := (h.1 264 104) ≤ x1) (p1 := 29) (p2 := 10) (l1 := [.ref 264, .int x1]) (l2 := [.ref 264, .int x1]) (s1 := []) (s2 := []) (h1 := h) (h2 := h) rfl rfl).trans (mm_ite ?_ ?_)
  · exact mm_by_end 2 rfl
  · refine (mm_by 3 (pc' := 15) (ls' := [.ref 264, .int x1]) (st' := [.int x1, .ref 333]) (h' := h) rfl).trans ?_
    refine (mm_gd (c := x1 < 0 ∨ 1700 ≤ x1.toNatClampNeg) (p1 := 16) (l1 := [.ref 264, .int x1]) (s1 := [.int (h.1 333 x1.toNatClampNeg)]) (h1 := h) rfl (q_iald (n := 1700) rfl)).trans (mm_ite rfl ?_)
    refine (mm_by 1 (pc' := 18) (ls' := [.ref 264, .int x1]) (st' := [.int 25, .int (h.1 333 x1.toNatClampNeg)]) (h' := h) rfl).trans ?_
    refine (mm_br (c := ¬ (h.1 333 x1.toNatClampNeg) = 25) (p1 := 23) (p2 := 21) (l1 := [.ref 264, .int x1]) (l2 := [.ref 264, .int x1]) (s1 := []) (s2 := []) (h1 := h) (h2 := h) rfl rfl).trans (mm_ite ?_ ?_)
    · exact mm_by 2 rfl
    · exact mm_by_end 2 rfl
set_option maxRecDepth 100000 in
set_option maxHeartbeats 4000000 in
theorem U_X12_qDropsNots {d : Nat} {h : mm_H} : mm_M mm_T0 (d + 1) 301 [.ref 264] h = (if ¬ (h.1 264 5) = 0 then (some (none, h)) else (mm_bI (mm_M mm_T0 d 287 [.ref 264, .int 12] h) (fun v2 h1 => if v2 = 0 then (some (none, h1)) else (mm_bV (mm_M mm_T0 d 288 [.ref 264] (wI h1 264 105 ((h1.1 264 105) - 1))) (fun h3 => mm_D (mm_M mm_T0 d) cd_X12_qDropsNots 0 [.ref 264] [] h3))))) := by
  refine (mm_M_eq (ls := [.ref 264]) rfl (Nat.le_of_ble_eq_true rfl) rfl h).trans ?_
  refine (mm_by 2 (pc' := 4) (ls' := [.ref 264]) (st' := [.int (h.1 264 5)]) (h' := h) rfl).trans ?_
  refine (mm_br (c := ¬ (h.1 264 5) = 0) (p1 := 33) (p2 := 7) (l1 := [.ref 264]) (l2 := [.ref 264]) (s1 := []) (s2 := []) (h1 := h) (h2 := h) rfl rfl).trans (mm_ite ?_ ?_)
  · exact mm_by_end 1 rfl
  · refine (mm_by 2 (pc' := 10) (ls' := [.ref 264]) (st' := [.int 12, .ref 264]) (h' := h) rfl).trans ?_
    refine (mm_c1 (y := 287) (as := [.ref 264, .int 12]) (nx := 13) (rest := []) rfl rfl).trans (mm_congI fun v2 h1 => ?_)
    refine (mm_br (c := v2 = 0) (p1 := 33) (p2 := 16) (l1 := [.ref 264]) (l2 := [.ref 264]) (s1 := []) (s2 := []) (h1 := h1) (h2 := h1) rfl rfl).trans (mm_ite ?_ ?_)
    · exact mm_by_end 1 rfl
    · refine (mm_by 7 (pc' := 27) (ls' := [.ref 264]) (st' := [.ref 264]) (h' := wI h1 264 105 ((h1.1 264 105) - 1)) rfl).trans ?_
      refine (mm_c0 (y := 288) (as := [.ref 264]) (nx := 30) (rest := []) rfl rfl).trans (mm_congV fun h3 => ?_)
      exact mm_by 1 rfl
set_option maxRecDepth 100000 in
set_option maxHeartbeats 4000000 in
theorem U_X12_qDropsNots_0 {d : Nat} {h : mm_H} : mm_D (mm_M mm_T0 d) cd_X12_qDropsNots 0 [.ref 264] [] h = (if ¬ (h.1 264 5) = 0 then (some (none, h)) else (mm_bI (mm_M mm_T0 d 287 [.ref 264, .int 12] h) (fun v2 h1 => if v2 = 0 then (some (none, h1)) else (mm_bV (mm_M mm_T0 d 288 [.ref 264] (wI h1 264 105 ((h1.1 264 105) - 1))) (fun h3 => mm_D (mm_M mm_T0 d) cd_X12_qDropsNots 0 [.ref 264] [] h3))))) := by
  refine (mm_by 2 (pc' := 4) (ls' := [.ref 264]) (st' := [.int (h.1 264 5)]) (h' := h) rfl).trans ?_
  refine (mm_br (c := ¬ (h.1 264 5) = 0) (p1 := 33) (p2 := 7) (l1 := [.ref 264]) (l2 := [.ref 264]) (s1 := []) (s2 := []) (h1 := h) (h2 := h) rfl rfl).trans (mm_ite ?_ ?_)
  · exact mm_by_end 1 rfl
  · refine (mm_by 2 (pc' := 10) (ls' := [.ref 264]) (st' := [.int 12, .ref 264]) (h' := h) rfl).trans ?_
    refine (mm_c1 (y := 287) (as := [.ref 264, .int 12]) (nx := 13) (rest := []) rfl rfl).trans (mm_congI fun v2 h1 => ?_)
    refine (mm_br (c := v2 = 0) (p1 := 33) (p2 := 16) (l1 := [.ref 264]) (l2 := [.ref 264]) (s1 := []) (s2 := []) (h1 := h1) (h2 := h1) rfl rfl).trans (mm_ite ?_ ?_)
    · exact mm_by_end 1 rfl
    · refine (mm_by 7 (pc' := 27) (ls' := [.ref 264]) (st' := [.ref 264]) (h' := wI h1 264 105 ((h1.1 264 105) - 1)) rfl).trans ?_
      refine (mm_c0 (y := 288) (as := [.ref 264]) (nx := 30) (rest := []) rfl rfl).trans (mm_congV fun h3 => ?_)
      exact mm_by 1 rfl
set_option maxRecDepth 100000 in
set_option maxHeartbeats 4000000 in
theorem U_X12_qTest {d : Nat} {h : mm_H} : mm_M mm_T0 (d + 1) 302 [.ref 264] h = (mm_D (mm_M mm_T0 d) cd_X12_qTest 2 [.ref 264, .int 1, .null] [] h) := by
  refine (mm_M_eq (ls := [.ref 264, .null, .null]) rfl (Nat.le_of_ble_eq_true rfl) rfl h).trans ?_
  exact mm_by 2 rfl
set_option maxRecDepth 100000 in
set_option maxHeartbeats 4000000 in
theorem U_X12_qTest_2 {d : Nat} {x1 : Int32} {h : mm_H} : mm_D (mm_M mm_T0 d) cd_X12_qTest 2 [.ref 264, .int x1, .null] [] h = (if x1 = 0 then (mm_D (mm_M mm_T0 d) cd_X12_qTest 110 [.ref 264, .null, .null] [] h) else (if ¬ (h.1 264 5) = 0 then (mm_D (mm_M mm_T0 d) cd_X12_qTest 110 [.ref 264, .null, .null] [] h) else (mm_bI (mm_M mm_T0 d 194 [.ref 264] h) (fun v2 h1 => if ¬ v2 = 91 then (mm_bI (mm_M mm_T0 d 195 [.ref 264, .ref 313] h1) (fun v4 h3 => if v4 = 0 then (mm_bV (mm_M mm_T0 d 299 [.ref 264] h3) (fun h5 => mm_bV (mm_M mm_T0 d 301 [.ref 264] h5) (fun h6 => if ¬ (h6.1 264 5) = 0 then (mm_D (mm_M mm_T0 d) cd_X12_qTest 2 [.ref 264, .int 0, .null] [] h6) else (mm_bI (mm_M mm_T0 d 303 [.ref 264] h6) (fun v8 h7 => if v8 = 0 then (mm_D (mm_M mm_T0 d) cd_X12_qTest 2 [.ref 264, .int 0, .null] [] h7) else (mm_D (mm_M mm_T0 d) cd_X12_qTest 2 [.ref 264, .int 1, .null] [] h7)))))) else (mm_bV (mm_M mm_T0 d 286 [.ref 264, .int 12, .int (h3.1 264 2)] h3) (fun h9 => mm_bV (mm_M mm_T0 d 197 [.ref 264, .ref 313] h9) (fun h10 => mm_D (mm_M mm_T0 d) cd_X12_qTest 2 [.ref 264, .int x1, .null] [] h10))))) else (mm_bV (mm_M mm_T0 d 286 [.ref 264, .int 25, .int (h1.1 264 2)] h1) (fun h11 => mm_D (mm_M mm_T0 d) cd_X12_qTest 2 [.ref 264, .int x1, .null] [] (wI h11 264 2 ((h11.1 264 2) + 1)))))))) := by
  refine (mm_by 1 (pc' := 3) (ls' := [.ref 264, .int x1, .null]) (st' := [.int x1]) (h' := h) rfl).trans ?_
  refine (mm_brK (c := x1 = 0) (p1 := 110) (p2 := 6) (l1 := [.ref 264, .int x1, .null]) (l2 := [.ref 264, .int x1, .null]) (s1 := []) (s2 := []) (h1 := h) (h2 := h) rfl rfl (l1' := [.ref 264, .null, .null]) (l2' := [.ref 264, .int x1, .null]) rfl rfl).trans (mm_ite ?_ ?_)
  · exact rfl
  · refine (mm_by 2 (pc' := 10) (ls' := [.ref 264, .int x1, .null]) (st' := [.int (h.1 264 5)]) (h' := h) rfl).trans ?_
    refine (mm_brK (c := ¬ (h.1 264 5) = 0) (p1 := 110) (p2 := 13) (l1 := [.ref 264, .int x1, .null]) (l2 := [.ref 264, .int x1, .null]) (s1 := []) (s2 := []) (h1 := h) (h2 := h) rfl rfl (l1' := [.ref 264, .null, .null]) (l2' := [.ref 264, .int x1, .null]) rfl rfl).trans (mm_ite ?_ ?_)
    · exact rfl
    · refine (mm_by 1 (pc' := 14) (ls' := [.ref 264, .int x1, .null]) (st' := [.ref 264]) (h' := h) rfl).trans ?_
      refine (mm_c1 (y := 194) (as := [.ref 264]) (nx := 17) (rest := []) rfl rfl).trans (mm_congI fun v2 h1 => ?_)
      refine (mm_by 3 (pc' := 21) (ls' := [.ref 264, .int x1, .int v2]) (st' := [.int 91, .int v2]) (h' := h1) rfl).trans ?_
      refine (mm_br (c := ¬ v2 = 91) (p1 := 47) (p2 := 24) (l1 := [.ref 264, .int x1, .int v2]) (l2 := [.ref 264, .int x1, .int v2]) (s1 := []) (s2 := []) (h1 := h1) (h2 := h1) rfl rfl).trans (mm_ite ?_ ?_)
      · refine (mm_by 3 (pc' := 52) (ls' := [.ref 264, .int x1, .int v2]) (st' := [.ref 313, .ref 264]) (h' := h1) rfl).trans ?_
        refine (mm_c1 (y := 195) (as := [.ref 264, .ref 313]) (nx := 55) (rest := []) rfl rfl).trans (mm_congI fun v4 h3 => ?_)
        refine (mm_br (c := v4 = 0) (p1 := 79) (p2 := 58) (l1 := [.ref 264, .int x1, .int v2]) (l2 := [.ref 264, .int x1, .int v2]) (s1 := []) (s2 := []) (h1 := h3) (h2 := h3) rfl rfl).trans (mm_ite ?_ ?_)
        · refine (mm_by 1 (pc' := 80) (ls' := [.ref 264, .int x1, .int v2]) (st' := [.ref 264]) (h' := h3) rfl).trans ?_
          refine (mm_c0 (y := 299) (as := [.ref 264]) (nx := 83) (rest := []) rfl rfl).trans (mm_congV fun h5 => ?_)
          refine (mm_by 1 (pc' := 84) (ls' := [.ref 264, .int x1, .int v2]) (st' := [.ref 264]) (h' := h5) rfl).trans ?_
          refine (mm_c0 (y := 301) (as := [.ref 264]) (nx := 87) (rest := []) rfl rfl).trans (mm_congV fun h6 => ?_)
          refine (mm_by 2 (pc' := 91) (ls' := [.ref 264, .int x1, .int v2]) (st' := [.int (h6.1 264 5)]) (h' := h6) rfl).trans ?_
          refine (mm_br (c := ¬ (h6.1 264 5) = 0) (p1 := 105) (p2 := 94) (l1 := [.ref 264, .int x1, .int v2]) (l2 := [.ref 264, .int x1, .int v2]) (s1 := []) (s2 := []) (h1 := h6) (h2 := h6) rfl rfl).trans (mm_ite ?_ ?_)
          · exact mm_by 3 rfl
          · refine (mm_by 1 (pc' := 95) (ls' := [.ref 264, .int x1, .int v2]) (st' := [.ref 264]) (h' := h6) rfl).trans ?_
            refine (mm_c1 (y := 303) (as := [.ref 264]) (nx := 98) (rest := []) rfl rfl).trans (mm_congI fun v8 h7 => ?_)
            refine (mm_br (c := v8 = 0) (p1 := 105) (p2 := 101) (l1 := [.ref 264, .int x1, .int v2]) (l2 := [.ref 264, .int x1, .int v2]) (s1 := []) (s2 := []) (h1 := h7) (h2 := h7) rfl rfl).trans (mm_ite ?_ ?_)
            · exact mm_by 3 rfl
            · exact mm_by 4 rfl
        · refine (mm_by 4 (pc' := 65) (ls' := [.ref 264, .int x1, .int v2]) (st' := [.int (h3.1 264 2), .int 12, .ref 264]) (h' := h3) rfl).trans ?_
          refine (mm_c0 (y := 286) (as := [.ref 264, .int 12, .int (h3.1 264 2)]) (nx := 68) (rest := []) rfl rfl).trans (mm_congV fun h9 => ?_)
          refine (mm_by 3 (pc' := 73) (ls' := [.ref 264, .int x1, .int v2]) (st' := [.ref 313, .ref 264]) (h' := h9) rfl).trans ?_
          refine (mm_c0 (y := 197) (as := [.ref 264, .ref 313]) (nx := 76) (rest := []) rfl rfl).trans (mm_congV fun h10 => ?_)
          exact mm_by 1 rfl
      · refine (mm_by 4 (pc' := 31) (ls' := [.ref 264, .int x1, .int v2]) (st' := [.int (h1.1 264 2), .int 25, .ref 264]) (h' := h1) rfl).trans ?_
        refine (mm_c0 (y := 286) (as := [.ref 264, .int 25, .int (h1.1 264 2)]) (nx := 34) (rest := []) rfl rfl).trans (mm_congV fun h11 => ?_)
        exact mm_by 7 rfl
set_option maxRecDepth 100000 in
set_option maxHeartbeats 4000000 in
theorem U_X12_qTest_110 {d : Nat} {h : mm_H} : mm_D (mm_M mm_T0 d) cd_X12_qTest 110 [.ref 264, .null, .null] [] h = (if ¬ (h.1 264 5) = 0 then (some (none, h)) else (if (h.1 264 104) ≤ 0 then (some (none, h)) else (mm_bV (mm_M mm_T0 d 288 [.ref 264] h) (fun h1 => mm_D (mm_M mm_T0 d) cd_X12_qTest 110 [.ref 264, .null, .null] [] h1)))) := by
  refine (mm_by 2 (pc' := 114) (ls' := [.ref 264, .null, .null]) (st' := [.int (h.1 264 5)]) (h' := h) rfl).trans ?_
  refine (mm_br (c := ¬ (h.1 264 5) = 0) (p1 := 131) (p2 := 117) (l1 := [.ref 264, .null, .null]) (l2 := [.ref 264, .null, .null]) (s1 := []) (s2 := []) (h1 := h) (h2 := h) rfl rfl).trans (mm_ite ?_ ?_)
  · exact mm_by_end 1 rfl
  · refine (mm_by 2 (pc' := 121) (ls' := [.ref 264, .null, .null]) (st' := [.int (h.1 264 104)]) (h' := h) rfl).trans ?_
    refine (mm_br (c := (h.1 264 104) ≤ 0) (p1 := 131) (p2 := 124) (l1 := [.ref 264, .null, .null]) (l2 := [.ref 264, .null, .null]) (s1 := []) (s2 := []) (h1 := h) (h2 := h) rfl rfl).trans (mm_ite ?_ ?_)
    · exact mm_by_end 1 rfl
    · refine (mm_by 1 (pc' := 125) (ls' := [.ref 264, .null, .null]) (st' := [.ref 264]) (h' := h) rfl).trans ?_
      refine (mm_c0 (y := 288) (as := [.ref 264]) (nx := 128) (rest := []) rfl rfl).trans (mm_congV fun h1 => ?_)
      exact mm_by 1 rfl
set_option maxRecDepth 100000 in
set_option maxHeartbeats 4000000 in
theorem U_X12_qGoesOnTest {d : Nat} {h : mm_H} : mm_M mm_T0 (d + 1) 303 [.ref 264] h = (if ¬ (h.1 264 5) = 0 then (mm_bI (mm_M mm_T0 d 196 [.ref 264, .ref 314] h) (fun v2 h1 => if v2 = 0 then (mm_bI (mm_M mm_T0 d 196 [.ref 264, .ref 315] h1) (fun v4 h3 => if v4 = 0 then (if ¬ (h3.1 264 5) = 0 then (some (some (.int 0), h3)) else (mm_bI (mm_M mm_T0 d 300 [.ref 264] h3) (fun v6 h5 => if v6 = 0 then (some (some (.int 0), h5)) else (mm_bV (mm_M mm_T0 d 191 [.ref 264, .int 1, .int (h5.1 264 2)] h5) (fun h7 => some (some (.int 0), h7)))))) else (mm_D (mm_M mm_T0 d) cd_X12_qGoesOnTest 137 [.ref 264] [] h3))) else (mm_D (mm_M mm_T0 d) cd_X12_qGoesOnTest 87 [.ref 264] [] h1))) else (mm_bI (mm_M mm_T0 d 194 [.ref 264] h) (fun v9 h8 => if ¬ v9 = 93 then (mm_bI (mm_M mm_T0 d 196 [.ref 264, .ref 314] h8) (fun v11 h10 => if v11 = 0 then (mm_bI (mm_M mm_T0 d 196 [.ref 264, .ref 315] h10) (fun v13 h12 => if v13 = 0 then (if ¬ (h12.1 264 5) = 0 then (some (some (.int 0), h12)) else (mm_bI (mm_M mm_T0 d 300 [.ref 264] h12) (fun v15 h14 => if v15 = 0 then (some (some (.int 0), h14)) else (mm_bV (mm_M mm_T0 d 191 [.ref 264, .int 1, .int (h14.1 264 2)] h14) (fun h16 => some (some (.int 0), h16)))))) else (mm_D (mm_M mm_T0 d) cd_X12_qGoesOnTest 137 [.ref 264] [] h12))) else (mm_D (mm_M mm_T0 d) cd_X12_qGoesOnTest 87 [.ref 264] [] h10))) else (mm_bI (mm_M mm_T0 d 300 [.ref 264] h8) (fun v18 h17 => if v18 = 0 then (mm_bI (mm_M mm_T0 d 196 [.ref 264, .ref 314] h17) (fun v20 h19 => if v20 = 0 then (mm_bI (mm_M mm_T0 d 196 [.ref 264, .ref 315] h19) (fun v22 h21 => if v22 = 0 then (if ¬ (h21.1 264 5) = 0 then (some (some (.int 0), h21)) else (mm_bI (mm_M mm_T0 d 300 [.ref 264] h21) (fun v24 h23 => if v24 = 0 then (some (some (.int 0), h23)) else (mm_bV (mm_M mm_T0 d 191 [.ref 264, .int 1, .int (h23.1 264 2)] h23) (fun h25 => some (some (.int 0), h25)))))) else (mm_D (mm_M mm_T0 d) cd_X12_qGoesOnTest 137 [.ref 264] [] h21))) else (mm_D (mm_M mm_T0 d) cd_X12_qGoesOnTest 87 [.ref 264] [] h19))) else (mm_D (mm_M mm_T0 d) cd_X12_qGoesOnTest 33 [.ref 264] [] (wI h17 264 2 ((h17.1 264 2) + 1)))))))) := by
  refine (mm_M_eq (ls := [.ref 264]) rfl (Nat.le_of_ble_eq_true rfl) rfl h).trans ?_
  refine (mm_by 2 (pc' := 4) (ls' := [.ref 264]) (st' := [.int (h.1 264 5)]) (h' := h) rfl).trans ?_
  refine (mm_br (c := ¬ (h.1 264 5) = 0) (p1 := 76) (p2 := 7) (l1 := [.ref 264]) (l2 := [.ref 264]) (s1 := []) (s2 := []) (h1 := h) (h2 := h) rfl rfl).trans (mm_ite ?_ ?_)
  · refine (mm_by 3 (pc' := 81) (ls' := [.ref 264]) (st' := [.ref 314, .ref 264]) (h' := h) rfl).trans ?_
    refine (mm_c1 (y := 196) (as := [.ref 264, .ref 314]) (nx := 84) (rest := []) rfl rfl).trans (mm_congI fun v2 h1 => ?_)
    refine (mm_br (c := v2 = 0) (p1 := 126) (p2 := 87) (l1 := [.ref 264]) (l2 := [.ref 264]) (s1 := []) (s2 := []) (h1 := h1) (h2 := h1) rfl rfl).trans (mm_ite ?_ ?_)
    · refine (mm_by 3 (pc' := 131) (ls' := [.ref 264]) (st' := [.ref 315, .ref 264]) (h' := h1) rfl).trans ?_
      refine (mm_c1 (y := 196) (as := [.ref 264, .ref 315]) (nx := 134) (rest := []) rfl rfl).trans (mm_congI fun v4 h3 => ?_)
      refine (mm_br (c := v4 = 0) (p1 := 185) (p2 := 137) (l1 := [.ref 264]) (l2 := [.ref 264]) (s1 := []) (s2 := []) (h1 := h3) (h2 := h3) rfl rfl).trans (mm_ite ?_ ?_)
      · refine (mm_by 2 (pc' := 189) (ls' := [.ref 264]) (st' := [.int (h3.1 264 5)]) (h' := h3) rfl).trans ?_
        refine (mm_br (c := ¬ (h3.1 264 5) = 0) (p1 := 208) (p2 := 192) (l1 := [.ref 264]) (l2 := [.ref 264]) (s1 := []) (s2 := []) (h1 := h3) (h2 := h3) rfl rfl).trans (mm_ite ?_ ?_)
        · exact mm_by_end 2 rfl
        · refine (mm_by 1 (pc' := 193) (ls' := [.ref 264]) (st' := [.ref 264]) (h' := h3) rfl).trans ?_
          refine (mm_c1 (y := 300) (as := [.ref 264]) (nx := 196) (rest := []) rfl rfl).trans (mm_congI fun v6 h5 => ?_)
          refine (mm_br (c := v6 = 0) (p1 := 208) (p2 := 199) (l1 := [.ref 264]) (l2 := [.ref 264]) (s1 := []) (s2 := []) (h1 := h5) (h2 := h5) rfl rfl).trans (mm_ite ?_ ?_)
          · exact mm_by_end 2 rfl
          · refine (mm_by 4 (pc' := 205) (ls' := [.ref 264]) (st' := [.int (h5.1 264 2), .int 1, .ref 264]) (h' := h5) rfl).trans ?_
            refine (mm_c0 (y := 191) (as := [.ref 264, .int 1, .int (h5.1 264 2)]) (nx := 208) (rest := []) rfl rfl).trans (mm_congV fun h7 => ?_)
            exact mm_by_end 2 rfl
      · exact rfl
    · exact rfl
  · refine (mm_by 1 (pc' := 8) (ls' := [.ref 264]) (st' := [.ref 264]) (h' := h) rfl).trans ?_
    refine (mm_c1 (y := 194) (as := [.ref 264]) (nx := 11) (rest := []) rfl rfl).trans (mm_congI fun v9 h8 => ?_)
    refine (mm_by 1 (pc' := 13) (ls' := [.ref 264]) (st' := [.int 93, .int v9]) (h' := h8) rfl).trans ?_
    refine (mm_br (c := ¬ v9 = 93) (p1 := 76) (p2 := 16) (l1 := [.ref 264]) (l2 := [.ref 264]) (s1 := []) (s2 := []) (h1 := h8) (h2 := h8) rfl rfl).trans (mm_ite ?_ ?_)
    · refine (mm_by 3 (pc' := 81) (ls' := [.ref 264]) (st' := [.ref 314, .ref 264]) (h' := h8) rfl).trans ?_
      refine (mm_c1 (y := 196) (as := [.ref 264, .ref 314]) (nx := 84) (rest := []) rfl rfl).trans (mm_congI fun v11 h10 => ?_)
      refine (mm_br (c := v11 = 0) (p1 := 126) (p2 := 87) (l1 := [.ref 264]) (l2 := [.ref 264]) (s1 := []) (s2 := []) (h1 := h10) (h2 := h10) rfl rfl).trans (mm_ite ?_ ?_)
      · refine (mm_by 3 (pc' := 131) (ls' := [.ref 264]) (st' := [.ref 315, .ref 264]) (h' := h10) rfl).trans ?_
        refine (mm_c1 (y := 196) (as := [.ref 264, .ref 315]) (nx := 134) (rest := []) rfl rfl).trans (mm_congI fun v13 h12 => ?_)
        refine (mm_br (c := v13 = 0) (p1 := 185) (p2 := 137) (l1 := [.ref 264]) (l2 := [.ref 264]) (s1 := []) (s2 := []) (h1 := h12) (h2 := h12) rfl rfl).trans (mm_ite ?_ ?_)
        · refine (mm_by 2 (pc' := 189) (ls' := [.ref 264]) (st' := [.int (h12.1 264 5)]) (h' := h12) rfl).trans ?_
          refine (mm_br (c := ¬ (h12.1 264 5) = 0) (p1 := 208) (p2 := 192) (l1 := [.ref 264]) (l2 := [.ref 264]) (s1 := []) (s2 := []) (h1 := h12) (h2 := h12) rfl rfl).trans (mm_ite ?_ ?_)
          · exact mm_by_end 2 rfl
          · refine (mm_by 1 (pc' := 193) (ls' := [.ref 264]) (st' := [.ref 264]) (h' := h12) rfl).trans ?_
            refine (mm_c1 (y := 300) (as := [.ref 264]) (nx := 196) (rest := []) rfl rfl).trans (mm_congI fun v15 h14 => ?_)
            refine (mm_br (c := v15 = 0) (p1 := 208) (p2 := 199) (l1 := [.ref 264]) (l2 := [.ref 264]) (s1 := []) (s2 := []) (h1 := h14) (h2 := h14) rfl rfl).trans (mm_ite ?_ ?_)
            · exact mm_by_end 2 rfl
            · refine (mm_by 4 (pc' := 205) (ls' := [.ref 264]) (st' := [.int (h14.1 264 2), .int 1, .ref 264]) (h' := h14) rfl).trans ?_
              refine (mm_c0 (y := 191) (as := [.ref 264, .int 1, .int (h14.1 264 2)]) (nx := 208) (rest := []) rfl rfl).trans (mm_congV fun h16 => ?_)
              exact mm_by_end 2 rfl
        · exact rfl
      · exact rfl
    · refine (mm_by 1 (pc' := 17) (ls' := [.ref 264]) (st' := [.ref 264]) (h' := h8) rfl).trans ?_
      refine (mm_c1 (y := 300) (as := [.ref 264]) (nx := 20) (rest := []) rfl rfl).trans (mm_congI fun v18 h17 => ?_)
      refine (mm_br (c := v18 = 0) (p1 := 76) (p2 := 23) (l1 := [.ref 264]) (l2 := [.ref 264]) (s1 := []) (s2 := []) (h1 := h17) (h2 := h17) rfl rfl).trans (mm_ite ?_ ?_)
      · refine (mm_by 3 (pc' := 81) (ls' := [.ref 264]) (st' := [.ref 314, .ref 264]) (h' := h17) rfl).trans ?_
        refine (mm_c1 (y := 196) (as := [.ref 264, .ref 314]) (nx := 84) (rest := []) rfl rfl).trans (mm_congI fun v20 h19 => ?_)
        refine (mm_br (c := v20 = 0) (p1 := 126) (p2 := 87) (l1 := [.ref 264]) (l2 := [.ref 264]) (s1 := []) (s2 := []) (h1 := h19) (h2 := h19) rfl rfl).trans (mm_ite ?_ ?_)
        · refine (mm_by 3 (pc' := 131) (ls' := [.ref 264]) (st' := [.ref 315, .ref 264]) (h' := h19) rfl).trans ?_
          refine (mm_c1 (y := 196) (as := [.ref 264, .ref 315]) (nx := 134) (rest := []) rfl rfl).trans (mm_congI fun v22 h21 => ?_)
          refine (mm_br (c := v22 = 0) (p1 := 185) (p2 := 137) (l1 := [.ref 264]) (l2 := [.ref 264]) (s1 := []) (s2 := []) (h1 := h21) (h2 := h21) rfl rfl).trans (mm_ite ?_ ?_)
          · refine (mm_by 2 (pc' := 189) (ls' := [.ref 264]) (st' := [.int (h21.1 264 5)]) (h' := h21) rfl).trans ?_
            refine (mm_br (c := ¬ (h21.1 264 5) = 0) (p1 := 208) (p2 := 192) (l1 := [.ref 264]) (l2 := [.ref 264]) (s1 := []) (s2 := []) (h1 := h21) (h2 := h21) rfl rfl).trans (mm_ite ?_ ?_)
            · exact mm_by_end 2 rfl
            · refine (mm_by 1 (pc' := 193) (ls' := [.ref 264]) (st' := [.ref 264]) (h' := h21) rfl).trans ?_
              refine (mm_c1 (y := 300) (as := [.ref 264]) (nx := 196) (rest := []) rfl rfl).trans (mm_congI fun v24 h23 => ?_)
              refine (mm_br (c := v24 = 0) (p1 := 208) (p2 := 199) (l1 := [.ref 264]) (l2 := [.ref 264]) (s1 := []) (s2 := []) (h1 := h23) (h2 := h23) rfl rfl).trans (mm_ite ?_ ?_)
              · exact mm_by_end 2 rfl
              · refine (mm_by 4 (pc' := 205) (ls' := [.ref 264]) (st' := [.int (h23.1 264 2), .int 1, .ref 264]) (h' := h23) rfl).trans ?_
                refine (mm_c0 (y := 191) (as := [.ref 264, .int 1, .int (h23.1 264 2)]) (nx := 208) (rest := []) rfl rfl).trans (mm_congV fun h25 => ?_)
                exact mm_by_end 2 rfl
          · exact rfl
        · exact rfl
      · exact mm_by 6 rfl
set_option maxRecDepth 100000 in
set_option maxHeartbeats 4000000 in
theorem U_X12_qGoesOnTest_33 {d : Nat} {h : mm_H} : mm_D (mm_M mm_T0 d) cd_X12_qGoesOnTest 33 [.ref 264] [] h = (mm_bI (mm_M mm_T0 d 287 [.ref 264, .int 25] h) (fun v2 h1 => if ¬ v2 = 0 then (mm_bV (mm_M mm_T0 d 301 [.ref 264] (wI (wI h1 264 104 ((h1.1 264 104) - 1)) 264 105 (((wI h1 264 104 ((h1.1 264 104) - 1)).1 264 105) - 1))) (fun h3 => mm_D (mm_M mm_T0 d) cd_X12_qGoesOnTest 0 [.ref 264] [] h3)) else (mm_bV (mm_M mm_T0 d 288 [.ref 264] h1) (fun h4 => mm_D (mm_M mm_T0 d) cd_X12_qGoesOnTest 33 [.ref 264] [] h4)))) := by
  refine (mm_by 2 (pc' := 36) (ls' := [.ref 264]) (st' := [.int 25, .ref 264]) (h' := h) rfl).trans ?_
  refine (mm_c1 (y := 287) (as := [.ref 264, .int 25]) (nx := 39) (rest := []) rfl rfl).trans (mm_congI fun v2 h1 => ?_)
  refine (mm_br (c := ¬ v2 = 0) (p1 := 49) (p2 := 42) (l1 := [.ref 264]) (l2 := [.ref 264]) (s1 := []) (s2 := []) (h1 := h1) (h2 := h1) rfl rfl).trans (mm_ite ?_ ?_)
  · refine (mm_by 13 (pc' := 70) (ls' := [.ref 264]) (st' := [.ref 264]) (h' := wI (wI h1 264 104 ((h1.1 264 104) - 1)) 264 105 (((wI h1 264 104 ((h1.1 264 104) - 1)).1 264 105) - 1)) rfl).trans ?_
    refine (mm_c0 (y := 301) (as := [.ref 264]) (nx := 73) (rest := []) rfl rfl).trans (mm_congV fun h3 => ?_)
    exact mm_by 1 rfl
  · refine (mm_by 1 (pc' := 43) (ls' := [.ref 264]) (st' := [.ref 264]) (h' := h1) rfl).trans ?_
    refine (mm_c0 (y := 288) (as := [.ref 264]) (nx := 46) (rest := []) rfl rfl).trans (mm_congV fun h4 => ?_)
    exact mm_by 1 rfl
set_option maxRecDepth 100000 in
set_option maxHeartbeats 4000000 in
theorem U_X12_qGoesOnTest_0 {d : Nat} {h : mm_H} : mm_D (mm_M mm_T0 d) cd_X12_qGoesOnTest 0 [.ref 264] [] h = (if ¬ (h.1 264 5) = 0 then (mm_bI (mm_M mm_T0 d 196 [.ref 264, .ref 314] h) (fun v2 h1 => if v2 = 0 then (mm_bI (mm_M mm_T0 d 196 [.ref 264, .ref 315] h1) (fun v4 h3 => if v4 = 0 then (if ¬ (h3.1 264 5) = 0 then (some (some (.int 0), h3)) else (mm_bI (mm_M mm_T0 d 300 [.ref 264] h3) (fun v6 h5 => if v6 = 0 then (some (some (.int 0), h5)) else (mm_bV (mm_M mm_T0 d 191 [.ref 264, .int 1, .int (h5.1 264 2)] h5) (fun h7 => some (some (.int 0), h7)))))) else (mm_D (mm_M mm_T0 d) cd_X12_qGoesOnTest 137 [.ref 264] [] h3))) else (mm_D (mm_M mm_T0 d) cd_X12_qGoesOnTest 87 [.ref 264] [] h1))) else (mm_bI (mm_M mm_T0 d 194 [.ref 264] h) (fun v9 h8 => if ¬ v9 = 93 then (mm_bI (mm_M mm_T0 d 196 [.ref 264, .ref 314] h8) (fun v11 h10 => if v11 = 0 then (mm_bI (mm_M mm_T0 d 196 [.ref 264, .ref 315] h10) (fun v13 h12 => if v13 = 0 then (if ¬ (h12.1 264 5) = 0 then (some (some (.int 0), h12)) else (mm_bI (mm_M mm_T0 d 300 [.ref 264] h12) (fun v15 h14 => if v15 = 0 then (some (some (.int 0), h14)) else (mm_bV (mm_M mm_T0 d 191 [.ref 264, .int 1, .int (h14.1 264 2)] h14) (fun h16 => some (some (.int 0), h16)))))) else (mm_D (mm_M mm_T0 d) cd_X12_qGoesOnTest 137 [.ref 264] [] h12))) else (mm_D (mm_M mm_T0 d) cd_X12_qGoesOnTest 87 [.ref 264] [] h10))) else (mm_bI (mm_M mm_T0 d 300 [.ref 264] h8) (fun v18 h17 => if v18 = 0 then (mm_bI (mm_M mm_T0 d 196 [.ref 264, .ref 314] h17) (fun v20 h19 => if v20 = 0 then (mm_bI (mm_M mm_T0 d 196 [.ref 264, .ref 315] h19) (fun v22 h21 => if v22 = 0 then (if ¬ (h21.1 264 5) = 0 then (some (some (.int 0), h21)) else (mm_bI (mm_M mm_T0 d 300 [.ref 264] h21) (fun v24 h23 => if v24 = 0 then (some (some (.int 0), h23)) else (mm_bV (mm_M mm_T0 d 191 [.ref 264, .int 1, .int (h23.1 264 2)] h23) (fun h25 => some (some (.int 0), h25)))))) else (mm_D (mm_M mm_T0 d) cd_X12_qGoesOnTest 137 [.ref 264] [] h21))) else (mm_D (mm_M mm_T0 d) cd_X12_qGoesOnTest 87 [.ref 264] [] h19))) else (mm_D (mm_M mm_T0 d) cd_X12_qGoesOnTest 33 [.ref 264] [] (wI h17 264 2 ((h17.1 264 2) + 1)))))))) := by
  refine (mm_by 2 (pc' := 4) (ls' := [.ref 264]) (st' := [.int (h.1 264 5)]) (h' := h) rfl).trans ?_
  refine (mm_br (c := ¬ (h.1 264 5) = 0) (p1 := 76) (p2 := 7) (l1 := [.ref 264]) (l2 := [.ref 264]) (s1 := []) (s2 := []) (h1 := h) (h2 := h) rfl rfl).trans (mm_ite ?_ ?_)
  · refine (mm_by 3 (pc' := 81) (ls' := [.ref 264]) (st' := [.ref 314, .ref 264]) (h' := h) rfl).trans ?_
    refine (mm_c1 (y := 196) (as := [.ref 264, .ref 314]) (nx := 84) (rest := []) rfl rfl).trans (mm_congI fun v2 h1 => ?_)
    refine (mm_br (c := v2 = 0) (p1 := 126) (p2 := 87) (l1 := [.ref 264]) (l2 := [.ref 264]) (s1 := []) (s2 := []) (h1 := h1) (h2 := h1) rfl rfl).trans (mm_ite ?_ ?_)
    · refine (mm_by 3 (pc' := 131) (ls' := [.ref 264]) (st' := [.ref 315, .ref 264]) (h' := h1) rfl).trans ?_
      refine (mm_c1 (y := 196) (as := [.ref 264, .ref 315]) (nx := 134) (rest := []) rfl rfl).trans (mm_congI fun v4 h3 => ?_)
      refine (mm_br (c := v4 = 0) (p1 := 185) (p2 := 137) (l1 := [.ref 264]) (l2 := [.ref 264]) (s1 := []) (s2 := []) (h1 := h3) (h2 := h3) rfl rfl).trans (mm_ite ?_ ?_)
      · refine (mm_by 2 (pc' := 189) (ls' := [.ref 264]) (st' := [.int (h3.1 264 5)]) (h' := h3) rfl).trans ?_
        refine (mm_br (c := ¬ (h3.1 264 5) = 0) (p1 := 208) (p2 := 192) (l1 := [.ref 264]) (l2 := [.ref 264]) (s1 := []) (s2 := []) (h1 := h3) (h2 := h3) rfl rfl).trans (mm_ite ?_ ?_)
        · exact mm_by_end 2 rfl
        · refine (mm_by 1 (pc' := 193) (ls' := [.ref 264]) (st' := [.ref 264]) (h' := h3) rfl).trans ?_
          refine (mm_c1 (y := 300) (as := [.ref 264]) (nx := 196) (rest := []) rfl rfl).trans (mm_congI fun v6 h5 => ?_)
          refine (mm_br (c := v6 = 0) (p1 := 208) (p2 := 199) (l1 := [.ref 264]) (l2 := [.ref 264]) (s1 := []) (s2 := []) (h1 := h5) (h2 := h5) rfl rfl).trans (mm_ite ?_ ?_)
          · exact mm_by_end 2 rfl
          · refine (mm_by 4 (pc' := 205) (ls' := [.ref 264]) (st' := [.int (h5.1 264 2), .int 1, .ref 264]) (h' := h5) rfl).trans ?_
            refine (mm_c0 (y := 191) (as := [.ref 264, .int 1, .int (h5.1 264 2)]) (nx := 208) (rest := []) rfl rfl).trans (mm_congV fun h7 => ?_)
            exact mm_by_end 2 rfl
      · exact rfl
    · exact rfl
  · refine (mm_by 1 (pc' := 8) (ls' := [.ref 264]) (st' := [.ref 264]) (h' := h) rfl).trans ?_
    refine (mm_c1 (y := 194) (as := [.ref 264]) (nx := 11) (rest := []) rfl rfl).trans (mm_congI fun v9 h8 => ?_)
    refine (mm_by 1 (pc' := 13) (ls' := [.ref 264]) (st' := [.int 93, .int v9]) (h' := h8) rfl).trans ?_
    refine (mm_br (c := ¬ v9 = 93) (p1 := 76) (p2 := 16) (l1 := [.ref 264]) (l2 := [.ref 264]) (s1 := []) (s2 := []) (h1 := h8) (h2 := h8) rfl rfl).trans (mm_ite ?_ ?_)
    · refine (mm_by 3 (pc' := 81) (ls' := [.ref 264]) (st' := [.ref 314, .ref 264]) (h' := h8) rfl).trans ?_
      refine (mm_c1 (y := 196) (as := [.ref 264, .ref 314]) (nx := 84) (rest := []) rfl rfl).trans (mm_congI fun v11 h10 => ?_)
      refine (mm_br (c := v11 = 0) (p1 := 126) (p2 := 87) (l1 := [.ref 264]) (l2 := [.ref 264]) (s1 := []) (s2 := []) (h1 := h10) (h2 := h10) rfl rfl).trans (mm_ite ?_ ?_)
      · refine (mm_by 3 (pc' := 131) (ls' := [.ref 264]) (st' := [.ref 315, .ref 264]) (h' := h10) rfl).trans ?_
        refine (mm_c1 (y := 196) (as := [.ref 264, .ref 315]) (nx := 134) (rest := []) rfl rfl).trans (mm_congI fun v13 h12 => ?_)
        refine (mm_br (c := v13 = 0) (p1 := 185) (p2 := 137) (l1 := [.ref 264]) (l2 := [.ref 264]) (s1 := []) (s2 := []) (h1 := h12) (h2 := h12) rfl rfl).trans (mm_ite ?_ ?_)
        · refine (mm_by 2 (pc' := 189) (ls' := [.ref 264]) (st' := [.int (h12.1 264 5)]) (h' := h12) rfl).trans ?_
          refine (mm_br (c := ¬ (h12.1 264 5) = 0) (p1 := 208) (p2 := 192) (l1 := [.ref 264]) (l2 := [.ref 264]) (s1 := []) (s2 := []) (h1 := h12) (h2 := h12) rfl rfl).trans (mm_ite ?_ ?_)
          · exact mm_by_end 2 rfl
          · refine (mm_by 1 (pc' := 193) (ls' := [.ref 264]) (st' := [.ref 264]) (h' := h12) rfl).trans ?_
            refine (mm_c1 (y := 300) (as := [.ref 264]) (nx := 196) (rest := []) rfl rfl).trans (mm_congI fun v15 h14 => ?_)
            refine (mm_br (c := v15 = 0) (p1 := 208) (p2 := 199) (l1 := [.ref 264]) (l2 := [.ref 264]) (s1 := []) (s2 := []) (h1 := h14) (h2 := h14) rfl rfl).trans (mm_ite ?_ ?_)
            · exact mm_by_end 2 rfl
            · refine (mm_by 4 (pc' := 205) (ls' := [.ref 264]) (st' := [.int (h14.1 264 2), .int 1, .ref 264]) (h' := h14) rfl).trans ?_
              refine (mm_c0 (y := 191) (as := [.ref 264, .int 1, .int (h14.1 264 2)]) (nx := 208) (rest := []) rfl rfl).trans (mm_congV fun h16 => ?_)
              exact mm_by_end 2 rfl
        · exact rfl
      · exact rfl
    · refine (mm_by 1 (pc' := 17) (ls' := [.ref 264]) (st' := [.ref 264]) (h' := h8) rfl).trans ?_
      refine (mm_c1 (y := 300) (as := [.ref 264]) (nx := 20) (rest := []) rfl rfl).trans (mm_congI fun v18 h17 => ?_)
      refine (mm_br (c := v18 = 0) (p1 := 76) (p2 := 23) (l1 := [.ref 264]) (l2 := [.ref 264]) (s1 := []) (s2 := []) (h1 := h17) (h2 := h17) rfl rfl).trans (mm_ite ?_ ?_)
      · refine (mm_by 3 (pc' := 81) (ls' := [.ref 264]) (st' := [.ref 314, .ref 264]) (h' := h17) rfl).trans ?_
        refine (mm_c1 (y := 196) (as := [.ref 264, .ref 314]) (nx := 84) (rest := []) rfl rfl).trans (mm_congI fun v20 h19 => ?_)
        refine (mm_br (c := v20 = 0) (p1 := 126) (p2 := 87) (l1 := [.ref 264]) (l2 := [.ref 264]) (s1 := []) (s2 := []) (h1 := h19) (h2 := h19) rfl rfl).trans (mm_ite ?_ ?_)
        · refine (mm_by 3 (pc' := 131) (ls' := [.ref 264]) (st' := [.ref 315, .ref 264]) (h' := h19) rfl).trans ?_
          refine (mm_c1 (y := 196) (as := [.ref 264, .ref 315]) (nx := 134) (rest := []) rfl rfl).trans (mm_congI fun v22 h21 => ?_)
          refine (mm_br (c := v22 = 0) (p1 := 185) (p2 := 137) (l1 := [.ref 264]) (l2 := [.ref 264]) (s1 := []) (s2 := []) (h1 := h21) (h2 := h21) rfl rfl).trans (mm_ite ?_ ?_)
          · refine (mm_by 2 (pc' := 189) (ls' := [.ref 264]) (st' := [.int (h21.1 264 5)]) (h' := h21) rfl).trans ?_
            refine (mm_br (c := ¬ (h21.1 264 5) = 0) (p1 := 208) (p2 := 192) (l1 := [.ref 264]) (l2 := [.ref 264]) (s1 := []) (s2 := []) (h1 := h21) (h2 := h21) rfl rfl).trans (mm_ite ?_ ?_)
            · exact mm_by_end 2 rfl
            · refine (mm_by 1 (pc' := 193) (ls' := [.ref 264]) (st' := [.ref 264]) (h' := h21) rfl).trans ?_
              refine (mm_c1 (y := 300) (as := [.ref 264]) (nx := 196) (rest := []) rfl rfl).trans (mm_congI fun v24 h23 => ?_)
              refine (mm_br (c := v24 = 0) (p1 := 208) (p2 := 199) (l1 := [.ref 264]) (l2 := [.ref 264]) (s1 := []) (s2 := []) (h1 := h23) (h2 := h23) rfl rfl).trans (mm_ite ?_ ?_)
              · exact mm_by_end 2 rfl
              · refine (mm_by 4 (pc' := 205) (ls' := [.ref 264]) (st' := [.int (h23.1 264 2), .int 1, .ref 264]) (h' := h23) rfl).trans ?_
                refine (mm_c0 (y := 191) (as := [.ref 264, .int 1, .int (h23.1 264 2)]) (nx := 208) (rest := []) rfl rfl).trans (mm_congV fun h25 => ?_)
                exact mm_by_end 2 rfl
          · exact rfl
        · exact rfl
      · exact mm_by 6 rfl
set_option maxRecDepth 100000 in
set_option maxHeartbeats 4000000 in
theorem U_X12_qGoesOnTest_87 {d : Nat} {h : mm_H} : mm_D (mm_M mm_T0 d) cd_X12_qGoesOnTest 87 [.ref 264] [] h = (mm_bI (mm_M mm_T0 d 287 [.ref 264, .int 10] h) (fun v2 h1 => if v2 = 0 then (if (h1.1 264 104) < 0 ∨ 1700 ≤ (h1.1 264 104).toNatClampNeg then none else (some (some (.int 1), wI (wI h1 333 ((h1.1 264 104).toNatClampNeg) 10) 264 104 (((wI h1 333 ((h1.1 264 104).toNatClampNeg) 10).1 264 104) + 1)))) else (mm_bV (mm_M mm_T0 d 288 [.ref 264] h1) (fun h3 => mm_D (mm_M mm_T0 d) cd_X12_qGoesOnTest 87 [.ref 264] [] h3)))) := by
  refine (mm_by 2 (pc' := 90) (ls' := [.ref 264]) (st' := [.int 10, .ref 264]) (h' := h) rfl).trans ?_
  refine (mm_c1 (y := 287) (as := [.ref 264, .int 10]) (nx := 93) (rest := []) rfl rfl).trans (mm_congI fun v2 h1 => ?_)
  refine (mm_br (c := v2 = 0) (p1 := 103) (p2 := 96) (l1 := [.ref 264]) (l2 := [.ref 264]) (s1 := []) (s2 := []) (h1 := h1) (h2 := h1) rfl rfl).trans (mm_ite ?_ ?_)
  · refine (mm_by 5 (pc' := 113) (ls' := [.ref 264]) (st' := [.int 10, .int (h1.1 264 104), .ref 333]) (h' := h1) rfl).trans ?_
    refine (mm_gd (c := (h1.1 264 104) < 0 ∨ 1700 ≤ (h1.1 264 104).toNatClampNeg) (p1 := 114) (l1 := [.ref 264]) (s1 := []) (h1 := wI h1 333 ((h1.1 264 104).toNatClampNeg) 10) rfl (q_iast (n := 1700) rfl)).trans (mm_ite rfl ?_)
    exact mm_by_end 8 rfl
  · refine (mm_by 1 (pc' := 97) (ls' := [.ref 264]) (st' := [.ref 264]) (h' := h1) rfl).trans ?_
    refine (mm_c0 (y := 288) (as := [.ref 264]) (nx := 100) (rest := []) rfl rfl).trans (mm_congV fun h3 => ?_)
    exact mm_by 1 rfl
set_option maxRecDepth 100000 in
set_option maxHeartbeats 4000000 in
theorem U_X12_qGoesOnTest_137 {d : Nat} {h : mm_H} : mm_D (mm_M mm_T0 d) cd_X12_qGoesOnTest 137 [.ref 264] [] h = (mm_bI (mm_M mm_T0 d 287 [.ref 264, .int 10] h) (fun v2 h1 => if ¬ v2 = 0 then (mm_bV (mm_M mm_T0 d 288 [.ref 264] h1) (fun h3 => mm_D (mm_M mm_T0 d) cd_X12_qGoesOnTest 137 [.ref 264] [] h3)) else (mm_bI (mm_M mm_T0 d 287 [.ref 264, .int 11] h1) (fun v5 h4 => if v5 = 0 then (if (h4.1 264 104) < 0 ∨ 1700 ≤ (h4.1 264 104).toNatClampNeg then none else (some (some (.int 1), wI (wI h4 333 ((h4.1 264 104).toNatClampNeg) 11) 264 104 (((wI h4 333 ((h4.1 264 104).toNatClampNeg) 11).1 264 104) + 1)))) else (mm_bV (mm_M mm_T0 d 288 [.ref 264] h4) (fun h6 => mm_D (mm_M mm_T0 d) cd_X12_qGoesOnTest 137 [.ref 264] [] h6)))))) := by
  refine (mm_by 2 (pc' := 140) (ls' := [.ref 264]) (st' := [.int 10, .ref 264]) (h' := h) rfl).trans ?_
  refine (mm_c1 (y := 287) (as := [.ref 264, .int 10]) (nx := 143) (rest := []) rfl rfl).trans (mm_congI fun v2 h1 => ?_)
  refine (mm_br (c := ¬ v2 = 0) (p1 := 155) (p2 := 146) (l1 := [.ref 264]) (l2 := [.ref 264]) (s1 := []) (s2 := []) (h1 := h1) (h2 := h1) rfl rfl).trans (mm_ite ?_ ?_)
  · refine (mm_by 1 (pc' := 156) (ls' := [.ref 264]) (st' := [.ref 264]) (h' := h1) rfl).trans ?_
    refine (mm_c0 (y := 288) (as := [.ref 264]) (nx := 159) (rest := []) rfl rfl).trans (mm_congV fun h3 => ?_)
    exact mm_by 1 rfl
  · refine (mm_by 2 (pc' := 149) (ls' := [.ref 264]) (st' := [.int 11, .ref 264]) (h' := h1) rfl).trans ?_
    refine (mm_c1 (y := 287) (as := [.ref 264, .int 11]) (nx := 152) (rest := []) rfl rfl).trans (mm_congI fun v5 h4 => ?_)
    refine (mm_br (c := v5 = 0) (p1 := 162) (p2 := 155) (l1 := [.ref 264]) (l2 := [.ref 264]) (s1 := []) (s2 := []) (h1 := h4) (h2 := h4) rfl rfl).trans (mm_ite ?_ ?_)
    · refine (mm_by 5 (pc' := 172) (ls' := [.ref 264]) (st' := [.int 11, .int (h4.1 264 104), .ref 333]) (h' := h4) rfl).trans ?_
      refine (mm_gd (c := (h4.1 264 104) < 0 ∨ 1700 ≤ (h4.1 264 104).toNatClampNeg) (p1 := 173) (l1 := [.ref 264]) (s1 := []) (h1 := wI h4 333 ((h4.1 264 104).toNatClampNeg) 11) rfl (q_iast (n := 1700) rfl)).trans (mm_ite rfl ?_)
      exact mm_by_end 8 rfl
    · refine (mm_by 1 (pc' := 156) (ls' := [.ref 264]) (st' := [.ref 264]) (h' := h4) rfl).trans ?_
      refine (mm_c0 (y := 288) (as := [.ref 264]) (nx := 159) (rest := []) rfl rfl).trans (mm_congV fun h6 => ?_)
      exact mm_by 1 rfl
set_option maxRecDepth 100000 in
set_option maxHeartbeats 4000000 in
theorem U_X12_qClip {d : Nat} {x0 : Int64} {h : mm_H} : mm_M mm_T0 (d + 1) 304 [.long x0] h = (if (lg_cmp x0 1000000) ≤ 0 then (if 0 ≤ (lg_cmp x0 ((-1000000))) then (some (some (.long x0), h)) else (some (some (.long ((-1000000))), h))) else (some (some (.long 1000000), h))) := by
  refine (mm_M_eq (ls := [.long x0, .null]) rfl (Nat.le_of_ble_eq_true rfl) rfl h).trans ?_
  refine (mm_by 3 (pc' := 5) (ls' := [.long x0, .null]) (st' := [.int (lg_cmp x0 1000000)]) (h' := h) rfl).trans ?_
  refine (mm_br (c := (lg_cmp x0 1000000) ≤ 0) (p1 := 14) (p2 := 8) (l1 := [.long x0, .null]) (l2 := [.long x0, .null]) (s1 := []) (s2 := []) (h1 := h) (h2 := h) rfl rfl).trans (mm_ite ?_ ?_)
  · refine (mm_by 3 (pc' := 19) (ls' := [.long x0, .null]) (st' := [.int (lg_cmp x0 ((-1000000)))]) (h' := h) rfl).trans ?_
    refine (mm_br (c := 0 ≤ (lg_cmp x0 ((-1000000)))) (p1 := 28) (p2 := 22) (l1 := [.long x0, .null]) (l2 := [.long x0, .null]) (s1 := []) (s2 := []) (h1 := h) (h2 := h) rfl rfl).trans (mm_ite ?_ ?_)
    · exact mm_by_end 2 rfl
    · exact mm_by_end 3 rfl
  · exact mm_by_end 3 rfl
set_option maxRecDepth 100000 in
set_option maxHeartbeats 4000000 in
theorem U_X12_qFloor {d : Nat} {x0 : Int64} {x2 : Int64} {h : mm_H} : mm_M mm_T0 (d + 1) 305 [.long x0, .long x2] h = (if ¬ (lg_cmp x2 0) = 0 then (if x2 = 0 then none else (if x2 = 0 then none else (if (lg_cmp (x0 - x0 / x2 * x2) 0) = 0 then (some (some (.long (x0 / x2)), h)) else (if 0 ≤ (lg_cmp x0 0) then (if 0 ≤ (lg_cmp x2 0) then (some (some (.long (x0 / x2)), h)) else (some (some (.long ((x0 / x2) - 1)), h))) else (if 0 ≤ (lg_cmp x2 0) then (some (some (.long ((x0 / x2) - 1)), h)) else (some (some (.long (x0 / x2)), h))))))) else (some (some (.long 0), h))) := by
  refine (mm_M_eq (ls := [.long x0, .null, .long x2, .null, .null, .null]) rfl (Nat.le_of_ble_eq_true rfl) rfl h).trans ?_
  refine (mm_by 3 (pc' := 3) (ls' := [.long x0, .null, .long x2, .null, .null, .null]) (st' := [.int (lg_cmp x2 0)]) (h' := h) rfl).trans ?_
  refine (mm_br (c := ¬ (lg_cmp x2 0) = 0) (p1 := 8) (p2 := 6) (l1 := [.long x0, .null, .long x2, .null, .null, .null]) (l2 := [.long x0, .null, .long x2, .null, .null, .null]) (s1 := []) (s2 := []) (h1 := h) (h2 := h) rfl rfl).trans (mm_ite ?_ ?_)
  · refine (mm_by 2 (pc' := 10) (ls' := [.long x0, .null, .long x2, .null, .null, .null]) (st' := [.long x2, .long x0]) (h' := h) rfl).trans ?_
    refine (mm_gd (c := x2 = 0) (p1 := 11) (l1 := [.long x0, .null, .long x2, .null, .null, .null]) (s1 := [.long (x0 / x2)]) (h1 := h) rfl rfl).trans (mm_ite rfl ?_)
    refine (mm_by 3 (pc' := 15) (ls' := [.long x0, .null, .long x2, .null, .long (x0 / x2), .null]) (st' := [.long x2, .long x0]) (h' := h) rfl).trans ?_
    refine (mm_gd (c := x2 = 0) (p1 := 16) (l1 := [.long x0, .null, .long x2, .null, .long (x0 / x2), .null]) (s1 := [.long (x0 - x0 / x2 * x2)]) (h1 := h) rfl rfl).trans (mm_ite rfl ?_)
    refine (mm_by 2 (pc' := 18) (ls' := [.long x0, .null, .long x2, .null, .long (x0 / x2), .null]) (st' := [.int (lg_cmp (x0 - x0 / x2 * x2) 0)]) (h' := h) rfl).trans ?_
    refine (mm_br (c := (lg_cmp (x0 - x0 / x2 * x2) 0) = 0) (p1 := 53) (p2 := 21) (l1 := [.long x0, .null, .long x2, .null, .long (x0 / x2), .null]) (l2 := [.long x0, .null, .long x2, .null, .long (x0 / x2), .null]) (s1 := []) (s2 := []) (h1 := h) (h2 := h) rfl rfl).trans (mm_ite ?_ ?_)
    · exact mm_by_end 2 rfl
    · refine (mm_by 3 (pc' := 24) (ls' := [.long x0, .null, .long x2, .null, .long (x0 / x2), .null]) (st' := [.int (lg_cmp x0 0)]) (h' := h) rfl).trans ?_
      refine (mm_br (c := 0 ≤ (lg_cmp x0 0)) (p1 := 31) (p2 := 27) (l1 := [.long x0, .null, .long x2, .null, .long (x0 / x2), .null]) (l2 := [.long x0, .null, .long x2, .null, .long (x0 / x2), .null]) (s1 := []) (s2 := []) (h1 := h) (h2 := h) rfl rfl).trans (mm_ite ?_ ?_)
      · refine (mm_by 4 (pc' := 35) (ls' := [.long x0, .null, .long x2, .null, .long (x0 / x2), .null]) (st' := [.int (lg_cmp x2 0), .int 0]) (h' := h) rfl).trans ?_
        refine (mm_br (c := 0 ≤ (lg_cmp x2 0)) (p1 := 42) (p2 := 38) (l1 := [.long x0, .null, .long x2, .null, .long (x0 / x2), .null]) (l2 := [.long x0, .null, .long x2, .null, .long (x0 / x2), .null]) (s1 := [.int 0]) (s2 := [.int 0]) (h1 := h) (h2 := h) rfl rfl).trans (mm_ite ?_ ?_)
        · exact mm_by_end 4 rfl
        · exact mm_by_end 8 rfl
      · refine (mm_by 5 (pc' := 35) (ls' := [.long x0, .null, .long x2, .null, .long (x0 / x2), .null]) (st' := [.int (lg_cmp x2 0), .int 1]) (h' := h) rfl).trans ?_
        refine (mm_br (c := 0 ≤ (lg_cmp x2 0)) (p1 := 42) (p2 := 38) (l1 := [.long x0, .null, .long x2, .null, .long (x0 / x2), .null]) (l2 := [.long x0, .null, .long x2, .null, .long (x0 / x2), .null]) (s1 := [.int 1]) (s2 := [.int 1]) (h1 := h) (h2 := h) rfl rfl).trans (mm_ite ?_ ?_)
        · exact mm_by_end 7 rfl
        · exact mm_by_end 5 rfl
  · exact mm_by_end 2 rfl
set_option maxRecDepth 100000 in
set_option maxHeartbeats 4000000 in
theorem U_X12_qPuts {d : Nat} {x1 : Int64} {h : mm_H} : mm_M mm_T0 (d + 1) 306 [.ref 264, .long x1] h = (if (h.1 264 108) < 0 ∨ 1700 ≤ (h.1 264 108).toNatClampNeg then none else (some (none, wI (wL h 334 ((h.1 264 108).toNatClampNeg) x1) 264 108 (((wL h 334 ((h.1 264 108).toNatClampNeg) x1).1 264 108) + 1)))) := by
  refine (mm_M_eq (ls := [.ref 264, .long x1, .null]) rfl (Nat.le_of_ble_eq_true rfl) rfl h).trans ?_
  refine (mm_by 5 (pc' := 9) (ls' := [.ref 264, .long x1, .null]) (st' := [.long x1, .int (h.1 264 108), .ref 334]) (h' := h) rfl).trans ?_
  refine (mm_gd (c := (h.1 264 108) < 0 ∨ 1700 ≤ (h.1 264 108).toNatClampNeg) (p1 := 10) (l1 := [.ref 264, .long x1, .null]) (s1 := []) (h1 := wL h 334 ((h.1 264 108).toNatClampNeg) x1) rfl (q_last (n := 1700) rfl)).trans (mm_ite rfl ?_)
  exact mm_by_end 7 rfl
set_option maxRecDepth 100000 in
set_option maxHeartbeats 4000000 in
theorem U_X12_qJoins {d : Nat} {x1 : Int32} {h : mm_H} : mm_M mm_T0 (d + 1) 307 [.ref 264, .int x1] h = (if ((h.1 264 108) - 1) < 0 ∨ 1700 ≤ ((h.1 264 108) - 1).toNatClampNeg then none else (if ((h.1 264 108) - 2) < 0 ∨ 1700 ≤ ((h.1 264 108) - 2).toNatClampNeg then none else (if x1 = 1 then (mm_bL (mm_M mm_T0 d 304 [.long ((h.2.1 334 ((h.1 264 108) - 2).toNatClampNeg) + (h.2.1 334 ((h.1 264 108) - 1).toNatClampNeg))] (wI h 264 108 ((h.1 264 108) - 2))) (fun v2 h1 => mm_bV (mm_M mm_T0 d 306 [.ref 264, .long v2] h1) (fun h3 => some (none, h3)))) else (if x1 = 2 then (mm_bL (mm_M mm_T0 d 304 [.long ((h.2.1 334 ((h.1 264 108) - 2).toNatClampNeg) - (h.2.1 334 ((h.1 264 108) - 1).toNatClampNeg))] (wI h 264 108 ((h.1 264 108) - 2))) (fun v5 h4 => mm_bV (mm_M mm_T0 d 306 [.ref 264, .long v5] h4) (fun h6 => some (none, h6)))) else (if x1 = 3 then (mm_bL (mm_M mm_T0 d 304 [.long ((h.2.1 334 ((h.1 264 108) - 2).toNatClampNeg) * (h.2.1 334 ((h.1 264 108) - 1).toNatClampNeg))] (wI h 264 108 ((h.1 264 108) - 2))) (fun v8 h7 => mm_bV (mm_M mm_T0 d 306 [.ref 264, .long v8] h7) (fun h9 => some (none, h9)))) else (if x1 = 4 then (mm_bL (mm_M mm_T0 d 305 [.long (h.2.1 334 ((h.1 264 108) - 2).toNatClampNeg), .long (h.2.1 334 ((h.1 264 108) - 1).toNatClampNeg)] (wI h 264 108 ((h.1 264 108) - 2))) (fun v11 h10 => mm_bV (mm_M mm_T0 d 306 [.ref 264, .long v11] h10) (fun h12 => some (none, h12)))) else (if x1 = 5 then (if 0 ≤ (lg_cmp (h.2.1 334 ((h.1 264 108) - 2).toNatClampNeg) (h.2.1 334 ((h.1 264 108) - 1).toNatClampNeg)) then (mm_bV (mm_M mm_T0 d 306 [.ref 264, .long (h.2.1 334 ((h.1 264 108) - 1).toNatClampNeg)] (wI h 264 108 ((h.1 264 108) - 2))) (fun h13 => some (none, h13))) else (mm_bV (mm_M mm_T0 d 306 [.ref 264, .long (h.2.1 334 ((h.1 264 108) - 2).toNatClampNeg)] (wI h 264 108 ((h.1 264 108) - 2))) (fun h14 => some (none, h14)))) else (if x1 = 6 then (if (lg_cmp (h.2.1 334 ((h.1 264 108) - 2).toNatClampNeg) (h.2.1 334 ((h.1 264 108) - 1).toNatClampNeg)) ≤ 0 then (mm_bV (mm_M mm_T0 d 306 [.ref 264, .long (h.2.1 334 ((h.1 264 108) - 1).toNatClampNeg)] (wI h 264 108 ((h.1 264 108) - 2))) (fun h15 => some (none, h15))) else (mm_bV (mm_M mm_T0 d 306 [.ref 264, .long (h.2.1 334 ((h.1 264 108) - 2).toNatClampNeg)] (wI h 264 108 ((h.1 264 108) - 2))) (fun h16 => some (none, h16)))) else (if x1 = 7 then (if 0 ≤ (lg_cmp (h.2.1 334 ((h.1 264 108) - 2).toNatClampNeg) (h.2.1 334 ((h.1 264 108) - 1).toNatClampNeg)) then (mm_bV (mm_M mm_T0 d 306 [.ref 264, .long 0] (wI h 264 108 ((h.1 264 108) - 2))) (fun h17 => some (none, h17))) else (mm_bV (mm_M mm_T0 d 306 [.ref 264, .long 1] (wI h 264 108 ((h.1 264 108) - 2))) (fun h18 => some (none, h18)))) else (if x1 = 8 then (if (lg_cmp (h.2.1 334 ((h.1 264 108) - 2).toNatClampNeg) (h.2.1 334 ((h.1 264 108) - 1).toNatClampNeg)) ≤ 0 then (mm_bV (mm_M mm_T0 d 306 [.ref 264, .long 0] (wI h 264 108 ((h.1 264 108) - 2))) (fun h19 => some (none, h19))) else (mm_bV (mm_M mm_T0 d 306 [.ref 264, .long 1] (wI h 264 108 ((h.1 264 108) - 2))) (fun h20 => some (none, h20)))) else (if x1 = 9 then (if ¬ (lg_cmp (h.2.1 334 ((h.1 264 108) - 2).toNatClampNeg) (h.2.1 334 ((h.1 264 108) - 1).toNatClampNeg)) = 0 then (mm_bV (mm_M mm_T0 d 306 [.ref 264, .long 0] (wI h 264 108 ((h.1 264 108) - 2))) (fun h21 => some (none, h21))) else (mm_bV (mm_M mm_T0 d 306 [.ref 264, .long 1] (wI h 264 108 ((h.1 264 108) - 2))) (fun h22 => some (none, h22)))) else (if x1 = 10 then (mm_bV (mm_M mm_T0 d 306 [.ref 264, .long ((h.2.1 334 ((h.1 264 108) - 2).toNatClampNeg) * (h.2.1 334 ((h.1 264 108) - 1).toNatClampNeg))] (wI h 264 108 ((h.1 264 108) - 2))) (fun h23 => some (none, h23))) else (if (lg_cmp ((h.2.1 334 ((h.1 264 108) - 2).toNatClampNeg) + (h.2.1 334 ((h.1 264 108) - 1).toNatClampNeg)) 0) ≤ 0 then (mm_bV (mm_M mm_T0 d 306 [.ref 264, .long 0] (wI h 264 108 ((h.1 264 108) - 2))) (fun h24 => some (none, h24))) else (mm_bV (mm_M mm_T0 d 306 [.ref 264, .long 1] (wI h 264 108 ((h.1 264 108) - 2))) (fun h25 => some (none, h25)))))))))))))))) := by
  refine (mm_M_eq (ls := [.ref 264, .int x1, .null, .null, .null, .null]) rfl (Nat.le_of_ble_eq_true rfl) rfl h).trans ?_
  refine (mm_by 6 (pc' := 10) (ls' := [.ref 264, .int x1, .null, .null, .null, .null]) (st' := [.int ((h.1 264 108) - 1), .ref 334]) (h' := h) rfl).trans ?_
  refine (mm_gd (c := ((h.1 264 108) - 1) < 0 ∨ 1700 ≤ ((h.1 264 108) - 1).toNatClampNeg) (p1 := 11) (l1 := [.ref 264, .int x1, .null, .null, .null, .null]) (s1 := [.long (h.2.1 334 ((h.1 264 108) - 1).toNatClampNeg)]) (h1 := h) rfl (q_lald (n := 1700) rfl)).trans (mm_ite rfl ?_)
  refine (mm_by 7 (pc' := 22) (ls' := [.ref 264, .int x1, .long (h.2.1 334 ((h.1 264 108) - 1).toNatClampNeg), .null, .null, .null]) (st' := [.int ((h.1 264 108) - 2), .ref 334]) (h' := h) rfl).trans ?_
  refine (mm_gd (c := ((h.1 264 108) - 2) < 0 ∨ 1700 ≤ ((h.1 264 108) - 2).toNatClampNeg) (p1 := 23) (l1 := [.ref 264, .int x1, .long (h.2.1 334 ((h.1 264 108) - 1).toNatClampNeg), .null, .null, .null]) (s1 := [.long (h.2.1 334 ((h.1 264 108) - 2).toNatClampNeg)]) (h1 := h) rfl (q_lald (n := 1700) rfl)).trans (mm_ite rfl ?_)
  refine (mm_by 8 (pc' := 36) (ls' := [.ref 264, .int x1, .long (h.2.1 334 ((h.1 264 108) - 1).toNatClampNeg), .null, .long (h.2.1 334 ((h.1 264 108) - 2).toNatClampNeg), .null]) (st' := [.int x1]) (h' := wI h 264 108 ((h.1 264 108) - 2)) rfl).trans ?_
  refine (mm_go (pc' := mm_sw [(1, 92), (2, 106), (3, 120), (4, 134), (5, 147), (6, 167), (7, 187), (8, 206), (9, 225), (10, 244)] 255 x1) (ls' := [.ref 264, .int x1, .long (h.2.1 334 ((h.1 264 108) - 1).toNatClampNeg), .null, .long (h.2.1 334 ((h.1 264 108) - 2).toNatClampNeg), .null]) (st' := []) (h' := wI h 264 108 ((h.1 264 108) - 2)) rfl rfl).trans ?_
  refine mm_sw_c.trans (mm_ite ?_ ?_)
  · refine (mm_by 4 (pc' := 97) (ls' := [.ref 264, .int x1, .long (h.2.1 334 ((h.1 264 108) - 1).toNatClampNeg), .null, .long (h.2.1 334 ((h.1 264 108) - 2).toNatClampNeg), .null]) (st' := [.long ((h.2.1 334 ((h.1 264 108) - 2).toNatClampNeg) + (h.2.1 334 ((h.1 264 108) - 1).toNatClampNeg)), .ref 264]) (h' := wI h 264 108 ((h.1 264 108) - 2)) rfl).trans ?_
    refine (mm_c2 (y := 304) (as := [.long ((h.2.1 334 ((h.1 264 108) - 2).toNatClampNeg) + (h.2.1 334 ((h.1 264 108) - 1).toNatClampNeg))]) (nx := 100) (rest := [.ref 264]) rfl rfl).trans (mm_congL fun v2 h1 => ?_)
    refine (mm_c0 (y := 306) (as := [.ref 264, .long v2]) (nx := 103) (rest := []) rfl rfl).trans (mm_congV fun h3 => ?_)
    exact mm_by_end 2 rfl
  · refine mm_sw_c.trans (mm_ite ?_ ?_)
    · refine (mm_by 4 (pc' := 111) (ls' := [.ref 264, .int x1, .long (h.2.1 334 ((h.1 264 108) - 1).toNatClampNeg), .null, .long (h.2.1 334 ((h.1 264 108) - 2).toNatClampNeg), .null]) (st' := [.long ((h.2.1 334 ((h.1 264 108) - 2).toNatClampNeg) - (h.2.1 334 ((h.1 264 108) - 1).toNatClampNeg)), .ref 264]) (h' := wI h 264 108 ((h.1 264 108) - 2)) rfl).trans ?_
      refine (mm_c2 (y := 304) (as := [.long ((h.2.1 334 ((h.1 264 108) - 2).toNatClampNeg) - (h.2.1 334 ((h.1 264 108) - 1).toNatClampNeg))]) (nx := 114) (rest := [.ref 264]) rfl rfl).trans (mm_congL fun v5 h4 => ?_)
      refine (mm_c0 (y := 306) (as := [.ref 264, .long v5]) (nx := 117) (rest := []) rfl rfl).trans (mm_congV fun h6 => ?_)
      exact mm_by_end 2 rfl
    · refine mm_sw_c.trans (mm_ite ?_ ?_)
      · refine (mm_by 4 (pc' := 125) (ls' := [.ref 264, .int x1, .long (h.2.1 334 ((h.1 264 108) - 1).toNatClampNeg), .null, .long (h.2.1 334 ((h.1 264 108) - 2).toNatClampNeg), .null]) (st' := [.long ((h.2.1 334 ((h.1 264 108) - 2).toNatClampNeg) * (h.2.1 334 ((h.1 264 108) - 1).toNatClampNeg)), .ref 264]) (h' := wI h 264 108 ((h.1 264 108) - 2)) rfl).trans ?_
        refine (mm_c2 (y := 304) (as := [.long ((h.2.1 334 ((h.1 264 108) - 2).toNatClampNeg) * (h.2.1 334 ((h.1 264 108) - 1).toNatClampNeg))]) (nx := 128) (rest := [.ref 264]) rfl rfl).trans (mm_congL fun v8 h7 => ?_)
        refine (mm_c0 (y := 306) (as := [.ref 264, .long v8]) (nx := 131) (rest := []) rfl rfl).trans (mm_congV fun h9 => ?_)
        exact mm_by_end 2 rfl
      · refine mm_sw_c.trans (mm_ite ?_ ?_)
        · refine (mm_by 3 (pc' := 138) (ls' := [.ref 264, .int x1, .long (h.2.1 334 ((h.1 264 108) - 1).toNatClampNeg), .null, .long (h.2.1 334 ((h.1 264 108) - 2).toNatClampNeg), .null]) (st' := [.long (h.2.1 334 ((h.1 264 108) - 1).toNatClampNeg), .long (h.2.1 334 ((h.1 264 108) - 2).toNatClampNeg), .ref 264]) (h' := wI h 264 108 ((h.1 264 108) - 2)) rfl).trans ?_
          refine (mm_c2 (y := 305) (as := [.long (h.2.1 334 ((h.1 264 108) - 2).toNatClampNeg), .long (h.2.1 334 ((h.1 264 108) - 1).toNatClampNeg)]) (nx := 141) (rest := [.ref 264]) rfl rfl).trans (mm_congL fun v11 h10 => ?_)
          refine (mm_c0 (y := 306) (as := [.ref 264, .long v11]) (nx := 144) (rest := []) rfl rfl).trans (mm_congV fun h12 => ?_)
          exact mm_by_end 2 rfl
        · refine mm_sw_c.trans (mm_ite ?_ ?_)
          · refine (mm_by 4 (pc' := 152) (ls' := [.ref 264, .int x1, .long (h.2.1 334 ((h.1 264 108) - 1).toNatClampNeg), .null, .long (h.2.1 334 ((h.1 264 108) - 2).toNatClampNeg), .null]) (st' := [.int (lg_cmp (h.2.1 334 ((h.1 264 108) - 2).toNatClampNeg) (h.2.1 334 ((h.1 264 108) - 1).toNatClampNeg)), .ref 264]) (h' := wI h 264 108 ((h.1 264 108) - 2)) rfl).trans ?_
            refine (mm_br (c := 0 ≤ (lg_cmp (h.2.1 334 ((h.1 264 108) - 2).toNatClampNeg) (h.2.1 334 ((h.1 264 108) - 1).toNatClampNeg))) (p1 := 160) (p2 := 155) (l1 := [.ref 264, .int x1, .long (h.2.1 334 ((h.1 264 108) - 1).toNatClampNeg), .null, .long (h.2.1 334 ((h.1 264 108) - 2).toNatClampNeg), .null]) (l2 := [.ref 264, .int x1, .long (h.2.1 334 ((h.1 264 108) - 1).toNatClampNeg), .null, .long (h.2.1 334 ((h.1 264 108) - 2).toNatClampNeg), .null]) (s1 := [.ref 264]) (s2 := [.ref 264]) (h1 := wI h 264 108 ((h.1 264 108) - 2)) (h2 := wI h 264 108 ((h.1 264 108) - 2)) rfl rfl).trans (mm_ite ?_ ?_)
            · refine (mm_by 1 (pc' := 161) (ls' := [.ref 264, .int x1, .long (h.2.1 334 ((h.1 264 108) - 1).toNatClampNeg), .null, .long (h.2.1 334 ((h.1 264 108) - 2).toNatClampNeg), .null]) (st' := [.long (h.2.1 334 ((h.1 264 108) - 1).toNatClampNeg), .ref 264]) (h' := wI h 264 108 ((h.1 264 108) - 2)) rfl).trans ?_
              refine (mm_c0 (y := 306) (as := [.ref 264, .long (h.2.1 334 ((h.1 264 108) - 1).toNatClampNeg)]) (nx := 164) (rest := []) rfl rfl).trans (mm_congV fun h13 => ?_)
              exact mm_by_end 2 rfl
            · refine (mm_by 2 (pc' := 161) (ls' := [.ref 264, .int x1, .long (h.2.1 334 ((h.1 264 108) - 1).toNatClampNeg), .null, .long (h.2.1 334 ((h.1 264 108) - 2).toNatClampNeg), .null]) (st' := [.long (h.2.1 334 ((h.1 264 108) - 2).toNatClampNeg), .ref 264]) (h' := wI h 264 108 ((h.1 264 108) - 2)) rfl).trans ?_
              refine (mm_c0 (y := 306) (as := [.ref 264, .long (h.2.1 334 ((h.1 264 108) - 2).toNatClampNeg)]) (nx := 164) (rest := []) rfl rfl).trans (mm_congV fun h14 => ?_)
              exact mm_by_end 2 rfl
          · refine mm_sw_c.trans (mm_ite ?_ ?_)
            · refine (mm_by 4 (pc' := 172) (ls' := [.ref 264, .int x1, .long (h.2.1 334 ((h.1 264 108) - 1).toNatClampNeg), .null, .long (h.2.1 334 ((h.1 264 108) - 2).toNatClampNeg), .null]) (st' := [.int (lg_cmp (h.2.1 334 ((h.1 264 108) - 2).toNatClampNeg) (h.2.1 334 ((h.1 264 108) - 1).toNatClampNeg)), .ref 264]) (h' := wI h 264 108 ((h.1 264 108) - 2)) rfl).trans ?_
              refine (mm_br (c := (lg_cmp (h.2.1 334 ((h.1 264 108) - 2).toNatClampNeg) (h.2.1 334 ((h.1 264 108) - 1).toNatClampNeg)) ≤ 0) (p1 := 180) (p2 := 175) (l1 := [.ref 264, .int x1, .long (h.2.1 334 ((h.1 264 108) - 1).toNatClampNeg), .null, .long (h.2.1 334 ((h.1 264 108) - 2).toNatClampNeg), .null]) (l2 := [.ref 264, .int x1, .long (h.2.1 334 ((h.1 264 108) - 1).toNatClampNeg), .null, .long (h.2.1 334 ((h.1 264 108) - 2).toNatClampNeg), .null]) (s1 := [.ref 264]) (s2 := [.ref 264]) (h1 := wI h 264 108 ((h.1 264 108) - 2)) (h2 := wI h 264 108 ((h.1 264 108) - 2)) rfl rfl).trans (mm_ite ?_ ?_)
              · refine (mm_by 1 (pc' := 181) (ls' := [.ref 264, .int x1, .long (h.2.1 334 ((h.1 264 108) - 1).toNatClampNeg), .null, .long (h.2.1 334 ((h.1 264 108) - 2).toNatClampNeg), .null]) (st' := [.long (h.2.1 334 ((h.1 264 108) - 1).toNatClampNeg), .ref 264]) (h' := wI h 264 108 ((h.1 264 108) - 2)) rfl).trans ?_
                refine (mm_c0 (y := 306) (as := [.ref 264, .long (h.2.1 334 ((h.1 264 108) - 1).toNatClampNeg)]) (nx := 184) (rest := []) rfl rfl).trans (mm_congV fun h15 => ?_)
                exact mm_by_end 2 rfl
              · refine (mm_by 2 (pc' := 181) (ls' := [.ref 264, .int x1, .long (h.2.1 334 ((h.1 264 108) - 1).toNatClampNeg), .null, .long (h.2.1 334 ((h.1 264 108) - 2).toNatClampNeg), .null]) (st' := [.long (h.2.1 334 ((h.1 264 108) - 2).toNatClampNeg), .ref 264]) (h' := wI h 264 108 ((h.1 264 108) - 2)) rfl).trans ?_
                refine (mm_c0 (y := 306) (as := [.ref 264, .long (h.2.1 334 ((h.1 264 108) - 2).toNatClampNeg)]) (nx := 184) (rest := []) rfl rfl).trans (mm_congV fun h16 => ?_)
                exact mm_by_end 2 rfl
            · refine mm_sw_c.trans (mm_ite ?_ ?_)
              · refine (mm_by 4 (pc' := 192) (ls' := [.ref 264, .int x1, .long (h.2.1 334 ((h.1 264 108) - 1).toNatClampNeg), .null, .long (h.2.1 334 ((h.1 264 108) - 2).toNatClampNeg), .null]) (st' := [.int (lg_cmp (h.2.1 334 ((h.1 264 108) - 2).toNatClampNeg) (h.2.1 334 ((h.1 264 108) - 1).toNatClampNeg)), .ref 264]) (h' := wI h 264 108 ((h.1 264 108) - 2)) rfl).trans ?_
                refine (mm_br (c := 0 ≤ (lg_cmp (h.2.1 334 ((h.1 264 108) - 2).toNatClampNeg) (h.2.1 334 ((h.1 264 108) - 1).toNatClampNeg))) (p1 := 199) (p2 := 195) (l1 := [.ref 264, .int x1, .long (h.2.1 334 ((h.1 264 108) - 1).toNatClampNeg), .null, .long (h.2.1 334 ((h.1 264 108) - 2).toNatClampNeg), .null]) (l2 := [.ref 264, .int x1, .long (h.2.1 334 ((h.1 264 108) - 1).toNatClampNeg), .null, .long (h.2.1 334 ((h.1 264 108) - 2).toNatClampNeg), .null]) (s1 := [.ref 264]) (s2 := [.ref 264]) (h1 := wI h 264 108 ((h.1 264 108) - 2)) (h2 := wI h 264 108 ((h.1 264 108) - 2)) rfl rfl).trans (mm_ite ?_ ?_)
                · refine (mm_by 1 (pc' := 200) (ls' := [.ref 264, .int x1, .long (h.2.1 334 ((h.1 264 108) - 1).toNatClampNeg), .null, .long (h.2.1 334 ((h.1 264 108) - 2).toNatClampNeg), .null]) (st' := [.long 0, .ref 264]) (h' := wI h 264 108 ((h.1 264 108) - 2)) rfl).trans ?_
                  refine (mm_c0 (y := 306) (as := [.ref 264, .long 0]) (nx := 203) (rest := []) rfl rfl).trans (mm_congV fun h17 => ?_)
                  exact mm_by_end 2 rfl
                · refine (mm_by 2 (pc' := 200) (ls' := [.ref 264, .int x1, .long (h.2.1 334 ((h.1 264 108) - 1).toNatClampNeg), .null, .long (h.2.1 334 ((h.1 264 108) - 2).toNatClampNeg), .null]) (st' := [.long 1, .ref 264]) (h' := wI h 264 108 ((h.1 264 108) - 2)) rfl).trans ?_
                  refine (mm_c0 (y := 306) (as := [.ref 264, .long 1]) (nx := 203) (rest := []) rfl rfl).trans (mm_congV fun h18 => ?_)
                  exact mm_by_end 2 rfl
              · refine mm_sw_c.trans (mm_ite ?_ ?_)
                · refine (mm_by 4 (pc' := 211) (ls' := [.ref 264, .int x1, .long (h.2.1 334 ((h.1 264 108) - 1).toNatClampNeg), .null, .long (h.2.1 334 ((h.1 264 108) - 2).toNatClampNeg), .null]) (st' := [.int (lg_cmp (h.2.1 334 ((h.1 264 108) - 2).toNatClampNeg) (h.2.1 334 ((h.1 264 108) - 1).toNatClampNeg)), .ref 264]) (h' := wI h 264 108 ((h.1 264 108) - 2)) rfl).trans ?_
                  refine (mm_br (c := (lg_cmp (h.2.1 334 ((h.1 264 108) - 2).toNatClampNeg) (h.2.1 334 ((h.1 264 108) - 1).toNatClampNeg)) ≤ 0) (p1 := 218) (p2 := 214) (l1 := [.ref 264, .int x1, .long (h.2.1 334 ((h.1 264 108) - 1).toNatClampNeg), .null, .long (h.2.1 334 ((h.1 264 108) - 2).toNatClampNeg), .null]) (l2 := [.ref 264, .int x1, .long (h.2.1 334 ((h.1 264 108) - 1).toNatClampNeg), .null, .long (h.2.1 334 ((h.1 264 108) - 2).toNatClampNeg), .null]) (s1 := [.ref 264]) (s2 := [.ref 264]) (h1 := wI h 264 108 ((h.1 264 108) - 2)) (h2 := wI h 264 108 ((h.1 264 108) - 2)) rfl rfl).trans (mm_ite ?_ ?_)
                  · refine (mm_by 1 (pc' := 219) (ls' := [.ref 264, .int x1, .long (h.2.1 334 ((h.1 264 108) - 1).toNatClampNeg), .null, .long (h.2.1 334 ((h.1 264 108) - 2).toNatClampNeg), .null]) (st' := [.long 0, .ref 264]) (h' := wI h 264 108 ((h.1 264 108) - 2)) rfl).trans ?_
                    refine (mm_c0 (y := 306) (as := [.ref 264, .long 0]) (nx := 222) (rest := []) rfl rfl).trans (mm_congV fun h19 => ?_)
                    exact mm_by_end 2 rfl
                  · refine (mm_by 2 (pc' := 219) (ls' := [.ref 264, .int x1, .long (h.2.1 334 ((h.1 264 108) - 1).toNatClampNeg), .null, .long (h.2.1 334 ((h.1 264 108) - 2).toNatClampNeg), .null]) (st' := [.long 1, .ref 264]) (h' := wI h 264 108 ((h.1 264 108) - 2)) rfl).trans ?_
                    refine (mm_c0 (y := 306) (as := [.ref 264, .long 1]) (nx := 222) (rest := []) rfl rfl).trans (mm_congV fun h20 => ?_)
                    exact mm_by_end 2 rfl
                · refine mm_sw_c.trans (mm_ite ?_ ?_)
                  · refine (mm_by 4 (pc' := 230) (ls' := [.ref 264, .int x1, .long (h.2.1 334 ((h.1 264 108) - 1).toNatClampNeg), .null, .long (h.2.1 334 ((h.1 264 108) - 2).toNatClampNeg), .null]) (st' := [.int (lg_cmp (h.2.1 334 ((h.1 264 108) - 2).toNatClampNeg) (h.2.1 334 ((h.1 264 108) - 1).toNatClampNeg)), .ref 264]) (h' := wI h 264 108 ((h.1 264 108) - 2)) rfl).trans ?_
                    refine (mm_br (c := ¬ (lg_cmp (h.2.1 334 ((h.1 264 108) - 2).toNatClampNeg) (h.2.1 334 ((h.1 264 108) - 1).toNatClampNeg)) = 0) (p1 := 237) (p2 := 233) (l1 := [.ref 264, .int x1, .long (h.2.1 334 ((h.1 264 108) - 1).toNatClampNeg), .null, .long (h.2.1 334 ((h.1 264 108) - 2).toNatClampNeg), .null]) (l2 := [.ref 264, .int x1, .long (h.2.1 334 ((h.1 264 108) - 1).toNatClampNeg), .null, .long (h.2.1 334 ((h.1 264 108) - 2).toNatClampNeg), .null]) (s1 := [.ref 264]) (s2 := [.ref 264]) (h1 := wI h 264 108 ((h.1 264 108) - 2)) (h2 := wI h 264 108 ((h.1 264 108) - 2)) rfl rfl).trans (mm_ite ?_ ?_)
                    · refine (mm_by 1 (pc' := 238) (ls' := [.ref 264, .int x1, .long (h.2.1 334 ((h.1 264 108) - 1).toNatClampNeg), .null, .long (h.2.1 334 ((h.1 264 108) - 2).toNatClampNeg), .null]) (st' := [.long 0, .ref 264]) (h' := wI h 264 108 ((h.1 264 108) - 2)) rfl).trans ?_
                      refine (mm_c0 (y := 306) (as := [.ref 264, .long 0]) (nx := 241) (rest := []) rfl rfl).trans (mm_congV fun h21 => ?_)
                      exact mm_by_end 2 rfl
                    · refine (mm_by 2 (pc' := 238) (ls' := [.ref 264, .int x1, .long (h.2.1 334 ((h.1 264 108) - 1).toNatClampNeg), .null, .long (h.2.1 334 ((h.1 264 108) - 2).toNatClampNeg), .null]) (st' := [.long 1, .ref 264]) (h' := wI h 264 108 ((h.1 264 108) - 2)) rfl).trans ?_
                      refine (mm_c0 (y := 306) (as := [.ref 264, .long 1]) (nx := 241) (rest := []) rfl rfl).trans (mm_congV fun h22 => ?_)
                      exact mm_by_end 2 rfl
                  · refine mm_sw_c.trans (mm_ite ?_ ?_)
                    · refine (mm_by 4 (pc' := 249) (ls' := [.ref 264, .int x1, .long (h.2.1 334 ((h.1 264 108) - 1).toNatClampNeg), .null, .long (h.2.1 334 ((h.1 264 108) - 2).toNatClampNeg), .null]) (st' := [.long ((h.2.1 334 ((h.1 264 108) - 2).toNatClampNeg) * (h.2.1 334 ((h.1 264 108) - 1).toNatClampNeg)), .ref 264]) (h' := wI h 264 108 ((h.1 264 108) - 2)) rfl).trans ?_
                      refine (mm_c0 (y := 306) (as := [.ref 264, .long ((h.2.1 334 ((h.1 264 108) - 2).toNatClampNeg) * (h.2.1 334 ((h.1 264 108) - 1).toNatClampNeg))]) (nx := 252) (rest := []) rfl rfl).trans (mm_congV fun h23 => ?_)
                      exact mm_by_end 2 rfl
                    · refine Eq.trans (show mm_D _ _ (mm_sw [] 255 x1) _ _ _ = mm_D _ _ 255 _ _ _ from rfl) ?_
                      refine (mm_by 6 (pc' := 262) (ls' := [.ref 264, .int x1, .long (h.2.1 334 ((h.1 264 108) - 1).toNatClampNeg), .null, .long (h.2.1 334 ((h.1 264 108) - 2).toNatClampNeg), .null]) (st' := [.int (lg_cmp ((h.2.1 334 ((h.1 264 108) - 2).toNatClampNeg) + (h.2.1 334 ((h.1 264 108) - 1).toNatClampNeg)) 0), .ref 264]) (h' := wI h 264 108 ((h.1 264 108) - 2)) rfl).trans ?_
                      refine (mm_br (c := (lg_cmp ((h.2.1 334 ((h.1 264 108) - 2).toNatClampNeg) + (h.2.1 334 ((h.1 264 108) - 1).toNatClampNeg)) 0) ≤ 0) (p1 := 269) (p2 := 265) (l1 := [.ref 264, .int x1, .long (h.2.1 334 ((h.1 264 108) - 1).toNatClampNeg), .null, .long (h.2.1 334 ((h.1 264 108) - 2).toNatClampNeg), .null]) (l2 := [.ref 264, .int x1, .long (h.2.1 334 ((h.1 264 108) - 1).toNatClampNeg), .null, .long (h.2.1 334 ((h.1 264 108) - 2).toNatClampNeg), .null]) (s1 := [.ref 264]) (s2 := [.ref 264]) (h1 := wI h 264 108 ((h.1 264 108) - 2)) (h2 := wI h 264 108 ((h.1 264 108) - 2)) rfl rfl).trans (mm_ite ?_ ?_)
                      · refine (mm_by 1 (pc' := 270) (ls' := [.ref 264, .int x1, .long (h.2.1 334 ((h.1 264 108) - 1).toNatClampNeg), .null, .long (h.2.1 334 ((h.1 264 108) - 2).toNatClampNeg), .null]) (st' := [.long 0, .ref 264]) (h' := wI h 264 108 ((h.1 264 108) - 2)) rfl).trans ?_
                        refine (mm_c0 (y := 306) (as := [.ref 264, .long 0]) (nx := 273) (rest := []) rfl rfl).trans (mm_congV fun h24 => ?_)
                        exact mm_by_end 1 rfl
                      · refine (mm_by 2 (pc' := 270) (ls' := [.ref 264, .int x1, .long (h.2.1 334 ((h.1 264 108) - 1).toNatClampNeg), .null, .long (h.2.1 334 ((h.1 264 108) - 2).toNatClampNeg), .null]) (st' := [.long 1, .ref 264]) (h' := wI h 264 108 ((h.1 264 108) - 2)) rfl).trans ?_
                        refine (mm_c0 (y := 306) (as := [.ref 264, .long 1]) (nx := 273) (rest := []) rfl rfl).trans (mm_congV fun h25 => ?_)
                        exact mm_by_end 1 rfl
set_option maxRecDepth 100000 in
set_option maxHeartbeats 4000000 in
theorem U_X12_qPartOf {d : Nat} {x1 : Int32} {x2 : Int32} {h : mm_H} : mm_M mm_T0 (d + 1) 308 [.ref 264, .int x1, .int x2] h = (if x1 = 0 then (if ¬ (h.1 264 54) = 3 then (some (some (.long ((h.1 264 57).toInt64)), h)) else (mm_bI (mm_M mm_T0 d 221 [.ref 264, .int x2] h) (fun v2 h1 => some (some (.long v2.toInt64), h1)))) else (if x1 = 1 then (if ¬ (h.1 264 54) = 3 then (some (some (.long ((h.1 264 58).toInt64)), h)) else (mm_bI (mm_M mm_T0 d 222 [.ref 264, .int x2] h) (fun v4 h3 => some (some (.long v4.toInt64), h3)))) else (if x1 = 2 then (some (some (.long ((h.1 264 59).toInt64)), h)) else (if x1 = 3 then (some (some (.long ((h.1 300 0).toInt64)), h)) else (if x1 = 4 then (if ¬ (h.1 264 54) = 3 then (some (some (.long ((h.1 264 60).toInt64)), h)) else (mm_bI (mm_M mm_T0 d 219 [.ref 264, .int x2] h) (fun v6 h5 => some (some (.long v6.toInt64), h5)))) else (if x1 = 5 then (some (some (.long ((h.1 264 61).toInt64)), h)) else (if x1 = 6 then (some (some (.long ((h.1 264 62).toInt64)), h)) else (if x1 = 7 then (some (some (.long ((h.1 264 63).toInt64)), h)) else (if x1 = 8 then (some (some (.long x2.toInt64), h)) else (if x1 = 9 then (mm_bI (mm_M mm_T0 d 218 [.ref 264, .int x2] h) (fun v8 h7 => some (some (.long v8.toInt64), h7))) else (mm_bI (mm_M mm_T0 d 220 [.ref 264, .int x2] h) (fun v10 h9 => if v10 = 0 then (some (some (.long 0), h9)) else (some (some (.long 1), h9)))))))))))))) := by
  refine (mm_M_eq (ls := [.ref 264, .int x1, .int x2]) rfl (Nat.le_of_ble_eq_true rfl) rfl h).trans ?_
  refine (mm_by 1 (pc' := 1) (ls' := [.ref 264, .int x1, .int x2]) (st' := [.int x1]) (h' := h) rfl).trans ?_
  refine (mm_go (pc' := mm_sw [(0, 56), (1, 79), (2, 102), (3, 108), (4, 116), (5, 139), (6, 145), (7, 151), (8, 157), (9, 160)] 167 x1) (ls' := [.ref 264, .int x1, .int x2]) (st' := []) (h' := h) rfl rfl).trans ?_
  refine mm_sw_c.trans (mm_ite ?_ ?_)
  · refine (mm_by 3 (pc' := 61) (ls' := [.ref 264, .int x1, .int x2]) (st' := [.int 3, .int (h.1 264 54)]) (h' := h) rfl).trans ?_
    refine (mm_br (c := ¬ (h.1 264 54) = 3) (p1 := 73) (p2 := 64) (l1 := [.ref 264, .int x1, .int x2]) (l2 := [.ref 264, .int x1, .int x2]) (s1 := []) (s2 := []) (h1 := h) (h2 := h) rfl rfl).trans (mm_ite ?_ ?_)
    · exact mm_by_end 4 rfl
    · refine (mm_by 2 (pc' := 66) (ls' := [.ref 264, .int x1, .int x2]) (st' := [.int x2, .ref 264]) (h' := h) rfl).trans ?_
      refine (mm_c1 (y := 221) (as := [.ref 264, .int x2]) (nx := 69) (rest := []) rfl rfl).trans (mm_congI fun v2 h1 => ?_)
      exact mm_by_end 3 rfl
  · refine mm_sw_c.trans (mm_ite ?_ ?_)
    · refine (mm_by 3 (pc' := 84) (ls' := [.ref 264, .int x1, .int x2]) (st' := [.int 3, .int (h.1 264 54)]) (h' := h) rfl).trans ?_
      refine (mm_br (c := ¬ (h.1 264 54) = 3) (p1 := 96) (p2 := 87) (l1 := [.ref 264, .int x1, .int x2]) (l2 := [.ref 264, .int x1, .int x2]) (s1 := []) (s2 := []) (h1 := h) (h2 := h) rfl rfl).trans (mm_ite ?_ ?_)
      · exact mm_by_end 4 rfl
      · refine (mm_by 2 (pc' := 89) (ls' := [.ref 264, .int x1, .int x2]) (st' := [.int x2, .ref 264]) (h' := h) rfl).trans ?_
        refine (mm_c1 (y := 222) (as := [.ref 264, .int x2]) (nx := 92) (rest := []) rfl rfl).trans (mm_congI fun v4 h3 => ?_)
        exact mm_by_end 3 rfl
    · refine mm_sw_c.trans (mm_ite ?_ ?_)
      · exact mm_by_end 4 rfl
      · refine mm_sw_c.trans (mm_ite ?_ ?_)
        · exact mm_by_end 6 rfl
        · refine mm_sw_c.trans (mm_ite ?_ ?_)
          · refine (mm_by 3 (pc' := 121) (ls' := [.ref 264, .int x1, .int x2]) (st' := [.int 3, .int (h.1 264 54)]) (h' := h) rfl).trans ?_
            refine (mm_br (c := ¬ (h.1 264 54) = 3) (p1 := 133) (p2 := 124) (l1 := [.ref 264, .int x1, .int x2]) (l2 := [.ref 264, .int x1, .int x2]) (s1 := []) (s2 := []) (h1 := h) (h2 := h) rfl rfl).trans (mm_ite ?_ ?_)
            · exact mm_by_end 4 rfl
            · refine (mm_by 2 (pc' := 126) (ls' := [.ref 264, .int x1, .int x2]) (st' := [.int x2, .ref 264]) (h' := h) rfl).trans ?_
              refine (mm_c1 (y := 219) (as := [.ref 264, .int x2]) (nx := 129) (rest := []) rfl rfl).trans (mm_congI fun v6 h5 => ?_)
              exact mm_by_end 3 rfl
          · refine mm_sw_c.trans (mm_ite ?_ ?_)
            · exact mm_by_end 4 rfl
            · refine mm_sw_c.trans (mm_ite ?_ ?_)
              · exact mm_by_end 4 rfl
              · refine mm_sw_c.trans (mm_ite ?_ ?_)
                · exact mm_by_end 4 rfl
                · refine mm_sw_c.trans (mm_ite ?_ ?_)
                  · exact mm_by_end 3 rfl
                  · refine mm_sw_c.trans (mm_ite ?_ ?_)
                    · refine (mm_by 2 (pc' := 162) (ls' := [.ref 264, .int x1, .int x2]) (st' := [.int x2, .ref 264]) (h' := h) rfl).trans ?_
                      refine (mm_c1 (y := 218) (as := [.ref 264, .int x2]) (nx := 165) (rest := []) rfl rfl).trans (mm_congI fun v8 h7 => ?_)
                      exact mm_by_end 2 rfl
                    · refine Eq.trans (show mm_D _ _ (mm_sw [] 167 x1) _ _ _ = mm_D _ _ 167 _ _ _ from rfl) ?_
                      refine (mm_by 2 (pc' := 169) (ls' := [.ref 264, .int x1, .int x2]) (st' := [.int x2, .ref 264]) (h' := h) rfl).trans ?_
                      refine (mm_c1 (y := 220) (as := [.ref 264, .int x2]) (nx := 172) (rest := []) rfl rfl).trans (mm_congI fun v10 h9 => ?_)
                      refine (mm_br (c := v10 = 0) (p1 := 179) (p2 := 175) (l1 := [.ref 264, .int x1, .int x2]) (l2 := [.ref 264, .int x1, .int x2]) (s1 := []) (s2 := []) (h1 := h9) (h2 := h9) rfl rfl).trans (mm_ite ?_ ?_)
                      · exact mm_by_end 2 rfl
                      · exact mm_by_end 3 rfl
set_option maxRecDepth 100000 in
set_option maxHeartbeats 4000000 in
theorem U_X12_qOf {d : Nat} {x1 : Int32} {x2 : Int64} {x4 : Int32} {h : mm_H} : mm_M mm_T0 (d + 1) 309 [.ref 264, .int x1, .long x2, .int x4] h = (if x1 = 0 then (mm_bI (mm_M mm_T0 d 215 [.ref 264, .int x4, .long x2] h) (fun v2 h1 => if v2 = 0 then (some (some (.long 0), h1)) else (mm_bI (mm_M mm_T0 d 223 [.ref 264, .int x4, .int x2.toInt32] h1) (fun v4 h3 => some (some (.long v4.toInt64), h3))))) else (mm_bI (mm_M mm_T0 d 215 [.ref 264, .int x4, .long x2] h) (fun v6 h5 => if v6 = 0 then (some (some (.long 0), h5)) else (mm_bI (mm_M mm_T0 d 223 [.ref 264, .int x2.toInt32, .int x4] h5) (fun v8 h7 => some (some (.long v8.toInt64), h7)))))) := by
  refine (mm_M_eq (ls := [.ref 264, .int x1, .long x2, .null, .int x4]) rfl (Nat.le_of_ble_eq_true rfl) rfl h).trans ?_
  refine (mm_by 1 (pc' := 1) (ls' := [.ref 264, .int x1, .long x2, .null, .int x4]) (st' := [.int x1]) (h' := h) rfl).trans ?_
  refine (mm_go (pc' := mm_sw [(0, 20)] 44 x1) (ls' := [.ref 264, .int x1, .long x2, .null, .int x4]) (st' := []) (h' := h) rfl rfl).trans ?_
  refine mm_sw_c.trans (mm_ite ?_ ?_)
  · refine (mm_by 3 (pc' := 24) (ls' := [.ref 264, .int x1, .long x2, .null, .int x4]) (st' := [.long x2, .int x4, .ref 264]) (h' := h) rfl).trans ?_
    refine (mm_c1 (y := 215) (as := [.ref 264, .int x4, .long x2]) (nx := 27) (rest := []) rfl rfl).trans (mm_congI fun v2 h1 => ?_)
    refine (mm_br (c := v2 = 0) (p1 := 42) (p2 := 30) (l1 := [.ref 264, .int x1, .long x2, .null, .int x4]) (l2 := [.ref 264, .int x1, .long x2, .null, .int x4]) (s1 := []) (s2 := []) (h1 := h1) (h2 := h1) rfl rfl).trans (mm_ite ?_ ?_)
    · exact mm_by_end 2 rfl
    · refine (mm_by 4 (pc' := 35) (ls' := [.ref 264, .int x1, .long x2, .null, .int x4]) (st' := [.int x2.toInt32, .int x4, .ref 264]) (h' := h1) rfl).trans ?_
      refine (mm_c1 (y := 223) (as := [.ref 264, .int x4, .int x2.toInt32]) (nx := 38) (rest := []) rfl rfl).trans (mm_congI fun v4 h3 => ?_)
      exact mm_by_end 3 rfl
  · refine Eq.trans (show mm_D _ _ (mm_sw [] 44 x1) _ _ _ = mm_D _ _ 44 _ _ _ from rfl) ?_
    refine (mm_by 3 (pc' := 48) (ls' := [.ref 264, .int x1, .long x2, .null, .int x4]) (st' := [.long x2, .int x4, .ref 264]) (h' := h) rfl).trans ?_
    refine (mm_c1 (y := 215) (as := [.ref 264, .int x4, .long x2]) (nx := 51) (rest := []) rfl rfl).trans (mm_congI fun v6 h5 => ?_)
    refine (mm_br (c := v6 = 0) (p1 := 66) (p2 := 54) (l1 := [.ref 264, .int x1, .long x2, .null, .int x4]) (l2 := [.ref 264, .int x1, .long x2, .null, .int x4]) (s1 := []) (s2 := []) (h1 := h5) (h2 := h5) rfl rfl).trans (mm_ite ?_ ?_)
    · exact mm_by_end 2 rfl
    · refine (mm_by 4 (pc' := 59) (ls' := [.ref 264, .int x1, .long x2, .null, .int x4]) (st' := [.int x4, .int x2.toInt32, .ref 264]) (h' := h5) rfl).trans ?_
      refine (mm_c1 (y := 223) (as := [.ref 264, .int x2.toInt32, .int x4]) (nx := 62) (rest := []) rfl rfl).trans (mm_congI fun v8 h7 => ?_)
      exact mm_by_end 3 rfl
set_option maxRecDepth 100000 in
set_option maxHeartbeats 4000000 in
theorem U_X12_qTold {d : Nat} {x1 : Int32} {h : mm_H} : mm_M mm_T0 (d + 1) 310 [.ref 264, .int x1] h = (mm_D (mm_M mm_T0 d) cd_X12_qTold 7 [.ref 264, .int x1, .int 0, .null] [] (wI h 264 108 0)) := by
  refine (mm_M_eq (ls := [.ref 264, .int x1, .null, .null]) rfl (Nat.le_of_ble_eq_true rfl) rfl h).trans ?_
  exact mm_by 5 rfl
set_option maxRecDepth 100000 in
set_option maxHeartbeats 4000000 in
theorem U_X12_qTold_7 {d : Nat} {x1 : Int32} {x2 : Int32} {h : mm_H} : mm_D (mm_M mm_T0 d) cd_X12_qTold 7 [.ref 264, .int x1, .int x2, .null] [] h = (if (h.1 264 102) ≤ x2 then (some (some (.long (h.2.1 334 0)), h)) else (if x2 < 0 ∨ 1700 ≤ x2.toNatClampNeg then none else (if (h.1 332 x2.toNatClampNeg) < 1000 then (if (h.1 332 x2.toNatClampNeg) < 60 then (if (h.1 332 x2.toNatClampNeg) < 40 then (if ¬ (h.1 332 x2.toNatClampNeg) = 13 then (if ¬ (h.1 332 x2.toNatClampNeg) = 12 then (mm_bV (mm_M mm_T0 d 307 [.ref 264, .int (h.1 332 x2.toNatClampNeg)] h) (fun h1 => mm_D (mm_M mm_T0 d) cd_X12_qTold 7 [.ref 264, .int x1, .int (x2 + 1), .null] [] h1)) else (if ((h.1 264 108) - 1) < 0 ∨ 1700 ≤ ((h.1 264 108) - 1).toNatClampNeg then none else (if ((h.1 264 108) - 1) < 0 ∨ 1700 ≤ ((h.1 264 108) - 1).toNatClampNeg then none else (mm_D (mm_M mm_T0 d) cd_X12_qTold 7 [.ref 264, .int x1, .int (x2 + 1), .null] [] (wL h 334 (((h.1 264 108) - 1).toNatClampNeg) (1 - (h.2.1 334 ((h.1 264 108) - 1).toNatClampNeg))))))) else (mm_bV (mm_M mm_T0 d 306 [.ref 264, .long 1] h) (fun h2 => mm_D (mm_M mm_T0 d) cd_X12_qTold 7 [.ref 264, .int x1, .int (x2 + 1), .null] [] h2))) else (mm_bL (mm_M mm_T0 d 308 [.ref 264, .int ((h.1 332 x2.toNatClampNeg) - 40), .int x1] h) (fun v4 h3 => mm_bL (mm_M mm_T0 d 304 [.long v4] h3) (fun v6 h5 => mm_bV (mm_M mm_T0 d 306 [.ref 264, .long v6] h5) (fun h7 => mm_D (mm_M mm_T0 d) cd_X12_qTold 7 [.ref 264, .int x1, .int (x2 + 1), .null] [] h7))))) else (if ((h.1 264 108) - 1) < 0 ∨ 1700 ≤ ((h.1 264 108) - 1).toNatClampNeg then none else (mm_bL (mm_M mm_T0 d 309 [.ref 264, .int ((h.1 332 x2.toNatClampNeg) - 60), .long (h.2.1 334 ((h.1 264 108) - 1).toNatClampNeg), .int x1] h) (fun v9 h8 => mm_bL (mm_M mm_T0 d 304 [.long v9] h8) (fun v11 h10 => if ((h.1 264 108) - 1) < 0 ∨ 1700 ≤ ((h.1 264 108) - 1).toNatClampNeg then none else (mm_D (mm_M mm_T0 d) cd_X12_qTold 7 [.ref 264, .int x1, .int (x2 + 1), .null] [] (wL h10 334 (((h.1 264 108) - 1).toNatClampNeg) v11))))))) else (mm_bV (mm_M mm_T0 d 306 [.ref 264, .long (((h.1 332 x2.toNatClampNeg) - 1000).toInt64)] h) (fun h12 => mm_D (mm_M mm_T0 d) cd_X12_qTold 7 [.ref 264, .int x1, .int (x2 + 1), .null] [] h12))))) := by
  refine (mm_by 3 (pc' := 12) (ls' := [.ref 264, .int x1, .int x2, .null]) (st' := [.int (h.1 264 102), .int x2]) (h' := h) rfl).trans ?_
  refine (mm_br (c := (h.1 264 102) ≤ x2) (p1 := 168) (p2 := 15) (l1 := [.ref 264, .int x1, .int x2, .null]) (l2 := [.ref 264, .int x1, .int x2, .null]) (s1 := []) (s2 := []) (h1 := h) (h2 := h) rfl rfl).trans (mm_ite ?_ ?_)
  · exact mm_by_end 5 rfl
  · refine (mm_by 3 (pc' := 20) (ls' := [.ref 264, .int x1, .int x2, .null]) (st' := [.int x2, .ref 332]) (h' := h) rfl).trans ?_
    refine (mm_gd (c := x2 < 0 ∨ 1700 ≤ x2.toNatClampNeg) (p1 := 21) (l1 := [.ref 264, .int x1, .int x2, .null]) (s1 := [.int (h.1 332 x2.toNatClampNeg)]) (h1 := h) rfl (q_iald (n := 1700) rfl)).trans (mm_ite rfl ?_)
    refine (mm_by 3 (pc' := 26) (ls' := [.ref 264, .int x1, .int x2, .int (h.1 332 x2.toNatClampNeg)]) (st' := [.int 1000, .int (h.1 332 x2.toNatClampNeg)]) (h' := h) rfl).trans ?_
    refine (mm_br (c := (h.1 332 x2.toNatClampNeg) < 1000) (p1 := 42) (p2 := 29) (l1 := [.ref 264, .int x1, .int x2, .int (h.1 332 x2.toNatClampNeg)]) (l2 := [.ref 264, .int x1, .int x2, .int (h.1 332 x2.toNatClampNeg)]) (s1 := []) (s2 := []) (h1 := h) (h2 := h) rfl rfl).trans (mm_ite ?_ ?_)
    · refine (mm_by 2 (pc' := 45) (ls' := [.ref 264, .int x1, .int x2, .int (h.1 332 x2.toNatClampNeg)]) (st' := [.int 60, .int (h.1 332 x2.toNatClampNeg)]) (h' := h) rfl).trans ?_
      refine (mm_br (c := (h.1 332 x2.toNatClampNeg) < 60) (p1 := 85) (p2 := 48) (l1 := [.ref 264, .int x1, .int x2, .int (h.1 332 x2.toNatClampNeg)]) (l2 := [.ref 264, .int x1, .int x2, .int (h.1 332 x2.toNatClampNeg)]) (s1 := []) (s2 := []) (h1 := h) (h2 := h) rfl rfl).trans (mm_ite ?_ ?_)
      · refine (mm_by 2 (pc' := 88) (ls' := [.ref 264, .int x1, .int x2, .int (h.1 332 x2.toNatClampNeg)]) (st' := [.int 40, .int (h.1 332 x2.toNatClampNeg)]) (h' := h) rfl).trans ?_
        refine (mm_br (c := (h.1 332 x2.toNatClampNeg) < 40) (p1 := 110) (p2 := 91) (l1 := [.ref 264, .int x1, .int x2, .int (h.1 332 x2.toNatClampNeg)]) (l2 := [.ref 264, .int x1, .int x2, .int (h.1 332 x2.toNatClampNeg)]) (s1 := []) (s2 := []) (h1 := h) (h2 := h) rfl rfl).trans (mm_ite ?_ ?_)
        · refine (mm_by 2 (pc' := 113) (ls' := [.ref 264, .int x1, .int x2, .int (h.1 332 x2.toNatClampNeg)]) (st' := [.int 13, .int (h.1 332 x2.toNatClampNeg)]) (h' := h) rfl).trans ?_
          refine (mm_br (c := ¬ (h.1 332 x2.toNatClampNeg) = 13) (p1 := 124) (p2 := 116) (l1 := [.ref 264, .int x1, .int x2, .int (h.1 332 x2.toNatClampNeg)]) (l2 := [.ref 264, .int x1, .int x2, .int (h.1 332 x2.toNatClampNeg)]) (s1 := []) (s2 := []) (h1 := h) (h2 := h) rfl rfl).trans (mm_ite ?_ ?_)
          · refine (mm_by 2 (pc' := 127) (ls' := [.ref 264, .int x1, .int x2, .int (h.1 332 x2.toNatClampNeg)]) (st' := [.int 12, .int (h.1 332 x2.toNatClampNeg)]) (h' := h) rfl).trans ?_
            refine (mm_br (c := ¬ (h.1 332 x2.toNatClampNeg) = 12) (p1 := 157) (p2 := 130) (l1 := [.ref 264, .int x1, .int x2, .int (h.1 332 x2.toNatClampNeg)]) (l2 := [.ref 264, .int x1, .int x2, .int (h.1 332 x2.toNatClampNeg)]) (s1 := []) (s2 := []) (h1 := h) (h2 := h) rfl rfl).trans (mm_ite ?_ ?_)
            · refine (mm_by 2 (pc' := 159) (ls' := [.ref 264, .int x1, .int x2, .int (h.1 332 x2.toNatClampNeg)]) (st' := [.int (h.1 332 x2.toNatClampNeg), .ref 264]) (h' := h) rfl).trans ?_
              refine (mm_c0 (y := 307) (as := [.ref 264, .int (h.1 332 x2.toNatClampNeg)]) (nx := 162) (rest := []) rfl rfl).trans (mm_congV fun h1 => ?_)
              exact mm_by 2 rfl
            · refine (mm_by 13 (pc' := 151) (ls' := [.ref 264, .int x1, .int x2, .int (h.1 332 x2.toNatClampNeg)]) (st' := [.int ((h.1 264 108) - 1), .ref 334, .long 1, .int ((h.1 264 108) - 1), .ref 334]) (h' := h) rfl).trans ?_
              refine (mm_gd (c := ((h.1 264 108) - 1) < 0 ∨ 1700 ≤ ((h.1 264 108) - 1).toNatClampNeg) (p1 := 152) (l1 := [.ref 264, .int x1, .int x2, .int (h.1 332 x2.toNatClampNeg)]) (s1 := [.long (h.2.1 334 ((h.1 264 108) - 1).toNatClampNeg), .long 1, .int ((h.1 264 108) - 1), .ref 334]) (h1 := h) rfl (q_lald (n := 1700) rfl)).trans (mm_ite rfl ?_)
              refine (mm_by 1 (pc' := 153) (ls' := [.ref 264, .int x1, .int x2, .int (h.1 332 x2.toNatClampNeg)]) (st' := [.long (1 - (h.2.1 334 ((h.1 264 108) - 1).toNatClampNeg)), .int ((h.1 264 108) - 1), .ref 334]) (h' := h) rfl).trans ?_
              refine (mm_gd (c := ((h.1 264 108) - 1) < 0 ∨ 1700 ≤ ((h.1 264 108) - 1).toNatClampNeg) (p1 := 154) (l1 := [.ref 264, .int x1, .int x2, .int (h.1 332 x2.toNatClampNeg)]) (s1 := []) (h1 := wL h 334 (((h.1 264 108) - 1).toNatClampNeg) (1 - (h.2.1 334 ((h.1 264 108) - 1).toNatClampNeg))) rfl (q_last (n := 1700) rfl)).trans (mm_ite rfl ?_)
              exact mm_by 3 rfl
          · refine (mm_by 2 (pc' := 118) (ls' := [.ref 264, .int x1, .int x2, .int (h.1 332 x2.toNatClampNeg)]) (st' := [.long 1, .ref 264]) (h' := h) rfl).trans ?_
            refine (mm_c0 (y := 306) (as := [.ref 264, .long 1]) (nx := 121) (rest := []) rfl rfl).trans (mm_congV fun h2 => ?_)
            exact mm_by 3 rfl
        · refine (mm_by 6 (pc' := 98) (ls' := [.ref 264, .int x1, .int x2, .int (h.1 332 x2.toNatClampNeg)]) (st' := [.int x1, .int ((h.1 332 x2.toNatClampNeg) - 40), .ref 264, .ref 264]) (h' := h) rfl).trans ?_
          refine (mm_c2 (y := 308) (as := [.ref 264, .int ((h.1 332 x2.toNatClampNeg) - 40), .int x1]) (nx := 101) (rest := [.ref 264]) rfl rfl).trans (mm_congL fun v4 h3 => ?_)
          refine (mm_c2 (y := 304) (as := [.long v4]) (nx := 104) (rest := [.ref 264]) rfl rfl).trans (mm_congL fun v6 h5 => ?_)
          refine (mm_c0 (y := 306) (as := [.ref 264, .long v6]) (nx := 107) (rest := []) rfl rfl).trans (mm_congV fun h7 => ?_)
          exact mm_by 3 rfl
      · refine (mm_by 16 (pc' := 73) (ls' := [.ref 264, .int x1, .int x2, .int (h.1 332 x2.toNatClampNeg)]) (st' := [.int ((h.1 264 108) - 1), .ref 334, .int ((h.1 332 x2.toNatClampNeg) - 60), .ref 264, .int ((h.1 264 108) - 1), .ref 334]) (h' := h) rfl).trans ?_
        refine (mm_gd (c := ((h.1 264 108) - 1) < 0 ∨ 1700 ≤ ((h.1 264 108) - 1).toNatClampNeg) (p1 := 74) (l1 := [.ref 264, .int x1, .int x2, .int (h.1 332 x2.toNatClampNeg)]) (s1 := [.long (h.2.1 334 ((h.1 264 108) - 1).toNatClampNeg), .int ((h.1 332 x2.toNatClampNeg) - 60), .ref 264, .int ((h.1 264 108) - 1), .ref 334]) (h1 := h) rfl (q_lald (n := 1700) rfl)).trans (mm_ite rfl ?_)
        refine (mm_by 1 (pc' := 75) (ls' := [.ref 264, .int x1, .int x2, .int (h.1 332 x2.toNatClampNeg)]) (st' := [.int x1, .long (h.2.1 334 ((h.1 264 108) - 1).toNatClampNeg), .int ((h.1 332 x2.toNatClampNeg) - 60), .ref 264, .int ((h.1 264 108) - 1), .ref 334]) (h' := h) rfl).trans ?_
        refine (mm_c2 (y := 309) (as := [.ref 264, .int ((h.1 332 x2.toNatClampNeg) - 60), .long (h.2.1 334 ((h.1 264 108) - 1).toNatClampNeg), .int x1]) (nx := 78) (rest := [.int ((h.1 264 108) - 1), .ref 334]) rfl rfl).trans (mm_congL fun v9 h8 => ?_)
        refine (mm_c2 (y := 304) (as := [.long v9]) (nx := 81) (rest := [.int ((h.1 264 108) - 1), .ref 334]) rfl rfl).trans (mm_congL fun v11 h10 => ?_)
        refine (mm_gd (c := ((h.1 264 108) - 1) < 0 ∨ 1700 ≤ ((h.1 264 108) - 1).toNatClampNeg) (p1 := 82) (l1 := [.ref 264, .int x1, .int x2, .int (h.1 332 x2.toNatClampNeg)]) (s1 := []) (h1 := wL h10 334 (((h.1 264 108) - 1).toNatClampNeg) v11) rfl (q_last (n := 1700) rfl)).trans (mm_ite rfl ?_)
        exact mm_by 3 rfl
    · refine (mm_by 5 (pc' := 36) (ls' := [.ref 264, .int x1, .int x2, .int (h.1 332 x2.toNatClampNeg)]) (st' := [.long (((h.1 332 x2.toNatClampNeg) - 1000).toInt64), .ref 264]) (h' := h) rfl).trans ?_
      refine (mm_c0 (y := 306) (as := [.ref 264, .long (((h.1 332 x2.toNatClampNeg) - 1000).toInt64)]) (nx := 39) (rest := []) rfl rfl).trans (mm_congV fun h12 => ?_)
      exact mm_by 3 rfl
set_option maxRecDepth 100000 in
set_option maxHeartbeats 4000000 in
theorem U_X12_qKind {d : Nat} {h : mm_H} : mm_M mm_T0 (d + 1) 311 [.ref 264] h = (mm_bI (mm_M mm_T0 d 196 [.ref 264, .ref 307] h) (fun v2 h1 => if v2 = 0 then (mm_bI (mm_M mm_T0 d 196 [.ref 264, .ref 308] h1) (fun v4 h3 => if v4 = 0 then (mm_bI (mm_M mm_T0 d 196 [.ref 264, .ref 309] h3) (fun v6 h5 => if v6 = 0 then (mm_bI (mm_M mm_T0 d 196 [.ref 264, .ref 310] h5) (fun v8 h7 => if v8 = 0 then (mm_bI (mm_M mm_T0 d 196 [.ref 264, .ref 311] h7) (fun v10 h9 => if v10 = 0 then (mm_bV (mm_M mm_T0 d 197 [.ref 264, .ref 312] h9) (fun h11 => some (some (.int 5), h11))) else (some (some (.int 4), h9)))) else (some (some (.int 3), h7)))) else (some (some (.int 2), h5)))) else (some (some (.int 1), h3)))) else (some (some (.int 0), h1)))) := by
  refine (mm_M_eq (ls := [.ref 264, .null]) rfl (Nat.le_of_ble_eq_true rfl) rfl h).trans ?_
  refine (mm_by 3 (pc' := 5) (ls' := [.ref 264, .null]) (st' := [.ref 307, .ref 264]) (h' := h) rfl).trans ?_
  refine (mm_c1 (y := 196) (as := [.ref 264, .ref 307]) (nx := 8) (rest := []) rfl rfl).trans (mm_congI fun v2 h1 => ?_)
  refine (mm_br (c := v2 = 0) (p1 := 15) (p2 := 11) (l1 := [.ref 264, .null]) (l2 := [.ref 264, .null]) (s1 := []) (s2 := []) (h1 := h1) (h2 := h1) rfl rfl).trans (mm_ite ?_ ?_)
  · refine (mm_by 3 (pc' := 20) (ls' := [.ref 264, .null]) (st' := [.ref 308, .ref 264]) (h' := h1) rfl).trans ?_
    refine (mm_c1 (y := 196) (as := [.ref 264, .ref 308]) (nx := 23) (rest := []) rfl rfl).trans (mm_congI fun v4 h3 => ?_)
    refine (mm_br (c := v4 = 0) (p1 := 30) (p2 := 26) (l1 := [.ref 264, .null]) (l2 := [.ref 264, .null]) (s1 := []) (s2 := []) (h1 := h3) (h2 := h3) rfl rfl).trans (mm_ite ?_ ?_)
    · refine (mm_by 3 (pc' := 35) (ls' := [.ref 264, .null]) (st' := [.ref 309, .ref 264]) (h' := h3) rfl).trans ?_
      refine (mm_c1 (y := 196) (as := [.ref 264, .ref 309]) (nx := 38) (rest := []) rfl rfl).trans (mm_congI fun v6 h5 => ?_)
      refine (mm_br (c := v6 = 0) (p1 := 45) (p2 := 41) (l1 := [.ref 264, .null]) (l2 := [.ref 264, .null]) (s1 := []) (s2 := []) (h1 := h5) (h2 := h5) rfl rfl).trans (mm_ite ?_ ?_)
      · refine (mm_by 3 (pc' := 50) (ls' := [.ref 264, .null]) (st' := [.ref 310, .ref 264]) (h' := h5) rfl).trans ?_
        refine (mm_c1 (y := 196) (as := [.ref 264, .ref 310]) (nx := 53) (rest := []) rfl rfl).trans (mm_congI fun v8 h7 => ?_)
        refine (mm_br (c := v8 = 0) (p1 := 60) (p2 := 56) (l1 := [.ref 264, .null]) (l2 := [.ref 264, .null]) (s1 := []) (s2 := []) (h1 := h7) (h2 := h7) rfl rfl).trans (mm_ite ?_ ?_)
        · refine (mm_by 3 (pc' := 65) (ls' := [.ref 264, .null]) (st' := [.ref 311, .ref 264]) (h' := h7) rfl).trans ?_
          refine (mm_c1 (y := 196) (as := [.ref 264, .ref 311]) (nx := 68) (rest := []) rfl rfl).trans (mm_congI fun v10 h9 => ?_)
          refine (mm_br (c := v10 = 0) (p1 := 75) (p2 := 71) (l1 := [.ref 264, .null]) (l2 := [.ref 264, .null]) (s1 := []) (s2 := []) (h1 := h9) (h2 := h9) rfl rfl).trans (mm_ite ?_ ?_)
          · refine (mm_by 8 (pc' := 87) (ls' := [.ref 264, .int 5]) (st' := [.ref 312, .ref 264]) (h' := h9) rfl).trans ?_
            refine (mm_c0 (y := 197) (as := [.ref 264, .ref 312]) (nx := 90) (rest := []) rfl rfl).trans (mm_congV fun h11 => ?_)
            exact mm_by_end 2 rfl
          · exact mm_by_end 8 rfl
        · exact mm_by_end 8 rfl
      · exact mm_by_end 8 rfl
    · exact mm_by_end 8 rfl
  · exact mm_by_end 8 rfl
set_option maxRecDepth 100000 in
set_option maxHeartbeats 4000000 in
theorem U_X12_qTakes {d : Nat} {x1 : Int32} {x2 : Int64} {x4 : Int32} {h : mm_H} : mm_M mm_T0 (d + 1) 312 [.ref 264, .int x1, .long x2, .int x4] h = (if 3 ≤ x1 then (mm_D (mm_M mm_T0 d) cd_X12_qTakes 15 [.ref 264, .int x1, .long x2, .null, .int x4, .null] [] h) else (if ¬ (lg_cmp x2 1) = 0 then (mm_D (mm_M mm_T0 d) cd_X12_qTakes 15 [.ref 264, .int x1, .long x2, .null, .int x4, .null] [] h) else (if ¬ x1 = 0 then (mm_D (mm_M mm_T0 d) cd_X12_qTakes 38 [.ref 264, .int x1, .long x2, .null, .int x4, .int 1] [] h) else (if (lg_cmp (h.2.1 264 109) ((-1))) = 0 then (mm_D (mm_M mm_T0 d) cd_X12_qTakes 48 [.ref 264, .int x1, .long x2, .null, .int x4, .int 1] [] h) else (mm_D (mm_M mm_T0 d) cd_X12_qTakes 38 [.ref 264, .int x1, .long x2, .null, .int x4, .int 1] [] h))))) := by
  refine (mm_M_eq (ls := [.ref 264, .int x1, .long x2, .null, .int x4, .null]) rfl (Nat.le_of_ble_eq_true rfl) rfl h).trans ?_
  refine (mm_by 2 (pc' := 2) (ls' := [.ref 264, .int x1, .long x2, .null, .int x4, .null]) (st' := [.int 3, .int x1]) (h' := h) rfl).trans ?_
  refine (mm_br (c := 3 ≤ x1) (p1 := 15) (p2 := 5) (l1 := [.ref 264, .int x1, .long x2, .null, .int x4, .null]) (l2 := [.ref 264, .int x1, .long x2, .null, .int x4, .null]) (s1 := []) (s2 := []) (h1 := h) (h2 := h) rfl rfl).trans (mm_ite ?_ ?_)
  · exact rfl
  · refine (mm_by 3 (pc' := 8) (ls' := [.ref 264, .int x1, .long x2, .null, .int x4, .null]) (st' := [.int (lg_cmp x2 1)]) (h' := h) rfl).trans ?_
    refine (mm_br (c := ¬ (lg_cmp x2 1) = 0) (p1 := 15) (p2 := 11) (l1 := [.ref 264, .int x1, .long x2, .null, .int x4, .null]) (l2 := [.ref 264, .int x1, .long x2, .null, .int x4, .null]) (s1 := []) (s2 := []) (h1 := h) (h2 := h) rfl rfl).trans (mm_ite ?_ ?_)
    · exact rfl
    · refine (mm_by 4 (pc' := 19) (ls' := [.ref 264, .int x1, .long x2, .null, .int x4, .int 1]) (st' := [.int x1]) (h' := h) rfl).trans ?_
      refine (mm_br (c := ¬ x1 = 0) (p1 := 38) (p2 := 22) (l1 := [.ref 264, .int x1, .long x2, .null, .int x4, .int 1]) (l2 := [.ref 264, .int x1, .long x2, .null, .int x4, .int 1]) (s1 := []) (s2 := []) (h1 := h) (h2 := h) rfl rfl).trans (mm_ite ?_ ?_)
      · exact rfl
      · refine (mm_by 6 (pc' := 35) (ls' := [.ref 264, .int x1, .long x2, .null, .int x4, .int 1]) (st' := [.int (lg_cmp (h.2.1 264 109) ((-1)))]) (h' := h) rfl).trans ?_
        refine (mm_br (c := (lg_cmp (h.2.1 264 109) ((-1))) = 0) (p1 := 48) (p2 := 38) (l1 := [.ref 264, .int x1, .long x2, .null, .int x4, .int 1]) (l2 := [.ref 264, .int x1, .long x2, .null, .int x4, .int 1]) (s1 := []) (s2 := []) (h1 := h) (h2 := h) rfl rfl).trans (mm_ite ?_ ?_)
        · exact rfl
        · exact rfl
set_option maxRecDepth 100000 in
set_option maxHeartbeats 4000000 in
theorem U_X12_qTakes_15 {d : Nat} {x1 : Int32} {x2 : Int64} {x4 : Int32} {h : mm_H} : mm_D (mm_M mm_T0 d) cd_X12_qTakes 15 [.ref 264, .int x1, .long x2, .null, .int x4, .null] [] h = (if ¬ x1 = 0 then (mm_D (mm_M mm_T0 d) cd_X12_qTakes 38 [.ref 264, .int x1, .long x2, .null, .int x4, .int 0] [] h) else (mm_D (mm_M mm_T0 d) cd_X12_qTakes 38 [.ref 264, .int x1, .long x2, .null, .int x4, .int 0] [] h)) := by
  refine (mm_by 3 (pc' := 19) (ls' := [.ref 264, .int x1, .long x2, .null, .int x4, .int 0]) (st' := [.int x1]) (h' := h) rfl).trans ?_
  refine (mm_br (c := ¬ x1 = 0) (p1 := 38) (p2 := 22) (l1 := [.ref 264, .int x1, .long x2, .null, .int x4, .int 0]) (l2 := [.ref 264, .int x1, .long x2, .null, .int x4, .int 0]) (s1 := []) (s2 := []) (h1 := h) (h2 := h) rfl rfl).trans (mm_ite ?_ ?_)
  · exact rfl
  · exact mm_by 2 rfl
set_option maxRecDepth 100000 in
set_option maxHeartbeats 4000000 in
theorem U_X12_qTakes_38 {d : Nat} {x1 : Int32} {x2 : Int64} {x4 : Int32} {x5 : Int32} {h : mm_H} : mm_D (mm_M mm_T0 d) cd_X12_qTakes 38 [.ref 264, .int x1, .long x2, .null, .int x4, .int x5] [] h = (if ¬ x1 = 1 then (mm_D (mm_M mm_T0 d) cd_X12_qTakes 55 [.ref 264, .int x1, .long x2, .null, .int x4, .int x5] [] h) else (if x5 = 0 then (mm_D (mm_M mm_T0 d) cd_X12_qTakes 55 [.ref 264, .int x1, .long x2, .null, .int x4, .int x5] [] h) else (mm_D (mm_M mm_T0 d) cd_X12_qTakes 48 [.ref 264, .int x1, .long x2, .null, .int x4, .int x5] [] h))) := by
  refine (mm_by 2 (pc' := 40) (ls' := [.ref 264, .int x1, .long x2, .null, .int x4, .int x5]) (st' := [.int 1, .int x1]) (h' := h) rfl).trans ?_
  refine (mm_br (c := ¬ x1 = 1) (p1 := 55) (p2 := 43) (l1 := [.ref 264, .int x1, .long x2, .null, .int x4, .int x5]) (l2 := [.ref 264, .int x1, .long x2, .null, .int x4, .int x5]) (s1 := []) (s2 := []) (h1 := h) (h2 := h) rfl rfl).trans (mm_ite ?_ ?_)
  · exact rfl
  · refine (mm_by 1 (pc' := 45) (ls' := [.ref 264, .int x1, .long x2, .null, .int x4, .int x5]) (st' := [.int x5]) (h' := h) rfl).trans ?_
    refine (mm_br (c := x5 = 0) (p1 := 55) (p2 := 48) (l1 := [.ref 264, .int x1, .long x2, .null, .int x4, .int x5]) (l2 := [.ref 264, .int x1, .long x2, .null, .int x4, .int x5]) (s1 := []) (s2 := []) (h1 := h) (h2 := h) rfl rfl).trans (mm_ite ?_ ?_)
    · exact rfl
    · exact rfl
set_option maxRecDepth 100000 in
set_option maxHeartbeats 4000000 in
theorem U_X12_qTakes_48 {d : Nat} {x1 : Int32} {x2 : Int64} {x4 : Int32} {x5 : Int32} {h : mm_H} : mm_D (mm_M mm_T0 d) cd_X12_qTakes 48 [.ref 264, .int x1, .long x2, .null, .int x4, .int x5] [] h = (mm_D (mm_M mm_T0 d) cd_X12_qTakes 55 [.ref 264, .int x1, .long x2, .null, .int x4, .int x5] [] (wL h 264 109 x4.toInt64)) := by
  exact mm_by 4 rfl
set_option maxRecDepth 100000 in
set_option maxHeartbeats 4000000 in
theorem U_X12_qTakes_55 {d : Nat} {x1 : Int32} {x2 : Int64} {x4 : Int32} {x5 : Int32} {h : mm_H} : mm_D (mm_M mm_T0 d) cd_X12_qTakes 55 [.ref 264, .int x1, .long x2, .null, .int x4, .int x5] [] h = (if ¬ x1 = 2 then (mm_D (mm_M mm_T0 d) cd_X12_qTakes 75 [.ref 264, .int x1, .long x2, .null, .int x4, .int x5] [] h) else (if x5 = 0 then (mm_D (mm_M mm_T0 d) cd_X12_qTakes 75 [.ref 264, .int x1, .long x2, .null, .int x4, .int x5] [] h) else (mm_D (mm_M mm_T0 d) cd_X12_qTakes 75 [.ref 264, .int x1, .long x2, .null, .int x4, .int x5] [] (wL h 264 109 ((h.2.1 264 109) + 1))))) := by
  refine (mm_by 2 (pc' := 57) (ls' := [.ref 264, .int x1, .long x2, .null, .int x4, .int x5]) (st' := [.int 2, .int x1]) (h' := h) rfl).trans ?_
  refine (mm_br (c := ¬ x1 = 2) (p1 := 75) (p2 := 60) (l1 := [.ref 264, .int x1, .long x2, .null, .int x4, .int x5]) (l2 := [.ref 264, .int x1, .long x2, .null, .int x4, .int x5]) (s1 := []) (s2 := []) (h1 := h) (h2 := h) rfl rfl).trans (mm_ite ?_ ?_)
  · exact rfl
  · refine (mm_by 1 (pc' := 62) (ls' := [.ref 264, .int x1, .long x2, .null, .int x4, .int x5]) (st' := [.int x5]) (h' := h) rfl).trans ?_
    refine (mm_br (c := x5 = 0) (p1 := 75) (p2 := 65) (l1 := [.ref 264, .int x1, .long x2, .null, .int x4, .int x5]) (l2 := [.ref 264, .int x1, .long x2, .null, .int x4, .int x5]) (s1 := []) (s2 := []) (h1 := h) (h2 := h) rfl rfl).trans (mm_ite ?_ ?_)
    · exact rfl
    · exact mm_by 6 rfl
set_option maxRecDepth 100000 in
set_option maxHeartbeats 4000000 in
theorem U_X12_qTakes_75 {d : Nat} {x1 : Int32} {x2 : Int64} {x4 : Int32} {x5 : Int32} {h : mm_H} : mm_D (mm_M mm_T0 d) cd_X12_qTakes 75 [.ref 264, .int x1, .long x2, .null, .int x4, .int x5] [] h = (if ¬ x1 = 3 then (mm_D (mm_M mm_T0 d) cd_X12_qTakes 90 [.ref 264, .int x1, .long x2, .null, .int x4, .int x5] [] h) else (mm_D (mm_M mm_T0 d) cd_X12_qTakes 90 [.ref 264, .int x1, .long x2, .null, .int x4, .int x5] [] (wL h 264 109 ((h.2.1 264 109) + x2)))) := by
  refine (mm_by 2 (pc' := 77) (ls' := [.ref 264, .int x1, .long x2, .null, .int x4, .int x5]) (st' := [.int 3, .int x1]) (h' := h) rfl).trans ?_
  refine (mm_br (c := ¬ x1 = 3) (p1 := 90) (p2 := 80) (l1 := [.ref 264, .int x1, .long x2, .null, .int x4, .int x5]) (l2 := [.ref 264, .int x1, .long x2, .null, .int x4, .int x5]) (s1 := []) (s2 := []) (h1 := h) (h2 := h) rfl rfl).trans (mm_ite ?_ ?_)
  · exact rfl
  · exact mm_by 6 rfl
set_option maxRecDepth 100000 in
set_option maxHeartbeats 4000000 in
theorem U_X12_qTakes_90 {d : Nat} {x1 : Int32} {x2 : Int64} {x4 : Int32} {x5 : Int32} {h : mm_H} : mm_D (mm_M mm_T0 d) cd_X12_qTakes 90 [.ref 264, .int x1, .long x2, .null, .int x4, .int x5] [] h = (if x1 ≤ 3 then (mm_D (mm_M mm_T0 d) cd_X12_qTakes 133 [.ref 264, .int x1, .long x2, .null, .int x4, .int x5] [] h) else (if ¬ (h.1 264 110) = 0 then (mm_D (mm_M mm_T0 d) cd_X12_qTakes 128 [.ref 264, .int x1, .long x2, .null, .int x4, .int x5] [] h) else (if ¬ x1 = 4 then (if 0 ≤ (lg_cmp x2 (h.2.1 264 109)) then (mm_D (mm_M mm_T0 d) cd_X12_qTakes 133 [.ref 264, .int x1, .long x2, .null, .int x4, .int x5] [] h) else (mm_D (mm_M mm_T0 d) cd_X12_qTakes 128 [.ref 264, .int x1, .long x2, .null, .int x4, .int x5] [] h)) else (if (lg_cmp x2 (h.2.1 264 109)) ≤ 0 then (mm_D (mm_M mm_T0 d) cd_X12_qTakes 133 [.ref 264, .int x1, .long x2, .null, .int x4, .int x5] [] h) else (mm_D (mm_M mm_T0 d) cd_X12_qTakes 128 [.ref 264, .int x1, .long x2, .null, .int x4, .int x5] [] h))))) := by
  refine (mm_by 2 (pc' := 92) (ls' := [.ref 264, .int x1, .long x2, .null, .int x4, .int x5]) (st' := [.int 3, .int x1]) (h' := h) rfl).trans ?_
  refine (mm_br (c := x1 ≤ 3) (p1 := 133) (p2 := 95) (l1 := [.ref 264, .int x1, .long x2, .null, .int x4, .int x5]) (l2 := [.ref 264, .int x1, .long x2, .null, .int x4, .int x5]) (s1 := []) (s2 := []) (h1 := h) (h2 := h) rfl rfl).trans (mm_ite ?_ ?_)
  · exact rfl
  · refine (mm_by 2 (pc' := 99) (ls' := [.ref 264, .int x1, .long x2, .null, .int x4, .int x5]) (st' := [.int (h.1 264 110)]) (h' := h) rfl).trans ?_
    refine (mm_br (c := ¬ (h.1 264 110) = 0) (p1 := 128) (p2 := 102) (l1 := [.ref 264, .int x1, .long x2, .null, .int x4, .int x5]) (l2 := [.ref 264, .int x1, .long x2, .null, .int x4, .int x5]) (s1 := []) (s2 := []) (h1 := h) (h2 := h) rfl rfl).trans (mm_ite ?_ ?_)
    · exact rfl
    · refine (mm_by 2 (pc' := 104) (ls' := [.ref 264, .int x1, .long x2, .null, .int x4, .int x5]) (st' := [.int 4, .int x1]) (h' := h) rfl).trans ?_
      refine (mm_br (c := ¬ x1 = 4) (p1 := 119) (p2 := 107) (l1 := [.ref 264, .int x1, .long x2, .null, .int x4, .int x5]) (l2 := [.ref 264, .int x1, .long x2, .null, .int x4, .int x5]) (s1 := []) (s2 := []) (h1 := h) (h2 := h) rfl rfl).trans (mm_ite ?_ ?_)
      · refine (mm_by 4 (pc' := 125) (ls' := [.ref 264, .int x1, .long x2, .null, .int x4, .int x5]) (st' := [.int (lg_cmp x2 (h.2.1 264 109))]) (h' := h) rfl).trans ?_
        refine (mm_br (c := 0 ≤ (lg_cmp x2 (h.2.1 264 109))) (p1 := 133) (p2 := 128) (l1 := [.ref 264, .int x1, .long x2, .null, .int x4, .int x5]) (l2 := [.ref 264, .int x1, .long x2, .null, .int x4, .int x5]) (s1 := []) (s2 := []) (h1 := h) (h2 := h) rfl rfl).trans (mm_ite ?_ ?_)
        · exact rfl
        · exact rfl
      · refine (mm_by 4 (pc' := 113) (ls' := [.ref 264, .int x1, .long x2, .null, .int x4, .int x5]) (st' := [.int (lg_cmp x2 (h.2.1 264 109))]) (h' := h) rfl).trans ?_
        refine (mm_br (c := (lg_cmp x2 (h.2.1 264 109)) ≤ 0) (p1 := 133) (p2 := 116) (l1 := [.ref 264, .int x1, .long x2, .null, .int x4, .int x5]) (l2 := [.ref 264, .int x1, .long x2, .null, .int x4, .int x5]) (s1 := []) (s2 := []) (h1 := h) (h2 := h) rfl rfl).trans (mm_ite ?_ ?_)
        · exact rfl
        · exact mm_by 1 rfl
set_option maxRecDepth 100000 in
set_option maxHeartbeats 4000000 in
theorem U_X12_qTakes_128 {d : Nat} {x1 : Int32} {x2 : Int64} {x4 : Int32} {x5 : Int32} {h : mm_H} : mm_D (mm_M mm_T0 d) cd_X12_qTakes 128 [.ref 264, .int x1, .long x2, .null, .int x4, .int x5] [] h = (mm_D (mm_M mm_T0 d) cd_X12_qTakes 133 [.ref 264, .int x1, .long x2, .null, .int x4, .int x5] [] (wL h 264 109 x2)) := by
  exact mm_by 3 rfl
set_option maxRecDepth 100000 in
set_option maxHeartbeats 4000000 in
theorem U_X12_qTakes_133 {d : Nat} {x1 : Int32} {x2 : Int64} {x4 : Int32} {x5 : Int32} {h : mm_H} : mm_D (mm_M mm_T0 d) cd_X12_qTakes 133 [.ref 264, .int x1, .long x2, .null, .int x4, .int x5] [] h = (some (none, wI h 264 110 0)) := by
  exact mm_by_end 4 rfl
set_option maxRecDepth 100000 in
set_option maxHeartbeats 4000000 in
theorem U_X12_ask {d : Nat} {h : mm_H} : mm_M mm_T0 (d + 1) 313 [.ref 264] h = (if ¬ (h.1 264 53) = 0 then (mm_bI (mm_M mm_T0 d 311 [.ref 264] (wI (wI (wI (wI (wI (wI (wI (wI (wI (wI (wI h 264 3 (h.1 264 1)) 264 1 0) 264 2 0) 264 4 ((-1))) 264 5 0) 264 6 ((-1))) 264 54 3) 264 102 0) 264 104 0) 264 105 0) 264 106 0)) (fun v2 h1 => if ¬ (h1.1 264 5) = 0 then (if ¬ (h1.1 264 5) = 0 then (if ¬ (h1.1 264 5) = 0 then (if ((wI (wI h1 264 7 (h1.1 264 5)) 264 8 ((wI h1 264 7 (h1.1 264 5)).1 264 6)).1 264 5) = 0 then (if 2 ≤ v2 then (mm_D (mm_M mm_T0 d) cd_X12_ask 188 [.ref 264, .int v2, .int 0] [] (wI (wI (wL (wI (wI h1 264 7 (h1.1 264 5)) 264 8 ((wI h1 264 7 (h1.1 264 5)).1 264 6)) 264 109 0) 264 110 1) 264 54 3)) else (mm_D (mm_M mm_T0 d) cd_X12_ask 188 [.ref 264, .int v2, .int 0] [] (wI (wI (wL (wI (wI h1 264 7 (h1.1 264 5)) 264 8 ((wI h1 264 7 (h1.1 264 5)).1 264 6)) 264 109 ((-1))) 264 110 1) 264 54 3))) else (some (some (.long ((-1000000000000000))), wI (wI h1 264 7 (h1.1 264 5)) 264 8 ((wI h1 264 7 (h1.1 264 5)).1 264 6)))) else (mm_bI (mm_M mm_T0 d 194 [.ref 264] h1) (fun v4 h3 => if v4 = ((-1)) then (if ((wI (wI h3 264 7 (h3.1 264 5)) 264 8 ((wI h3 264 7 (h3.1 264 5)).1 264 6)).1 264 5) = 0 then (if 2 ≤ v2 then (mm_D (mm_M mm_T0 d) cd_X12_ask 188 [.ref 264, .int v2, .int 0] [] (wI (wI (wL (wI (wI h3 264 7 (h3.1 264 5)) 264 8 ((wI h3 264 7 (h3.1 264 5)).1 264 6)) 264 109 0) 264 110 1) 264 54 3)) else (mm_D (mm_M mm_T0 d) cd_X12_ask 188 [.ref 264, .int v2, .int 0] [] (wI (wI (wL (wI (wI h3 264 7 (h3.1 264 5)) 264 8 ((wI h3 264 7 (h3.1 264 5)).1 264 6)) 264 109 ((-1))) 264 110 1) 264 54 3))) else (some (some (.long ((-1000000000000000))), wI (wI h3 264 7 (h3.1 264 5)) 264 8 ((wI h3 264 7 (h3.1 264 5)).1 264 6)))) else (mm_bV (mm_M mm_T0 d 191 [.ref 264, .int 1, .int (h3.1 264 2)] h3) (fun h5 => if ((wI (wI h5 264 7 (h5.1 264 5)) 264 8 ((wI h5 264 7 (h5.1 264 5)).1 264 6)).1 264 5) = 0 then (if 2 ≤ v2 then (mm_D (mm_M mm_T0 d) cd_X12_ask 188 [.ref 264, .int v2, .int 0] [] (wI (wI (wL (wI (wI h5 264 7 (h5.1 264 5)) 264 8 ((wI h5 264 7 (h5.1 264 5)).1 264 6)) 264 109 0) 264 110 1) 264 54 3)) else (mm_D (mm_M mm_T0 d) cd_X12_ask 188 [.ref 264, .int v2, .int 0] [] (wI (wI (wL (wI (wI h5 264 7 (h5.1 264 5)) 264 8 ((wI h5 264 7 (h5.1 264 5)).1 264 6)) 264 109 ((-1))) 264 110 1) 264 54 3))) else (some (some (.long ((-1000000000000000))), wI (wI h5 264 7 (h5.1 264 5)) 264 8 ((wI h5 264 7 (h5.1 264 5)).1 264 6)))))))) else (mm_bV (mm_M mm_T0 d 298 [.ref 264] h1) (fun h6 => if ¬ (h6.1 264 5) = 0 then (if ((wI (wI h6 264 7 (h6.1 264 5)) 264 8 ((wI h6 264 7 (h6.1 264 5)).1 264 6)).1 264 5) = 0 then (if 2 ≤ v2 then (mm_D (mm_M mm_T0 d) cd_X12_ask 188 [.ref 264, .int v2, .int 0] [] (wI (wI (wL (wI (wI h6 264 7 (h6.1 264 5)) 264 8 ((wI h6 264 7 (h6.1 264 5)).1 264 6)) 264 109 0) 264 110 1) 264 54 3)) else (mm_D (mm_M mm_T0 d) cd_X12_ask 188 [.ref 264, .int v2, .int 0] [] (wI (wI (wL (wI (wI h6 264 7 (h6.1 264 5)) 264 8 ((wI h6 264 7 (h6.1 264 5)).1 264 6)) 264 109 ((-1))) 264 110 1) 264 54 3))) else (some (some (.long ((-1000000000000000))), wI (wI h6 264 7 (h6.1 264 5)) 264 8 ((wI h6 264 7 (h6.1 264 5)).1 264 6)))) else (mm_bI (mm_M mm_T0 d 194 [.ref 264] h6) (fun v8 h7 => if v8 = ((-1)) then (if ((wI (wI h7 264 7 (h7.1 264 5)) 264 8 ((wI h7 264 7 (h7.1 264 5)).1 264 6)).1 264 5) = 0 then (if 2 ≤ v2 then (mm_D (mm_M mm_T0 d) cd_X12_ask 188 [.ref 264, .int v2, .int 0] [] (wI (wI (wL (wI (wI h7 264 7 (h7.1 264 5)) 264 8 ((wI h7 264 7 (h7.1 264 5)).1 264 6)) 264 109 0) 264 110 1) 264 54 3)) else (mm_D (mm_M mm_T0 d) cd_X12_ask 188 [.ref 264, .int v2, .int 0] [] (wI (wI (wL (wI (wI h7 264 7 (h7.1 264 5)) 264 8 ((wI h7 264 7 (h7.1 264 5)).1 264 6)) 264 109 ((-1))) 264 110 1) 264 54 3))) else (some (some (.long ((-1000000000000000))), wI (wI h7 264 7 (h7.1 264 5)) 264 8 ((wI h7 264 7 (h7.1 264 5)).1 264 6)))) else (mm_bV (mm_M mm_T0 d 191 [.ref 264, .int 1, .int (h7.1 264 2)] h7) (fun h9 => if ((wI (wI h9 264 7 (h9.1 264 5)) 264 8 ((wI h9 264 7 (h9.1 264 5)).1 264 6)).1 264 5) = 0 then (if 2 ≤ v2 then (mm_D (mm_M mm_T0 d) cd_X12_ask 188 [.ref 264, .int v2, .int 0] [] (wI (wI (wL (wI (wI h9 264 7 (h9.1 264 5)) 264 8 ((wI h9 264 7 (h9.1 264 5)).1 264 6)) 264 109 0) 264 110 1) 264 54 3)) else (mm_D (mm_M mm_T0 d) cd_X12_ask 188 [.ref 264, .int v2, .int 0] [] (wI (wI (wL (wI (wI h9 264 7 (h9.1 264 5)) 264 8 ((wI h9 264 7 (h9.1 264 5)).1 264 6)) 264 109 ((-1))) 264 110 1) 264 54 3))) else (some (some (.long ((-1000000000000000))), wI (wI h9 264 7 (h9.1 264 5)) 264 8 ((wI h9 264 7 (h9.1 264 5)).1 264 6)))))))))) else (if 3 ≤ v2 then (if ¬ (h1.1 264 5) = 0 then (if ¬ (h1.1 264 5) = 0 then (if ((wI (wI h1 264 7 (h1.1 264 5)) 264 8 ((wI h1 264 7 (h1.1 264 5)).1 264 6)).1 264 5) = 0 then (if 2 ≤ v2 then (mm_D (mm_M mm_T0 d) cd_X12_ask 188 [.ref 264, .int v2, .int 0] [] (wI (wI (wL (wI (wI h1 264 7 (h1.1 264 5)) 264 8 ((wI h1 264 7 (h1.1 264 5)).1 264 6)) 264 109 0) 264 110 1) 264 54 3)) else (mm_D (mm_M mm_T0 d) cd_X12_ask 188 [.ref 264, .int v2, .int 0] [] (wI (wI (wL (wI (wI h1 264 7 (h1.1 264 5)) 264 8 ((wI h1 264 7 (h1.1 264 5)).1 264 6)) 264 109 ((-1))) 264 110 1) 264 54 3))) else (some (some (.long ((-1000000000000000))), wI (wI h1 264 7 (h1.1 264 5)) 264 8 ((wI h1 264 7 (h1.1 264 5)).1 264 6)))) else (mm_bI (mm_M mm_T0 d 194 [.ref 264] h1) (fun v11 h10 => if v11 = ((-1)) then (if ((wI (wI h10 264 7 (h10.1 264 5)) 264 8 ((wI h10 264 7 (h10.1 264 5)).1 264 6)).1 264 5) = 0 then (if 2 ≤ v2 then (mm_D (mm_M mm_T0 d) cd_X12_ask 188 [.ref 264, .int v2, .int 0] [] (wI (wI (wL (wI (wI h10 264 7 (h10.1 264 5)) 264 8 ((wI h10 264 7 (h10.1 264 5)).1 264 6)) 264 109 0) 264 110 1) 264 54 3)) else (mm_D (mm_M mm_T0 d) cd_X12_ask 188 [.ref 264, .int v2, .int 0] [] (wI (wI (wL (wI (wI h10 264 7 (h10.1 264 5)) 264 8 ((wI h10 264 7 (h10.1 264 5)).1 264 6)) 264 109 ((-1))) 264 110 1) 264 54 3))) else (some (some (.long ((-1000000000000000))), wI (wI h10 264 7 (h10.1 264 5)) 264 8 ((wI h10 264 7 (h10.1 264 5)).1 264 6)))) else (mm_bV (mm_M mm_T0 d 191 [.ref 264, .int 1, .int (h10.1 264 2)] h10) (fun h12 => if ((wI (wI h12 264 7 (h12.1 264 5)) 264 8 ((wI h12 264 7 (h12.1 264 5)).1 264 6)).1 264 5) = 0 then (if 2 ≤ v2 then (mm_D (mm_M mm_T0 d) cd_X12_ask 188 [.ref 264, .int v2, .int 0] [] (wI (wI (wL (wI (wI h12 264 7 (h12.1 264 5)) 264 8 ((wI h12 264 7 (h12.1 264 5)).1 264 6)) 264 109 0) 264 110 1) 264 54 3)) else (mm_D (mm_M mm_T0 d) cd_X12_ask 188 [.ref 264, .int v2, .int 0] [] (wI (wI (wL (wI (wI h12 264 7 (h12.1 264 5)) 264 8 ((wI h12 264 7 (h12.1 264 5)).1 264 6)) 264 109 ((-1))) 264 110 1) 264 54 3))) else (some (some (.long ((-1000000000000000))), wI (wI h12 264 7 (h12.1 264 5)) 264 8 ((wI h12 264 7 (h12.1 264 5)).1 264 6)))))))) else (mm_bV (mm_M mm_T0 d 298 [.ref 264] h1) (fun h13 => if ¬ (h13.1 264 5) = 0 then (if ((wI (wI h13 264 7 (h13.1 264 5)) 264 8 ((wI h13 264 7 (h13.1 264 5)).1 264 6)).1 264 5) = 0 then (if 2 ≤ v2 then (mm_D (mm_M mm_T0 d) cd_X12_ask 188 [.ref 264, .int v2, .int 0] [] (wI (wI (wL (wI (wI h13 264 7 (h13.1 264 5)) 264 8 ((wI h13 264 7 (h13.1 264 5)).1 264 6)) 264 109 0) 264 110 1) 264 54 3)) else (mm_D (mm_M mm_T0 d) cd_X12_ask 188 [.ref 264, .int v2, .int 0] [] (wI (wI (wL (wI (wI h13 264 7 (h13.1 264 5)) 264 8 ((wI h13 264 7 (h13.1 264 5)).1 264 6)) 264 109 ((-1))) 264 110 1) 264 54 3))) else (some (some (.long ((-1000000000000000))), wI (wI h13 264 7 (h13.1 264 5)) 264 8 ((wI h13 264 7 (h13.1 264 5)).1 264 6)))) else (mm_bI (mm_M mm_T0 d 194 [.ref 264] h13) (fun v15 h14 => if v15 = ((-1)) then (if ((wI (wI h14 264 7 (h14.1 264 5)) 264 8 ((wI h14 264 7 (h14.1 264 5)).1 264 6)).1 264 5) = 0 then (if 2 ≤ v2 then (mm_D (mm_M mm_T0 d) cd_X12_ask 188 [.ref 264, .int v2, .int 0] [] (wI (wI (wL (wI (wI h14 264 7 (h14.1 264 5)) 264 8 ((wI h14 264 7 (h14.1 264 5)).1 264 6)) 264 109 0) 264 110 1) 264 54 3)) else (mm_D (mm_M mm_T0 d) cd_X12_ask 188 [.ref 264, .int v2, .int 0] [] (wI (wI (wL (wI (wI h14 264 7 (h14.1 264 5)) 264 8 ((wI h14 264 7 (h14.1 264 5)).1 264 6)) 264 109 ((-1))) 264 110 1) 264 54 3))) else (some (some (.long ((-1000000000000000))), wI (wI h14 264 7 (h14.1 264 5)) 264 8 ((wI h14 264 7 (h14.1 264 5)).1 264 6)))) else (mm_bV (mm_M mm_T0 d 191 [.ref 264, .int 1, .int (h14.1 264 2)] h14) (fun h16 => if ((wI (wI h16 264 7 (h16.1 264 5)) 264 8 ((wI h16 264 7 (h16.1 264 5)).1 264 6)).1 264 5) = 0 then (if 2 ≤ v2 then (mm_D (mm_M mm_T0 d) cd_X12_ask 188 [.ref 264, .int v2, .int 0] [] (wI (wI (wL (wI (wI h16 264 7 (h16.1 264 5)) 264 8 ((wI h16 264 7 (h16.1 264 5)).1 264 6)) 264 109 0) 264 110 1) 264 54 3)) else (mm_D (mm_M mm_T0 d) cd_X12_ask 188 [.ref 264, .int v2, .int 0] [] (wI (wI (wL (wI (wI h16 264 7 (h16.1 264 5)) 264 8 ((wI h16 264 7 (h16.1 264 5)).1 264 6)) 264 109 ((-1))) 264 110 1) 264 54 3))) else (some (some (.long ((-1000000000000000))), wI (wI h16 264 7 (h16.1 264 5)) 264 8 ((wI h16 264 7 (h16.1 264 5)).1 264 6)))))))))) else (mm_bV (mm_M mm_T0 d 302 [.ref 264] h1) (fun h17 => if ¬ (h17.1 264 5) = 0 then (if ((wI (wI h17 264 7 (h17.1 264 5)) 264 8 ((wI h17 264 7 (h17.1 264 5)).1 264 6)).1 264 5) = 0 then (if 2 ≤ v2 then (mm_D (mm_M mm_T0 d) cd_X12_ask 188 [.ref 264, .int v2, .int 0] [] (wI (wI (wL (wI (wI h17 264 7 (h17.1 264 5)) 264 8 ((wI h17 264 7 (h17.1 264 5)).1 264 6)) 264 109 0) 264 110 1) 264 54 3)) else (mm_D (mm_M mm_T0 d) cd_X12_ask 188 [.ref 264, .int v2, .int 0] [] (wI (wI (wL (wI (wI h17 264 7 (h17.1 264 5)) 264 8 ((wI h17 264 7 (h17.1 264 5)).1 264 6)) 264 109 ((-1))) 264 110 1) 264 54 3))) else (some (some (.long ((-1000000000000000))), wI (wI h17 264 7 (h17.1 264 5)) 264 8 ((wI h17 264 7 (h17.1 264 5)).1 264 6)))) else (mm_bI (mm_M mm_T0 d 194 [.ref 264] h17) (fun v19 h18 => if v19 = ((-1)) then (if ((wI (wI h18 264 7 (h18.1 264 5)) 264 8 ((wI h18 264 7 (h18.1 264 5)).1 264 6)).1 264 5) = 0 then (if 2 ≤ v2 then (mm_D (mm_M mm_T0 d) cd_X12_ask 188 [.ref 264, .int v2, .int 0] [] (wI (wI (wL (wI (wI h18 264 7 (h18.1 264 5)) 264 8 ((wI h18 264 7 (h18.1 264 5)).1 264 6)) 264 109 0) 264 110 1) 264 54 3)) else (mm_D (mm_M mm_T0 d) cd_X12_ask 188 [.ref 264, .int v2, .int 0] [] (wI (wI (wL (wI (wI h18 264 7 (h18.1 264 5)) 264 8 ((wI h18 264 7 (h18.1 264 5)).1 264 6)) 264 109 ((-1))) 264 110 1) 264 54 3))) else (some (some (.long ((-1000000000000000))), wI (wI h18 264 7 (h18.1 264 5)) 264 8 ((wI h18 264 7 (h18.1 264 5)).1 264 6)))) else (mm_bV (mm_M mm_T0 d 191 [.ref 264, .int 1, .int (h18.1 264 2)] h18) (fun h20 => if ((wI (wI h20 264 7 (h20.1 264 5)) 264 8 ((wI h20 264 7 (h20.1 264 5)).1 264 6)).1 264 5) = 0 then (if 2 ≤ v2 then (mm_D (mm_M mm_T0 d) cd_X12_ask 188 [.ref 264, .int v2, .int 0] [] (wI (wI (wL (wI (wI h20 264 7 (h20.1 264 5)) 264 8 ((wI h20 264 7 (h20.1 264 5)).1 264 6)) 264 109 0) 264 110 1) 264 54 3)) else (mm_D (mm_M mm_T0 d) cd_X12_ask 188 [.ref 264, .int v2, .int 0] [] (wI (wI (wL (wI (wI h20 264 7 (h20.1 264 5)) 264 8 ((wI h20 264 7 (h20.1 264 5)).1 264 6)) 264 109 ((-1))) 264 110 1) 264 54 3))) else (some (some (.long ((-1000000000000000))), wI (wI h20 264 7 (h20.1 264 5)) 264 8 ((wI h20 264 7 (h20.1 264 5)).1 264 6)))))))))))) else (some (some (.long ((-1000000000000000))), wI h 264 1 0))) := by
  refine (mm_M_eq (ls := [.ref 264, .null, .null]) rfl (Nat.le_of_ble_eq_true rfl) rfl h).trans ?_
  refine (mm_by 2 (pc' := 4) (ls' := [.ref 264, .null, .null]) (st' := [.int (h.1 264 53)]) (h' := h) rfl).trans ?_
  refine (mm_br (c := ¬ (h.1 264 53) = 0) (p1 := 16) (p2 := 7) (l1 := [.ref 264, .null, .null]) (l2 := [.ref 264, .null, .null]) (s1 := []) (s2 := []) (h1 := h) (h2 := h) rfl rfl).trans (mm_ite ?_ ?_)
  · refine (mm_by 35 (pc' := 75) (ls' := [.ref 264, .null, .null]) (st' := [.ref 264]) (h' := wI (wI (wI (wI (wI (wI (wI (wI (wI (wI (wI h 264 3 (h.1 264 1)) 264 1 0) 264 2 0) 264 4 ((-1))) 264 5 0) 264 6 ((-1))) 264 54 3) 264 102 0) 264 104 0) 264 105 0) 264 106 0) rfl).trans ?_
    refine (mm_c1 (y := 311) (as := [.ref 264]) (nx := 78) (rest := []) rfl rfl).trans (mm_congI fun v2 h1 => ?_)
    refine (mm_by 3 (pc' := 83) (ls' := [.ref 264, .int v2, .null]) (st' := [.int (h1.1 264 5)]) (h' := h1) rfl).trans ?_
    refine (mm_br (c := ¬ (h1.1 264 5) = 0) (p1 := 98) (p2 := 86) (l1 := [.ref 264, .int v2, .null]) (l2 := [.ref 264, .int v2, .null]) (s1 := []) (s2 := []) (h1 := h1) (h2 := h1) rfl rfl).trans (mm_ite ?_ ?_)
    · refine (mm_by 2 (pc' := 102) (ls' := [.ref 264, .int v2, .null]) (st' := [.int (h1.1 264 5)]) (h' := h1) rfl).trans ?_
      refine (mm_br (c := ¬ (h1.1 264 5) = 0) (p1 := 109) (p2 := 105) (l1 := [.ref 264, .int v2, .null]) (l2 := [.ref 264, .int v2, .null]) (s1 := []) (s2 := []) (h1 := h1) (h2 := h1) rfl rfl).trans (mm_ite ?_ ?_)
      · refine (mm_by 2 (pc' := 113) (ls' := [.ref 264, .int v2, .null]) (st' := [.int (h1.1 264 5)]) (h' := h1) rfl).trans ?_
        refine (mm_br (c := ¬ (h1.1 264 5) = 0) (p1 := 133) (p2 := 116) (l1 := [.ref 264, .int v2, .null]) (l2 := [.ref 264, .int v2, .null]) (s1 := []) (s2 := []) (h1 := h1) (h2 := h1) rfl rfl).trans (mm_ite ?_ ?_)
        · refine (mm_by 10 (pc' := 153) (ls' := [.ref 264, .int v2, .null]) (st' := [.int ((wI (wI h1 264 7 (h1.1 264 5)) 264 8 ((wI h1 264 7 (h1.1 264 5)).1 264 6)).1 264 5)]) (h' := wI (wI h1 264 7 (h1.1 264 5)) 264 8 ((wI h1 264 7 (h1.1 264 5)).1 264 6)) rfl).trans ?_
          refine (mm_br (c := ((wI (wI h1 264 7 (h1.1 264 5)) 264 8 ((wI h1 264 7 (h1.1 264 5)).1 264 6)).1 264 5) = 0) (p1 := 160) (p2 := 156) (l1 := [.ref 264, .int v2, .null]) (l2 := [.ref 264, .int v2, .null]) (s1 := []) (s2 := []) (h1 := wI (wI h1 264 7 (h1.1 264 5)) 264 8 ((wI h1 264 7 (h1.1 264 5)).1 264 6)) (h2 := wI (wI h1 264 7 (h1.1 264 5)) 264 8 ((wI h1 264 7 (h1.1 264 5)).1 264 6)) rfl rfl).trans (mm_ite ?_ ?_)
          · refine (mm_by 3 (pc' := 163) (ls' := [.ref 264, .int v2, .null]) (st' := [.int 2, .int v2, .ref 264]) (h' := wI (wI h1 264 7 (h1.1 264 5)) 264 8 ((wI h1 264 7 (h1.1 264 5)).1 264 6)) rfl).trans ?_
            refine (mm_br (c := 2 ≤ v2) (p1 := 172) (p2 := 166) (l1 := [.ref 264, .int v2, .null]) (l2 := [.ref 264, .int v2, .null]) (s1 := [.ref 264]) (s2 := [.ref 264]) (h1 := wI (wI h1 264 7 (h1.1 264 5)) 264 8 ((wI h1 264 7 (h1.1 264 5)).1 264 6)) (h2 := wI (wI h1 264 7 (h1.1 264 5)) 264 8 ((wI h1 264 7 (h1.1 264 5)).1 264 6)) rfl rfl).trans (mm_ite ?_ ?_)
            · exact mm_by 10 rfl
            · exact mm_by 11 rfl
          · exact mm_by_end 2 rfl
        · refine (mm_by 1 (pc' := 117) (ls' := [.ref 264, .int v2, .null]) (st' := [.ref 264]) (h' := h1) rfl).trans ?_
          refine (mm_c1 (y := 194) (as := [.ref 264]) (nx := 120) (rest := []) rfl rfl).trans (mm_congI fun v4 h3 => ?_)
          refine (mm_by 1 (pc' := 121) (ls' := [.ref 264, .int v2, .null]) (st' := [.int ((-1)), .int v4]) (h' := h3) rfl).trans ?_
          refine (mm_br (c := v4 = ((-1))) (p1 := 133) (p2 := 124) (l1 := [.ref 264, .int v2, .null]) (l2 := [.ref 264, .int v2, .null]) (s1 := []) (s2 := []) (h1 := h3) (h2 := h3) rfl rfl).trans (mm_ite ?_ ?_)
          · refine (mm_by 10 (pc' := 153) (ls' := [.ref 264, .int v2, .null]) (st' := [.int ((wI (wI h3 264 7 (h3.1 264 5)) 264 8 ((wI h3 264 7 (h3.1 264 5)).1 264 6)).1 264 5)]) (h' := wI (wI h3 264 7 (h3.1 264 5)) 264 8 ((wI h3 264 7 (h3.1 264 5)).1 264 6)) rfl).trans ?_
            refine (mm_br (c := ((wI (wI h3 264 7 (h3.1 264 5)) 264 8 ((wI h3 264 7 (h3.1 264 5)).1 264 6)).1 264 5) = 0) (p1 := 160) (p2 := 156) (l1 := [.ref 264, .int v2, .null]) (l2 := [.ref 264, .int v2, .null]) (s1 := []) (s2 := []) (h1 := wI (wI h3 264 7 (h3.1 264 5)) 264 8 ((wI h3 264 7 (h3.1 264 5)).1 264 6)) (h2 := wI (wI h3 264 7 (h3.1 264 5)) 264 8 ((wI h3 264 7 (h3.1 264 5)).1 264 6)) rfl rfl).trans (mm_ite ?_ ?_)
            · refine (mm_by 3 (pc' := 163) (ls' := [.ref 264, .int v2, .null]) (st' := [.int 2, .int v2, .ref 264]) (h' := wI (wI h3 264 7 (h3.1 264 5)) 264 8 ((wI h3 264 7 (h3.1 264 5)).1 264 6)) rfl).trans ?_
              refine (mm_br (c := 2 ≤ v2) (p1 := 172) (p2 := 166) (l1 := [.ref 264, .int v2, .null]) (l2 := [.ref 264, .int v2, .null]) (s1 := [.ref 264]) (s2 := [.ref 264]) (h1 := wI (wI h3 264 7 (h3.1 264 5)) 264 8 ((wI h3 264 7 (h3.1 264 5)).1 264 6)) (h2 := wI (wI h3 264 7 (h3.1 264 5)) 264 8 ((wI h3 264 7 (h3.1 264 5)).1 264 6)) rfl rfl).trans (mm_ite ?_ ?_)
              · exact mm_by 10 rfl
              · exact mm_by 11 rfl
            · exact mm_by_end 2 rfl
          · refine (mm_by 4 (pc' := 130) (ls' := [.ref 264, .int v2, .null]) (st' := [.int (h3.1 264 2), .int 1, .ref 264]) (h' := h3) rfl).trans ?_
            refine (mm_c0 (y := 191) (as := [.ref 264, .int 1, .int (h3.1 264 2)]) (nx := 133) (rest := []) rfl rfl).trans (mm_congV fun h5 => ?_)
            refine (mm_by 10 (pc' := 153) (ls' := [.ref 264, .int v2, .null]) (st' := [.int ((wI (wI h5 264 7 (h5.1 264 5)) 264 8 ((wI h5 264 7 (h5.1 264 5)).1 264 6)).1 264 5)]) (h' := wI (wI h5 264 7 (h5.1 264 5)) 264 8 ((wI h5 264 7 (h5.1 264 5)).1 264 6)) rfl).trans ?_
            refine (mm_br (c := ((wI (wI h5 264 7 (h5.1 264 5)) 264 8 ((wI h5 264 7 (h5.1 264 5)).1 264 6)).1 264 5) = 0) (p1 := 160) (p2 := 156) (l1 := [.ref 264, .int v2, .null]) (l2 := [.ref 264, .int v2, .null]) (s1 := []) (s2 := []) (h1 := wI (wI h5 264 7 (h5.1 264 5)) 264 8 ((wI h5 264 7 (h5.1 264 5)).1 264 6)) (h2 := wI (wI h5 264 7 (h5.1 264 5)) 264 8 ((wI h5 264 7 (h5.1 264 5)).1 264 6)) rfl rfl).trans (mm_ite ?_ ?_)
            · refine (mm_by 3 (pc' := 163) (ls' := [.ref 264, .int v2, .null]) (st' := [.int 2, .int v2, .ref 264]) (h' := wI (wI h5 264 7 (h5.1 264 5)) 264 8 ((wI h5 264 7 (h5.1 264 5)).1 264 6)) rfl).trans ?_
              refine (mm_br (c := 2 ≤ v2) (p1 := 172) (p2 := 166) (l1 := [.ref 264, .int v2, .null]) (l2 := [.ref 264, .int v2, .null]) (s1 := [.ref 264]) (s2 := [.ref 264]) (h1 := wI (wI h5 264 7 (h5.1 264 5)) 264 8 ((wI h5 264 7 (h5.1 264 5)).1 264 6)) (h2 := wI (wI h5 264 7 (h5.1 264 5)) 264 8 ((wI h5 264 7 (h5.1 264 5)).1 264 6)) rfl rfl).trans (mm_ite ?_ ?_)
              · exact mm_by 10 rfl
              · exact mm_by 11 rfl
            · exact mm_by_end 2 rfl
      · refine (mm_by 1 (pc' := 106) (ls' := [.ref 264, .int v2, .null]) (st' := [.ref 264]) (h' := h1) rfl).trans ?_
        refine (mm_c0 (y := 298) (as := [.ref 264]) (nx := 109) (rest := []) rfl rfl).trans (mm_congV fun h6 => ?_)
        refine (mm_by 2 (pc' := 113) (ls' := [.ref 264, .int v2, .null]) (st' := [.int (h6.1 264 5)]) (h' := h6) rfl).trans ?_
        refine (mm_br (c := ¬ (h6.1 264 5) = 0) (p1 := 133) (p2 := 116) (l1 := [.ref 264, .int v2, .null]) (l2 := [.ref 264, .int v2, .null]) (s1 := []) (s2 := []) (h1 := h6) (h2 := h6) rfl rfl).trans (mm_ite ?_ ?_)
        · refine (mm_by 10 (pc' := 153) (ls' := [.ref 264, .int v2, .null]) (st' := [.int ((wI (wI h6 264 7 (h6.1 264 5)) 264 8 ((wI h6 264 7 (h6.1 264 5)).1 264 6)).1 264 5)]) (h' := wI (wI h6 264 7 (h6.1 264 5)) 264 8 ((wI h6 264 7 (h6.1 264 5)).1 264 6)) rfl).trans ?_
          refine (mm_br (c := ((wI (wI h6 264 7 (h6.1 264 5)) 264 8 ((wI h6 264 7 (h6.1 264 5)).1 264 6)).1 264 5) = 0) (p1 := 160) (p2 := 156) (l1 := [.ref 264, .int v2, .null]) (l2 := [.ref 264, .int v2, .null]) (s1 := []) (s2 := []) (h1 := wI (wI h6 264 7 (h6.1 264 5)) 264 8 ((wI h6 264 7 (h6.1 264 5)).1 264 6)) (h2 := wI (wI h6 264 7 (h6.1 264 5)) 264 8 ((wI h6 264 7 (h6.1 264 5)).1 264 6)) rfl rfl).trans (mm_ite ?_ ?_)
          · refine (mm_by 3 (pc' := 163) (ls' := [.ref 264, .int v2, .null]) (st' := [.int 2, .int v2, .ref 264]) (h' := wI (wI h6 264 7 (h6.1 264 5)) 264 8 ((wI h6 264 7 (h6.1 264 5)).1 264 6)) rfl).trans ?_
            refine (mm_br (c := 2 ≤ v2) (p1 := 172) (p2 := 166) (l1 := [.ref 264, .int v2, .null]) (l2 := [.ref 264, .int v2, .null]) (s1 := [.ref 264]) (s2 := [.ref 264]) (h1 := wI (wI h6 264 7 (h6.1 264 5)) 264 8 ((wI h6 264 7 (h6.1 264 5)).1 264 6)) (h2 := wI (wI h6 264 7 (h6.1 264 5)) 264 8 ((wI h6 264 7 (h6.1 264 5)).1 264 6)) rfl rfl).trans (mm_ite ?_ ?_)
            · exact mm_by 10 rfl
            · exact mm_by 11 rfl
          · exact mm_by_end 2 rfl
        · refine (mm_by 1 (pc' := 117) (ls' := [.ref 264, .int v2, .null]) (st' := [.ref 264]) (h' := h6) rfl).trans ?_
          refine (mm_c1 (y := 194) (as := [.ref 264]) (nx := 120) (rest := []) rfl rfl).trans (mm_congI fun v8 h7 => ?_)
          refine (mm_by 1 (pc' := 121) (ls' := [.ref 264, .int v2, .null]) (st' := [.int ((-1)), .int v8]) (h' := h7) rfl).trans ?_
          refine (mm_br (c := v8 = ((-1))) (p1 := 133) (p2 := 124) (l1 := [.ref 264, .int v2, .null]) (l2 := [.ref 264, .int v2, .null]) (s1 := []) (s2 := []) (h1 := h7) (h2 := h7) rfl rfl).trans (mm_ite ?_ ?_)
          · refine (mm_by 10 (pc' := 153) (ls' := [.ref 264, .int v2, .null]) (st' := [.int ((wI (wI h7 264 7 (h7.1 264 5)) 264 8 ((wI h7 264 7 (h7.1 264 5)).1 264 6)).1 264 5)]) (h' := wI (wI h7 264 7 (h7.1 264 5)) 264 8 ((wI h7 264 7 (h7.1 264 5)).1 264 6)) rfl).trans ?_
            refine (mm_br (c := ((wI (wI h7 264 7 (h7.1 264 5)) 264 8 ((wI h7 264 7 (h7.1 264 5)).1 264 6)).1 264 5) = 0) (p1 := 160) (p2 := 156) (l1 := [.ref 264, .int v2, .null]) (l2 := [.ref 264, .int v2, .null]) (s1 := []) (s2 := []) (h1 := wI (wI h7 264 7 (h7.1 264 5)) 264 8 ((wI h7 264 7 (h7.1 264 5)).1 264 6)) (h2 := wI (wI h7 264 7 (h7.1 264 5)) 264 8 ((wI h7 264 7 (h7.1 264 5)).1 264 6)) rfl rfl).trans (mm_ite ?_ ?_)
            · refine (mm_by 3 (pc' := 163) (ls' := [.ref 264, .int v2, .null]) (st' := [.int 2, .int v2, .ref 264]) (h' := wI (wI h7 264 7 (h7.1 264 5)) 264 8 ((wI h7 264 7 (h7.1 264 5)).1 264 6)) rfl).trans ?_
              refine (mm_br (c := 2 ≤ v2) (p1 := 172) (p2 := 166) (l1 := [.ref 264, .int v2, .null]) (l2 := [.ref 264, .int v2, .null]) (s1 := [.ref 264]) (s2 := [.ref 264]) (h1 := wI (wI h7 264 7 (h7.1 264 5)) 264 8 ((wI h7 264 7 (h7.1 264 5)).1 264 6)) (h2 := wI (wI h7 264 7 (h7.1 264 5)) 264 8 ((wI h7 264 7 (h7.1 264 5)).1 264 6)) rfl rfl).trans (mm_ite ?_ ?_)
              · exact mm_by 10 rfl
              · exact mm_by 11 rfl
            · exact mm_by_end 2 rfl
          · refine (mm_by 4 (pc' := 130) (ls' := [.ref 264, .int v2, .null]) (st' := [.int (h7.1 264 2), .int 1, .ref 264]) (h' := h7) rfl).trans ?_
            refine (mm_c0 (y := 191) (as := [.ref 264, .int 1, .int (h7.1 264 2)]) (nx := 133) (rest := []) rfl rfl).trans (mm_congV fun h9 => ?_)
            refine (mm_by 10 (pc' := 153) (ls' := [.ref 264, .int v2, .null]) (st' := [.int ((wI (wI h9 264 7 (h9.1 264 5)) 264 8 ((wI h9 264 7 (h9.1 264 5)).1 264 6)).1 264 5)]) (h' := wI (wI h9 264 7 (h9.1 264 5)) 264 8 ((wI h9 264 7 (h9.1 264 5)).1 264 6)) rfl).trans ?_
            refine (mm_br (c := ((wI (wI h9 264 7 (h9.1 264 5)) 264 8 ((wI h9 264 7 (h9.1 264 5)).1 264 6)).1 264 5) = 0) (p1 := 160) (p2 := 156) (l1 := [.ref 264, .int v2, .null]) (l2 := [.ref 264, .int v2, .null]) (s1 := []) (s2 := []) (h1 := wI (wI h9 264 7 (h9.1 264 5)) 264 8 ((wI h9 264 7 (h9.1 264 5)).1 264 6)) (h2 := wI (wI h9 264 7 (h9.1 264 5)) 264 8 ((wI h9 264 7 (h9.1 264 5)).1 264 6)) rfl rfl).trans (mm_ite ?_ ?_)
            · refine (mm_by 3 (pc' := 163) (ls' := [.ref 264, .int v2, .null]) (st' := [.int 2, .int v2, .ref 264]) (h' := wI (wI h9 264 7 (h9.1 264 5)) 264 8 ((wI h9 264 7 (h9.1 264 5)).1 264 6)) rfl).trans ?_
              refine (mm_br (c := 2 ≤ v2) (p1 := 172) (p2 := 166) (l1 := [.ref 264, .int v2, .null]) (l2 := [.ref 264, .int v2, .null]) (s1 := [.ref 264]) (s2 := [.ref 264]) (h1 := wI (wI h9 264 7 (h9.1 264 5)) 264 8 ((wI h9 264 7 (h9.1 264 5)).1 264 6)) (h2 := wI (wI h9 264 7 (h9.1 264 5)) 264 8 ((wI h9 264 7 (h9.1 264 5)).1 264 6)) rfl rfl).trans (mm_ite ?_ ?_)
              · exact mm_by 10 rfl
              · exact mm_by 11 rfl
            · exact mm_by_end 2 rfl
    · refine (mm_by 2 (pc' := 88) (ls' := [.ref 264, .int v2, .null]) (st' := [.int 3, .int v2]) (h' := h1) rfl).trans ?_
      refine (mm_br (c := 3 ≤ v2) (p1 := 98) (p2 := 91) (l1 := [.ref 264, .int v2, .null]) (l2 := [.ref 264, .int v2, .null]) (s1 := []) (s2 := []) (h1 := h1) (h2 := h1) rfl rfl).trans (mm_ite ?_ ?_)
      · refine (mm_by 2 (pc' := 102) (ls' := [.ref 264, .int v2, .null]) (st' := [.int (h1.1 264 5)]) (h' := h1) rfl).trans ?_
        refine (mm_br (c := ¬ (h1.1 264 5) = 0) (p1 := 109) (p2 := 105) (l1 := [.ref 264, .int v2, .null]) (l2 := [.ref 264, .int v2, .null]) (s1 := []) (s2 := []) (h1 := h1) (h2 := h1) rfl rfl).trans (mm_ite ?_ ?_)
        · refine (mm_by 2 (pc' := 113) (ls' := [.ref 264, .int v2, .null]) (st' := [.int (h1.1 264 5)]) (h' := h1) rfl).trans ?_
          refine (mm_br (c := ¬ (h1.1 264 5) = 0) (p1 := 133) (p2 := 116) (l1 := [.ref 264, .int v2, .null]) (l2 := [.ref 264, .int v2, .null]) (s1 := []) (s2 := []) (h1 := h1) (h2 := h1) rfl rfl).trans (mm_ite ?_ ?_)
          · refine (mm_by 10 (pc' := 153) (ls' := [.ref 264, .int v2, .null]) (st' := [.int ((wI (wI h1 264 7 (h1.1 264 5)) 264 8 ((wI h1 264 7 (h1.1 264 5)).1 264 6)).1 264 5)]) (h' := wI (wI h1 264 7 (h1.1 264 5)) 264 8 ((wI h1 264 7 (h1.1 264 5)).1 264 6)) rfl).trans ?_
            refine (mm_br (c := ((wI (wI h1 264 7 (h1.1 264 5)) 264 8 ((wI h1 264 7 (h1.1 264 5)).1 264 6)).1 264 5) = 0) (p1 := 160) (p2 := 156) (l1 := [.ref 264, .int v2, .null]) (l2 := [.ref 264, .int v2, .null]) (s1 := []) (s2 := []) (h1 := wI (wI h1 264 7 (h1.1 264 5)) 264 8 ((wI h1 264 7 (h1.1 264 5)).1 264 6)) (h2 := wI (wI h1 264 7 (h1.1 264 5)) 264 8 ((wI h1 264 7 (h1.1 264 5)).1 264 6)) rfl rfl).trans (mm_ite ?_ ?_)
            · refine (mm_by 3 (pc' := 163) (ls' := [.ref 264, .int v2, .null]) (st' := [.int 2, .int v2, .ref 264]) (h' := wI (wI h1 264 7 (h1.1 264 5)) 264 8 ((wI h1 264 7 (h1.1 264 5)).1 264 6)) rfl).trans ?_
              refine (mm_br (c := 2 ≤ v2) (p1 := 172) (p2 := 166) (l1 := [.ref 264, .int v2, .null]) (l2 := [.ref 264, .int v2, .null]) (s1 := [.ref 264]) (s2 := [.ref 264]) (h1 := wI (wI h1 264 7 (h1.1 264 5)) 264 8 ((wI h1 264 7 (h1.1 264 5)).1 264 6)) (h2 := wI (wI h1 264 7 (h1.1 264 5)) 264 8 ((wI h1 264 7 (h1.1 264 5)).1 264 6)) rfl rfl).trans (mm_ite ?_ ?_)
              · exact mm_by 10 rfl
              · exact mm_by 11 rfl
            · exact mm_by_end 2 rfl
          · refine (mm_by 1 (pc' := 117) (ls' := [.ref 264, .int v2, .null]) (st' := [.ref 264]) (h' := h1) rfl).trans ?_
            refine (mm_c1 (y := 194) (as := [.ref 264]) (nx := 120) (rest := []) rfl rfl).trans (mm_congI fun v11 h10 => ?_)
            refine (mm_by 1 (pc' := 121) (ls' := [.ref 264, .int v2, .null]) (st' := [.int ((-1)), .int v11]) (h' := h10) rfl).trans ?_
            refine (mm_br (c := v11 = ((-1))) (p1 := 133) (p2 := 124) (l1 := [.ref 264, .int v2, .null]) (l2 := [.ref 264, .int v2, .null]) (s1 := []) (s2 := []) (h1 := h10) (h2 := h10) rfl rfl).trans (mm_ite ?_ ?_)
            · refine (mm_by 10 (pc' := 153) (ls' := [.ref 264, .int v2, .null]) (st' := [.int ((wI (wI h10 264 7 (h10.1 264 5)) 264 8 ((wI h10 264 7 (h10.1 264 5)).1 264 6)).1 264 5)]) (h' := wI (wI h10 264 7 (h10.1 264 5)) 264 8 ((wI h10 264 7 (h10.1 264 5)).1 264 6)) rfl).trans ?_
              refine (mm_br (c := ((wI (wI h10 264 7 (h10.1 264 5)) 264 8 ((wI h10 264 7 (h10.1 264 5)).1 264 6)).1 264 5) = 0) (p1 := 160) (p2 := 156) (l1 := [.ref 264, .int v2, .null]) (l2 := [.ref 264, .int v2, .null]) (s1 := []) (s2 := []) (h1 := wI (wI h10 264 7 (h10.1 264 5)) 264 8 ((wI h10 264 7 (h10.1 264 5)).1 264 6)) (h2 := wI (wI h10 264 7 (h10.1 264 5)) 264 8 ((wI h10 264 7 (h10.1 264 5)).1 264 6)) rfl rfl).trans (mm_ite ?_ ?_)
              · refine (mm_by 3 (pc' := 163) (ls' := [.ref 264, .int v2, .null]) (st' := [.int 2, .int v2, .ref 264]) (h' := wI (wI h10 264 7 (h10.1 264 5)) 264 8 ((wI h10 264 7 (h10.1 264 5)).1 264 6)) rfl).trans ?_
                refine (mm_br (c := 2 ≤ v2) (p1 := 172) (p2 := 166) (l1 := [.ref 264, .int v2, .null]) (l2 := [.ref 264, .int v2, .null]) (s1 := [.ref 264]) (s2 := [.ref 264]) (h1 := wI (wI h10 264 7 (h10.1 264 5)) 264 8 ((wI h10 264 7 (h10.1 264 5)).1 264 6)) (h2 := wI (wI h10 264 7 (h10.1 264 5)) 264 8 ((wI h10 264 7 (h10.1 264 5)).1 264 6)) rfl rfl).trans (mm_ite ?_ ?_)
                · exact mm_by 10 rfl
                · exact mm_by 11 rfl
              · exact mm_by_end 2 rfl
            · refine (mm_by 4 (pc' := 130) (ls' := [.ref 264, .int v2, .null]) (st' := [.int (h10.1 264 2), .int 1, .ref 264]) (h' := h10) rfl).trans ?_
              refine (mm_c0 (y := 191) (as := [.ref 264, .int 1, .int (h10.1 264 2)]) (nx := 133) (rest := []) rfl rfl).trans (mm_congV fun h12 => ?_)
              refine (mm_by 10 (pc' := 153) (ls' := [.ref 264, .int v2, .null]) (st' := [.int ((wI (wI h12 264 7 (h12.1 264 5)) 264 8 ((wI h12 264 7 (h12.1 264 5)).1 264 6)).1 264 5)]) (h' := wI (wI h12 264 7 (h12.1 264 5)) 264 8 ((wI h12 264 7 (h12.1 264 5)).1 264 6)) rfl).trans ?_
              refine (mm_br (c := ((wI (wI h12 264 7 (h12.1 264 5)) 264 8 ((wI h12 264 7 (h12.1 264 5)).1 264 6)).1 264 5) = 0) (p1 := 160) (p2 := 156) (l1 := [.ref 264, .int v2, .null]) (l2 := [.ref 264, .int v2, .null]) (s1 := []) (s2 := []) (h1 := wI (wI h12 264 7 (h12.1 264 5)) 264 8 ((wI h12 264 7 (h12.1 264 5)).1 264 6)) (h2 := wI (wI h12 264 7 (h12.1 264 5)) 264 8 ((wI h12 264 7 (h12.1 264 5)).1 264 6)) rfl rfl).trans (mm_ite ?_ ?_)
              · refine (mm_by 3 (pc' := 163) (ls' := [.ref 264, .int v2, .null]) (st' := [.int 2, .int v2, .ref 264]) (h' := wI (wI h12 264 7 (h12.1 264 5)) 264 8 ((wI h12 264 7 (h12.1 264 5)).1 264 6)) rfl).trans ?_
                refine (mm_br (c := 2 ≤ v2) (p1 := 172) (p2 := 166) (l1 := [.ref 264, .int v2, .null]) (l2 := [.ref 264, .int v2, .null]) (s1 := [.ref 264]) (s2 := [.ref 264]) (h1 := wI (wI h12 264 7 (h12.1 264 5)) 264 8 ((wI h12 264 7 (h12.1 264 5)).1 264 6)) (h2 := wI (wI h12 264 7 (h12.1 264 5)) 264 8 ((wI h12 264 7 (h12.1 264 5)).1 264 6)) rfl rfl).trans (mm_ite ?_ ?_)
                · exact mm_by 10 rfl
                · exact mm_by 11 rfl
              · exact mm_by_end 2 rfl
        · refine (mm_by 1 (pc' := 106) (ls' := [.ref 264, .int v2, .null]) (st' := [.ref 264]) (h' := h1) rfl).trans ?_
          refine (mm_c0 (y := 298) (as := [.ref 264]) (nx := 109) (rest := []) rfl rfl).trans (mm_congV fun h13 => ?_)
          refine (mm_by 2 (pc' := 113) (ls' := [.ref 264, .int v2, .null]) (st' := [.int (h13.1 264 5)]) (h' := h13) rfl).trans ?_
          refine (mm_br (c := ¬ (h13.1 264 5) = 0) (p1 := 133) (p2 := 116) (l1 := [.ref 264, .int v2, .null]) (l2 := [.ref 264, .int v2, .null]) (s1 := []) (s2 := []) (h1 := h13) (h2 := h13) rfl rfl).trans (mm_ite ?_ ?_)
          · refine (mm_by 10 (pc' := 153) (ls' := [.ref 264, .int v2, .null]) (st' := [.int ((wI (wI h13 264 7 (h13.1 264 5)) 264 8 ((wI h13 264 7 (h13.1 264 5)).1 264 6)).1 264 5)]) (h' := wI (wI h13 264 7 (h13.1 264 5)) 264 8 ((wI h13 264 7 (h13.1 264 5)).1 264 6)) rfl).trans ?_
            refine (mm_br (c := ((wI (wI h13 264 7 (h13.1 264 5)) 264 8 ((wI h13 264 7 (h13.1 264 5)).1 264 6)).1 264 5) = 0) (p1 := 160) (p2 := 156) (l1 := [.ref 264, .int v2, .null]) (l2 := [.ref 264, .int v2, .null]) (s1 := []) (s2 := []) (h1 := wI (wI h13 264 7 (h13.1 264 5)) 264 8 ((wI h13 264 7 (h13.1 264 5)).1 264 6)) (h2 := wI (wI h13 264 7 (h13.1 264 5)) 264 8 ((wI h13 264 7 (h13.1 264 5)).1 264 6)) rfl rfl).trans (mm_ite ?_ ?_)
            · refine (mm_by 3 (pc' := 163) (ls' := [.ref 264, .int v2, .null]) (st' := [.int 2, .int v2, .ref 264]) (h' := wI (wI h13 264 7 (h13.1 264 5)) 264 8 ((wI h13 264 7 (h13.1 264 5)).1 264 6)) rfl).trans ?_
              refine (mm_br (c := 2 ≤ v2) (p1 := 172) (p2 := 166) (l1 := [.ref 264, .int v2, .null]) (l2 := [.ref 264, .int v2, .null]) (s1 := [.ref 264]) (s2 := [.ref 264]) (h1 := wI (wI h13 264 7 (h13.1 264 5)) 264 8 ((wI h13 264 7 (h13.1 264 5)).1 264 6)) (h2 := wI (wI h13 264 7 (h13.1 264 5)) 264 8 ((wI h13 264 7 (h13.1 264 5)).1 264 6)) rfl rfl).trans (mm_ite ?_ ?_)
              · exact mm_by 10 rfl
              · exact mm_by 11 rfl
            · exact mm_by_end 2 rfl
          · refine (mm_by 1 (pc' := 117) (ls' := [.ref 264, .int v2, .null]) (st' := [.ref 264]) (h' := h13) rfl).trans ?_
            refine (mm_c1 (y := 194) (as := [.ref 264]) (nx := 120) (rest := []) rfl rfl).trans (mm_congI fun v15 h14 => ?_)
            refine (mm_by 1 (pc' := 121) (ls' := [.ref 264, .int v2, .null]) (st' := [.int ((-1)), .int v15]) (h' := h14) rfl).trans ?_
            refine (mm_br (c := v15 = ((-1))) (p1 := 133) (p2 := 124) (l1 := [.ref 264, .int v2, .null]) (l2 := [.ref 264, .int v2, .null]) (s1 := []) (s2 := []) (h1 := h14) (h2 := h14) rfl rfl).trans (mm_ite ?_ ?_)
            · refine (mm_by 10 (pc' := 153) (ls' := [.ref 264, .int v2, .null]) (st' := [.int ((wI (wI h14 264 7 (h14.1 264 5)) 264 8 ((wI h14 264 7 (h14.1 264 5)).1 264 6)).1 264 5)]) (h' := wI (wI h14 264 7 (h14.1 264 5)) 264 8 ((wI h14 264 7 (h14.1 264 5)).1 264 6)) rfl).trans ?_
              refine (mm_br (c := ((wI (wI h14 264 7 (h14.1 264 5)) 264 8 ((wI h14 264 7 (h14.1 264 5)).1 264 6)).1 264 5) = 0) (p1 := 160) (p2 := 156) (l1 := [.ref 264, .int v2, .null]) (l2 := [.ref 264, .int v2, .null]) (s1 := []) (s2 := []) (h1 := wI (wI h14 264 7 (h14.1 264 5)) 264 8 ((wI h14 264 7 (h14.1 264 5)).1 264 6)) (h2 := wI (wI h14 264 7 (h14.1 264 5)) 264 8 ((wI h14 264 7 (h14.1 264 5)).1 264 6)) rfl rfl).trans (mm_ite ?_ ?_)
              · refine (mm_by 3 (pc' := 163) (ls' := [.ref 264, .int v2, .null]) (st' := [.int 2, .int v2, .ref 264]) (h' := wI (wI h14 264 7 (h14.1 264 5)) 264 8 ((wI h14 264 7 (h14.1 264 5)).1 264 6)) rfl).trans ?_
                refine (mm_br (c := 2 ≤ v2) (p1 := 172) (p2 := 166) (l1 := [.ref 264, .int v2, .null]) (l2 := [.ref 264, .int v2, .null]) (s1 := [.ref 264]) (s2 := [.ref 264]) (h1 := wI (wI h14 264 7 (h14.1 264 5)) 264 8 ((wI h14 264 7 (h14.1 264 5)).1 264 6)) (h2 := wI (wI h14 264 7 (h14.1 264 5)) 264 8 ((wI h14 264 7 (h14.1 264 5)).1 264 6)) rfl rfl).trans (mm_ite ?_ ?_)
                · exact mm_by 10 rfl
                · exact mm_by 11 rfl
              · exact mm_by_end 2 rfl
            · refine (mm_by 4 (pc' := 130) (ls' := [.ref 264, .int v2, .null]) (st' := [.int (h14.1 264 2), .int 1, .ref 264]) (h' := h14) rfl).trans ?_
              refine (mm_c0 (y := 191) (as := [.ref 264, .int 1, .int (h14.1 264 2)]) (nx := 133) (rest := []) rfl rfl).trans (mm_congV fun h16 => ?_)
              refine (mm_by 10 (pc' := 153) (ls' := [.ref 264, .int v2, .null]) (st' := [.int ((wI (wI h16 264 7 (h16.1 264 5)) 264 8 ((wI h16 264 7 (h16.1 264 5)).1 264 6)).1 264 5)]) (h' := wI (wI h16 264 7 (h16.1 264 5)) 264 8 ((wI h16 264 7 (h16.1 264 5)).1 264 6)) rfl).trans ?_
              refine (mm_br (c := ((wI (wI h16 264 7 (h16.1 264 5)) 264 8 ((wI h16 264 7 (h16.1 264 5)).1 264 6)).1 264 5) = 0) (p1 := 160) (p2 := 156) (l1 := [.ref 264, .int v2, .null]) (l2 := [.ref 264, .int v2, .null]) (s1 := []) (s2 := []) (h1 := wI (wI h16 264 7 (h16.1 264 5)) 264 8 ((wI h16 264 7 (h16.1 264 5)).1 264 6)) (h2 := wI (wI h16 264 7 (h16.1 264 5)) 264 8 ((wI h16 264 7 (h16.1 264 5)).1 264 6)) rfl rfl).trans (mm_ite ?_ ?_)
              · refine (mm_by 3 (pc' := 163) (ls' := [.ref 264, .int v2, .null]) (st' := [.int 2, .int v2, .ref 264]) (h' := wI (wI h16 264 7 (h16.1 264 5)) 264 8 ((wI h16 264 7 (h16.1 264 5)).1 264 6)) rfl).trans ?_
                refine (mm_br (c := 2 ≤ v2) (p1 := 172) (p2 := 166) (l1 := [.ref 264, .int v2, .null]) (l2 := [.ref 264, .int v2, .null]) (s1 := [.ref 264]) (s2 := [.ref 264]) (h1 := wI (wI h16 264 7 (h16.1 264 5)) 264 8 ((wI h16 264 7 (h16.1 264 5)).1 264 6)) (h2 := wI (wI h16 264 7 (h16.1 264 5)) 264 8 ((wI h16 264 7 (h16.1 264 5)).1 264 6)) rfl rfl).trans (mm_ite ?_ ?_)
                · exact mm_by 10 rfl
                · exact mm_by 11 rfl
              · exact mm_by_end 2 rfl
      · refine (mm_by 1 (pc' := 92) (ls' := [.ref 264, .int v2, .null]) (st' := [.ref 264]) (h' := h1) rfl).trans ?_
        refine (mm_c0 (y := 302) (as := [.ref 264]) (nx := 95) (rest := []) rfl rfl).trans (mm_congV fun h17 => ?_)
        refine (mm_by 3 (pc' := 113) (ls' := [.ref 264, .int v2, .null]) (st' := [.int (h17.1 264 5)]) (h' := h17) rfl).trans ?_
        refine (mm_br (c := ¬ (h17.1 264 5) = 0) (p1 := 133) (p2 := 116) (l1 := [.ref 264, .int v2, .null]) (l2 := [.ref 264, .int v2, .null]) (s1 := []) (s2 := []) (h1 := h17) (h2 := h17) rfl rfl).trans (mm_ite ?_ ?_)
        · refine (mm_by 10 (pc' := 153) (ls' := [.ref 264, .int v2, .null]) (st' := [.int ((wI (wI h17 264 7 (h17.1 264 5)) 264 8 ((wI h17 264 7 (h17.1 264 5)).1 264 6)).1 264 5)]) (h' := wI (wI h17 264 7 (h17.1 264 5)) 264 8 ((wI h17 264 7 (h17.1 264 5)).1 264 6)) rfl).trans ?_
          refine (mm_br (c := ((wI (wI h17 264 7 (h17.1 264 5)) 264 8 ((wI h17 264 7 (h17.1 264 5)).1 264 6)).1 264 5) = 0) (p1 := 160) (p2 := 156) (l1 := [.ref 264, .int v2, .null]) (l2 := [.ref 264, .int v2, .null]) (s1 := []) (s2 := []) (h1 := wI (wI h17 264 7 (h17.1 264 5)) 264 8 ((wI h17 264 7 (h17.1 264 5)).1 264 6)) (h2 := wI (wI h17 264 7 (h17.1 264 5)) 264 8 ((wI h17 264 7 (h17.1 264 5)).1 264 6)) rfl rfl).trans (mm_ite ?_ ?_)
          · refine (mm_by 3 (pc' := 163) (ls' := [.ref 264, .int v2, .null]) (st' := [.int 2, .int v2, .ref 264]) (h' := wI (wI h17 264 7 (h17.1 264 5)) 264 8 ((wI h17 264 7 (h17.1 264 5)).1 264 6)) rfl).trans ?_
            refine (mm_br (c := 2 ≤ v2) (p1 := 172) (p2 := 166) (l1 := [.ref 264, .int v2, .null]) (l2 := [.ref 264, .int v2, .null]) (s1 := [.ref 264]) (s2 := [.ref 264]) (h1 := wI (wI h17 264 7 (h17.1 264 5)) 264 8 ((wI h17 264 7 (h17.1 264 5)).1 264 6)) (h2 := wI (wI h17 264 7 (h17.1 264 5)) 264 8 ((wI h17 264 7 (h17.1 264 5)).1 264 6)) rfl rfl).trans (mm_ite ?_ ?_)
            · exact mm_by 10 rfl
            · exact mm_by 11 rfl
          · exact mm_by_end 2 rfl
        · refine (mm_by 1 (pc' := 117) (ls' := [.ref 264, .int v2, .null]) (st' := [.ref 264]) (h' := h17) rfl).trans ?_
          refine (mm_c1 (y := 194) (as := [.ref 264]) (nx := 120) (rest := []) rfl rfl).trans (mm_congI fun v19 h18 => ?_)
          refine (mm_by 1 (pc' := 121) (ls' := [.ref 264, .int v2, .null]) (st' := [.int ((-1)), .int v19]) (h' := h18) rfl).trans ?_
          refine (mm_br (c := v19 = ((-1))) (p1 := 133) (p2 := 124) (l1 := [.ref 264, .int v2, .null]) (l2 := [.ref 264, .int v2, .null]) (s1 := []) (s2 := []) (h1 := h18) (h2 := h18) rfl rfl).trans (mm_ite ?_ ?_)
          · refine (mm_by 10 (pc' := 153) (ls' := [.ref 264, .int v2, .null]) (st' := [.int ((wI (wI h18 264 7 (h18.1 264 5)) 264 8 ((wI h18 264 7 (h18.1 264 5)).1 264 6)).1 264 5)]) (h' := wI (wI h18 264 7 (h18.1 264 5)) 264 8 ((wI h18 264 7 (h18.1 264 5)).1 264 6)) rfl).trans ?_
            refine (mm_br (c := ((wI (wI h18 264 7 (h18.1 264 5)) 264 8 ((wI h18 264 7 (h18.1 264 5)).1 264 6)).1 264 5) = 0) (p1 := 160) (p2 := 156) (l1 := [.ref 264, .int v2, .null]) (l2 := [.ref 264, .int v2, .null]) (s1 := []) (s2 := []) (h1 := wI (wI h18 264 7 (h18.1 264 5)) 264 8 ((wI h18 264 7 (h18.1 264 5)).1 264 6)) (h2 := wI (wI h18 264 7 (h18.1 264 5)) 264 8 ((wI h18 264 7 (h18.1 264 5)).1 264 6)) rfl rfl).trans (mm_ite ?_ ?_)
            · refine (mm_by 3 (pc' := 163) (ls' := [.ref 264, .int v2, .null]) (st' := [.int 2, .int v2, .ref 264]) (h' := wI (wI h18 264 7 (h18.1 264 5)) 264 8 ((wI h18 264 7 (h18.1 264 5)).1 264 6)) rfl).trans ?_
              refine (mm_br (c := 2 ≤ v2) (p1 := 172) (p2 := 166) (l1 := [.ref 264, .int v2, .null]) (l2 := [.ref 264, .int v2, .null]) (s1 := [.ref 264]) (s2 := [.ref 264]) (h1 := wI (wI h18 264 7 (h18.1 264 5)) 264 8 ((wI h18 264 7 (h18.1 264 5)).1 264 6)) (h2 := wI (wI h18 264 7 (h18.1 264 5)) 264 8 ((wI h18 264 7 (h18.1 264 5)).1 264 6)) rfl rfl).trans (mm_ite ?_ ?_)
              · exact mm_by 10 rfl
              · exact mm_by 11 rfl
            · exact mm_by_end 2 rfl
          · refine (mm_by 4 (pc' := 130) (ls' := [.ref 264, .int v2, .null]) (st' := [.int (h18.1 264 2), .int 1, .ref 264]) (h' := h18) rfl).trans ?_
            refine (mm_c0 (y := 191) (as := [.ref 264, .int 1, .int (h18.1 264 2)]) (nx := 133) (rest := []) rfl rfl).trans (mm_congV fun h20 => ?_)
            refine (mm_by 10 (pc' := 153) (ls' := [.ref 264, .int v2, .null]) (st' := [.int ((wI (wI h20 264 7 (h20.1 264 5)) 264 8 ((wI h20 264 7 (h20.1 264 5)).1 264 6)).1 264 5)]) (h' := wI (wI h20 264 7 (h20.1 264 5)) 264 8 ((wI h20 264 7 (h20.1 264 5)).1 264 6)) rfl).trans ?_
            refine (mm_br (c := ((wI (wI h20 264 7 (h20.1 264 5)) 264 8 ((wI h20 264 7 (h20.1 264 5)).1 264 6)).1 264 5) = 0) (p1 := 160) (p2 := 156) (l1 := [.ref 264, .int v2, .null]) (l2 := [.ref 264, .int v2, .null]) (s1 := []) (s2 := []) (h1 := wI (wI h20 264 7 (h20.1 264 5)) 264 8 ((wI h20 264 7 (h20.1 264 5)).1 264 6)) (h2 := wI (wI h20 264 7 (h20.1 264 5)) 264 8 ((wI h20 264 7 (h20.1 264 5)).1 264 6)) rfl rfl).trans (mm_ite ?_ ?_)
            · refine (mm_by 3 (pc' := 163) (ls' := [.ref 264, .int v2, .null]) (st' := [.int 2, .int v2, .ref 264]) (h' := wI (wI h20 264 7 (h20.1 264 5)) 264 8 ((wI h20 264 7 (h20.1 264 5)).1 264 6)) rfl).trans ?_
              refine (mm_br (c := 2 ≤ v2) (p1 := 172) (p2 := 166) (l1 := [.ref 264, .int v2, .null]) (l2 := [.ref 264, .int v2, .null]) (s1 := [.ref 264]) (s2 := [.ref 264]) (h1 := wI (wI h20 264 7 (h20.1 264 5)) 264 8 ((wI h20 264 7 (h20.1 264 5)).1 264 6)) (h2 := wI (wI h20 264 7 (h20.1 264 5)) 264 8 ((wI h20 264 7 (h20.1 264 5)).1 264 6)) rfl rfl).trans (mm_ite ?_ ?_)
              · exact mm_by 10 rfl
              · exact mm_by 11 rfl
            · exact mm_by_end 2 rfl
  · exact mm_by_end 5 rfl
set_option maxRecDepth 100000 in
set_option maxHeartbeats 4000000 in
theorem U_X12_ask_188 {d : Nat} {x1 : Int32} {x2 : Int32} {h : mm_H} : mm_D (mm_M mm_T0 d) cd_X12_ask 188 [.ref 264, .int x1, .int x2] [] h = (if (h.1 264 40) ≤ x2 then (some (some (.long (h.2.1 264 109)), h)) else (mm_bL (mm_M mm_T0 d 310 [.ref 264, .int x2] h) (fun v2 h1 => mm_bV (mm_M mm_T0 d 312 [.ref 264, .int x1, .long v2, .int x2] h1) (fun h3 => mm_D (mm_M mm_T0 d) cd_X12_ask 188 [.ref 264, .int x1, .int (x2 + 1)] [] h3)))) := by
  refine (mm_by 3 (pc' := 193) (ls' := [.ref 264, .int x1, .int x2]) (st' := [.int (h.1 264 40), .int x2]) (h' := h) rfl).trans ?_
  refine (mm_br (c := (h.1 264 40) ≤ x2) (p1 := 213) (p2 := 196) (l1 := [.ref 264, .int x1, .int x2]) (l2 := [.ref 264, .int x1, .int x2]) (s1 := []) (s2 := []) (h1 := h) (h2 := h) rfl rfl).trans (mm_ite ?_ ?_)
  · exact mm_by_end 3 rfl
  · refine (mm_by 4 (pc' := 200) (ls' := [.ref 264, .int x1, .int x2]) (st' := [.int x2, .ref 264, .int x1, .ref 264]) (h' := h) rfl).trans ?_
    refine (mm_c2 (y := 310) (as := [.ref 264, .int x2]) (nx := 203) (rest := [.int x1, .ref 264]) rfl rfl).trans (mm_congL fun v2 h1 => ?_)
    refine (mm_by 1 (pc' := 204) (ls' := [.ref 264, .int x1, .int x2]) (st' := [.int x2, .long v2, .int x1, .ref 264]) (h' := h1) rfl).trans ?_
    refine (mm_c0 (y := 312) (as := [.ref 264, .int x1, .long v2, .int x2]) (nx := 207) (rest := []) rfl rfl).trans (mm_congV fun h3 => ?_)
    exact mm_by 2 rfl
set_option maxRecDepth 100000 in
set_option maxHeartbeats 4000000 in
theorem U_X12_checked {d : Nat} {a0 n0 : Nat} {x1 : Int32} {h : mm_H} (ha0 : mm_sh a0 = (1, n0)) : mm_M mm_T0 (d + 1) 314 [.ref a0, .int x1] h = (mm_D (mm_M mm_T0 d) cd_X12_checked 6 [.ref a0, .int x1, .int 149, .int 0] [] h) := by
  refine (mm_M_eq (ls := [.ref a0, .int x1, .null, .null]) rfl (Nat.le_of_ble_eq_true rfl) rfl h).trans ?_
  exact mm_by 4 rfl
set_option maxRecDepth 100000 in
set_option maxHeartbeats 4000000 in
theorem U_X12_checked_6 {d : Nat} {a0 n0 : Nat} {x1 : Int32} {x2 : Int32} {x3 : Int32} {h : mm_H} (ha0 : mm_sh a0 = (1, n0)) : mm_D (mm_M mm_T0 d) cd_X12_checked 6 [.ref a0, .int x1, .int x2, .int x3] [] h = (if x1 ≤ x3 then (some (some (.int x2), h)) else (if x3 < 0 ∨ n0 ≤ x3.toNatClampNeg then none else (mm_D (mm_M mm_T0 d) cd_X12_checked 6 [.ref a0, .int x1, .int (((3 * x2) + (h.1 a0 x3.toNatClampNeg)) - ((3 * x2) + (h.1 a0 x3.toNatClampNeg)) / 251 * 251), .int (x3 + 1)] [] h))) := by
  refine (mm_by 2 (pc' := 8) (ls' := [.ref a0, .int x1, .int x2, .int x3]) (st' := [.int x1, .int x3]) (h' := h) rfl).trans ?_
  refine (mm_br (c := x1 ≤ x3) (p1 := 29) (p2 := 11) (l1 := [.ref a0, .int x1, .int x2, .int x3]) (l2 := [.ref a0, .int x1, .int x2, .int x3]) (s1 := []) (s2 := []) (h1 := h) (h2 := h) rfl rfl).trans (mm_ite ?_ ?_)
  · exact mm_by_end 2 rfl
  · refine (mm_by 5 (pc' := 16) (ls' := [.ref a0, .int x1, .int x2, .int x3]) (st' := [.int x3, .ref a0, .int (3 * x2)]) (h' := h) rfl).trans ?_
    refine (mm_gd (c := x3 < 0 ∨ n0 ≤ x3.toNatClampNeg) (p1 := 17) (l1 := [.ref a0, .int x1, .int x2, .int x3]) (s1 := [.int (h.1 a0 x3.toNatClampNeg), .int (3 * x2)]) (h1 := h) rfl (q_iald (n := n0) ha0)).trans (mm_ite rfl ?_)
    exact mm_by 6 rfl
set_option maxRecDepth 100000 in
set_option maxHeartbeats 4000000 in
theorem U_X12_writes {d : Nat} {x1 : Int32} {h : mm_H} : mm_M mm_T0 (d + 1) 315 [.ref 264, .int x1] h = (if (h.1 264 112) < 0 ∨ 83 ≤ (h.1 264 112).toNatClampNeg then none else (some (none, wI (wI h 335 ((h.1 264 112).toNatClampNeg) x1) 264 112 (((wI h 335 ((h.1 264 112).toNatClampNeg) x1).1 264 112) + 1)))) := by
  refine (mm_M_eq (ls := [.ref 264, .int x1]) rfl (Nat.le_of_ble_eq_true rfl) rfl h).trans ?_
  refine (mm_by 5 (pc' := 9) (ls' := [.ref 264, .int x1]) (st' := [.int x1, .int (h.1 264 112), .ref 335]) (h' := h) rfl).trans ?_
  refine (mm_gd (c := (h.1 264 112) < 0 ∨ 83 ≤ (h.1 264 112).toNatClampNeg) (p1 := 10) (l1 := [.ref 264, .int x1]) (s1 := []) (h1 := wI h 335 ((h.1 264 112).toNatClampNeg) x1) rfl (q_iast (n := 83) rfl)).trans (mm_ite rfl ?_)
  exact mm_by_end 7 rfl
set_option maxRecDepth 100000 in
set_option maxHeartbeats 4000000 in
theorem U_X12_image {d : Nat} {h : mm_H} : mm_M mm_T0 (d + 1) 316 [.ref 264] h = (mm_bV (mm_M mm_T0 d 315 [.ref 264, .int (((wI h 264 112 0).1 300 0) / 256)] (wI h 264 112 0)) (fun h1 => mm_bV (mm_M mm_T0 d 315 [.ref 264, .int ((h1.1 300 0) - (h1.1 300 0) / 256 * 256)] h1) (fun h2 => mm_D (mm_M mm_T0 d) cd_X12_image 35 [.ref 264, .int 0, .null] [] h2))) := by
  refine (mm_M_eq (ls := [.ref 264, .null, .null]) rfl (Nat.le_of_ble_eq_true rfl) rfl h).trans ?_
  refine (mm_by 10 (pc' := 16) (ls' := [.ref 264, .null, .null]) (st' := [.int (((wI h 264 112 0).1 300 0) / 256), .ref 264]) (h' := wI h 264 112 0) rfl).trans ?_
  refine (mm_c0 (y := 315) (as := [.ref 264, .int (((wI h 264 112 0).1 300 0) / 256)]) (nx := 19) (rest := []) rfl rfl).trans (mm_congV fun h1 => ?_)
  refine (mm_by 7 (pc' := 30) (ls' := [.ref 264, .null, .null]) (st' := [.int ((h1.1 300 0) - (h1.1 300 0) / 256 * 256), .ref 264]) (h' := h1) rfl).trans ?_
  refine (mm_c0 (y := 315) (as := [.ref 264, .int ((h1.1 300 0) - (h1.1 300 0) / 256 * 256)]) (nx := 33) (rest := []) rfl rfl).trans (mm_congV fun h2 => ?_)
  exact mm_by 2 rfl
set_option maxRecDepth 100000 in
set_option maxHeartbeats 4000000 in
theorem U_X12_image_35 {d : Nat} {x1 : Int32} {h : mm_H} : mm_D (mm_M mm_T0 d) cd_X12_image 35 [.ref 264, .int x1, .null] [] h = (if (h.1 264 40) ≤ x1 then (mm_bI (mm_M mm_T0 d 314 [.ref 335, .int (h.1 264 112)] h) (fun v2 h1 => mm_bV (mm_M mm_T0 d 315 [.ref 264, .int v2] h1) (fun h3 => some (some (.int (h3.1 264 112)), h3)))) else (mm_D (mm_M mm_T0 d) cd_X12_image 45 [.ref 264, .int x1, .int 0] [] h)) := by
  refine (mm_by 3 (pc' := 40) (ls' := [.ref 264, .int x1, .null]) (st' := [.int (h.1 264 40), .int x1]) (h' := h) rfl).trans ?_
  refine (mm_br (c := (h.1 264 40) ≤ x1) (p1 := 109) (p2 := 43) (l1 := [.ref 264, .int x1, .null]) (l2 := [.ref 264, .int x1, .null]) (s1 := []) (s2 := []) (h1 := h) (h2 := h) rfl rfl).trans (mm_ite ?_ ?_)
  · refine (mm_by 5 (pc' := 118) (ls' := [.ref 264, .int x1, .null]) (st' := [.int (h.1 264 112), .ref 335, .ref 264]) (h' := h) rfl).trans ?_
    refine (mm_c1 (y := 314) (as := [.ref 335, .int (h.1 264 112)]) (nx := 121) (rest := [.ref 264]) rfl rfl).trans (mm_congI fun v2 h1 => ?_)
    refine (mm_c0 (y := 315) (as := [.ref 264, .int v2]) (nx := 124) (rest := []) rfl rfl).trans (mm_congV fun h3 => ?_)
    exact mm_by_end 3 rfl
  · exact mm_by 2 rfl
set_option maxRecDepth 100000 in
set_option maxHeartbeats 4000000 in
theorem U_X12_image_45 {d : Nat} {x1 : Int32} {x2 : Int32} {h : mm_H} : mm_D (mm_M mm_T0 d) cd_X12_image 45 [.ref 264, .int x1, .int x2] [] h = (if 3 ≤ x2 then (mm_D (mm_M mm_T0 d) cd_X12_image 74 [.ref 264, .int x1, .int 0] [] h) else (if ((1 + (3 * x1)) + x2) < 0 ∨ 210 ≤ ((1 + (3 * x1)) + x2).toNatClampNeg then none else (mm_bV (mm_M mm_T0 d 315 [.ref 264, .int (h.1 300 ((1 + (3 * x1)) + x2).toNatClampNeg)] h) (fun h1 => mm_D (mm_M mm_T0 d) cd_X12_image 45 [.ref 264, .int x1, .int (x2 + 1)] [] h1)))) := by
  refine (mm_by 2 (pc' := 47) (ls' := [.ref 264, .int x1, .int x2]) (st' := [.int 3, .int x2]) (h' := h) rfl).trans ?_
  refine (mm_br (c := 3 ≤ x2) (p1 := 72) (p2 := 50) (l1 := [.ref 264, .int x1, .int x2]) (l2 := [.ref 264, .int x1, .int x2]) (s1 := []) (s2 := []) (h1 := h) (h2 := h) rfl rfl).trans (mm_ite ?_ ?_)
  · exact mm_by 2 rfl
  · refine (mm_by 10 (pc' := 62) (ls' := [.ref 264, .int x1, .int x2]) (st' := [.int ((1 + (3 * x1)) + x2), .ref 300, .ref 264]) (h' := h) rfl).trans ?_
    refine (mm_gd (c := ((1 + (3 * x1)) + x2) < 0 ∨ 210 ≤ ((1 + (3 * x1)) + x2).toNatClampNeg) (p1 := 63) (l1 := [.ref 264, .int x1, .int x2]) (s1 := [.int (h.1 300 ((1 + (3 * x1)) + x2).toNatClampNeg), .ref 264]) (h1 := h) rfl (q_iald (n := 210) rfl)).trans (mm_ite rfl ?_)
    refine (mm_c0 (y := 315) (as := [.ref 264, .int (h.1 300 ((1 + (3 * x1)) + x2).toNatClampNeg)]) (nx := 66) (rest := []) rfl rfl).trans (mm_congV fun h1 => ?_)
    exact mm_by 2 rfl
set_option maxRecDepth 100000 in
set_option maxHeartbeats 4000000 in
theorem U_X12_image_74 {d : Nat} {x1 : Int32} {x2 : Int32} {h : mm_H} : mm_D (mm_M mm_T0 d) cd_X12_image 74 [.ref 264, .int x1, .int x2] [] h = (if (h.1 264 40) ≤ x2 then (mm_D (mm_M mm_T0 d) cd_X12_image 35 [.ref 264, .int (x1 + 1), .null] [] h) else (if x2 = x1 then (mm_D (mm_M mm_T0 d) cd_X12_image 74 [.ref 264, .int x1, .int (x2 + 1)] [] h) else (mm_bI (mm_M mm_T0 d 223 [.ref 264, .int x1, .int x2] h) (fun v2 h1 => mm_bV (mm_M mm_T0 d 315 [.ref 264, .int v2] h1) (fun h3 => mm_D (mm_M mm_T0 d) cd_X12_image 74 [.ref 264, .int x1, .int (x2 + 1)] [] h3))))) := by
  refine (mm_by 3 (pc' := 79) (ls' := [.ref 264, .int x1, .int x2]) (st' := [.int (h.1 264 40), .int x2]) (h' := h) rfl).trans ?_
  refine (mm_br (c := (h.1 264 40) ≤ x2) (p1 := 103) (p2 := 82) (l1 := [.ref 264, .int x1, .int x2]) (l2 := [.ref 264, .int x1, .int x2]) (s1 := []) (s2 := []) (h1 := h) (h2 := h) rfl rfl).trans (mm_ite ?_ ?_)
  · exact mm_by 2 rfl
  · refine (mm_by 2 (pc' := 84) (ls' := [.ref 264, .int x1, .int x2]) (st' := [.int x1, .int x2]) (h' := h) rfl).trans ?_
    refine (mm_br (c := x2 = x1) (p1 := 97) (p2 := 87) (l1 := [.ref 264, .int x1, .int x2]) (l2 := [.ref 264, .int x1, .int x2]) (s1 := []) (s2 := []) (h1 := h) (h2 := h) rfl rfl).trans (mm_ite ?_ ?_)
    · exact mm_by 2 rfl
    · refine (mm_by 4 (pc' := 91) (ls' := [.ref 264, .int x1, .int x2]) (st' := [.int x2, .int x1, .ref 264, .ref 264]) (h' := h) rfl).trans ?_
      refine (mm_c1 (y := 223) (as := [.ref 264, .int x1, .int x2]) (nx := 94) (rest := [.ref 264]) rfl rfl).trans (mm_congI fun v2 h1 => ?_)
      refine (mm_c0 (y := 315) (as := [.ref 264, .int v2]) (nx := 97) (rest := []) rfl rfl).trans (mm_congV fun h3 => ?_)
      exact mm_by 2 rfl
set_option maxRecDepth 100000 in
set_option maxHeartbeats 4000000 in
theorem U_X12_octet {d : Nat} {x1 : Int32} {h : mm_H} : mm_M mm_T0 (d + 1) 317 [.ref 264, .int x1] h = (if x1 < 0 then (some (some (.int ((-1))), h)) else (if (h.1 264 112) ≤ x1 then (some (some (.int ((-1))), h)) else (if x1 < 0 ∨ 83 ≤ x1.toNatClampNeg then none else (some (some (.int (h.1 335 x1.toNatClampNeg)), h))))) := by
  refine (mm_M_eq (ls := [.ref 264, .int x1]) rfl (Nat.le_of_ble_eq_true rfl) rfl h).trans ?_
  refine (mm_by 1 (pc' := 1) (ls' := [.ref 264, .int x1]) (st' := [.int x1]) (h' := h) rfl).trans ?_
  refine (mm_br (c := x1 < 0) (p1 := 21) (p2 := 4) (l1 := [.ref 264, .int x1]) (l2 := [.ref 264, .int x1]) (s1 := []) (s2 := []) (h1 := h) (h2 := h) rfl rfl).trans (mm_ite ?_ ?_)
  · exact mm_by_end 2 rfl
  · refine (mm_by 3 (pc' := 9) (ls' := [.ref 264, .int x1]) (st' := [.int (h.1 264 112), .int x1]) (h' := h) rfl).trans ?_
    refine (mm_br (c := (h.1 264 112) ≤ x1) (p1 := 21) (p2 := 12) (l1 := [.ref 264, .int x1]) (l2 := [.ref 264, .int x1]) (s1 := []) (s2 := []) (h1 := h) (h2 := h) rfl rfl).trans (mm_ite ?_ ?_)
    · exact mm_by_end 2 rfl
    · refine (mm_by 3 (pc' := 17) (ls' := [.ref 264, .int x1]) (st' := [.int x1, .ref 335]) (h' := h) rfl).trans ?_
      refine (mm_gd (c := x1 < 0 ∨ 83 ≤ x1.toNatClampNeg) (p1 := 18) (l1 := [.ref 264, .int x1]) (s1 := [.int (h.1 335 x1.toNatClampNeg)]) (h1 := h) rfl (q_iald (n := 83) rfl)).trans (mm_ite rfl ?_)
      exact mm_by_end 2 rfl
set_option maxRecDepth 100000 in
set_option maxHeartbeats 4000000 in
theorem U_X12_isPersonTold {d : Nat} {x1 : Int32} {h : mm_H} : mm_M mm_T0 (d + 1) 318 [.ref 264, .int x1] h = (if (2 + ((2 + (h.1 264 40)) * x1)) < 0 ∨ 1600 ≤ (2 + ((2 + (h.1 264 40)) * x1)).toNatClampNeg then none else (mm_bI (mm_M mm_T0 d 217 [.ref 264, .int (h.1 265 (2 + ((2 + (h.1 264 40)) * x1)).toNatClampNeg)] h) (fun v2 h1 => if v2 = 0 then (some (some (.int 0), h1)) else (if ((2 + ((2 + (h.1 264 40)) * x1)) + 1) < 0 ∨ 1600 ≤ ((2 + ((2 + (h.1 264 40)) * x1)) + 1).toNatClampNeg then none else (if 99 < (h1.1 265 ((2 + ((2 + (h.1 264 40)) * x1)) + 1).toNatClampNeg) then (some (some (.int 0), h1)) else (if ((2 + ((2 + (h.1 264 40)) * x1)) + 2) < 0 ∨ 1600 ≤ ((2 + ((2 + (h.1 264 40)) * x1)) + 2).toNatClampNeg then none else (if (h1.1 265 ((2 + ((2 + (h.1 264 40)) * x1)) + 2).toNatClampNeg) ≤ 1 then (mm_D (mm_M mm_T0 d) cd_X12_isPersonTold 56 [.ref 264, .null, .int (2 + (h.1 264 40)), .int (2 + ((2 + (h.1 264 40)) * x1)), .int 3] [] h1) else (some (some (.int 0), h1))))))))) := by
  refine (mm_M_eq (ls := [.ref 264, .int x1, .null, .null, .null]) rfl (Nat.le_of_ble_eq_true rfl) rfl h).trans ?_
  refine (mm_by 15 (pc' := 19) (ls' := [.ref 264, .int x1, .int (2 + (h.1 264 40)), .int (2 + ((2 + (h.1 264 40)) * x1)), .null]) (st' := [.int (2 + ((2 + (h.1 264 40)) * x1)), .ref 265, .ref 264]) (h' := h) rfl).trans ?_
  refine (mm_gd (c := (2 + ((2 + (h.1 264 40)) * x1)) < 0 ∨ 1600 ≤ (2 + ((2 + (h.1 264 40)) * x1)).toNatClampNeg) (p1 := 20) (l1 := [.ref 264, .int x1, .int (2 + (h.1 264 40)), .int (2 + ((2 + (h.1 264 40)) * x1)), .null]) (s1 := [.int (h.1 265 (2 + ((2 + (h.1 264 40)) * x1)).toNatClampNeg), .ref 264]) (h1 := h) rfl (q_iald (n := 1600) rfl)).trans (mm_ite rfl ?_)
  refine (mm_c1 (y := 217) (as := [.ref 264, .int (h.1 265 (2 + ((2 + (h.1 264 40)) * x1)).toNatClampNeg)]) (nx := 23) (rest := []) rfl rfl).trans (mm_congI fun v2 h1 => ?_)
  refine (mm_br (c := v2 = 0) (p1 := 51) (p2 := 26) (l1 := [.ref 264, .int x1, .int (2 + (h.1 264 40)), .int (2 + ((2 + (h.1 264 40)) * x1)), .null]) (l2 := [.ref 264, .int x1, .int (2 + (h.1 264 40)), .int (2 + ((2 + (h.1 264 40)) * x1)), .null]) (s1 := []) (s2 := []) (h1 := h1) (h2 := h1) rfl rfl).trans (mm_ite ?_ ?_)
  · exact mm_by_end 2 rfl
  · refine (mm_by 5 (pc' := 33) (ls' := [.ref 264, .int x1, .int (2 + (h.1 264 40)), .int (2 + ((2 + (h.1 264 40)) * x1)), .null]) (st' := [.int ((2 + ((2 + (h.1 264 40)) * x1)) + 1), .ref 265]) (h' := h1) rfl).trans ?_
    refine (mm_gd (c := ((2 + ((2 + (h.1 264 40)) * x1)) + 1) < 0 ∨ 1600 ≤ ((2 + ((2 + (h.1 264 40)) * x1)) + 1).toNatClampNeg) (p1 := 34) (l1 := [.ref 264, .int x1, .int (2 + (h.1 264 40)), .int (2 + ((2 + (h.1 264 40)) * x1)), .null]) (s1 := [.int (h1.1 265 ((2 + ((2 + (h.1 264 40)) * x1)) + 1).toNatClampNeg)]) (h1 := h1) rfl (q_iald (n := 1600) rfl)).trans (mm_ite rfl ?_)
    refine (mm_by 1 (pc' := 36) (ls' := [.ref 264, .int x1, .int (2 + (h.1 264 40)), .int (2 + ((2 + (h.1 264 40)) * x1)), .null]) (st' := [.int 99, .int (h1.1 265 ((2 + ((2 + (h.1 264 40)) * x1)) + 1).toNatClampNeg)]) (h' := h1) rfl).trans ?_
    refine (mm_br (c := 99 < (h1.1 265 ((2 + ((2 + (h.1 264 40)) * x1)) + 1).toNatClampNeg)) (p1 := 51) (p2 := 39) (l1 := [.ref 264, .int x1, .int (2 + (h.1 264 40)), .int (2 + ((2 + (h.1 264 40)) * x1)), .null]) (l2 := [.ref 264, .int x1, .int (2 + (h.1 264 40)), .int (2 + ((2 + (h.1 264 40)) * x1)), .null]) (s1 := []) (s2 := []) (h1 := h1) (h2 := h1) rfl rfl).trans (mm_ite ?_ ?_)
    · exact mm_by_end 2 rfl
    · refine (mm_by 5 (pc' := 46) (ls' := [.ref 264, .int x1, .int (2 + (h.1 264 40)), .int (2 + ((2 + (h.1 264 40)) * x1)), .null]) (st' := [.int ((2 + ((2 + (h.1 264 40)) * x1)) + 2), .ref 265]) (h' := h1) rfl).trans ?_
      refine (mm_gd (c := ((2 + ((2 + (h.1 264 40)) * x1)) + 2) < 0 ∨ 1600 ≤ ((2 + ((2 + (h.1 264 40)) * x1)) + 2).toNatClampNeg) (p1 := 47) (l1 := [.ref 264, .int x1, .int (2 + (h.1 264 40)), .int (2 + ((2 + (h.1 264 40)) * x1)), .null]) (s1 := [.int (h1.1 265 ((2 + ((2 + (h.1 264 40)) * x1)) + 2).toNatClampNeg)]) (h1 := h1) rfl (q_iald (n := 1600) rfl)).trans (mm_ite rfl ?_)
      refine (mm_by 1 (pc' := 48) (ls' := [.ref 264, .int x1, .int (2 + (h.1 264 40)), .int (2 + ((2 + (h.1 264 40)) * x1)), .null]) (st' := [.int 1, .int (h1.1 265 ((2 + ((2 + (h.1 264 40)) * x1)) + 2).toNatClampNeg)]) (h' := h1) rfl).trans ?_
      refine (mm_br (c := (h1.1 265 ((2 + ((2 + (h.1 264 40)) * x1)) + 2).toNatClampNeg) ≤ 1) (p1 := 53) (p2 := 51) (l1 := [.ref 264, .int x1, .int (2 + (h.1 264 40)), .int (2 + ((2 + (h.1 264 40)) * x1)), .null]) (l2 := [.ref 264, .int x1, .int (2 + (h.1 264 40)), .int (2 + ((2 + (h.1 264 40)) * x1)), .null]) (s1 := []) (s2 := []) (h1 := h1) (h2 := h1) rfl rfl).trans (mm_ite ?_ ?_)
      · exact mm_by 2 rfl
      · exact mm_by_end 2 rfl
set_option maxRecDepth 100000 in
set_option maxHeartbeats 4000000 in
theorem U_X12_isPersonTold_56 {d : Nat} {x2 : Int32} {x3 : Int32} {x4 : Int32} {h : mm_H} : mm_D (mm_M mm_T0 d) cd_X12_isPersonTold 56 [.ref 264, .null, .int x2, .int x3, .int x4] [] h = (if x2 ≤ x4 then (mm_D (mm_M mm_T0 d) cd_X12_isPersonTold 87 [.ref 264, .null, .int x2, .int x3, .int 2] [] h) else (if (x3 + x4) < 0 ∨ 1600 ≤ (x3 + x4).toNatClampNeg then none else (if (h.1 265 (x3 + x4).toNatClampNeg) ≤ 9 then (mm_D (mm_M mm_T0 d) cd_X12_isPersonTold 56 [.ref 264, .null, .int x2, .int x3, .int (x4 + 1)] [] h) else (some (some (.int 0), h))))) := by
  refine (mm_by 2 (pc' := 59) (ls' := [.ref 264, .null, .int x2, .int x3, .int x4]) (st' := [.int x2, .int x4]) (h' := h) rfl).trans ?_
  refine (mm_br (c := x2 ≤ x4) (p1 := 84) (p2 := 62) (l1 := [.ref 264, .null, .int x2, .int x3, .int x4]) (l2 := [.ref 264, .null, .int x2, .int x3, .int x4]) (s1 := []) (s2 := []) (h1 := h) (h2 := h) rfl rfl).trans (mm_ite ?_ ?_)
  · exact mm_by 2 rfl
  · refine (mm_by 5 (pc' := 70) (ls' := [.ref 264, .null, .int x2, .int x3, .int x4]) (st' := [.int (x3 + x4), .ref 265]) (h' := h) rfl).trans ?_
    refine (mm_gd (c := (x3 + x4) < 0 ∨ 1600 ≤ (x3 + x4).toNatClampNeg) (p1 := 71) (l1 := [.ref 264, .null, .int x2, .int x3, .int x4]) (s1 := [.int (h.1 265 (x3 + x4).toNatClampNeg)]) (h1 := h) rfl (q_iald (n := 1600) rfl)).trans (mm_ite rfl ?_)
    refine (mm_by 1 (pc' := 73) (ls' := [.ref 264, .null, .int x2, .int x3, .int x4]) (st' := [.int 9, .int (h.1 265 (x3 + x4).toNatClampNeg)]) (h' := h) rfl).trans ?_
    refine (mm_br (c := (h.1 265 (x3 + x4).toNatClampNeg) ≤ 9) (p1 := 78) (p2 := 76) (l1 := [.ref 264, .null, .int x2, .int x3, .int x4]) (l2 := [.ref 264, .null, .int x2, .int x3, .int x4]) (s1 := []) (s2 := []) (h1 := h) (h2 := h) rfl rfl).trans (mm_ite ?_ ?_)
    · exact mm_by 2 rfl
    · exact mm_by_end 2 rfl
set_option maxRecDepth 100000 in
set_option maxHeartbeats 4000000 in
theorem U_X12_isPersonTold_87 {d : Nat} {x2 : Int32} {x3 : Int32} {x4 : Int32} {h : mm_H} : mm_D (mm_M mm_T0 d) cd_X12_isPersonTold 87 [.ref 264, .null, .int x2, .int x3, .int x4] [] h = (if x3 ≤ x4 then (some (some (.int 1), h)) else (if x4 < 0 ∨ 1600 ≤ x4.toNatClampNeg then none else (if x3 < 0 ∨ 1600 ≤ x3.toNatClampNeg then none else (if ¬ (h.1 265 x4.toNatClampNeg) = (h.1 265 x3.toNatClampNeg) then (mm_D (mm_M mm_T0 d) cd_X12_isPersonTold 87 [.ref 264, .null, .int x2, .int x3, .int (x4 + x2)] [] h) else (some (some (.int 0), h)))))) := by
  refine (mm_by 2 (pc' := 90) (ls' := [.ref 264, .null, .int x2, .int x3, .int x4]) (st' := [.int x3, .int x4]) (h' := h) rfl).trans ?_
  refine (mm_br (c := x3 ≤ x4) (p1 := 120) (p2 := 93) (l1 := [.ref 264, .null, .int x2, .int x3, .int x4]) (l2 := [.ref 264, .null, .int x2, .int x3, .int x4]) (s1 := []) (s2 := []) (h1 := h) (h2 := h) rfl rfl).trans (mm_ite ?_ ?_)
  · exact mm_by_end 2 rfl
  · refine (mm_by 3 (pc' := 99) (ls' := [.ref 264, .null, .int x2, .int x3, .int x4]) (st' := [.int x4, .ref 265]) (h' := h) rfl).trans ?_
    refine (mm_gd (c := x4 < 0 ∨ 1600 ≤ x4.toNatClampNeg) (p1 := 100) (l1 := [.ref 264, .null, .int x2, .int x3, .int x4]) (s1 := [.int (h.1 265 x4.toNatClampNeg)]) (h1 := h) rfl (q_iald (n := 1600) rfl)).trans (mm_ite rfl ?_)
    refine (mm_by 3 (pc' := 105) (ls' := [.ref 264, .null, .int x2, .int x3, .int x4]) (st' := [.int x3, .ref 265, .int (h.1 265 x4.toNatClampNeg)]) (h' := h) rfl).trans ?_
    refine (mm_gd (c := x3 < 0 ∨ 1600 ≤ x3.toNatClampNeg) (p1 := 106) (l1 := [.ref 264, .null, .int x2, .int x3, .int x4]) (s1 := [.int (h.1 265 x3.toNatClampNeg), .int (h.1 265 x4.toNatClampNeg)]) (h1 := h) rfl (q_iald (n := 1600) rfl)).trans (mm_ite rfl ?_)
    refine (mm_br (c := ¬ (h.1 265 x4.toNatClampNeg) = (h.1 265 x3.toNatClampNeg)) (p1 := 111) (p2 := 109) (l1 := [.ref 264, .null, .int x2, .int x3, .int x4]) (l2 := [.ref 264, .null, .int x2, .int x3, .int x4]) (s1 := []) (s2 := []) (h1 := h) (h2 := h) rfl rfl).trans (mm_ite ?_ ?_)
    · exact mm_by 5 rfl
    · exact mm_by_end 2 rfl
set_option maxRecDepth 100000 in
set_option maxHeartbeats 4000000 in
theorem U_X12_isImage {d : Nat} {x1 : Int32} {h : mm_H} : mm_M mm_T0 (d + 1) 319 [.ref 264, .int x1] h = (if (h.1 264 53) = 0 then (some (some (.int 0), h)) else (if ¬ x1 = (3 + ((h.1 264 40) * (2 + (h.1 264 40)))) then (some (some (.int 0), h)) else (if (x1 - 1) < 0 ∨ 1600 ≤ (x1 - 1).toNatClampNeg then none else (mm_bI (mm_M mm_T0 d 314 [.ref 265, .int (x1 - 1)] h) (fun v2 h1 => if ¬ (h.1 265 (x1 - 1).toNatClampNeg) = v2 then (some (some (.int 0), h1)) else (if ((256 * (h1.1 265 0)) + (h1.1 265 1)) ≤ 999 then (mm_D (mm_M mm_T0 d) cd_X12_isImage 72 [.ref 264, .null, .int 0] [] h1) else (some (some (.int 0), h1)))))))) := by
  refine (mm_M_eq (ls := [.ref 264, .int x1, .null]) rfl (Nat.le_of_ble_eq_true rfl) rfl h).trans ?_
  refine (mm_by 2 (pc' := 4) (ls' := [.ref 264, .int x1, .null]) (st' := [.int (h.1 264 53)]) (h' := h) rfl).trans ?_
  refine (mm_br (c := (h.1 264 53) = 0) (p1 := 68) (p2 := 7) (l1 := [.ref 264, .int x1, .null]) (l2 := [.ref 264, .int x1, .null]) (s1 := []) (s2 := []) (h1 := h) (h2 := h) rfl rfl).trans (mm_ite ?_ ?_)
  · exact mm_by_end 2 rfl
  · refine (mm_by 10 (pc' := 21) (ls' := [.ref 264, .int x1, .null]) (st' := [.int (3 + ((h.1 264 40) * (2 + (h.1 264 40)))), .int x1]) (h' := h) rfl).trans ?_
    refine (mm_br (c := ¬ x1 = (3 + ((h.1 264 40) * (2 + (h.1 264 40))))) (p1 := 68) (p2 := 24) (l1 := [.ref 264, .int x1, .null]) (l2 := [.ref 264, .int x1, .null]) (s1 := []) (s2 := []) (h1 := h) (h2 := h) rfl rfl).trans (mm_ite ?_ ?_)
    · exact mm_by_end 2 rfl
    · refine (mm_by 5 (pc' := 31) (ls' := [.ref 264, .int x1, .null]) (st' := [.int (x1 - 1), .ref 265]) (h' := h) rfl).trans ?_
      refine (mm_gd (c := (x1 - 1) < 0 ∨ 1600 ≤ (x1 - 1).toNatClampNeg) (p1 := 32) (l1 := [.ref 264, .int x1, .null]) (s1 := [.int (h.1 265 (x1 - 1).toNatClampNeg)]) (h1 := h) rfl (q_iald (n := 1600) rfl)).trans (mm_ite rfl ?_)
      refine (mm_by 5 (pc' := 39) (ls' := [.ref 264, .int x1, .null]) (st' := [.int (x1 - 1), .ref 265, .int (h.1 265 (x1 - 1).toNatClampNeg)]) (h' := h) rfl).trans ?_
      refine (mm_c1 (y := 314) (as := [.ref 265, .int (x1 - 1)]) (nx := 42) (rest := [.int (h.1 265 (x1 - 1).toNatClampNeg)]) rfl rfl).trans (mm_congI fun v2 h1 => ?_)
      refine (mm_br (c := ¬ (h.1 265 (x1 - 1).toNatClampNeg) = v2) (p1 := 68) (p2 := 45) (l1 := [.ref 264, .int x1, .null]) (l2 := [.ref 264, .int x1, .null]) (s1 := []) (s2 := []) (h1 := h1) (h2 := h1) rfl rfl).trans (mm_ite ?_ ?_)
      · exact mm_by_end 2 rfl
      · refine (mm_by 12 (pc' := 65) (ls' := [.ref 264, .int x1, .null]) (st' := [.int 999, .int ((256 * (h1.1 265 0)) + (h1.1 265 1))]) (h' := h1) rfl).trans ?_
        refine (mm_br (c := ((256 * (h1.1 265 0)) + (h1.1 265 1)) ≤ 999) (p1 := 70) (p2 := 68) (l1 := [.ref 264, .int x1, .null]) (l2 := [.ref 264, .int x1, .null]) (s1 := []) (s2 := []) (h1 := h1) (h2 := h1) rfl rfl).trans (mm_ite ?_ ?_)
        · exact mm_by 2 rfl
        · exact mm_by_end 2 rfl
set_option maxRecDepth 100000 in
set_option maxHeartbeats 4000000 in
theorem U_X12_isImage_72 {d : Nat} {x2 : Int32} {h : mm_H} : mm_D (mm_M mm_T0 d) cd_X12_isImage 72 [.ref 264, .null, .int x2] [] h = (if (h.1 264 40) ≤ x2 then (some (some (.int 1), h)) else (mm_bI (mm_M mm_T0 d 318 [.ref 264, .int x2] h) (fun v2 h1 => if ¬ v2 = 0 then (mm_D (mm_M mm_T0 d) cd_X12_isImage 72 [.ref 264, .null, .int (x2 + 1)] [] h1) else (some (some (.int 0), h1))))) := by
  refine (mm_by 3 (pc' := 77) (ls' := [.ref 264, .null, .int x2]) (st' := [.int (h.1 264 40), .int x2]) (h' := h) rfl).trans ?_
  refine (mm_br (c := (h.1 264 40) ≤ x2) (p1 := 96) (p2 := 80) (l1 := [.ref 264, .null, .int x2]) (l2 := [.ref 264, .null, .int x2]) (s1 := []) (s2 := []) (h1 := h) (h2 := h) rfl rfl).trans (mm_ite ?_ ?_)
  · exact mm_by_end 2 rfl
  · refine (mm_by 2 (pc' := 82) (ls' := [.ref 264, .null, .int x2]) (st' := [.int x2, .ref 264]) (h' := h) rfl).trans ?_
    refine (mm_c1 (y := 318) (as := [.ref 264, .int x2]) (nx := 85) (rest := []) rfl rfl).trans (mm_congI fun v2 h1 => ?_)
    refine (mm_br (c := ¬ v2 = 0) (p1 := 90) (p2 := 88) (l1 := [.ref 264, .null, .int x2]) (l2 := [.ref 264, .null, .int x2]) (s1 := []) (s2 := []) (h1 := h1) (h2 := h1) rfl rfl).trans (mm_ite ?_ ?_)
    · exact mm_by 2 rfl
    · exact mm_by_end 2 rfl
