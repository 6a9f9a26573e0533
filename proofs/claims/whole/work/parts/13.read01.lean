set_option maxRecDepth 100000 in
set_option maxHeartbeats 4000000 in
theorem U_X2_comparisonHere {d : Nat} {h : mm_H} : mm_M mm_T0 (d + 1) 51 [.ref 11] h = (mm_bI (mm_M mm_T0 d 80 [.ref 3, .int 60] h) (fun v2 h1 => if v2 = 0 then (mm_bI (mm_M mm_T0 d 80 [.ref 3, .int 62] h1) (fun v4 h3 => if v4 = 0 then (mm_bI (mm_M mm_T0 d 80 [.ref 3, .int 61] h3) (fun v6 h5 => if v6 = 0 then (some (some (.int ((-1))), h5)) else (some (some (.int 11006), h5)))) else (some (some (.int 11005), h3)))) else (some (some (.int 11004), h1)))) := by
  refine (mm_M_eq (ls := [.ref 11]) rfl (Nat.le_of_ble_eq_true rfl) rfl h).trans ?_
  refine (mm_by 3 (pc' := 6) (ls' := [.ref 11]) (st' := [.int 60, .ref 3]) (h' := h) rfl).trans ?_
  refine (mm_c1 (y := 80) (as := [.ref 3, .int 60]) (nx := 9) (rest := []) rfl rfl).trans (mm_congI fun v2 h1 => ?_)
  refine (mm_br (c := v2 = 0) (p1 := 16) (p2 := 12) (l1 := [.ref 11]) (l2 := [.ref 11]) (s1 := []) (s2 := []) (h1 := h1) (h2 := h1) rfl rfl).trans (mm_ite ?_ ?_)
  · refine (mm_by 3 (pc' := 22) (ls' := [.ref 11]) (st' := [.int 62, .ref 3]) (h' := h1) rfl).trans ?_
    refine (mm_c1 (y := 80) (as := [.ref 3, .int 62]) (nx := 25) (rest := []) rfl rfl).trans (mm_congI fun v4 h3 => ?_)
    refine (mm_br (c := v4 = 0) (p1 := 32) (p2 := 28) (l1 := [.ref 11]) (l2 := [.ref 11]) (s1 := []) (s2 := []) (h1 := h3) (h2 := h3) rfl rfl).trans (mm_ite ?_ ?_)
    · refine (mm_by 3 (pc' := 38) (ls' := [.ref 11]) (st' := [.int 61, .ref 3]) (h' := h3) rfl).trans ?_
      refine (mm_c1 (y := 80) (as := [.ref 3, .int 61]) (nx := 41) (rest := []) rfl rfl).trans (mm_congI fun v6 h5 => ?_)
      refine (mm_br (c := v6 = 0) (p1 := 50) (p2 := 44) (l1 := [.ref 11]) (l2 := [.ref 11]) (s1 := []) (s2 := []) (h1 := h5) (h2 := h5) rfl rfl).trans (mm_ite ?_ ?_)
      · exact mm_by_end 2 rfl
      · exact mm_by_end 3 rfl
    · exact mm_by_end 2 rfl
  · exact mm_by_end 2 rfl
set_option maxRecDepth 100000 in
set_option maxHeartbeats 4000000 in
theorem U_X2_readSum {d : Nat} {x1 : Int32} {h : mm_H} : mm_M mm_T0 (d + 1) 52 [.ref 11, .int x1] h = (mm_bI (mm_M mm_T0 d 54 [.ref 11, .int x1] h) (fun v2 h1 => if ¬ v2 = 0 then (mm_D (mm_M mm_T0 d) cd_X2_readSum 14 [.ref 11, .int x1, .int ((-1)), .int 0, .null, .null] [] h1) else (some (some (.int 0), h1)))) := by
  refine (mm_M_eq (ls := [.ref 11, .int x1, .null, .null, .null, .null]) rfl (Nat.le_of_ble_eq_true rfl) rfl h).trans ?_
  refine (mm_by 2 (pc' := 2) (ls' := [.ref 11, .int x1, .null, .null, .null, .null]) (st' := [.int x1, .ref 11]) (h' := h) rfl).trans ?_
  refine (mm_c1 (y := 54) (as := [.ref 11, .int x1]) (nx := 5) (rest := []) rfl rfl).trans (mm_congI fun v2 h1 => ?_)
  refine (mm_br (c := ¬ v2 = 0) (p1 := 10) (p2 := 8) (l1 := [.ref 11, .int x1, .null, .null, .null, .null]) (l2 := [.ref 11, .int x1, .null, .null, .null, .null]) (s1 := []) (s2 := []) (h1 := h1) (h2 := h1) rfl rfl).trans (mm_ite ?_ ?_)
  · exact mm_by 4 rfl
  · exact mm_by_end 2 rfl
set_option maxRecDepth 100000 in
set_option maxHeartbeats 4000000 in
theorem U_X2_readSum_14 {d : Nat} {x1 : Int32} {x2 : Int32} {x3 : Int32} {h : mm_H} : mm_D (mm_M mm_T0 d) cd_X2_readSum 14 [.ref 11, .int x1, .int x2, .int x3, .null, .null] [] h = (if 1600 ≤ x3 then (if x2 = ((-1)) then (some (some (.int 1), h)) else (if mm_sh (h.2.2 11 1) = (0, 1) then (mm_bV (mm_M mm_T0 d 37 [.ref (h.2.2 11 1), .int x2] h) (fun h1 => some (some (.int 1), h1))) else none)) else (mm_bI (mm_M mm_T0 d 53 [.ref 11] h) (fun v3 h2 => if v3 = ((-1)) then (if x2 = ((-1)) then (some (some (.int 1), h2)) else (if mm_sh (h2.2.2 11 1) = (0, 1) then (mm_bV (mm_M mm_T0 d 37 [.ref (h2.2.2 11 1), .int x2] h2) (fun h4 => some (some (.int 1), h4))) else none)) else (mm_bI (mm_M mm_T0 d 53 [.ref 11] h2) (fun v6 h5 => if v6 = 11002 then (mm_bV (mm_M mm_T0 d 75 [.ref 3] h5) (fun h7 => mm_bI (mm_M mm_T0 d 54 [.ref 11, .int x1] h7) (fun v9 h8 => if ¬ v9 = 0 then (if mm_sh (h8.2.2 11 1) = (0, 1) then (mm_bV (mm_M mm_T0 d 37 [.ref (h8.2.2 11 1), .int v6] h8) (fun h10 => mm_D (mm_M mm_T0 d) cd_X2_readSum 14 [.ref 11, .int x1, .int x2, .int (x3 + 1), .null, .null] [] h10)) else none) else (some (some (.int 0), h8))))) else (if ¬ v6 = 11003 then (if x2 = ((-1)) then (mm_bV (mm_M mm_T0 d 75 [.ref 3] h5) (fun h11 => mm_bI (mm_M mm_T0 d 54 [.ref 11, .int x1] h11) (fun v13 h12 => if ¬ v13 = 0 then (mm_D (mm_M mm_T0 d) cd_X2_readSum 14 [.ref 11, .int x1, .int v6, .int (x3 + 1), .null, .null] [] h12) else (some (some (.int 0), h12))))) else (if mm_sh (h5.2.2 11 1) = (0, 1) then (mm_bV (mm_M mm_T0 d 37 [.ref (h5.2.2 11 1), .int x2] h5) (fun h14 => mm_bV (mm_M mm_T0 d 75 [.ref 3] h14) (fun h15 => mm_bI (mm_M mm_T0 d 54 [.ref 11, .int x1] h15) (fun v17 h16 => if ¬ v17 = 0 then (mm_D (mm_M mm_T0 d) cd_X2_readSum 14 [.ref 11, .int x1, .int v6, .int (x3 + 1), .null, .null] [] h16) else (some (some (.int 0), h16)))))) else none)) else (mm_bV (mm_M mm_T0 d 75 [.ref 3] h5) (fun h18 => mm_bI (mm_M mm_T0 d 54 [.ref 11, .int x1] h18) (fun v20 h19 => if ¬ v20 = 0 then (if mm_sh (h19.2.2 11 1) = (0, 1) then (mm_bV (mm_M mm_T0 d 37 [.ref (h19.2.2 11 1), .int v6] h19) (fun h21 => mm_D (mm_M mm_T0 d) cd_X2_readSum 14 [.ref 11, .int x1, .int x2, .int (x3 + 1), .null, .null] [] h21)) else none) else (some (some (.int 0), h19))))))))))) := by
  refine (mm_by 2 (pc' := 18) (ls' := [.ref 11, .int x1, .int x2, .int x3, .null, .null]) (st' := [.int 1600, .int x3]) (h' := h) rfl).trans ?_
  refine (mm_br (c := 1600 ≤ x3) (p1 := 119) (p2 := 21) (l1 := [.ref 11, .int x1, .int x2, .int x3, .null, .null]) (l2 := [.ref 11, .int x1, .int x2, .int x3, .null, .null]) (s1 := []) (s2 := []) (h1 := h) (h2 := h) rfl rfl).trans (mm_ite ?_ ?_)
  · refine (mm_by 2 (pc' := 121) (ls' := [.ref 11, .int x1, .int x2, .int x3, .null, .null]) (st' := [.int ((-1)), .int x2]) (h' := h) rfl).trans ?_
    refine (mm_br (c := x2 = ((-1))) (p1 := 132) (p2 := 124) (l1 := [.ref 11, .int x1, .int x2, .int x3, .null, .null]) (l2 := [.ref 11, .int x1, .int x2, .int x3, .null, .null]) (s1 := []) (s2 := []) (h1 := h) (h2 := h) rfl rfl).trans (mm_ite ?_ ?_)
    · exact mm_by_end 2 rfl
    · refine (mm_by 3 (pc' := 129) (ls' := [.ref 11, .int x1, .int x2, .int x3, .null, .null]) (st' := [.int x2, .ref (h.2.2 11 1)]) (h' := h) rfl).trans ?_
      refine (mm_d0 (b := h.2.2 11 1) (ci := 1) (y := 37) (as := [.ref (h.2.2 11 1), .int x2]) (nx := 132) (rest := []) rfl rfl (Nat.le_of_ble_eq_true rfl)).trans (mm_ite (mm_congV fun h1 => ?_) rfl)
      exact mm_by_end 2 rfl
  · refine (mm_by 1 (pc' := 22) (ls' := [.ref 11, .int x1, .int x2, .int x3, .null, .null]) (st' := [.ref 11]) (h' := h) rfl).trans ?_
    refine (mm_c1 (y := 53) (as := [.ref 11]) (nx := 25) (rest := []) rfl rfl).trans (mm_congI fun v3 h2 => ?_)
    refine (mm_by 1 (pc' := 26) (ls' := [.ref 11, .int x1, .int x2, .int x3, .null, .null]) (st' := [.int ((-1)), .int v3]) (h' := h2) rfl).trans ?_
    refine (mm_br (c := v3 = ((-1))) (p1 := 119) (p2 := 29) (l1 := [.ref 11, .int x1, .int x2, .int x3, .null, .null]) (l2 := [.ref 11, .int x1, .int x2, .int x3, .null, .null]) (s1 := []) (s2 := []) (h1 := h2) (h2 := h2) rfl rfl).trans (mm_ite ?_ ?_)
    · refine (mm_by 2 (pc' := 121) (ls' := [.ref 11, .int x1, .int x2, .int x3, .null, .null]) (st' := [.int ((-1)), .int x2]) (h' := h2) rfl).trans ?_
      refine (mm_br (c := x2 = ((-1))) (p1 := 132) (p2 := 124) (l1 := [.ref 11, .int x1, .int x2, .int x3, .null, .null]) (l2 := [.ref 11, .int x1, .int x2, .int x3, .null, .null]) (s1 := []) (s2 := []) (h1 := h2) (h2 := h2) rfl rfl).trans (mm_ite ?_ ?_)
      · exact mm_by_end 2 rfl
      · refine (mm_by 3 (pc' := 129) (ls' := [.ref 11, .int x1, .int x2, .int x3, .null, .null]) (st' := [.int x2, .ref (h2.2.2 11 1)]) (h' := h2) rfl).trans ?_
        refine (mm_d0 (b := h2.2.2 11 1) (ci := 1) (y := 37) (as := [.ref (h2.2.2 11 1), .int x2]) (nx := 132) (rest := []) rfl rfl (Nat.le_of_ble_eq_true rfl)).trans (mm_ite (mm_congV fun h4 => ?_) rfl)
        exact mm_by_end 2 rfl
    · refine (mm_by 1 (pc' := 30) (ls' := [.ref 11, .int x1, .int x2, .int x3, .null, .null]) (st' := [.ref 11]) (h' := h2) rfl).trans ?_
      refine (mm_c1 (y := 53) (as := [.ref 11]) (nx := 33) (rest := []) rfl rfl).trans (mm_congI fun v6 h5 => ?_)
      refine (mm_by 3 (pc' := 40) (ls' := [.ref 11, .int x1, .int x2, .int x3, .int v6, .null]) (st' := [.int 11002, .int v6]) (h' := h5) rfl).trans ?_
      refine (mm_br (c := v6 = 11002) (p1 := 51) (p2 := 43) (l1 := [.ref 11, .int x1, .int x2, .int x3, .int v6, .null]) (l2 := [.ref 11, .int x1, .int x2, .int x3, .int v6, .null]) (s1 := []) (s2 := []) (h1 := h5) (h2 := h5) rfl rfl).trans (mm_ite ?_ ?_)
      · refine (mm_by 7 (pc' := 80) (ls' := [.ref 11, .int x1, .int x2, .int x3, .int v6, .int 1]) (st' := [.ref 3]) (h' := h5) rfl).trans ?_
        refine (mm_c0 (y := 75) (as := [.ref 3]) (nx := 83) (rest := []) rfl rfl).trans (mm_congV fun h7 => ?_)
        refine (mm_by 2 (pc' := 85) (ls' := [.ref 11, .int x1, .int x2, .int x3, .int v6, .int 1]) (st' := [.int x1, .ref 11]) (h' := h7) rfl).trans ?_
        refine (mm_c1 (y := 54) (as := [.ref 11, .int x1]) (nx := 88) (rest := []) rfl rfl).trans (mm_congI fun v9 h8 => ?_)
        refine (mm_br (c := ¬ v9 = 0) (p1 := 93) (p2 := 91) (l1 := [.ref 11, .int x1, .int x2, .int x3, .int v6, .int 1]) (l2 := [.ref 11, .int x1, .int x2, .int x3, .int v6, .int 1]) (s1 := []) (s2 := []) (h1 := h8) (h2 := h8) rfl rfl).trans (mm_ite ?_ ?_)
        · refine (mm_by 5 (pc' := 104) (ls' := [.ref 11, .int x1, .int x2, .int x3, .int v6, .int 1]) (st' := [.int v6, .ref (h8.2.2 11 1)]) (h' := h8) rfl).trans ?_
          refine (mm_d0 (b := h8.2.2 11 1) (ci := 1) (y := 37) (as := [.ref (h8.2.2 11 1), .int v6]) (nx := 107) (rest := []) rfl rfl (Nat.le_of_ble_eq_true rfl)).trans (mm_ite (mm_congV fun h10 => ?_) rfl)
          exact mm_by 3 rfl
        · exact mm_by_end 2 rfl
      · refine (mm_by 2 (pc' := 48) (ls' := [.ref 11, .int x1, .int x2, .int x3, .int v6, .null]) (st' := [.int 11003, .int v6]) (h' := h5) rfl).trans ?_
        refine (mm_br (c := ¬ v6 = 11003) (p1 := 55) (p2 := 51) (l1 := [.ref 11, .int x1, .int x2, .int x3, .int v6, .null]) (l2 := [.ref 11, .int x1, .int x2, .int x3, .int v6, .null]) (s1 := []) (s2 := []) (h1 := h5) (h2 := h5) rfl rfl).trans (mm_ite ?_ ?_)
        · refine (mm_by 6 (pc' := 65) (ls' := [.ref 11, .int x1, .int x2, .int x3, .int v6, .int 0]) (st' := [.int ((-1)), .int x2]) (h' := h5) rfl).trans ?_
          refine (mm_br (c := x2 = ((-1))) (p1 := 76) (p2 := 68) (l1 := [.ref 11, .int x1, .int x2, .int x3, .int v6, .int 0]) (l2 := [.ref 11, .int x1, .int x2, .int x3, .int v6, .int 0]) (s1 := []) (s2 := []) (h1 := h5) (h2 := h5) rfl rfl).trans (mm_ite ?_ ?_)
          · refine (mm_by 2 (pc' := 80) (ls' := [.ref 11, .int x1, .int x2, .int x3, .int v6, .int 0]) (st' := [.ref 3]) (h' := h5) rfl).trans ?_
            refine (mm_c0 (y := 75) (as := [.ref 3]) (nx := 83) (rest := []) rfl rfl).trans (mm_congV fun h11 => ?_)
            refine (mm_by 2 (pc' := 85) (ls' := [.ref 11, .int x1, .int x2, .int x3, .int v6, .int 0]) (st' := [.int x1, .ref 11]) (h' := h11) rfl).trans ?_
            refine (mm_c1 (y := 54) (as := [.ref 11, .int x1]) (nx := 88) (rest := []) rfl rfl).trans (mm_congI fun v13 h12 => ?_)
            refine (mm_br (c := ¬ v13 = 0) (p1 := 93) (p2 := 91) (l1 := [.ref 11, .int x1, .int x2, .int x3, .int v6, .int 0]) (l2 := [.ref 11, .int x1, .int x2, .int x3, .int v6, .int 0]) (s1 := []) (s2 := []) (h1 := h12) (h2 := h12) rfl rfl).trans (mm_ite ?_ ?_)
            · exact mm_by 6 rfl
            · exact mm_by_end 2 rfl
          · refine (mm_by 3 (pc' := 73) (ls' := [.ref 11, .int x1, .int x2, .int x3, .int v6, .int 0]) (st' := [.int x2, .ref (h5.2.2 11 1)]) (h' := h5) rfl).trans ?_
            refine (mm_d0 (b := h5.2.2 11 1) (ci := 1) (y := 37) (as := [.ref (h5.2.2 11 1), .int x2]) (nx := 76) (rest := []) rfl rfl (Nat.le_of_ble_eq_true rfl)).trans (mm_ite (mm_congV fun h14 => ?_) rfl)
            refine (mm_by 2 (pc' := 80) (ls' := [.ref 11, .int x1, .int x2, .int x3, .int v6, .int 0]) (st' := [.ref 3]) (h' := h14) rfl).trans ?_
            refine (mm_c0 (y := 75) (as := [.ref 3]) (nx := 83) (rest := []) rfl rfl).trans (mm_congV fun h15 => ?_)
            refine (mm_by 2 (pc' := 85) (ls' := [.ref 11, .int x1, .int x2, .int x3, .int v6, .int 0]) (st' := [.int x1, .ref 11]) (h' := h15) rfl).trans ?_
            refine (mm_c1 (y := 54) (as := [.ref 11, .int x1]) (nx := 88) (rest := []) rfl rfl).trans (mm_congI fun v17 h16 => ?_)
            refine (mm_br (c := ¬ v17 = 0) (p1 := 93) (p2 := 91) (l1 := [.ref 11, .int x1, .int x2, .int x3, .int v6, .int 0]) (l2 := [.ref 11, .int x1, .int x2, .int x3, .int v6, .int 0]) (s1 := []) (s2 := []) (h1 := h16) (h2 := h16) rfl rfl).trans (mm_ite ?_ ?_)
            · exact mm_by 6 rfl
            · exact mm_by_end 2 rfl
        · refine (mm_by 7 (pc' := 80) (ls' := [.ref 11, .int x1, .int x2, .int x3, .int v6, .int 1]) (st' := [.ref 3]) (h' := h5) rfl).trans ?_
          refine (mm_c0 (y := 75) (as := [.ref 3]) (nx := 83) (rest := []) rfl rfl).trans (mm_congV fun h18 => ?_)
          refine (mm_by 2 (pc' := 85) (ls' := [.ref 11, .int x1, .int x2, .int x3, .int v6, .int 1]) (st' := [.int x1, .ref 11]) (h' := h18) rfl).trans ?_
          refine (mm_c1 (y := 54) (as := [.ref 11, .int x1]) (nx := 88) (rest := []) rfl rfl).trans (mm_congI fun v20 h19 => ?_)
          refine (mm_br (c := ¬ v20 = 0) (p1 := 93) (p2 := 91) (l1 := [.ref 11, .int x1, .int x2, .int x3, .int v6, .int 1]) (l2 := [.ref 11, .int x1, .int x2, .int x3, .int v6, .int 1]) (s1 := []) (s2 := []) (h1 := h19) (h2 := h19) rfl rfl).trans (mm_ite ?_ ?_)
          · refine (mm_by 5 (pc' := 104) (ls' := [.ref 11, .int x1, .int x2, .int x3, .int v6, .int 1]) (st' := [.int v6, .ref (h19.2.2 11 1)]) (h' := h19) rfl).trans ?_
            refine (mm_d0 (b := h19.2.2 11 1) (ci := 1) (y := 37) (as := [.ref (h19.2.2 11 1), .int v6]) (nx := 107) (rest := []) rfl rfl (Nat.le_of_ble_eq_true rfl)).trans (mm_ite (mm_congV fun h21 => ?_) rfl)
            exact mm_by 3 rfl
          · exact mm_by_end 2 rfl
set_option maxRecDepth 100000 in
set_option maxHeartbeats 4000000 in
theorem U_X2_deedHere {d : Nat} {h : mm_H} : mm_M mm_T0 (d + 1) 53 [.ref 11] h = (mm_bI (mm_M mm_T0 d 80 [.ref 3, .int 43] h) (fun v2 h1 => if v2 = 0 then (mm_bI (mm_M mm_T0 d 80 [.ref 3, .int 45] h1) (fun v4 h3 => if v4 = 0 then (mm_bI (mm_M mm_T0 d 80 [.ref 3, .int 42] h3) (fun v6 h5 => if v6 = 0 then (mm_bI (mm_M mm_T0 d 80 [.ref 3, .int 47] h5) (fun v8 h7 => if v8 = 0 then (some (some (.int ((-1))), h7)) else (some (some (.int 11003), h7)))) else (some (some (.int 11002), h5)))) else (some (some (.int 11001), h3)))) else (some (some (.int 11000), h1)))) := by
  refine (mm_M_eq (ls := [.ref 11]) rfl (Nat.le_of_ble_eq_true rfl) rfl h).trans ?_
  refine (mm_by 3 (pc' := 6) (ls' := [.ref 11]) (st' := [.int 43, .ref 3]) (h' := h) rfl).trans ?_
  refine (mm_c1 (y := 80) (as := [.ref 3, .int 43]) (nx := 9) (rest := []) rfl rfl).trans (mm_congI fun v2 h1 => ?_)
  refine (mm_br (c := v2 = 0) (p1 := 16) (p2 := 12) (l1 := [.ref 11]) (l2 := [.ref 11]) (s1 := []) (s2 := []) (h1 := h1) (h2 := h1) rfl rfl).trans (mm_ite ?_ ?_)
  · refine (mm_by 3 (pc' := 22) (ls' := [.ref 11]) (st' := [.int 45, .ref 3]) (h' := h1) rfl).trans ?_
    refine (mm_c1 (y := 80) (as := [.ref 3, .int 45]) (nx := 25) (rest := []) rfl rfl).trans (mm_congI fun v4 h3 => ?_)
    refine (mm_br (c := v4 = 0) (p1 := 32) (p2 := 28) (l1 := [.ref 11]) (l2 := [.ref 11]) (s1 := []) (s2 := []) (h1 := h3) (h2 := h3) rfl rfl).trans (mm_ite ?_ ?_)
    · refine (mm_by 3 (pc' := 38) (ls' := [.ref 11]) (st' := [.int 42, .ref 3]) (h' := h3) rfl).trans ?_
      refine (mm_c1 (y := 80) (as := [.ref 3, .int 42]) (nx := 41) (rest := []) rfl rfl).trans (mm_congI fun v6 h5 => ?_)
      refine (mm_br (c := v6 = 0) (p1 := 48) (p2 := 44) (l1 := [.ref 11]) (l2 := [.ref 11]) (s1 := []) (s2 := []) (h1 := h5) (h2 := h5) rfl rfl).trans (mm_ite ?_ ?_)
      · refine (mm_by 3 (pc' := 54) (ls' := [.ref 11]) (st' := [.int 47, .ref 3]) (h' := h5) rfl).trans ?_
        refine (mm_c1 (y := 80) (as := [.ref 3, .int 47]) (nx := 57) (rest := []) rfl rfl).trans (mm_congI fun v8 h7 => ?_)
        refine (mm_br (c := v8 = 0) (p1 := 66) (p2 := 60) (l1 := [.ref 11]) (l2 := [.ref 11]) (s1 := []) (s2 := []) (h1 := h7) (h2 := h7) rfl rfl).trans (mm_ite ?_ ?_)
        · exact mm_by_end 2 rfl
        · exact mm_by_end 3 rfl
      · exact mm_by_end 2 rfl
    · exact mm_by_end 2 rfl
  · exact mm_by_end 2 rfl
set_option maxRecDepth 100000 in
set_option maxHeartbeats 4000000 in
theorem U_X2_readPart {d : Nat} {x1 : Int32} {h : mm_H} : mm_M mm_T0 (d + 1) 54 [.ref 11, .int x1] h = (mm_bI (mm_M mm_T0 d 78 [.ref 3] h) (fun v2 h1 => if v2 = 0 then (mm_bI (mm_M mm_T0 d 80 [.ref 3, .int 40] h1) (fun v4 h3 => if v4 = 0 then (mm_bI (mm_M mm_T0 d 77 [.ref 3] h3) (fun v6 h5 => if ¬ v6 = 0 then (mm_bI (mm_M mm_T0 d 59 [.ref 11, .int (h5.1 3 4)] h5) (fun v8 h7 => if v8 = 0 then (if (h5.1 3 4) = 23 then (if ¬ (h5.1 3 4) = 23 then (mm_bI (mm_M mm_T0 d 57 [.ref 11, .int x1, .int 11008] h7) (fun v10 h9 => mm_zr v10 h9)) else (mm_bI (mm_M mm_T0 d 57 [.ref 11, .int x1, .int 11007] h7) (fun v12 h11 => mm_zr v12 h11))) else (if ¬ (h5.1 3 4) = 24 then (if ¬ (h7.1 11 2) = 3 then (mm_bI (mm_M mm_T0 d 88 [.ref 3] h7) (fun v14 h13 => mm_zr v14 h13)) else (if (h5.1 3 4) = 5 then (if ¬ (h5.1 3 4) = 5 then (mm_bI (mm_M mm_T0 d 58 [.ref 11, .int x1, .int 11013] h7) (fun v16 h15 => mm_zr v16 h15)) else (mm_bI (mm_M mm_T0 d 58 [.ref 11, .int x1, .int 11012] h7) (fun v18 h17 => mm_zr v18 h17))) else (if ¬ (h5.1 3 4) = 14 then (mm_bI (mm_M mm_T0 d 88 [.ref 3] h7) (fun v20 h19 => mm_zr v20 h19)) else (if ¬ (h5.1 3 4) = 5 then (mm_bI (mm_M mm_T0 d 58 [.ref 11, .int x1, .int 11013] h7) (fun v22 h21 => mm_zr v22 h21)) else (mm_bI (mm_M mm_T0 d 58 [.ref 11, .int x1, .int 11012] h7) (fun v24 h23 => mm_zr v24 h23)))))) else (if ¬ (h5.1 3 4) = 23 then (mm_bI (mm_M mm_T0 d 57 [.ref 11, .int x1, .int 11008] h7) (fun v26 h25 => mm_zr v26 h25)) else (mm_bI (mm_M mm_T0 d 57 [.ref 11, .int x1, .int 11007] h7) (fun v28 h27 => mm_zr v28 h27))))) else (if mm_sh (h7.2.2 11 1) = (0, 1) then (mm_bV (mm_M mm_T0 d 37 [.ref (h7.2.2 11 1), .int (10000 + (h5.1 3 4))] h7) (fun h29 => mm_bV (mm_M mm_T0 d 75 [.ref 3] h29) (fun h30 => some (some (.int 1), h30)))) else none))) else (mm_bI (mm_M mm_T0 d 88 [.ref 3] h5) (fun v32 h31 => mm_zr v32 h31)))) else (mm_bI (mm_M mm_T0 d 56 [.ref 11, .int x1] h3) (fun v34 h33 => mm_zr v34 h33)))) else (mm_bI (mm_M mm_T0 d 55 [.ref 11] h1) (fun v36 h35 => mm_zr v36 h35)))) := by
  refine (mm_M_eq (ls := [.ref 11, .int x1, .null]) rfl (Nat.le_of_ble_eq_true rfl) rfl h).trans ?_
  refine (mm_by 2 (pc' := 4) (ls' := [.ref 11, .int x1, .null]) (st' := [.ref 3]) (h' := h) rfl).trans ?_
  refine (mm_c1 (y := 78) (as := [.ref 3]) (nx := 7) (rest := []) rfl rfl).trans (mm_congI fun v2 h1 => ?_)
  refine (mm_br (c := v2 = 0) (p1 := 15) (p2 := 10) (l1 := [.ref 11, .int x1, .null]) (l2 := [.ref 11, .int x1, .null]) (s1 := []) (s2 := []) (h1 := h1) (h2 := h1) rfl rfl).trans (mm_ite ?_ ?_)
  · refine (mm_by 3 (pc' := 21) (ls' := [.ref 11, .int x1, .null]) (st' := [.int 40, .ref 3]) (h' := h1) rfl).trans ?_
    refine (mm_c1 (y := 80) (as := [.ref 3, .int 40]) (nx := 24) (rest := []) rfl rfl).trans (mm_congI fun v4 h3 => ?_)
    refine (mm_br (c := v4 = 0) (p1 := 33) (p2 := 27) (l1 := [.ref 11, .int x1, .null]) (l2 := [.ref 11, .int x1, .null]) (s1 := []) (s2 := []) (h1 := h3) (h2 := h3) rfl rfl).trans (mm_ite ?_ ?_)
    · refine (mm_by 2 (pc' := 37) (ls' := [.ref 11, .int x1, .null]) (st' := [.ref 3]) (h' := h3) rfl).trans ?_
      refine (mm_c1 (y := 77) (as := [.ref 3]) (nx := 40) (rest := []) rfl rfl).trans (mm_congI fun v6 h5 => ?_)
      refine (mm_br (c := ¬ v6 = 0) (p1 := 51) (p2 := 43) (l1 := [.ref 11, .int x1, .null]) (l2 := [.ref 11, .int x1, .null]) (s1 := []) (s2 := []) (h1 := h5) (h2 := h5) rfl rfl).trans (mm_ite ?_ ?_)
      · refine (mm_by 6 (pc' := 61) (ls' := [.ref 11, .int x1, .int (h5.1 3 4)]) (st' := [.int (h5.1 3 4), .ref 11]) (h' := h5) rfl).trans ?_
        refine (mm_c1 (y := 59) (as := [.ref 11, .int (h5.1 3 4)]) (nx := 64) (rest := []) rfl rfl).trans (mm_congI fun v8 h7 => ?_)
        refine (mm_br (c := v8 = 0) (p1 := 88) (p2 := 67) (l1 := [.ref 11, .int x1, .int (h5.1 3 4)]) (l2 := [.ref 11, .int x1, .int (h5.1 3 4)]) (s1 := []) (s2 := []) (h1 := h7) (h2 := h7) rfl rfl).trans (mm_ite ?_ ?_)
        · refine (mm_by 2 (pc' := 91) (ls' := [.ref 11, .int x1, .int (h5.1 3 4)]) (st' := [.int 23, .int (h5.1 3 4)]) (h' := h7) rfl).trans ?_
          refine (mm_br (c := (h5.1 3 4) = 23) (p1 := 100) (p2 := 94) (l1 := [.ref 11, .int x1, .int (h5.1 3 4)]) (l2 := [.ref 11, .int x1, .int (h5.1 3 4)]) (s1 := []) (s2 := []) (h1 := h7) (h2 := h7) rfl rfl).trans (mm_ite ?_ ?_)
          · refine (mm_by 4 (pc' := 105) (ls' := [.ref 11, .int x1, .int (h5.1 3 4)]) (st' := [.int 23, .int (h5.1 3 4), .int x1, .ref 11]) (h' := h7) rfl).trans ?_
            refine (mm_br (c := ¬ (h5.1 3 4) = 23) (p1 := 114) (p2 := 108) (l1 := [.ref 11, .int x1, .int (h5.1 3 4)]) (l2 := [.ref 11, .int x1, .int (h5.1 3 4)]) (s1 := [.int x1, .ref 11]) (s2 := [.int x1, .ref 11]) (h1 := h7) (h2 := h7) rfl rfl).trans (mm_ite ?_ ?_)
            · refine (mm_by 1 (pc' := 117) (ls' := [.ref 11, .int x1, .int (h5.1 3 4)]) (st' := [.int 11008, .int x1, .ref 11]) (h' := h7) rfl).trans ?_
              refine (mm_c1 (y := 57) (as := [.ref 11, .int x1, .int 11008]) (nx := 120) (rest := []) rfl rfl).trans (mm_congI fun v10 h9 => ?_)
              exact mm_zend rfl
            · refine (mm_by 2 (pc' := 117) (ls' := [.ref 11, .int x1, .int (h5.1 3 4)]) (st' := [.int 11007, .int x1, .ref 11]) (h' := h7) rfl).trans ?_
              refine (mm_c1 (y := 57) (as := [.ref 11, .int x1, .int 11007]) (nx := 120) (rest := []) rfl rfl).trans (mm_congI fun v12 h11 => ?_)
              exact mm_zend rfl
          · refine (mm_by 2 (pc' := 97) (ls' := [.ref 11, .int x1, .int (h5.1 3 4)]) (st' := [.int 24, .int (h5.1 3 4)]) (h' := h7) rfl).trans ?_
            refine (mm_br (c := ¬ (h5.1 3 4) = 24) (p1 := 121) (p2 := 100) (l1 := [.ref 11, .int x1, .int (h5.1 3 4)]) (l2 := [.ref 11, .int x1, .int (h5.1 3 4)]) (s1 := []) (s2 := []) (h1 := h7) (h2 := h7) rfl rfl).trans (mm_ite ?_ ?_)
            · refine (mm_by 3 (pc' := 126) (ls' := [.ref 11, .int x1, .int (h5.1 3 4)]) (st' := [.int 3, .int (h7.1 11 2)]) (h' := h7) rfl).trans ?_
              refine (mm_br (c := ¬ (h7.1 11 2) = 3) (p1 := 160) (p2 := 129) (l1 := [.ref 11, .int x1, .int (h5.1 3 4)]) (l2 := [.ref 11, .int x1, .int (h5.1 3 4)]) (s1 := []) (s2 := []) (h1 := h7) (h2 := h7) rfl rfl).trans (mm_ite ?_ ?_)
              · refine (mm_by 2 (pc' := 164) (ls' := [.ref 11, .int x1, .int (h5.1 3 4)]) (st' := [.ref 3]) (h' := h7) rfl).trans ?_
                refine (mm_c1 (y := 88) (as := [.ref 3]) (nx := 167) (rest := []) rfl rfl).trans (mm_congI fun v14 h13 => ?_)
                exact mm_zend rfl
              · refine (mm_by 2 (pc' := 131) (ls' := [.ref 11, .int x1, .int (h5.1 3 4)]) (st' := [.int 5, .int (h5.1 3 4)]) (h' := h7) rfl).trans ?_
                refine (mm_br (c := (h5.1 3 4) = 5) (p1 := 140) (p2 := 134) (l1 := [.ref 11, .int x1, .int (h5.1 3 4)]) (l2 := [.ref 11, .int x1, .int (h5.1 3 4)]) (s1 := []) (s2 := []) (h1 := h7) (h2 := h7) rfl rfl).trans (mm_ite ?_ ?_)
                · refine (mm_by 4 (pc' := 144) (ls' := [.ref 11, .int x1, .int (h5.1 3 4)]) (st' := [.int 5, .int (h5.1 3 4), .int x1, .ref 11]) (h' := h7) rfl).trans ?_
                  refine (mm_br (c := ¬ (h5.1 3 4) = 5) (p1 := 153) (p2 := 147) (l1 := [.ref 11, .int x1, .int (h5.1 3 4)]) (l2 := [.ref 11, .int x1, .int (h5.1 3 4)]) (s1 := [.int x1, .ref 11]) (s2 := [.int x1, .ref 11]) (h1 := h7) (h2 := h7) rfl rfl).trans (mm_ite ?_ ?_)
                  · refine (mm_by 1 (pc' := 156) (ls' := [.ref 11, .int x1, .int (h5.1 3 4)]) (st' := [.int 11013, .int x1, .ref 11]) (h' := h7) rfl).trans ?_
                    refine (mm_c1 (y := 58) (as := [.ref 11, .int x1, .int 11013]) (nx := 159) (rest := []) rfl rfl).trans (mm_congI fun v16 h15 => ?_)
                    exact mm_zend rfl
                  · refine (mm_by 2 (pc' := 156) (ls' := [.ref 11, .int x1, .int (h5.1 3 4)]) (st' := [.int 11012, .int x1, .ref 11]) (h' := h7) rfl).trans ?_
                    refine (mm_c1 (y := 58) (as := [.ref 11, .int x1, .int 11012]) (nx := 159) (rest := []) rfl rfl).trans (mm_congI fun v18 h17 => ?_)
                    exact mm_zend rfl
                · refine (mm_by 2 (pc' := 137) (ls' := [.ref 11, .int x1, .int (h5.1 3 4)]) (st' := [.int 14, .int (h5.1 3 4)]) (h' := h7) rfl).trans ?_
                  refine (mm_br (c := ¬ (h5.1 3 4) = 14) (p1 := 160) (p2 := 140) (l1 := [.ref 11, .int x1, .int (h5.1 3 4)]) (l2 := [.ref 11, .int x1, .int (h5.1 3 4)]) (s1 := []) (s2 := []) (h1 := h7) (h2 := h7) rfl rfl).trans (mm_ite ?_ ?_)
                  · refine (mm_by 2 (pc' := 164) (ls' := [.ref 11, .int x1, .int (h5.1 3 4)]) (st' := [.ref 3]) (h' := h7) rfl).trans ?_
                    refine (mm_c1 (y := 88) (as := [.ref 3]) (nx := 167) (rest := []) rfl rfl).trans (mm_congI fun v20 h19 => ?_)
                    exact mm_zend rfl
                  · refine (mm_by 4 (pc' := 144) (ls' := [.ref 11, .int x1, .int (h5.1 3 4)]) (st' := [.int 5, .int (h5.1 3 4), .int x1, .ref 11]) (h' := h7) rfl).trans ?_
                    refine (mm_br (c := ¬ (h5.1 3 4) = 5) (p1 := 153) (p2 := 147) (l1 := [.ref 11, .int x1, .int (h5.1 3 4)]) (l2 := [.ref 11, .int x1, .int (h5.1 3 4)]) (s1 := [.int x1, .ref 11]) (s2 := [.int x1, .ref 11]) (h1 := h7) (h2 := h7) rfl rfl).trans (mm_ite ?_ ?_)
                    · refine (mm_by 1 (pc' := 156) (ls' := [.ref 11, .int x1, .int (h5.1 3 4)]) (st' := [.int 11013, .int x1, .ref 11]) (h' := h7) rfl).trans ?_
                      refine (mm_c1 (y := 58) (as := [.ref 11, .int x1, .int 11013]) (nx := 159) (rest := []) rfl rfl).trans (mm_congI fun v22 h21 => ?_)
                      exact mm_zend rfl
                    · refine (mm_by 2 (pc' := 156) (ls' := [.ref 11, .int x1, .int (h5.1 3 4)]) (st' := [.int 11012, .int x1, .ref 11]) (h' := h7) rfl).trans ?_
                      refine (mm_c1 (y := 58) (as := [.ref 11, .int x1, .int 11012]) (nx := 159) (rest := []) rfl rfl).trans (mm_congI fun v24 h23 => ?_)
                      exact mm_zend rfl
            · refine (mm_by 4 (pc' := 105) (ls' := [.ref 11, .int x1, .int (h5.1 3 4)]) (st' := [.int 23, .int (h5.1 3 4), .int x1, .ref 11]) (h' := h7) rfl).trans ?_
              refine (mm_br (c := ¬ (h5.1 3 4) = 23) (p1 := 114) (p2 := 108) (l1 := [.ref 11, .int x1, .int (h5.1 3 4)]) (l2 := [.ref 11, .int x1, .int (h5.1 3 4)]) (s1 := [.int x1, .ref 11]) (s2 := [.int x1, .ref 11]) (h1 := h7) (h2 := h7) rfl rfl).trans (mm_ite ?_ ?_)
              · refine (mm_by 1 (pc' := 117) (ls' := [.ref 11, .int x1, .int (h5.1 3 4)]) (st' := [.int 11008, .int x1, .ref 11]) (h' := h7) rfl).trans ?_
                refine (mm_c1 (y := 57) (as := [.ref 11, .int x1, .int 11008]) (nx := 120) (rest := []) rfl rfl).trans (mm_congI fun v26 h25 => ?_)
                exact mm_zend rfl
              · refine (mm_by 2 (pc' := 117) (ls' := [.ref 11, .int x1, .int (h5.1 3 4)]) (st' := [.int 11007, .int x1, .ref 11]) (h' := h7) rfl).trans ?_
                refine (mm_c1 (y := 57) (as := [.ref 11, .int x1, .int 11007]) (nx := 120) (rest := []) rfl rfl).trans (mm_congI fun v28 h27 => ?_)
                exact mm_zend rfl
        · refine (mm_by 5 (pc' := 76) (ls' := [.ref 11, .int x1, .int (h5.1 3 4)]) (st' := [.int (10000 + (h5.1 3 4)), .ref (h7.2.2 11 1)]) (h' := h7) rfl).trans ?_
          refine (mm_d0 (b := h7.2.2 11 1) (ci := 1) (y := 37) (as := [.ref (h7.2.2 11 1), .int (10000 + (h5.1 3 4))]) (nx := 79) (rest := []) rfl rfl (Nat.le_of_ble_eq_true rfl)).trans (mm_ite (mm_congV fun h29 => ?_) rfl)
          refine (mm_by 2 (pc' := 83) (ls' := [.ref 11, .int x1, .int (h5.1 3 4)]) (st' := [.ref 3]) (h' := h29) rfl).trans ?_
          refine (mm_c0 (y := 75) (as := [.ref 3]) (nx := 86) (rest := []) rfl rfl).trans (mm_congV fun h30 => ?_)
          exact mm_by_end 2 rfl
      · refine (mm_by 2 (pc' := 47) (ls' := [.ref 11, .int x1, .null]) (st' := [.ref 3]) (h' := h5) rfl).trans ?_
        refine (mm_c1 (y := 88) (as := [.ref 3]) (nx := 50) (rest := []) rfl rfl).trans (mm_congI fun v32 h31 => ?_)
        exact mm_zend rfl
    · refine (mm_by 2 (pc' := 29) (ls' := [.ref 11, .int x1, .null]) (st' := [.int x1, .ref 11]) (h' := h3) rfl).trans ?_
      refine (mm_c1 (y := 56) (as := [.ref 11, .int x1]) (nx := 32) (rest := []) rfl rfl).trans (mm_congI fun v34 h33 => ?_)
      exact mm_zend rfl
  · refine (mm_by 1 (pc' := 11) (ls' := [.ref 11, .int x1, .null]) (st' := [.ref 11]) (h' := h1) rfl).trans ?_
    refine (mm_c1 (y := 55) (as := [.ref 11]) (nx := 14) (rest := []) rfl rfl).trans (mm_congI fun v36 h35 => ?_)
    exact mm_zend rfl
set_option maxRecDepth 100000 in
set_option maxHeartbeats 4000000 in
theorem U_X2_readNumber {d : Nat} {h : mm_H} : mm_M mm_T0 (d + 1) 55 [.ref 11] h = (mm_bI (mm_M mm_T0 d 83 [.ref 3, .int 0, .int 9999] h) (fun v2 h1 => if ¬ v2 = 0 then (if mm_sh (h1.2.2 11 1) = (0, 1) then (mm_bV (mm_M mm_T0 d 37 [.ref (h1.2.2 11 1), .int (h1.1 3 4)] h1) (fun h3 => mm_bV (mm_M mm_T0 d 75 [.ref 3] h3) (fun h4 => some (some (.int 1), h4)))) else none) else (some (some (.int 0), h1)))) := by
  refine (mm_M_eq (ls := [.ref 11]) rfl (Nat.le_of_ble_eq_true rfl) rfl h).trans ?_
  refine (mm_by 4 (pc' := 8) (ls' := [.ref 11]) (st' := [.int 9999, .int 0, .ref 3]) (h' := h) rfl).trans ?_
  refine (mm_c1 (y := 83) (as := [.ref 3, .int 0, .int 9999]) (nx := 11) (rest := []) rfl rfl).trans (mm_congI fun v2 h1 => ?_)
  refine (mm_br (c := ¬ v2 = 0) (p1 := 16) (p2 := 14) (l1 := [.ref 11]) (l2 := [.ref 11]) (s1 := []) (s2 := []) (h1 := h1) (h2 := h1) rfl rfl).trans (mm_ite ?_ ?_)
  · refine (mm_by 5 (pc' := 27) (ls' := [.ref 11]) (st' := [.int (h1.1 3 4), .ref (h1.2.2 11 1)]) (h' := h1) rfl).trans ?_
    refine (mm_d0 (b := h1.2.2 11 1) (ci := 1) (y := 37) (as := [.ref (h1.2.2 11 1), .int (h1.1 3 4)]) (nx := 30) (rest := []) rfl rfl (Nat.le_of_ble_eq_true rfl)).trans (mm_ite (mm_congV fun h3 => ?_) rfl)
    refine (mm_by 2 (pc' := 34) (ls' := [.ref 11]) (st' := [.ref 3]) (h' := h3) rfl).trans ?_
    refine (mm_c0 (y := 75) (as := [.ref 3]) (nx := 37) (rest := []) rfl rfl).trans (mm_congV fun h4 => ?_)
    exact mm_by_end 2 rfl
  · exact mm_by_end 2 rfl
set_option maxRecDepth 100000 in
set_option maxHeartbeats 4000000 in
theorem U_X2_readInnerSum {d : Nat} {x1 : Int32} {h : mm_H} : mm_M mm_T0 (d + 1) 56 [.ref 11, .int x1] h = (mm_bI (mm_M mm_T0 d 87 [.ref 3, .int x1] h) (fun v2 h1 => if ¬ v2 = 0 then (mm_bV (mm_M mm_T0 d 75 [.ref 3] h1) (fun h3 => mm_bI (mm_M mm_T0 d 52 [.ref 11, .int (x1 + 1)] h3) (fun v5 h4 => if v5 = 0 then (some (some (.int 0), h4)) else (mm_bI (mm_M mm_T0 d 82 [.ref 3, .int 41] h4) (fun v7 h6 => if v7 = 0 then (some (some (.int 0), h6)) else (some (some (.int 1), h6))))))) else (some (some (.int 0), h1)))) := by
  refine (mm_M_eq (ls := [.ref 11, .int x1]) rfl (Nat.le_of_ble_eq_true rfl) rfl h).trans ?_
  refine (mm_by 3 (pc' := 5) (ls' := [.ref 11, .int x1]) (st' := [.int x1, .ref 3]) (h' := h) rfl).trans ?_
  refine (mm_c1 (y := 87) (as := [.ref 3, .int x1]) (nx := 8) (rest := []) rfl rfl).trans (mm_congI fun v2 h1 => ?_)
  refine (mm_br (c := ¬ v2 = 0) (p1 := 13) (p2 := 11) (l1 := [.ref 11, .int x1]) (l2 := [.ref 11, .int x1]) (s1 := []) (s2 := []) (h1 := h1) (h2 := h1) rfl rfl).trans (mm_ite ?_ ?_)
  · refine (mm_by 2 (pc' := 17) (ls' := [.ref 11, .int x1]) (st' := [.ref 3]) (h' := h1) rfl).trans ?_
    refine (mm_c0 (y := 75) (as := [.ref 3]) (nx := 20) (rest := []) rfl rfl).trans (mm_congV fun h3 => ?_)
    refine (mm_by 4 (pc' := 24) (ls' := [.ref 11, .int x1]) (st' := [.int (x1 + 1), .ref 11]) (h' := h3) rfl).trans ?_
    refine (mm_c1 (y := 52) (as := [.ref 11, .int (x1 + 1)]) (nx := 27) (rest := []) rfl rfl).trans (mm_congI fun v5 h4 => ?_)
    refine (mm_br (c := v5 = 0) (p1 := 46) (p2 := 30) (l1 := [.ref 11, .int x1]) (l2 := [.ref 11, .int x1]) (s1 := []) (s2 := []) (h1 := h4) (h2 := h4) rfl rfl).trans (mm_ite ?_ ?_)
    · exact mm_by_end 2 rfl
    · refine (mm_by 3 (pc' := 36) (ls' := [.ref 11, .int x1]) (st' := [.int 41, .ref 3]) (h' := h4) rfl).trans ?_
      refine (mm_c1 (y := 82) (as := [.ref 3, .int 41]) (nx := 39) (rest := []) rfl rfl).trans (mm_congI fun v7 h6 => ?_)
      refine (mm_br (c := v7 = 0) (p1 := 46) (p2 := 42) (l1 := [.ref 11, .int x1]) (l2 := [.ref 11, .int x1]) (s1 := []) (s2 := []) (h1 := h6) (h2 := h6) rfl rfl).trans (mm_ite ?_ ?_)
      · exact mm_by_end 2 rfl
      · exact mm_by_end 3 rfl
  · exact mm_by_end 2 rfl
set_option maxRecDepth 100000 in
set_option maxHeartbeats 4000000 in
theorem U_X2_readPair {d : Nat} {x1 : Int32} {x2 : Int32} {h : mm_H} : mm_M mm_T0 (d + 1) 57 [.ref 11, .int x1, .int x2] h = (mm_bV (mm_M mm_T0 d 75 [.ref 3] h) (fun h1 => mm_bI (mm_M mm_T0 d 80 [.ref 3, .int 40] h1) (fun v3 h2 => if ¬ v3 = 0 then (mm_bI (mm_M mm_T0 d 87 [.ref 3, .int x1] h2) (fun v5 h4 => if ¬ v5 = 0 then (mm_bV (mm_M mm_T0 d 75 [.ref 3] h4) (fun h6 => mm_bI (mm_M mm_T0 d 52 [.ref 11, .int (x1 + 1)] h6) (fun v8 h7 => if v8 = 0 then (some (some (.int 0), h7)) else (mm_bI (mm_M mm_T0 d 82 [.ref 3, .int 44] h7) (fun v10 h9 => if v10 = 0 then (some (some (.int 0), h9)) else (mm_bI (mm_M mm_T0 d 52 [.ref 11, .int (x1 + 1)] h9) (fun v12 h11 => if ¬ v12 = 0 then (if mm_sh (h11.2.2 11 1) = (0, 1) then (mm_bV (mm_M mm_T0 d 37 [.ref (h11.2.2 11 1), .int x2] h11) (fun h13 => mm_bI (mm_M mm_T0 d 82 [.ref 3, .int 41] h13) (fun v15 h14 => mm_zr v15 h14))) else none) else (some (some (.int 0), h11))))))))) else (some (some (.int 0), h4)))) else (mm_bI (mm_M mm_T0 d 88 [.ref 3] h2) (fun v17 h16 => mm_zr v17 h16))))) := by
  refine (mm_M_eq (ls := [.ref 11, .int x1, .int x2]) rfl (Nat.le_of_ble_eq_true rfl) rfl h).trans ?_
  refine (mm_by 2 (pc' := 4) (ls' := [.ref 11, .int x1, .int x2]) (st' := [.ref 3]) (h' := h) rfl).trans ?_
  refine (mm_c0 (y := 75) (as := [.ref 3]) (nx := 7) (rest := []) rfl rfl).trans (mm_congV fun h1 => ?_)
  refine (mm_by 3 (pc' := 13) (ls' := [.ref 11, .int x1, .int x2]) (st' := [.int 40, .ref 3]) (h' := h1) rfl).trans ?_
  refine (mm_c1 (y := 80) (as := [.ref 3, .int 40]) (nx := 16) (rest := []) rfl rfl).trans (mm_congI fun v3 h2 => ?_)
  refine (mm_br (c := ¬ v3 = 0) (p1 := 27) (p2 := 19) (l1 := [.ref 11, .int x1, .int x2]) (l2 := [.ref 11, .int x1, .int x2]) (s1 := []) (s2 := []) (h1 := h2) (h2 := h2) rfl rfl).trans (mm_ite ?_ ?_)
  · refine (mm_by 3 (pc' := 32) (ls' := [.ref 11, .int x1, .int x2]) (st' := [.int x1, .ref 3]) (h' := h2) rfl).trans ?_
    refine (mm_c1 (y := 87) (as := [.ref 3, .int x1]) (nx := 35) (rest := []) rfl rfl).trans (mm_congI fun v5 h4 => ?_)
    refine (mm_br (c := ¬ v5 = 0) (p1 := 40) (p2 := 38) (l1 := [.ref 11, .int x1, .int x2]) (l2 := [.ref 11, .int x1, .int x2]) (s1 := []) (s2 := []) (h1 := h4) (h2 := h4) rfl rfl).trans (mm_ite ?_ ?_)
    · refine (mm_by 2 (pc' := 44) (ls' := [.ref 11, .int x1, .int x2]) (st' := [.ref 3]) (h' := h4) rfl).trans ?_
      refine (mm_c0 (y := 75) (as := [.ref 3]) (nx := 47) (rest := []) rfl rfl).trans (mm_congV fun h6 => ?_)
      refine (mm_by 4 (pc' := 51) (ls' := [.ref 11, .int x1, .int x2]) (st' := [.int (x1 + 1), .ref 11]) (h' := h6) rfl).trans ?_
      refine (mm_c1 (y := 52) (as := [.ref 11, .int (x1 + 1)]) (nx := 54) (rest := []) rfl rfl).trans (mm_congI fun v8 h7 => ?_)
      refine (mm_br (c := v8 = 0) (p1 := 79) (p2 := 57) (l1 := [.ref 11, .int x1, .int x2]) (l2 := [.ref 11, .int x1, .int x2]) (s1 := []) (s2 := []) (h1 := h7) (h2 := h7) rfl rfl).trans (mm_ite ?_ ?_)
      · exact mm_by_end 2 rfl
      · refine (mm_by 3 (pc' := 63) (ls' := [.ref 11, .int x1, .int x2]) (st' := [.int 44, .ref 3]) (h' := h7) rfl).trans ?_
        refine (mm_c1 (y := 82) (as := [.ref 3, .int 44]) (nx := 66) (rest := []) rfl rfl).trans (mm_congI fun v10 h9 => ?_)
        refine (mm_br (c := v10 = 0) (p1 := 79) (p2 := 69) (l1 := [.ref 11, .int x1, .int x2]) (l2 := [.ref 11, .int x1, .int x2]) (s1 := []) (s2 := []) (h1 := h9) (h2 := h9) rfl rfl).trans (mm_ite ?_ ?_)
        · exact mm_by_end 2 rfl
        · refine (mm_by 4 (pc' := 73) (ls' := [.ref 11, .int x1, .int x2]) (st' := [.int (x1 + 1), .ref 11]) (h' := h9) rfl).trans ?_
          refine (mm_c1 (y := 52) (as := [.ref 11, .int (x1 + 1)]) (nx := 76) (rest := []) rfl rfl).trans (mm_congI fun v12 h11 => ?_)
          refine (mm_br (c := ¬ v12 = 0) (p1 := 81) (p2 := 79) (l1 := [.ref 11, .int x1, .int x2]) (l2 := [.ref 11, .int x1, .int x2]) (s1 := []) (s2 := []) (h1 := h11) (h2 := h11) rfl rfl).trans (mm_ite ?_ ?_)
          · refine (mm_by 3 (pc' := 86) (ls' := [.ref 11, .int x1, .int x2]) (st' := [.int x2, .ref (h11.2.2 11 1)]) (h' := h11) rfl).trans ?_
            refine (mm_d0 (b := h11.2.2 11 1) (ci := 1) (y := 37) (as := [.ref (h11.2.2 11 1), .int x2]) (nx := 89) (rest := []) rfl rfl (Nat.le_of_ble_eq_true rfl)).trans (mm_ite (mm_congV fun h13 => ?_) rfl)
            refine (mm_by 3 (pc' := 95) (ls' := [.ref 11, .int x1, .int x2]) (st' := [.int 41, .ref 3]) (h' := h13) rfl).trans ?_
            refine (mm_c1 (y := 82) (as := [.ref 3, .int 41]) (nx := 98) (rest := []) rfl rfl).trans (mm_congI fun v15 h14 => ?_)
            exact mm_zend rfl
          · exact mm_by_end 2 rfl
    · exact mm_by_end 2 rfl
  · refine (mm_by 2 (pc' := 23) (ls' := [.ref 11, .int x1, .int x2]) (st' := [.ref 3]) (h' := h2) rfl).trans ?_
    refine (mm_c1 (y := 88) (as := [.ref 3]) (nx := 26) (rest := []) rfl rfl).trans (mm_congI fun v17 h16 => ?_)
    exact mm_zend rfl
set_option maxRecDepth 100000 in
set_option maxHeartbeats 4000000 in
theorem U_X2_readOfPerson {d : Nat} {x1 : Int32} {x2 : Int32} {h : mm_H} : mm_M mm_T0 (d + 1) 58 [.ref 11, .int x1, .int x2] h = (mm_bI (mm_M mm_T0 d 87 [.ref 3, .int x1] h) (fun v2 h1 => if ¬ v2 = 0 then (mm_bV (mm_M mm_T0 d 75 [.ref 3] h1) (fun h3 => mm_bI (mm_M mm_T0 d 54 [.ref 11, .int (x1 + 1)] h3) (fun v5 h4 => if mm_sh (h4.2.2 11 1) = (0, 1) then (mm_bV (mm_M mm_T0 d 37 [.ref (h4.2.2 11 1), .int x2] h4) (fun h6 => mm_zr v5 h6)) else none))) else (some (some (.int 0), h1)))) := by
  refine (mm_M_eq (ls := [.ref 11, .int x1, .int x2, .null]) rfl (Nat.le_of_ble_eq_true rfl) rfl h).trans ?_
  refine (mm_by 3 (pc' := 5) (ls' := [.ref 11, .int x1, .int x2, .null]) (st' := [.int x1, .ref 3]) (h' := h) rfl).trans ?_
  refine (mm_c1 (y := 87) (as := [.ref 3, .int x1]) (nx := 8) (rest := []) rfl rfl).trans (mm_congI fun v2 h1 => ?_)
  refine (mm_br (c := ¬ v2 = 0) (p1 := 13) (p2 := 11) (l1 := [.ref 11, .int x1, .int x2, .null]) (l2 := [.ref 11, .int x1, .int x2, .null]) (s1 := []) (s2 := []) (h1 := h1) (h2 := h1) rfl rfl).trans (mm_ite ?_ ?_)
  · refine (mm_by 2 (pc' := 17) (ls' := [.ref 11, .int x1, .int x2, .null]) (st' := [.ref 3]) (h' := h1) rfl).trans ?_
    refine (mm_c0 (y := 75) (as := [.ref 3]) (nx := 20) (rest := []) rfl rfl).trans (mm_congV fun h3 => ?_)
    refine (mm_by 4 (pc' := 24) (ls' := [.ref 11, .int x1, .int x2, .null]) (st' := [.int (x1 + 1), .ref 11]) (h' := h3) rfl).trans ?_
    refine (mm_c1 (y := 54) (as := [.ref 11, .int (x1 + 1)]) (nx := 27) (rest := []) rfl rfl).trans (mm_congI fun v5 h4 => ?_)
    refine (mm_by 4 (pc' := 33) (ls' := [.ref 11, .int x1, .int x2, .int v5]) (st' := [.int x2, .ref (h4.2.2 11 1)]) (h' := h4) rfl).trans ?_
    refine (mm_d0 (b := h4.2.2 11 1) (ci := 1) (y := 37) (as := [.ref (h4.2.2 11 1), .int x2]) (nx := 36) (rest := []) rfl rfl (Nat.le_of_ble_eq_true rfl)).trans (mm_ite (mm_congV fun h6 => ?_) rfl)
    refine (mm_by 1 (pc' := 37) (ls' := [.ref 11, .int x1, .int x2, .int v5]) (st' := [.int v5]) (h' := h6) rfl).trans ?_
    exact mm_zend rfl
  · exact mm_by_end 2 rfl
set_option maxRecDepth 100000 in
set_option maxHeartbeats 4000000 in
theorem U_X2_isValueHere {d : Nat} {x1 : Int32} {h : mm_H} : mm_M mm_T0 (d + 1) 59 [.ref 11, .int x1] h = (if x1 = 3 then (some (some (.int 1), h)) else (if x1 = 4 then (some (some (.int 1), h)) else (if x1 = 5 then (if (h.1 11 2) = 3 then (some (some (.int 0), h)) else (some (some (.int 1), h))) else (if x1 = 6 then (some (some (.int 0), h)) else (if x1 = 7 then (some (some (.int 0), h)) else (if x1 = 8 then (some (some (.int 0), h)) else (if x1 = 9 then (some (some (.int 0), h)) else (if x1 = 10 then (some (some (.int 0), h)) else (if x1 = 11 then (if (h.1 11 2) = 0 then (some (some (.int 1), h)) else (if ¬ (h.1 11 2) = 3 then (some (some (.int 0), h)) else (some (some (.int 1), h)))) else (if x1 = 12 then (if ¬ (h.1 11 2) = 0 then (some (some (.int 0), h)) else (some (some (.int 1), h))) else (if x1 = 13 then (if ¬ (h.1 11 2) = 1 then (some (some (.int 0), h)) else (some (some (.int 1), h))) else (if x1 = 14 then (if ¬ (h.1 11 2) = 2 then (some (some (.int 0), h)) else (some (some (.int 1), h))) else (if x1 = 15 then (some (some (.int 1), h)) else (if x1 = 16 then (if ¬ (h.1 11 2) = 3 then (some (some (.int 0), h)) else (some (some (.int 1), h))) else (if x1 = 17 then (if ¬ (h.1 11 2) = 3 then (some (some (.int 0), h)) else (some (some (.int 1), h))) else (if x1 = 18 then (if ¬ (h.1 11 2) = 3 then (some (some (.int 0), h)) else (some (some (.int 1), h))) else (some (some (.int 0), h)))))))))))))))))) := by
  refine (mm_M_eq (ls := [.ref 11, .int x1]) rfl (Nat.le_of_ble_eq_true rfl) rfl h).trans ?_
  refine (mm_by 1 (pc' := 1) (ls' := [.ref 11, .int x1]) (st' := [.int x1]) (h' := h) rfl).trans ?_
  refine (mm_go (pc' := mm_sw [(3, 80), (4, 80), (5, 82), (6, 172), (7, 172), (8, 172), (9, 172), (10, 172), (11, 96), (12, 117), (13, 130), (14, 144), (15, 80), (16, 158), (17, 158), (18, 158)] 172 x1) (ls' := [.ref 11, .int x1]) (st' := []) (h' := h) rfl rfl).trans ?_
  refine mm_sw_c.trans (mm_ite ?_ ?_)
  · exact mm_by_end 2 rfl
  · refine mm_sw_c.trans (mm_ite ?_ ?_)
    · exact mm_by_end 2 rfl
    · refine mm_sw_c.trans (mm_ite ?_ ?_)
      · refine (mm_by 3 (pc' := 87) (ls' := [.ref 11, .int x1]) (st' := [.int 3, .int (h.1 11 2)]) (h' := h) rfl).trans ?_
        refine (mm_br (c := (h.1 11 2) = 3) (p1 := 94) (p2 := 90) (l1 := [.ref 11, .int x1]) (l2 := [.ref 11, .int x1]) (s1 := []) (s2 := []) (h1 := h) (h2 := h) rfl rfl).trans (mm_ite ?_ ?_)
        · exact mm_by_end 2 rfl
        · exact mm_by_end 3 rfl
      · refine mm_sw_c.trans (mm_ite ?_ ?_)
        · exact mm_by_end 2 rfl
        · refine mm_sw_c.trans (mm_ite ?_ ?_)
          · exact mm_by_end 2 rfl
          · refine mm_sw_c.trans (mm_ite ?_ ?_)
            · exact mm_by_end 2 rfl
            · refine mm_sw_c.trans (mm_ite ?_ ?_)
              · exact mm_by_end 2 rfl
              · refine mm_sw_c.trans (mm_ite ?_ ?_)
                · exact mm_by_end 2 rfl
                · refine mm_sw_c.trans (mm_ite ?_ ?_)
                  · refine (mm_by 2 (pc' := 100) (ls' := [.ref 11, .int x1]) (st' := [.int (h.1 11 2)]) (h' := h) rfl).trans ?_
                    refine (mm_br (c := (h.1 11 2) = 0) (p1 := 111) (p2 := 103) (l1 := [.ref 11, .int x1]) (l2 := [.ref 11, .int x1]) (s1 := []) (s2 := []) (h1 := h) (h2 := h) rfl rfl).trans (mm_ite ?_ ?_)
                    · exact mm_by_end 3 rfl
                    · refine (mm_by 3 (pc' := 108) (ls' := [.ref 11, .int x1]) (st' := [.int 3, .int (h.1 11 2)]) (h' := h) rfl).trans ?_
                      refine (mm_br (c := ¬ (h.1 11 2) = 3) (p1 := 115) (p2 := 111) (l1 := [.ref 11, .int x1]) (l2 := [.ref 11, .int x1]) (s1 := []) (s2 := []) (h1 := h) (h2 := h) rfl rfl).trans (mm_ite ?_ ?_)
                      · exact mm_by_end 2 rfl
                      · exact mm_by_end 3 rfl
                  · refine mm_sw_c.trans (mm_ite ?_ ?_)
                    · refine (mm_by 2 (pc' := 121) (ls' := [.ref 11, .int x1]) (st' := [.int (h.1 11 2)]) (h' := h) rfl).trans ?_
                      refine (mm_br (c := ¬ (h.1 11 2) = 0) (p1 := 128) (p2 := 124) (l1 := [.ref 11, .int x1]) (l2 := [.ref 11, .int x1]) (s1 := []) (s2 := []) (h1 := h) (h2 := h) rfl rfl).trans (mm_ite ?_ ?_)
                      · exact mm_by_end 2 rfl
                      · exact mm_by_end 3 rfl
                    · refine mm_sw_c.trans (mm_ite ?_ ?_)
                      · refine (mm_by 3 (pc' := 135) (ls' := [.ref 11, .int x1]) (st' := [.int 1, .int (h.1 11 2)]) (h' := h) rfl).trans ?_
                        refine (mm_br (c := ¬ (h.1 11 2) = 1) (p1 := 142) (p2 := 138) (l1 := [.ref 11, .int x1]) (l2 := [.ref 11, .int x1]) (s1 := []) (s2 := []) (h1 := h) (h2 := h) rfl rfl).trans (mm_ite ?_ ?_)
                        · exact mm_by_end 2 rfl
                        · exact mm_by_end 3 rfl
                      · refine mm_sw_c.trans (mm_ite ?_ ?_)
                        · refine (mm_by 3 (pc' := 149) (ls' := [.ref 11, .int x1]) (st' := [.int 2, .int (h.1 11 2)]) (h' := h) rfl).trans ?_
                          refine (mm_br (c := ¬ (h.1 11 2) = 2) (p1 := 156) (p2 := 152) (l1 := [.ref 11, .int x1]) (l2 := [.ref 11, .int x1]) (s1 := []) (s2 := []) (h1 := h) (h2 := h) rfl rfl).trans (mm_ite ?_ ?_)
                          · exact mm_by_end 2 rfl
                          · exact mm_by_end 3 rfl
                        · refine mm_sw_c.trans (mm_ite ?_ ?_)
                          · exact mm_by_end 2 rfl
                          · refine mm_sw_c.trans (mm_ite ?_ ?_)
                            · refine (mm_by 3 (pc' := 163) (ls' := [.ref 11, .int x1]) (st' := [.int 3, .int (h.1 11 2)]) (h' := h) rfl).trans ?_
                              refine (mm_br (c := ¬ (h.1 11 2) = 3) (p1 := 170) (p2 := 166) (l1 := [.ref 11, .int x1]) (l2 := [.ref 11, .int x1]) (s1 := []) (s2 := []) (h1 := h) (h2 := h) rfl rfl).trans (mm_ite ?_ ?_)
                              · exact mm_by_end 2 rfl
                              · exact mm_by_end 3 rfl
                            · refine mm_sw_c.trans (mm_ite ?_ ?_)
                              · refine (mm_by 3 (pc' := 163) (ls' := [.ref 11, .int x1]) (st' := [.int 3, .int (h.1 11 2)]) (h' := h) rfl).trans ?_
                                refine (mm_br (c := ¬ (h.1 11 2) = 3) (p1 := 170) (p2 := 166) (l1 := [.ref 11, .int x1]) (l2 := [.ref 11, .int x1]) (s1 := []) (s2 := []) (h1 := h) (h2 := h) rfl rfl).trans (mm_ite ?_ ?_)
                                · exact mm_by_end 2 rfl
                                · exact mm_by_end 3 rfl
                              · refine mm_sw_c.trans (mm_ite ?_ ?_)
                                · refine (mm_by 3 (pc' := 163) (ls' := [.ref 11, .int x1]) (st' := [.int 3, .int (h.1 11 2)]) (h' := h) rfl).trans ?_
                                  refine (mm_br (c := ¬ (h.1 11 2) = 3) (p1 := 170) (p2 := 166) (l1 := [.ref 11, .int x1]) (l2 := [.ref 11, .int x1]) (s1 := []) (s2 := []) (h1 := h) (h2 := h) rfl rfl).trans (mm_ite ?_ ?_)
                                  · exact mm_by_end 2 rfl
                                  · exact mm_by_end 3 rfl
                                · refine Eq.trans (show mm_D _ _ (mm_sw [] 172 x1) _ _ _ = mm_D _ _ 172 _ _ _ from rfl) ?_
                                  exact mm_by_end 2 rfl
set_option maxRecDepth 100000 in
set_option maxHeartbeats 4000000 in
theorem U_X3_size {d : Nat} {h : mm_H} : mm_M mm_T0 (d + 1) 60 [.ref 22] h = (some (some (.int (h.1 22 2)), h)) := by
  refine (mm_M_eq (ls := [.ref 22]) rfl (Nat.le_of_ble_eq_true rfl) rfl h).trans ?_
  exact mm_by_end 3 rfl
set_option maxRecDepth 100000 in
set_option maxHeartbeats 4000000 in
theorem U_X3_forget {d : Nat} {h : mm_H} : mm_M mm_T0 (d + 1) 61 [.ref 22] h = (some (none, wI h 22 2 0)) := by
  refine (mm_M_eq (ls := [.ref 22]) rfl (Nat.le_of_ble_eq_true rfl) rfl h).trans ?_
  exact mm_by_end 4 rfl
set_option maxRecDepth 100000 in
set_option maxHeartbeats 4000000 in
theorem U_X3_remember {d : Nat} {s : Nat} {h : mm_H} (hs : mm_isS s) : mm_M mm_T0 (d + 1) 62 [.ref 22, .ref s] h = (mm_bI (mm_M mm_T0 d 8 [.int (h.1 22 1), .int 20] h) (fun v2 h1 => if v2 < 0 ∨ 20 ≤ v2.toNatClampNeg then none else (if mm_sh (23 + 1 + 9 * v2.toNatClampNeg) = (0, 7) then (mm_bV (mm_M mm_T0 d 100 [.ref (23 + 1 + 9 * v2.toNatClampNeg), .ref s] h1) (fun h3 => mm_bI (mm_M mm_T0 d 8 [.int ((h3.1 22 1) + 1), .int 20] h3) (fun v5 h4 => mm_bI (mm_M mm_T0 d 11 [.int (((wI h4 22 1 v5).1 22 2) + 1), .int 20] (wI h4 22 1 v5)) (fun v7 h6 => some (none, wI h6 22 2 v7))))) else none))) := by
  refine (mm_M_eq (ls := [.ref 22, .ref s]) rfl (Nat.le_of_ble_eq_true rfl) rfl h).trans ?_
  refine (mm_by 5 (pc' := 10) (ls' := [.ref 22, .ref s]) (st' := [.int 20, .int (h.1 22 1), .ref 23]) (h' := h) rfl).trans ?_
  refine (mm_c1 (y := 8) (as := [.int (h.1 22 1), .int 20]) (nx := 13) (rest := [.ref 23]) rfl rfl).trans (mm_congI fun v2 h1 => ?_)
  refine (mm_gd (c := v2 < 0 ∨ 20 ≤ v2.toNatClampNeg) (p1 := 14) (l1 := [.ref 22, .ref s]) (s1 := [.ref (23 + 1 + 9 * v2.toNatClampNeg)]) (h1 := h1) rfl (q_aald (n := 20) rfl)).trans (mm_ite rfl ?_)
  refine (mm_by 1 (pc' := 15) (ls' := [.ref 22, .ref s]) (st' := [.ref s, .ref (23 + 1 + 9 * v2.toNatClampNeg)]) (h' := h1) rfl).trans ?_
  refine (mm_d0 (b := 23 + 1 + 9 * v2.toNatClampNeg) (ci := 7) (y := 100) (as := [.ref (23 + 1 + 9 * v2.toNatClampNeg), .ref s]) (nx := 18) (rest := []) rfl rfl (Nat.le_of_ble_eq_true rfl)).trans (mm_ite (mm_congV fun h3 => ?_) rfl)
  refine (mm_by 6 (pc' := 27) (ls' := [.ref 22, .ref s]) (st' := [.int 20, .int ((h3.1 22 1) + 1), .ref 22]) (h' := h3) rfl).trans ?_
  refine (mm_c1 (y := 8) (as := [.int ((h3.1 22 1) + 1), .int 20]) (nx := 30) (rest := [.ref 22]) rfl rfl).trans (mm_congI fun v5 h4 => ?_)
  refine (mm_by 7 (pc' := 42) (ls' := [.ref 22, .ref s]) (st' := [.int 20, .int (((wI h4 22 1 v5).1 22 2) + 1), .ref 22]) (h' := wI h4 22 1 v5) rfl).trans ?_
  refine (mm_c1 (y := 11) (as := [.int (((wI h4 22 1 v5).1 22 2) + 1), .int 20]) (nx := 45) (rest := [.ref 22]) rfl rfl).trans (mm_congI fun v7 h6 => ?_)
  exact mm_by_end 2 rfl
set_option maxRecDepth 100000 in
set_option maxHeartbeats 4000000 in
theorem U_X3_restore {d : Nat} {s : Nat} {h : mm_H} (hs : mm_isS s) : mm_M mm_T0 (d + 1) 63 [.ref 22, .ref s] h = (if ¬ (h.1 22 2) = 0 then (mm_bI (mm_M mm_T0 d 8 [.int ((h.1 22 1) - 1), .int 20] h) (fun v2 h1 => if ((wI (wI h1 22 1 v2) 22 2 (((wI h1 22 1 v2).1 22 2) - 1)).1 22 1) < 0 ∨ 20 ≤ ((wI (wI h1 22 1 v2) 22 2 (((wI h1 22 1 v2).1 22 2) - 1)).1 22 1).toNatClampNeg then none else (mm_bV (mm_M mm_T0 d 100 [.ref s, .ref (23 + 1 + 9 * ((wI (wI h1 22 1 v2) 22 2 (((wI h1 22 1 v2).1 22 2) - 1)).1 22 1).toNatClampNeg)] (wI (wI h1 22 1 v2) 22 2 (((wI h1 22 1 v2).1 22 2) - 1))) (fun h3 => some (some (.int 1), h3))))) else (some (some (.int 0), h))) := by
  refine (mm_M_eq (ls := [.ref 22, .ref s]) rfl (Nat.le_of_ble_eq_true rfl) rfl h).trans ?_
  refine (mm_by 2 (pc' := 4) (ls' := [.ref 22, .ref s]) (st' := [.int (h.1 22 2)]) (h' := h) rfl).trans ?_
  refine (mm_br (c := ¬ (h.1 22 2) = 0) (p1 := 9) (p2 := 7) (l1 := [.ref 22, .ref s]) (l2 := [.ref 22, .ref s]) (s1 := []) (s2 := []) (h1 := h) (h2 := h) rfl rfl).trans (mm_ite ?_ ?_)
  · refine (mm_by 6 (pc' := 18) (ls' := [.ref 22, .ref s]) (st' := [.int 20, .int ((h.1 22 1) - 1), .ref 22]) (h' := h) rfl).trans ?_
    refine (mm_c1 (y := 8) (as := [.int ((h.1 22 1) - 1), .int 20]) (nx := 21) (rest := [.ref 22]) rfl rfl).trans (mm_congI fun v2 h1 => ?_)
    refine (mm_by 12 (pc' := 43) (ls' := [.ref 22, .ref s]) (st' := [.int ((wI (wI h1 22 1 v2) 22 2 (((wI h1 22 1 v2).1 22 2) - 1)).1 22 1), .ref 23, .ref s]) (h' := wI (wI h1 22 1 v2) 22 2 (((wI h1 22 1 v2).1 22 2) - 1)) rfl).trans ?_
    refine (mm_gd (c := ((wI (wI h1 22 1 v2) 22 2 (((wI h1 22 1 v2).1 22 2) - 1)).1 22 1) < 0 ∨ 20 ≤ ((wI (wI h1 22 1 v2) 22 2 (((wI h1 22 1 v2).1 22 2) - 1)).1 22 1).toNatClampNeg) (p1 := 44) (l1 := [.ref 22, .ref s]) (s1 := [.ref (23 + 1 + 9 * ((wI (wI h1 22 1 v2) 22 2 (((wI h1 22 1 v2).1 22 2) - 1)).1 22 1).toNatClampNeg), .ref s]) (h1 := wI (wI h1 22 1 v2) 22 2 (((wI h1 22 1 v2).1 22 2) - 1)) rfl (q_aald (n := 20) rfl)).trans (mm_ite rfl ?_)
    refine (mm_c0 (y := 100) (as := [.ref s, .ref (23 + 1 + 9 * ((wI (wI h1 22 1 v2) 22 2 (((wI h1 22 1 v2).1 22 2) - 1)).1 22 1).toNatClampNeg)]) (nx := 47) (rest := []) rfl (if_pos ⟨(isS_0 hs), Nat.le_of_ble_eq_true rfl⟩)).trans (mm_congV fun h3 => ?_)
    exact mm_by_end 2 rfl
  · exact mm_by_end 2 rfl
set_option maxRecDepth 100000 in
set_option maxHeartbeats 4000000 in
theorem U_X4_byteAt {d : Nat} {x1 : Int32} {h : mm_H} : mm_M mm_T0 (d + 1) 64 [.ref 218, .int x1] h = (if x1 < 0 then (some (some (.int ((-1))), h)) else (if (h.1 218 1) ≤ x1 then (some (some (.int ((-1))), h)) else (if 83 ≤ x1 then (some (some (.int ((-1))), h)) else (if x1 < 0 ∨ 83 ≤ x1.toNatClampNeg then none else (some (some (.int (h.1 219 x1.toNatClampNeg)), h)))))) := by
  refine (mm_M_eq (ls := [.ref 218, .int x1]) rfl (Nat.le_of_ble_eq_true rfl) rfl h).trans ?_
  refine (mm_by 1 (pc' := 1) (ls' := [.ref 218, .int x1]) (st' := [.int x1]) (h' := h) rfl).trans ?_
  refine (mm_br (c := x1 < 0) (p1 := 30) (p2 := 4) (l1 := [.ref 218, .int x1]) (l2 := [.ref 218, .int x1]) (s1 := []) (s2 := []) (h1 := h) (h2 := h) rfl rfl).trans (mm_ite ?_ ?_)
  · exact mm_by_end 2 rfl
  · refine (mm_by 3 (pc' := 9) (ls' := [.ref 218, .int x1]) (st' := [.int (h.1 218 1), .int x1]) (h' := h) rfl).trans ?_
    refine (mm_br (c := (h.1 218 1) ≤ x1) (p1 := 30) (p2 := 12) (l1 := [.ref 218, .int x1]) (l2 := [.ref 218, .int x1]) (s1 := []) (s2 := []) (h1 := h) (h2 := h) rfl rfl).trans (mm_ite ?_ ?_)
    · exact mm_by_end 2 rfl
    · refine (mm_by 4 (pc' := 18) (ls' := [.ref 218, .int x1]) (st' := [.int 83, .int x1]) (h' := h) rfl).trans ?_
      refine (mm_br (c := 83 ≤ x1) (p1 := 30) (p2 := 21) (l1 := [.ref 218, .int x1]) (l2 := [.ref 218, .int x1]) (s1 := []) (s2 := []) (h1 := h) (h2 := h) rfl rfl).trans (mm_ite ?_ ?_)
      · exact mm_by_end 2 rfl
      · refine (mm_by 3 (pc' := 26) (ls' := [.ref 218, .int x1]) (st' := [.int x1, .ref 219]) (h' := h) rfl).trans ?_
        refine (mm_gd (c := x1 < 0 ∨ 83 ≤ x1.toNatClampNeg) (p1 := 27) (l1 := [.ref 218, .int x1]) (s1 := [.int (h.1 219 x1.toNatClampNeg)]) (h1 := h) rfl (q_iald (n := 83) rfl)).trans (mm_ite rfl ?_)
        exact mm_by_end 2 rfl
set_option maxRecDepth 100000 in
set_option maxHeartbeats 4000000 in
theorem U_X4_write {d : Nat} {s : Nat} {h : mm_H} (hs : mm_isS s) : mm_M mm_T0 (d + 1) 65 [.ref 218, .ref s] h = (mm_bV (mm_M mm_T0 d 66 [.ref 218, .int (((wI (wI h 218 1 0) 218 2 149).1 s 11) / 256)] (wI (wI h 218 1 0) 218 2 149)) (fun h1 => mm_bV (mm_M mm_T0 d 66 [.ref 218, .int ((h1.1 s 11) - (h1.1 s 11) / 256 * 256)] h1) (fun h2 => mm_D (mm_M mm_T0 d) cd_X4_write 38 [.ref 218, .ref s, .int 0, .null] [] h2))) := by
  refine (mm_M_eq (ls := [.ref 218, .ref s, .null, .null]) rfl (Nat.le_of_ble_eq_true rfl) rfl h).trans ?_
  refine (mm_by 8 (pc' := 14) (ls' := [.ref 218, .ref s, .null, .null]) (st' := [.ref s, .ref 218]) (h' := wI (wI h 218 1 0) 218 2 149) rfl).trans ?_
  refine (mm_go (pc' := 17) (ls' := [.ref 218, .ref s, .null, .null]) (st' := [.int ((wI (wI h 218 1 0) 218 2 149).1 s 11), .ref 218]) (h' := wI (wI h 218 1 0) 218 2 149) rfl (q_get (isS_0 hs))).trans ?_
  refine (mm_by 2 (pc' := 21) (ls' := [.ref 218, .ref s, .null, .null]) (st' := [.int (((wI (wI h 218 1 0) 218 2 149).1 s 11) / 256), .ref 218]) (h' := wI (wI h 218 1 0) 218 2 149) rfl).trans ?_
  refine (mm_c0 (y := 66) (as := [.ref 218, .int (((wI (wI h 218 1 0) 218 2 149).1 s 11) / 256)]) (nx := 24) (rest := []) rfl rfl).trans (mm_congV fun h1 => ?_)
  refine (mm_by 2 (pc' := 26) (ls' := [.ref 218, .ref s, .null, .null]) (st' := [.ref s, .ref 218]) (h' := h1) rfl).trans ?_
  refine (mm_go (pc' := 29) (ls' := [.ref 218, .ref s, .null, .null]) (st' := [.int (h1.1 s 11), .ref 218]) (h' := h1) rfl (q_get (isS_0 hs))).trans ?_
  refine (mm_by 2 (pc' := 33) (ls' := [.ref 218, .ref s, .null, .null]) (st' := [.int ((h1.1 s 11) - (h1.1 s 11) / 256 * 256), .ref 218]) (h' := h1) rfl).trans ?_
  refine (mm_c0 (y := 66) (as := [.ref 218, .int ((h1.1 s 11) - (h1.1 s 11) / 256 * 256)]) (nx := 36) (rest := []) rfl rfl).trans (mm_congV fun h2 => ?_)
  exact mm_by 2 rfl
set_option maxRecDepth 100000 in
set_option maxHeartbeats 4000000 in
theorem U_X4_write_38 {d : Nat} {s : Nat} {x2 : Int32} {h : mm_H} (hs : mm_isS s) : mm_D (mm_M mm_T0 d) cd_X4_write 38 [.ref 218, .ref s, .int x2, .null] [] h = (if (h.1 s 10) ≤ x2 then (mm_bV (mm_M mm_T0 d 66 [.ref 218, .int (h.1 218 2)] h) (fun h1 => some (some (.int (h1.1 218 1)), h1))) else (mm_bI (mm_M mm_T0 d 105 [.ref s, .int x2] h) (fun v3 h2 => mm_bV (mm_M mm_T0 d 66 [.ref 218, .int v3] h2) (fun h4 => mm_bI (mm_M mm_T0 d 106 [.ref s, .int x2] h4) (fun v6 h5 => mm_bV (mm_M mm_T0 d 66 [.ref 218, .int v6] h5) (fun h7 => mm_bI (mm_M mm_T0 d 109 [.ref s, .int x2] h7) (fun v9 h8 => mm_bV (mm_M mm_T0 d 66 [.ref 218, .int v9] h8) (fun h10 => mm_D (mm_M mm_T0 d) cd_X4_write 75 [.ref 218, .ref s, .int x2, .int 0] [] h10)))))))) := by
  refine (mm_by 2 (pc' := 40) (ls' := [.ref 218, .ref s, .int x2, .null]) (st' := [.ref s, .int x2]) (h' := h) rfl).trans ?_
  refine (mm_go (pc' := 43) (ls' := [.ref 218, .ref s, .int x2, .null]) (st' := [.int (h.1 s 10), .int x2]) (h' := h) rfl (q_get (isS_0 hs))).trans ?_
  refine (mm_br (c := (h.1 s 10) ≤ x2) (p1 := 110) (p2 := 46) (l1 := [.ref 218, .ref s, .int x2, .null]) (l2 := [.ref 218, .ref s, .int x2, .null]) (s1 := []) (s2 := []) (h1 := h) (h2 := h) rfl rfl).trans (mm_ite ?_ ?_)
  · refine (mm_by 3 (pc' := 115) (ls' := [.ref 218, .ref s, .int x2, .null]) (st' := [.int (h.1 218 2), .ref 218]) (h' := h) rfl).trans ?_
    refine (mm_c0 (y := 66) (as := [.ref 218, .int (h.1 218 2)]) (nx := 118) (rest := []) rfl rfl).trans (mm_congV fun h1 => ?_)
    exact mm_by_end 3 rfl
  · refine (mm_by 3 (pc' := 49) (ls' := [.ref 218, .ref s, .int x2, .null]) (st' := [.int x2, .ref s, .ref 218]) (h' := h) rfl).trans ?_
    refine (mm_c1 (y := 105) (as := [.ref s, .int x2]) (nx := 52) (rest := [.ref 218]) rfl (if_pos ⟨(isS_0 hs), Nat.le_of_ble_eq_true rfl⟩)).trans (mm_congI fun v3 h2 => ?_)
    refine (mm_c0 (y := 66) (as := [.ref 218, .int v3]) (nx := 55) (rest := []) rfl rfl).trans (mm_congV fun h4 => ?_)
    refine (mm_by 3 (pc' := 58) (ls' := [.ref 218, .ref s, .int x2, .null]) (st' := [.int x2, .ref s, .ref 218]) (h' := h4) rfl).trans ?_
    refine (mm_c1 (y := 106) (as := [.ref s, .int x2]) (nx := 61) (rest := [.ref 218]) rfl (if_pos ⟨(isS_0 hs), Nat.le_of_ble_eq_true rfl⟩)).trans (mm_congI fun v6 h5 => ?_)
    refine (mm_c0 (y := 66) (as := [.ref 218, .int v6]) (nx := 64) (rest := []) rfl rfl).trans (mm_congV fun h7 => ?_)
    refine (mm_by 3 (pc' := 67) (ls' := [.ref 218, .ref s, .int x2, .null]) (st' := [.int x2, .ref s, .ref 218]) (h' := h7) rfl).trans ?_
    refine (mm_c1 (y := 109) (as := [.ref s, .int x2]) (nx := 70) (rest := [.ref 218]) rfl (if_pos ⟨(isS_0 hs), Nat.le_of_ble_eq_true rfl⟩)).trans (mm_congI fun v9 h8 => ?_)
    refine (mm_c0 (y := 66) (as := [.ref 218, .int v9]) (nx := 73) (rest := []) rfl rfl).trans (mm_congV fun h10 => ?_)
    exact mm_by 2 rfl
set_option maxRecDepth 100000 in
set_option maxHeartbeats 4000000 in
theorem U_X4_write_75 {d : Nat} {s : Nat} {x2 : Int32} {x3 : Int32} {h : mm_H} (hs : mm_isS s) : mm_D (mm_M mm_T0 d) cd_X4_write 75 [.ref 218, .ref s, .int x2, .int x3] [] h = (if (h.1 s 10) ≤ x3 then (mm_D (mm_M mm_T0 d) cd_X4_write 38 [.ref 218, .ref s, .int (x2 + 1), .null] [] h) else (if x3 = x2 then (mm_D (mm_M mm_T0 d) cd_X4_write 75 [.ref 218, .ref s, .int x2, .int (x3 + 1)] [] h) else (mm_bI (mm_M mm_T0 d 110 [.ref s, .int x2, .int x3] h) (fun v2 h1 => mm_bV (mm_M mm_T0 d 66 [.ref 218, .int v2] h1) (fun h3 => mm_D (mm_M mm_T0 d) cd_X4_write 75 [.ref 218, .ref s, .int x2, .int (x3 + 1)] [] h3))))) := by
  refine (mm_by 2 (pc' := 77) (ls' := [.ref 218, .ref s, .int x2, .int x3]) (st' := [.ref s, .int x3]) (h' := h) rfl).trans ?_
  refine (mm_go (pc' := 80) (ls' := [.ref 218, .ref s, .int x2, .int x3]) (st' := [.int (h.1 s 10), .int x3]) (h' := h) rfl (q_get (isS_0 hs))).trans ?_
  refine (mm_br (c := (h.1 s 10) ≤ x3) (p1 := 104) (p2 := 83) (l1 := [.ref 218, .ref s, .int x2, .int x3]) (l2 := [.ref 218, .ref s, .int x2, .int x3]) (s1 := []) (s2 := []) (h1 := h) (h2 := h) rfl rfl).trans (mm_ite ?_ ?_)
  · exact mm_by 2 rfl
  · refine (mm_by 2 (pc' := 85) (ls' := [.ref 218, .ref s, .int x2, .int x3]) (st' := [.int x2, .int x3]) (h' := h) rfl).trans ?_
    refine (mm_br (c := x3 = x2) (p1 := 98) (p2 := 88) (l1 := [.ref 218, .ref s, .int x2, .int x3]) (l2 := [.ref 218, .ref s, .int x2, .int x3]) (s1 := []) (s2 := []) (h1 := h) (h2 := h) rfl rfl).trans (mm_ite ?_ ?_)
    · exact mm_by 2 rfl
    · refine (mm_by 4 (pc' := 92) (ls' := [.ref 218, .ref s, .int x2, .int x3]) (st' := [.int x3, .int x2, .ref s, .ref 218]) (h' := h) rfl).trans ?_
      refine (mm_c1 (y := 110) (as := [.ref s, .int x2, .int x3]) (nx := 95) (rest := [.ref 218]) rfl (if_pos ⟨(isS_0 hs), Nat.le_of_ble_eq_true rfl⟩)).trans (mm_congI fun v2 h1 => ?_)
      refine (mm_c0 (y := 66) (as := [.ref 218, .int v2]) (nx := 98) (rest := []) rfl rfl).trans (mm_congV fun h3 => ?_)
      exact mm_by 2 rfl
set_option maxRecDepth 100000 in
set_option maxHeartbeats 4000000 in
theorem U_X4_add {d : Nat} {x1 : Int32} {h : mm_H} : mm_M mm_T0 (d + 1) 66 [.ref 218, .int x1] h = (if 83 ≤ (h.1 218 1) then (some (none, h)) else (if (h.1 218 1) < 0 ∨ 83 ≤ (h.1 218 1).toNatClampNeg then none else (some (none, wI (wI (wI h 219 ((h.1 218 1).toNatClampNeg) x1) 218 1 (((wI h 219 ((h.1 218 1).toNatClampNeg) x1).1 218 1) + 1)) 218 2 (((3 * ((wI (wI h 219 ((h.1 218 1).toNatClampNeg) x1) 218 1 (((wI h 219 ((h.1 218 1).toNatClampNeg) x1).1 218 1) + 1)).1 218 2)) + x1) - ((3 * ((wI (wI h 219 ((h.1 218 1).toNatClampNeg) x1) 218 1 (((wI h 219 ((h.1 218 1).toNatClampNeg) x1).1 218 1) + 1)).1 218 2)) + x1) / 251 * 251))))) := by
  refine (mm_M_eq (ls := [.ref 218, .int x1]) rfl (Nat.le_of_ble_eq_true rfl) rfl h).trans ?_
  refine (mm_by 5 (pc' := 9) (ls' := [.ref 218, .int x1]) (st' := [.int 83, .int (h.1 218 1)]) (h' := h) rfl).trans ?_
  refine (mm_br (c := 83 ≤ (h.1 218 1)) (p1 := 48) (p2 := 12) (l1 := [.ref 218, .int x1]) (l2 := [.ref 218, .int x1]) (s1 := []) (s2 := []) (h1 := h) (h2 := h) rfl rfl).trans (mm_ite ?_ ?_)
  · exact mm_by_end 1 rfl
  · refine (mm_by 5 (pc' := 21) (ls' := [.ref 218, .int x1]) (st' := [.int x1, .int (h.1 218 1), .ref 219]) (h' := h) rfl).trans ?_
    refine (mm_gd (c := (h.1 218 1) < 0 ∨ 83 ≤ (h.1 218 1).toNatClampNeg) (p1 := 22) (l1 := [.ref 218, .int x1]) (s1 := []) (h1 := wI h 219 ((h.1 218 1).toNatClampNeg) x1) rfl (q_iast (n := 83) rfl)).trans (mm_ite rfl ?_)
    exact mm_by_end 17 rfl
set_option maxRecDepth 100000 in
set_option maxHeartbeats 4000000 in
theorem U_X4_read {d : Nat} {s : Nat} {h : mm_H} (hs : mm_isS s) : mm_M mm_T0 (d + 1) 67 [.ref 218, .ref 1, .ref s] h = (mm_bI (mm_M mm_T0 d 126 [.ref 1, .int 0] h) (fun v2 h1 => mm_bI (mm_M mm_T0 d 126 [.ref 1, .int 1] h1) (fun v4 h3 => mm_bI (mm_M mm_T0 d 125 [.ref 1] h3) (fun v6 h5 => if ¬ v6 = (3 + ((h.1 s 10) * ((h.1 s 10) + 2))) then (some (some (.int 0), h5)) else (mm_bI (mm_M mm_T0 d 68 [.ref 1] h5) (fun v8 h7 => if v8 = 0 then (some (some (.int 0), h7)) else (if ((256 * v2) + v4) ≤ 999 then (mm_bV (mm_M mm_T0 d 100 [.ref 220, .ref s] h7) (fun h9 => mm_D (mm_M mm_T0 d) cd_X4_read 84 [.ref 218, .ref 1, .ref s, .null, .null, .int 0] [] (wI (wI h9 220 11 ((256 * v2) + v4)) 220 8 0))) else (some (some (.int 0), h7))))))))) := by
  refine (mm_M_eq (ls := [.ref 218, .ref 1, .ref s, .null, .null, .null]) rfl (Nat.le_of_ble_eq_true rfl) rfl h).trans ?_
  refine (mm_by 2 (pc' := 2) (ls' := [.ref 218, .ref 1, .ref s, .null, .null, .null]) (st' := [.ref s, .int 3]) (h' := h) rfl).trans ?_
  refine (mm_go (pc' := 5) (ls' := [.ref 218, .ref 1, .ref s, .null, .null, .null]) (st' := [.int (h.1 s 10), .int 3]) (h' := h) rfl (q_get (isS_0 hs))).trans ?_
  refine (mm_by 1 (pc' := 6) (ls' := [.ref 218, .ref 1, .ref s, .null, .null, .null]) (st' := [.ref s, .int (h.1 s 10), .int 3]) (h' := h) rfl).trans ?_
  refine (mm_go (pc' := 9) (ls' := [.ref 218, .ref 1, .ref s, .null, .null, .null]) (st' := [.int (h.1 s 10), .int (h.1 s 10), .int 3]) (h' := h) rfl (q_get (isS_0 hs))).trans ?_
  refine (mm_by 8 (pc' := 19) (ls' := [.ref 218, .ref 1, .ref s, .int (3 + ((h.1 s 10) * ((h.1 s 10) + 2))), .null, .null]) (st' := [.int 0, .ref 1, .int 256]) (h' := h) rfl).trans ?_
  refine (mm_c1 (y := 126) (as := [.ref 1, .int 0]) (nx := 22) (rest := [.int 256]) rfl rfl).trans (mm_congI fun v2 h1 => ?_)
  refine (mm_by 3 (pc' := 25) (ls' := [.ref 218, .ref 1, .ref s, .int (3 + ((h.1 s 10) * ((h.1 s 10) + 2))), .null, .null]) (st' := [.int 1, .ref 1, .int (256 * v2)]) (h' := h1) rfl).trans ?_
  refine (mm_c1 (y := 126) (as := [.ref 1, .int 1]) (nx := 28) (rest := [.int (256 * v2)]) rfl rfl).trans (mm_congI fun v4 h3 => ?_)
  refine (mm_by 3 (pc' := 32) (ls' := [.ref 218, .ref 1, .ref s, .int (3 + ((h.1 s 10) * ((h.1 s 10) + 2))), .int ((256 * v2) + v4), .null]) (st' := [.ref 1]) (h' := h3) rfl).trans ?_
  refine (mm_c1 (y := 125) (as := [.ref 1]) (nx := 35) (rest := []) rfl rfl).trans (mm_congI fun v6 h5 => ?_)
  refine (mm_by 1 (pc' := 36) (ls' := [.ref 218, .ref 1, .ref s, .int (3 + ((h.1 s 10) * ((h.1 s 10) + 2))), .int ((256 * v2) + v4), .null]) (st' := [.int (3 + ((h.1 s 10) * ((h.1 s 10) + 2))), .int v6]) (h' := h5) rfl).trans ?_
  refine (mm_br (c := ¬ v6 = (3 + ((h.1 s 10) * ((h.1 s 10) + 2)))) (p1 := 54) (p2 := 39) (l1 := [.ref 218, .ref 1, .ref s, .int (3 + ((h.1 s 10) * ((h.1 s 10) + 2))), .int ((256 * v2) + v4), .null]) (l2 := [.ref 218, .ref 1, .ref s, .int (3 + ((h.1 s 10) * ((h.1 s 10) + 2))), .int ((256 * v2) + v4), .null]) (s1 := []) (s2 := []) (h1 := h5) (h2 := h5) rfl rfl).trans (mm_ite ?_ ?_)
  · exact mm_by_end 2 rfl
  · refine (mm_by 1 (pc' := 40) (ls' := [.ref 218, .ref 1, .ref s, .int (3 + ((h.1 s 10) * ((h.1 s 10) + 2))), .int ((256 * v2) + v4), .null]) (st' := [.ref 1]) (h' := h5) rfl).trans ?_
    refine (mm_c1 (y := 68) (as := [.ref 1]) (nx := 43) (rest := []) rfl rfl).trans (mm_congI fun v8 h7 => ?_)
    refine (mm_br (c := v8 = 0) (p1 := 54) (p2 := 46) (l1 := [.ref 218, .ref 1, .ref s, .int (3 + ((h.1 s 10) * ((h.1 s 10) + 2))), .int ((256 * v2) + v4), .null]) (l2 := [.ref 218, .ref 1, .ref s, .int (3 + ((h.1 s 10) * ((h.1 s 10) + 2))), .int ((256 * v2) + v4), .null]) (s1 := []) (s2 := []) (h1 := h7) (h2 := h7) rfl rfl).trans (mm_ite ?_ ?_)
    · exact mm_by_end 2 rfl
    · refine (mm_by 2 (pc' := 51) (ls' := [.ref 218, .ref 1, .ref s, .int (3 + ((h.1 s 10) * ((h.1 s 10) + 2))), .int ((256 * v2) + v4), .null]) (st' := [.int 999, .int ((256 * v2) + v4)]) (h' := h7) rfl).trans ?_
      refine (mm_br (c := ((256 * v2) + v4) ≤ 999) (p1 := 56) (p2 := 54) (l1 := [.ref 218, .ref 1, .ref s, .int (3 + ((h.1 s 10) * ((h.1 s 10) + 2))), .int ((256 * v2) + v4), .null]) (l2 := [.ref 218, .ref 1, .ref s, .int (3 + ((h.1 s 10) * ((h.1 s 10) + 2))), .int ((256 * v2) + v4), .null]) (s1 := []) (s2 := []) (h1 := h7) (h2 := h7) rfl rfl).trans (mm_ite ?_ ?_)
      · refine (mm_by 3 (pc' := 61) (ls' := [.ref 218, .ref 1, .ref s, .int (3 + ((h.1 s 10) * ((h.1 s 10) + 2))), .int ((256 * v2) + v4), .null]) (st' := [.ref s, .ref 220]) (h' := h7) rfl).trans ?_
        refine (mm_c0 (y := 100) (as := [.ref 220, .ref s]) (nx := 64) (rest := []) rfl rfl).trans (mm_congV fun h9 => ?_)
        exact mm_by 10 rfl
      · exact mm_by_end 2 rfl
set_option maxRecDepth 100000 in
set_option maxHeartbeats 4000000 in
theorem U_X4_read_84 {d : Nat} {s : Nat} {x5 : Int32} {h : mm_H} (hs : mm_isS s) : mm_D (mm_M mm_T0 d) cd_X4_read 84 [.ref 218, .ref 1, .ref s, .null, .null, .int x5] [] h = (if (h.1 s 9) ≤ x5 then (mm_D (mm_M mm_T0 d) cd_X4_read 112 [.ref 218, .ref 1, .ref s, .null, .null, .int 0] [] h) else (mm_bV (mm_M mm_T0 d 116 [.ref 220, .int ((-1)), .int x5] h) (fun h1 => mm_D (mm_M mm_T0 d) cd_X4_read 84 [.ref 218, .ref 1, .ref s, .null, .null, .int (x5 + 1)] [] h1))) := by
  refine (mm_by 2 (pc' := 87) (ls' := [.ref 218, .ref 1, .ref s, .null, .null, .int x5]) (st' := [.ref s, .int x5]) (h' := h) rfl).trans ?_
  refine (mm_go (pc' := 90) (ls' := [.ref 218, .ref 1, .ref s, .null, .null, .int x5]) (st' := [.int (h.1 s 9), .int x5]) (h' := h) rfl (q_get (isS_0 hs))).trans ?_
  refine (mm_br (c := (h.1 s 9) ≤ x5) (p1 := 109) (p2 := 93) (l1 := [.ref 218, .ref 1, .ref s, .null, .null, .int x5]) (l2 := [.ref 218, .ref 1, .ref s, .null, .null, .int x5]) (s1 := []) (s2 := []) (h1 := h) (h2 := h) rfl rfl).trans (mm_ite ?_ ?_)
  · exact mm_by 2 rfl
  · refine (mm_by 4 (pc' := 100) (ls' := [.ref 218, .ref 1, .ref s, .null, .null, .int x5]) (st' := [.int x5, .int ((-1)), .ref 220]) (h' := h) rfl).trans ?_
    refine (mm_c0 (y := 116) (as := [.ref 220, .int ((-1)), .int x5]) (nx := 103) (rest := []) rfl rfl).trans (mm_congV fun h1 => ?_)
    exact mm_by 2 rfl
set_option maxRecDepth 100000 in
set_option maxHeartbeats 4000000 in
theorem U_X4_read_112 {d : Nat} {s : Nat} {x5 : Int32} {h : mm_H} (hs : mm_isS s) : mm_D (mm_M mm_T0 d) cd_X4_read 112 [.ref 218, .ref 1, .ref s, .null, .null, .int x5] [] h = (if (h.1 s 10) ≤ x5 then (mm_bV (mm_M mm_T0 d 100 [.ref s, .ref 220] h) (fun h1 => some (some (.int 1), h1))) else (mm_bI (mm_M mm_T0 d 69 [.ref 218, .ref 1, .int (2 + (x5 * ((h.1 s 10) + 2))), .int x5] h) (fun v3 h2 => if ¬ v3 = 0 then (mm_D (mm_M mm_T0 d) cd_X4_read 112 [.ref 218, .ref 1, .ref s, .null, .null, .int (x5 + 1)] [] h2) else (some (some (.int 0), h2))))) := by
  refine (mm_by 2 (pc' := 115) (ls' := [.ref 218, .ref 1, .ref s, .null, .null, .int x5]) (st' := [.ref s, .int x5]) (h' := h) rfl).trans ?_
  refine (mm_go (pc' := 118) (ls' := [.ref 218, .ref 1, .ref s, .null, .null, .int x5]) (st' := [.int (h.1 s 10), .int x5]) (h' := h) rfl (q_get (isS_0 hs))).trans ?_
  refine (mm_br (c := (h.1 s 10) ≤ x5) (p1 := 150) (p2 := 121) (l1 := [.ref 218, .ref 1, .ref s, .null, .null, .int x5]) (l2 := [.ref 218, .ref 1, .ref s, .null, .null, .int x5]) (s1 := []) (s2 := []) (h1 := h) (h2 := h) rfl rfl).trans (mm_ite ?_ ?_)
  · refine (mm_by 3 (pc' := 155) (ls' := [.ref 218, .ref 1, .ref s, .null, .null, .int x5]) (st' := [.ref 220, .ref s]) (h' := h) rfl).trans ?_
    refine (mm_c0 (y := 100) (as := [.ref s, .ref 220]) (nx := 158) (rest := []) rfl (if_pos ⟨(isS_0 hs), Nat.le_of_ble_eq_true rfl⟩)).trans (mm_congV fun h1 => ?_)
    exact mm_by_end 2 rfl
  · refine (mm_by 5 (pc' := 127) (ls' := [.ref 218, .ref 1, .ref s, .null, .null, .int x5]) (st' := [.ref s, .int x5, .int 2, .ref 1, .ref 218]) (h' := h) rfl).trans ?_
    refine (mm_go (pc' := 130) (ls' := [.ref 218, .ref 1, .ref s, .null, .null, .int x5]) (st' := [.int (h.1 s 10), .int x5, .int 2, .ref 1, .ref 218]) (h' := h) rfl (q_get (isS_0 hs))).trans ?_
    refine (mm_by 5 (pc' := 136) (ls' := [.ref 218, .ref 1, .ref s, .null, .null, .int x5]) (st' := [.int x5, .int (2 + (x5 * ((h.1 s 10) + 2))), .ref 1, .ref 218]) (h' := h) rfl).trans ?_
    refine (mm_c1 (y := 69) (as := [.ref 218, .ref 1, .int (2 + (x5 * ((h.1 s 10) + 2))), .int x5]) (nx := 139) (rest := []) rfl rfl).trans (mm_congI fun v3 h2 => ?_)
    refine (mm_br (c := ¬ v3 = 0) (p1 := 144) (p2 := 142) (l1 := [.ref 218, .ref 1, .ref s, .null, .null, .int x5]) (l2 := [.ref 218, .ref 1, .ref s, .null, .null, .int x5]) (s1 := []) (s2 := []) (h1 := h2) (h2 := h2) rfl rfl).trans (mm_ite ?_ ?_)
    · exact mm_by 2 rfl
    · exact mm_by_end 2 rfl
set_option maxRecDepth 100000 in
set_option maxHeartbeats 4000000 in
theorem U_X4_isChecked {d : Nat} {h : mm_H} : mm_M mm_T0 (d + 1) 68 [.ref 1] h = (mm_D (mm_M mm_T0 d) cd_X4_isChecked 6 [.ref 1, .int 149, .int 0] [] h) := by
  refine (mm_M_eq (ls := [.ref 1, .null, .null]) rfl (Nat.le_of_ble_eq_true rfl) rfl h).trans ?_
  exact mm_by 4 rfl
set_option maxRecDepth 100000 in
set_option maxHeartbeats 4000000 in
theorem U_X4_isChecked_6 {d : Nat} {x1 : Int32} {x2 : Int32} {h : mm_H} : mm_D (mm_M mm_T0 d) cd_X4_isChecked 6 [.ref 1, .int x1, .int x2] [] h = (mm_bI (mm_M mm_T0 d 125 [.ref 1] h) (fun v2 h1 => if (v2 - 1) ≤ x2 then (mm_bI (mm_M mm_T0 d 125 [.ref 1] h1) (fun v4 h3 => mm_bI (mm_M mm_T0 d 126 [.ref 1, .int (v4 - 1)] h3) (fun v6 h5 => if ¬ v6 = x1 then (some (some (.int 0), h5)) else (some (some (.int 1), h5))))) else (mm_bI (mm_M mm_T0 d 126 [.ref 1, .int x2] h1) (fun v8 h7 => mm_D (mm_M mm_T0 d) cd_X4_isChecked 6 [.ref 1, .int (((3 * x1) + v8) - ((3 * x1) + v8) / 251 * 251), .int (x2 + 1)] [] h7)))) := by
  refine (mm_by 2 (pc' := 8) (ls' := [.ref 1, .int x1, .int x2]) (st' := [.ref 1, .int x2]) (h' := h) rfl).trans ?_
  refine (mm_c1 (y := 125) (as := [.ref 1]) (nx := 11) (rest := [.int x2]) rfl rfl).trans (mm_congI fun v2 h1 => ?_)
  refine (mm_by 2 (pc' := 13) (ls' := [.ref 1, .int x1, .int x2]) (st' := [.int (v2 - 1), .int x2]) (h' := h1) rfl).trans ?_
  refine (mm_br (c := (v2 - 1) ≤ x2) (p1 := 36) (p2 := 16) (l1 := [.ref 1, .int x1, .int x2]) (l2 := [.ref 1, .int x1, .int x2]) (s1 := []) (s2 := []) (h1 := h1) (h2 := h1) rfl rfl).trans (mm_ite ?_ ?_)
  · refine (mm_by 2 (pc' := 38) (ls' := [.ref 1, .int x1, .int x2]) (st' := [.ref 1, .ref 1]) (h' := h1) rfl).trans ?_
    refine (mm_c1 (y := 125) (as := [.ref 1]) (nx := 41) (rest := [.ref 1]) rfl rfl).trans (mm_congI fun v4 h3 => ?_)
    refine (mm_by 2 (pc' := 43) (ls' := [.ref 1, .int x1, .int x2]) (st' := [.int (v4 - 1), .ref 1]) (h' := h3) rfl).trans ?_
    refine (mm_c1 (y := 126) (as := [.ref 1, .int (v4 - 1)]) (nx := 46) (rest := []) rfl rfl).trans (mm_congI fun v6 h5 => ?_)
    refine (mm_by 1 (pc' := 47) (ls' := [.ref 1, .int x1, .int x2]) (st' := [.int x1, .int v6]) (h' := h5) rfl).trans ?_
    refine (mm_br (c := ¬ v6 = x1) (p1 := 54) (p2 := 50) (l1 := [.ref 1, .int x1, .int x2]) (l2 := [.ref 1, .int x1, .int x2]) (s1 := []) (s2 := []) (h1 := h5) (h2 := h5) rfl rfl).trans (mm_ite ?_ ?_)
    · exact mm_by_end 2 rfl
    · exact mm_by_end 3 rfl
  · refine (mm_by 5 (pc' := 21) (ls' := [.ref 1, .int x1, .int x2]) (st' := [.int x2, .ref 1, .int (3 * x1)]) (h' := h1) rfl).trans ?_
    refine (mm_c1 (y := 126) (as := [.ref 1, .int x2]) (nx := 24) (rest := [.int (3 * x1)]) rfl rfl).trans (mm_congI fun v8 h7 => ?_)
    exact mm_by 6 rfl
set_option maxRecDepth 100000 in
set_option maxHeartbeats 4000000 in
theorem U_X4_readPerson {d : Nat} {x2 : Int32} {x3 : Int32} {h : mm_H} : mm_M mm_T0 (d + 1) 69 [.ref 218, .ref 1, .int x2, .int x3] h = (mm_bI (mm_M mm_T0 d 126 [.ref 1, .int x2] h) (fun v2 h1 => mm_bI (mm_M mm_T0 d 126 [.ref 1, .int (x2 + 1)] h1) (fun v4 h3 => mm_bI (mm_M mm_T0 d 126 [.ref 1, .int (x2 + 2)] h3) (fun v6 h5 => mm_bI (mm_M mm_T0 d 101 [.ref 220, .int v2] h5) (fun v8 h7 => if v8 = 0 then (some (some (.int 0), h7)) else (mm_bI (mm_M mm_T0 d 104 [.ref 220, .int v2] h7) (fun v10 h9 => if ¬ v10 = ((-1)) then (some (some (.int 0), h9)) else (if 99 < v4 then (some (some (.int 0), h9)) else (if v6 ≤ 1 then (mm_bV (mm_M mm_T0 d 116 [.ref 220, .int x3, .int v2] h9) (fun h11 => mm_bV (mm_M mm_T0 d 112 [.ref 220, .int x3, .int v4] h11) (fun h12 => mm_bV (mm_M mm_T0 d 114 [.ref 220, .int x3, .int v6] h12) (fun h13 => mm_D (mm_M mm_T0 d) cd_X4_readPerson 103 [.ref 218, .ref 1, .null, .int x3, .null, .null, .null, .int (x2 + 3), .int 0] [] h13)))) else (some (some (.int 0), h9))))))))))) := by
  refine (mm_M_eq (ls := [.ref 218, .ref 1, .int x2, .int x3, .null, .null, .null, .null, .null]) rfl (Nat.le_of_ble_eq_true rfl) rfl h).trans ?_
  refine (mm_by 2 (pc' := 2) (ls' := [.ref 218, .ref 1, .int x2, .int x3, .null, .null, .null, .null, .null]) (st' := [.int x2, .ref 1]) (h' := h) rfl).trans ?_
  refine (mm_c1 (y := 126) (as := [.ref 1, .int x2]) (nx := 5) (rest := []) rfl rfl).trans (mm_congI fun v2 h1 => ?_)
  refine (mm_by 5 (pc' := 11) (ls' := [.ref 218, .ref 1, .int x2, .int x3, .int v2, .null, .null, .null, .null]) (st' := [.int (x2 + 1), .ref 1]) (h' := h1) rfl).trans ?_
  refine (mm_c1 (y := 126) (as := [.ref 1, .int (x2 + 1)]) (nx := 14) (rest := []) rfl rfl).trans (mm_congI fun v4 h3 => ?_)
  refine (mm_by 5 (pc' := 20) (ls' := [.ref 218, .ref 1, .int x2, .int x3, .int v2, .int v4, .null, .null, .null]) (st' := [.int (x2 + 2), .ref 1]) (h' := h3) rfl).trans ?_
  refine (mm_c1 (y := 126) (as := [.ref 1, .int (x2 + 2)]) (nx := 23) (rest := []) rfl rfl).trans (mm_congI fun v6 h5 => ?_)
  refine (mm_by 4 (pc' := 31) (ls' := [.ref 218, .ref 1, .int x2, .int x3, .int v2, .int v4, .int v6, .null, .null]) (st' := [.int v2, .ref 220]) (h' := h5) rfl).trans ?_
  refine (mm_c1 (y := 101) (as := [.ref 220, .int v2]) (nx := 34) (rest := []) rfl rfl).trans (mm_congI fun v8 h7 => ?_)
  refine (mm_br (c := v8 = 0) (p1 := 63) (p2 := 37) (l1 := [.ref 218, .ref 1, .int x2, .int x3, .int v2, .int v4, .int v6, .null, .null]) (l2 := [.ref 218, .ref 1, .int x2, .int x3, .int v2, .int v4, .int v6, .null, .null]) (s1 := []) (s2 := []) (h1 := h7) (h2 := h7) rfl rfl).trans (mm_ite ?_ ?_)
  · exact mm_by_end 2 rfl
  · refine (mm_by 3 (pc' := 43) (ls' := [.ref 218, .ref 1, .int x2, .int x3, .int v2, .int v4, .int v6, .null, .null]) (st' := [.int v2, .ref 220]) (h' := h7) rfl).trans ?_
    refine (mm_c1 (y := 104) (as := [.ref 220, .int v2]) (nx := 46) (rest := []) rfl rfl).trans (mm_congI fun v10 h9 => ?_)
    refine (mm_by 1 (pc' := 47) (ls' := [.ref 218, .ref 1, .int x2, .int x3, .int v2, .int v4, .int v6, .null, .null]) (st' := [.int ((-1)), .int v10]) (h' := h9) rfl).trans ?_
    refine (mm_br (c := ¬ v10 = ((-1))) (p1 := 63) (p2 := 50) (l1 := [.ref 218, .ref 1, .int x2, .int x3, .int v2, .int v4, .int v6, .null, .null]) (l2 := [.ref 218, .ref 1, .int x2, .int x3, .int v2, .int v4, .int v6, .null, .null]) (s1 := []) (s2 := []) (h1 := h9) (h2 := h9) rfl rfl).trans (mm_ite ?_ ?_)
    · exact mm_by_end 2 rfl
    · refine (mm_by 2 (pc' := 54) (ls' := [.ref 218, .ref 1, .int x2, .int x3, .int v2, .int v4, .int v6, .null, .null]) (st' := [.int 99, .int v4]) (h' := h9) rfl).trans ?_
      refine (mm_br (c := 99 < v4) (p1 := 63) (p2 := 57) (l1 := [.ref 218, .ref 1, .int x2, .int x3, .int v2, .int v4, .int v6, .null, .null]) (l2 := [.ref 218, .ref 1, .int x2, .int x3, .int v2, .int v4, .int v6, .null, .null]) (s1 := []) (s2 := []) (h1 := h9) (h2 := h9) rfl rfl).trans (mm_ite ?_ ?_)
      · exact mm_by_end 2 rfl
      · refine (mm_by 2 (pc' := 60) (ls' := [.ref 218, .ref 1, .int x2, .int x3, .int v2, .int v4, .int v6, .null, .null]) (st' := [.int 1, .int v6]) (h' := h9) rfl).trans ?_
        refine (mm_br (c := v6 ≤ 1) (p1 := 65) (p2 := 63) (l1 := [.ref 218, .ref 1, .int x2, .int x3, .int v2, .int v4, .int v6, .null, .null]) (l2 := [.ref 218, .ref 1, .int x2, .int x3, .int v2, .int v4, .int v6, .null, .null]) (s1 := []) (s2 := []) (h1 := h9) (h2 := h9) rfl rfl).trans (mm_ite ?_ ?_)
        · refine (mm_by 4 (pc' := 72) (ls' := [.ref 218, .ref 1, .int x2, .int x3, .int v2, .int v4, .int v6, .null, .null]) (st' := [.int v2, .int x3, .ref 220]) (h' := h9) rfl).trans ?_
          refine (mm_c0 (y := 116) (as := [.ref 220, .int x3, .int v2]) (nx := 75) (rest := []) rfl rfl).trans (mm_congV fun h11 => ?_)
          refine (mm_by 4 (pc' := 82) (ls' := [.ref 218, .ref 1, .int x2, .int x3, .int v2, .int v4, .int v6, .null, .null]) (st' := [.int v4, .int x3, .ref 220]) (h' := h11) rfl).trans ?_
          refine (mm_c0 (y := 112) (as := [.ref 220, .int x3, .int v4]) (nx := 85) (rest := []) rfl rfl).trans (mm_congV fun h12 => ?_)
          refine (mm_by 4 (pc' := 92) (ls' := [.ref 218, .ref 1, .int x2, .int x3, .int v2, .int v4, .int v6, .null, .null]) (st' := [.int v6, .int x3, .ref 220]) (h' := h12) rfl).trans ?_
          refine (mm_c0 (y := 114) (as := [.ref 220, .int x3, .int v6]) (nx := 95) (rest := []) rfl rfl).trans (mm_congV fun h13 => ?_)
          exact mm_by 6 rfl
        · exact mm_by_end 2 rfl
set_option maxRecDepth 100000 in
set_option maxHeartbeats 4000000 in
theorem U_X4_readPerson_103 {d : Nat} {x3 : Int32} {x7 : Int32} {x8 : Int32} {h : mm_H} : mm_D (mm_M mm_T0 d) cd_X4_readPerson 103 [.ref 218, .ref 1, .null, .int x3, .null, .null, .null, .int x7, .int x8] [] h = (if (h.1 220 10) ≤ x8 then (some (some (.int 1), h)) else (if x8 = x3 then (mm_D (mm_M mm_T0 d) cd_X4_readPerson 103 [.ref 218, .ref 1, .null, .int x3, .null, .null, .null, .int x7, .int (x8 + 1)] [] h) else (mm_bI (mm_M mm_T0 d 126 [.ref 1, .int x7] h) (fun v2 h1 => if v2 ≤ 9 then (mm_bI (mm_M mm_T0 d 126 [.ref 1, .int x7] h1) (fun v4 h3 => mm_bV (mm_M mm_T0 d 115 [.ref 220, .int x3, .int x8, .int v4] h3) (fun h5 => mm_D (mm_M mm_T0 d) cd_X4_readPerson 103 [.ref 218, .ref 1, .null, .int x3, .null, .null, .null, .int (x7 + 1), .int (x8 + 1)] [] h5))) else (some (some (.int 0), h1)))))) := by
  refine (mm_by 4 (pc' := 112) (ls' := [.ref 218, .ref 1, .null, .int x3, .null, .null, .null, .int x7, .int x8]) (st' := [.int (h.1 220 10), .int x8]) (h' := h) rfl).trans ?_
  refine (mm_br (c := (h.1 220 10) ≤ x8) (p1 := 159) (p2 := 115) (l1 := [.ref 218, .ref 1, .null, .int x3, .null, .null, .null, .int x7, .int x8]) (l2 := [.ref 218, .ref 1, .null, .int x3, .null, .null, .null, .int x7, .int x8]) (s1 := []) (s2 := []) (h1 := h) (h2 := h) rfl rfl).trans (mm_ite ?_ ?_)
  · exact mm_by_end 2 rfl
  · refine (mm_by 2 (pc' := 118) (ls' := [.ref 218, .ref 1, .null, .int x3, .null, .null, .null, .int x7, .int x8]) (st' := [.int x3, .int x8]) (h' := h) rfl).trans ?_
    refine (mm_br (c := x8 = x3) (p1 := 153) (p2 := 121) (l1 := [.ref 218, .ref 1, .null, .int x3, .null, .null, .null, .int x7, .int x8]) (l2 := [.ref 218, .ref 1, .null, .int x3, .null, .null, .null, .int x7, .int x8]) (s1 := []) (s2 := []) (h1 := h) (h2 := h) rfl rfl).trans (mm_ite ?_ ?_)
    · exact mm_by 2 rfl
    · refine (mm_by 2 (pc' := 124) (ls' := [.ref 218, .ref 1, .null, .int x3, .null, .null, .null, .int x7, .int x8]) (st' := [.int x7, .ref 1]) (h' := h) rfl).trans ?_
      refine (mm_c1 (y := 126) (as := [.ref 1, .int x7]) (nx := 127) (rest := []) rfl rfl).trans (mm_congI fun v2 h1 => ?_)
      refine (mm_by 1 (pc' := 129) (ls' := [.ref 218, .ref 1, .null, .int x3, .null, .null, .null, .int x7, .int x8]) (st' := [.int 9, .int v2]) (h' := h1) rfl).trans ?_
      refine (mm_br (c := v2 ≤ 9) (p1 := 134) (p2 := 132) (l1 := [.ref 218, .ref 1, .null, .int x3, .null, .null, .null, .int x7, .int x8]) (l2 := [.ref 218, .ref 1, .null, .int x3, .null, .null, .null, .int x7, .int x8]) (s1 := []) (s2 := []) (h1 := h1) (h2 := h1) rfl rfl).trans (mm_ite ?_ ?_)
      · refine (mm_by 6 (pc' := 144) (ls' := [.ref 218, .ref 1, .null, .int x3, .null, .null, .null, .int x7, .int x8]) (st' := [.int x7, .ref 1, .int x8, .int x3, .ref 220]) (h' := h1) rfl).trans ?_
        refine (mm_c1 (y := 126) (as := [.ref 1, .int x7]) (nx := 147) (rest := [.int x8, .int x3, .ref 220]) rfl rfl).trans (mm_congI fun v4 h3 => ?_)
        refine (mm_c0 (y := 115) (as := [.ref 220, .int x3, .int x8, .int v4]) (nx := 150) (rest := []) rfl rfl).trans (mm_congV fun h5 => ?_)
        exact mm_by 3 rfl
      · exact mm_by_end 2 rfl
set_option maxRecDepth 100000 in
set_option maxHeartbeats 4000000 in
theorem U_X5_read {d : Nat} {h : mm_H} : mm_M mm_T0 (d + 1) 70 [.ref 4, .ref 3, .ref 11] h = (mm_bV (mm_M mm_T0 d 74 [.ref 3] h) (fun h1 => mm_bI (mm_M mm_T0 d 77 [.ref 3] h1) (fun v3 h2 => if v3 = 0 then (mm_bI (mm_M mm_T0 d 88 [.ref 3] h2) (fun v5 h4 => mm_zr v5 h4)) else (if (h2.1 3 4) < 25 then (mm_bI (mm_M mm_T0 d 88 [.ref 3] h2) (fun v7 h6 => mm_zr v7 h6)) else (if (h2.1 3 4) ≤ 30 then (mm_bV (mm_M mm_T0 d 33 [.ref 5] (wI h2 4 1 (h2.1 3 4))) (fun h8 => if (h8.1 4 1) = 25 then (mm_bI (mm_M mm_T0 d 46 [.ref 11, .ref 5, .int 3, .int 1] h8) (fun v10 h9 => if ¬ v10 = 0 then (mm_bI (mm_M mm_T0 d 76 [.ref 3] h9) (fun v12 h11 => if ¬ v12 = 0 then (some (some (.int 1), h11)) else (mm_bI (mm_M mm_T0 d 88 [.ref 3] h11) (fun v14 h13 => if v14 = 0 then (some (some (.int 0), h13)) else (some (some (.int 1), h13)))))) else (some (some (.int 0), h9)))) else (if (h8.1 4 1) = 26 then (mm_bI (mm_M mm_T0 d 46 [.ref 11, .ref 5, .int 3, .int 1] h8) (fun v16 h15 => if ¬ v16 = 0 then (mm_bI (mm_M mm_T0 d 76 [.ref 3] h15) (fun v18 h17 => if ¬ v18 = 0 then (some (some (.int 1), h17)) else (mm_bI (mm_M mm_T0 d 88 [.ref 3] h17) (fun v20 h19 => if v20 = 0 then (some (some (.int 0), h19)) else (some (some (.int 1), h19)))))) else (some (some (.int 0), h15)))) else (if ¬ (h8.1 4 1) = 27 then (mm_bI (mm_M mm_T0 d 46 [.ref 11, .ref 5, .int 3, .int 0] h8) (fun v22 h21 => if ¬ v22 = 0 then (mm_bI (mm_M mm_T0 d 76 [.ref 3] h21) (fun v24 h23 => if ¬ v24 = 0 then (some (some (.int 1), h23)) else (mm_bI (mm_M mm_T0 d 88 [.ref 3] h23) (fun v26 h25 => if v26 = 0 then (some (some (.int 0), h25)) else (some (some (.int 1), h25)))))) else (some (some (.int 0), h21)))) else (mm_bI (mm_M mm_T0 d 46 [.ref 11, .ref 5, .int 3, .int 1] h8) (fun v28 h27 => if ¬ v28 = 0 then (mm_bI (mm_M mm_T0 d 76 [.ref 3] h27) (fun v30 h29 => if ¬ v30 = 0 then (some (some (.int 1), h29)) else (mm_bI (mm_M mm_T0 d 88 [.ref 3] h29) (fun v32 h31 => if v32 = 0 then (some (some (.int 0), h31)) else (some (some (.int 1), h31)))))) else (some (some (.int 0), h27)))))))) else (mm_bI (mm_M mm_T0 d 88 [.ref 3] h2) (fun v34 h33 => mm_zr v34 h33))))))) := by
  refine (mm_M_eq (ls := [.ref 4, .ref 3, .ref 11, .null]) rfl (Nat.le_of_ble_eq_true rfl) rfl h).trans ?_
  refine (mm_by 1 (pc' := 1) (ls' := [.ref 4, .ref 3, .ref 11, .null]) (st' := [.ref 3]) (h' := h) rfl).trans ?_
  refine (mm_c0 (y := 74) (as := [.ref 3]) (nx := 4) (rest := []) rfl rfl).trans (mm_congV fun h1 => ?_)
  refine (mm_by 1 (pc' := 5) (ls' := [.ref 4, .ref 3, .ref 11, .null]) (st' := [.ref 3]) (h' := h1) rfl).trans ?_
  refine (mm_c1 (y := 77) (as := [.ref 3]) (nx := 8) (rest := []) rfl rfl).trans (mm_congI fun v3 h2 => ?_)
  refine (mm_br (c := v3 = 0) (p1 := 29) (p2 := 11) (l1 := [.ref 4, .ref 3, .ref 11, .null]) (l2 := [.ref 4, .ref 3, .ref 11, .null]) (s1 := []) (s2 := []) (h1 := h2) (h2 := h2) rfl rfl).trans (mm_ite ?_ ?_)
  · refine (mm_by 1 (pc' := 30) (ls' := [.ref 4, .ref 3, .ref 11, .null]) (st' := [.ref 3]) (h' := h2) rfl).trans ?_
    refine (mm_c1 (y := 88) (as := [.ref 3]) (nx := 33) (rest := []) rfl rfl).trans (mm_congI fun v5 h4 => ?_)
    exact mm_zend rfl
  · refine (mm_by 3 (pc' := 17) (ls' := [.ref 4, .ref 3, .ref 11, .null]) (st' := [.int 25, .int (h2.1 3 4)]) (h' := h2) rfl).trans ?_
    refine (mm_br (c := (h2.1 3 4) < 25) (p1 := 29) (p2 := 20) (l1 := [.ref 4, .ref 3, .ref 11, .null]) (l2 := [.ref 4, .ref 3, .ref 11, .null]) (s1 := []) (s2 := []) (h1 := h2) (h2 := h2) rfl rfl).trans (mm_ite ?_ ?_)
    · refine (mm_by 1 (pc' := 30) (ls' := [.ref 4, .ref 3, .ref 11, .null]) (st' := [.ref 3]) (h' := h2) rfl).trans ?_
      refine (mm_c1 (y := 88) (as := [.ref 3]) (nx := 33) (rest := []) rfl rfl).trans (mm_congI fun v7 h6 => ?_)
      exact mm_zend rfl
    · refine (mm_by 3 (pc' := 26) (ls' := [.ref 4, .ref 3, .ref 11, .null]) (st' := [.int 30, .int (h2.1 3 4)]) (h' := h2) rfl).trans ?_
      refine (mm_br (c := (h2.1 3 4) ≤ 30) (p1 := 34) (p2 := 29) (l1 := [.ref 4, .ref 3, .ref 11, .null]) (l2 := [.ref 4, .ref 3, .ref 11, .null]) (s1 := []) (s2 := []) (h1 := h2) (h2 := h2) rfl rfl).trans (mm_ite ?_ ?_)
      · refine (mm_by 6 (pc' := 46) (ls' := [.ref 4, .ref 3, .ref 11, .null]) (st' := [.ref 5]) (h' := wI h2 4 1 (h2.1 3 4)) rfl).trans ?_
        refine (mm_c0 (y := 33) (as := [.ref 5]) (nx := 49) (rest := []) rfl rfl).trans (mm_congV fun h8 => ?_)
        refine (mm_by 3 (pc' := 55) (ls' := [.ref 4, .ref 3, .ref 11, .null]) (st' := [.int 25, .int (h8.1 4 1)]) (h' := h8) rfl).trans ?_
        refine (mm_br (c := (h8.1 4 1) = 25) (p1 := 76) (p2 := 58) (l1 := [.ref 4, .ref 3, .ref 11, .null]) (l2 := [.ref 4, .ref 3, .ref 11, .null]) (s1 := []) (s2 := []) (h1 := h8) (h2 := h8) rfl rfl).trans (mm_ite ?_ ?_)
        · refine (mm_by 8 (pc' := 89) (ls' := [.ref 4, .ref 3, .ref 11, .int 1]) (st' := [.int 1, .int 3, .ref 5, .ref 11]) (h' := h8) rfl).trans ?_
          refine (mm_c1 (y := 46) (as := [.ref 11, .ref 5, .int 3, .int 1]) (nx := 92) (rest := []) rfl rfl).trans (mm_congI fun v10 h9 => ?_)
          refine (mm_br (c := ¬ v10 = 0) (p1 := 97) (p2 := 95) (l1 := [.ref 4, .ref 3, .ref 11, .int 1]) (l2 := [.ref 4, .ref 3, .ref 11, .int 1]) (s1 := []) (s2 := []) (h1 := h9) (h2 := h9) rfl rfl).trans (mm_ite ?_ ?_)
          · refine (mm_by 1 (pc' := 98) (ls' := [.ref 4, .ref 3, .ref 11, .int 1]) (st' := [.ref 3]) (h' := h9) rfl).trans ?_
            refine (mm_c1 (y := 76) (as := [.ref 3]) (nx := 101) (rest := []) rfl rfl).trans (mm_congI fun v12 h11 => ?_)
            refine (mm_br (c := ¬ v12 = 0) (p1 := 111) (p2 := 104) (l1 := [.ref 4, .ref 3, .ref 11, .int 1]) (l2 := [.ref 4, .ref 3, .ref 11, .int 1]) (s1 := []) (s2 := []) (h1 := h11) (h2 := h11) rfl rfl).trans (mm_ite ?_ ?_)
            · exact mm_by_end 3 rfl
            · refine (mm_by 1 (pc' := 105) (ls' := [.ref 4, .ref 3, .ref 11, .int 1]) (st' := [.ref 3]) (h' := h11) rfl).trans ?_
              refine (mm_c1 (y := 88) (as := [.ref 3]) (nx := 108) (rest := []) rfl rfl).trans (mm_congI fun v14 h13 => ?_)
              refine (mm_br (c := v14 = 0) (p1 := 115) (p2 := 111) (l1 := [.ref 4, .ref 3, .ref 11, .int 1]) (l2 := [.ref 4, .ref 3, .ref 11, .int 1]) (s1 := []) (s2 := []) (h1 := h13) (h2 := h13) rfl rfl).trans (mm_ite ?_ ?_)
              · exact mm_by_end 2 rfl
              · exact mm_by_end 3 rfl
          · exact mm_by_end 2 rfl
        · refine (mm_by 3 (pc' := 64) (ls' := [.ref 4, .ref 3, .ref 11, .null]) (st' := [.int 26, .int (h8.1 4 1)]) (h' := h8) rfl).trans ?_
          refine (mm_br (c := (h8.1 4 1) = 26) (p1 := 76) (p2 := 67) (l1 := [.ref 4, .ref 3, .ref 11, .null]) (l2 := [.ref 4, .ref 3, .ref 11, .null]) (s1 := []) (s2 := []) (h1 := h8) (h2 := h8) rfl rfl).trans (mm_ite ?_ ?_)
          · refine (mm_by 8 (pc' := 89) (ls' := [.ref 4, .ref 3, .ref 11, .int 1]) (st' := [.int 1, .int 3, .ref 5, .ref 11]) (h' := h8) rfl).trans ?_
            refine (mm_c1 (y := 46) (as := [.ref 11, .ref 5, .int 3, .int 1]) (nx := 92) (rest := []) rfl rfl).trans (mm_congI fun v16 h15 => ?_)
            refine (mm_br (c := ¬ v16 = 0) (p1 := 97) (p2 := 95) (l1 := [.ref 4, .ref 3, .ref 11, .int 1]) (l2 := [.ref 4, .ref 3, .ref 11, .int 1]) (s1 := []) (s2 := []) (h1 := h15) (h2 := h15) rfl rfl).trans (mm_ite ?_ ?_)
            · refine (mm_by 1 (pc' := 98) (ls' := [.ref 4, .ref 3, .ref 11, .int 1]) (st' := [.ref 3]) (h' := h15) rfl).trans ?_
              refine (mm_c1 (y := 76) (as := [.ref 3]) (nx := 101) (rest := []) rfl rfl).trans (mm_congI fun v18 h17 => ?_)
              refine (mm_br (c := ¬ v18 = 0) (p1 := 111) (p2 := 104) (l1 := [.ref 4, .ref 3, .ref 11, .int 1]) (l2 := [.ref 4, .ref 3, .ref 11, .int 1]) (s1 := []) (s2 := []) (h1 := h17) (h2 := h17) rfl rfl).trans (mm_ite ?_ ?_)
              · exact mm_by_end 3 rfl
              · refine (mm_by 1 (pc' := 105) (ls' := [.ref 4, .ref 3, .ref 11, .int 1]) (st' := [.ref 3]) (h' := h17) rfl).trans ?_
                refine (mm_c1 (y := 88) (as := [.ref 3]) (nx := 108) (rest := []) rfl rfl).trans (mm_congI fun v20 h19 => ?_)
                refine (mm_br (c := v20 = 0) (p1 := 115) (p2 := 111) (l1 := [.ref 4, .ref 3, .ref 11, .int 1]) (l2 := [.ref 4, .ref 3, .ref 11, .int 1]) (s1 := []) (s2 := []) (h1 := h19) (h2 := h19) rfl rfl).trans (mm_ite ?_ ?_)
                · exact mm_by_end 2 rfl
                · exact mm_by_end 3 rfl
            · exact mm_by_end 2 rfl
          · refine (mm_by 3 (pc' := 73) (ls' := [.ref 4, .ref 3, .ref 11, .null]) (st' := [.int 27, .int (h8.1 4 1)]) (h' := h8) rfl).trans ?_
            refine (mm_br (c := ¬ (h8.1 4 1) = 27) (p1 := 80) (p2 := 76) (l1 := [.ref 4, .ref 3, .ref 11, .null]) (l2 := [.ref 4, .ref 3, .ref 11, .null]) (s1 := []) (s2 := []) (h1 := h8) (h2 := h8) rfl rfl).trans (mm_ite ?_ ?_)
            · refine (mm_by 7 (pc' := 89) (ls' := [.ref 4, .ref 3, .ref 11, .int 0]) (st' := [.int 0, .int 3, .ref 5, .ref 11]) (h' := h8) rfl).trans ?_
              refine (mm_c1 (y := 46) (as := [.ref 11, .ref 5, .int 3, .int 0]) (nx := 92) (rest := []) rfl rfl).trans (mm_congI fun v22 h21 => ?_)
              refine (mm_br (c := ¬ v22 = 0) (p1 := 97) (p2 := 95) (l1 := [.ref 4, .ref 3, .ref 11, .int 0]) (l2 := [.ref 4, .ref 3, .ref 11, .int 0]) (s1 := []) (s2 := []) (h1 := h21) (h2 := h21) rfl rfl).trans (mm_ite ?_ ?_)
              · refine (mm_by 1 (pc' := 98) (ls' := [.ref 4, .ref 3, .ref 11, .int 0]) (st' := [.ref 3]) (h' := h21) rfl).trans ?_
                refine (mm_c1 (y := 76) (as := [.ref 3]) (nx := 101) (rest := []) rfl rfl).trans (mm_congI fun v24 h23 => ?_)
                refine (mm_br (c := ¬ v24 = 0) (p1 := 111) (p2 := 104) (l1 := [.ref 4, .ref 3, .ref 11, .int 0]) (l2 := [.ref 4, .ref 3, .ref 11, .int 0]) (s1 := []) (s2 := []) (h1 := h23) (h2 := h23) rfl rfl).trans (mm_ite ?_ ?_)
                · exact mm_by_end 3 rfl
                · refine (mm_by 1 (pc' := 105) (ls' := [.ref 4, .ref 3, .ref 11, .int 0]) (st' := [.ref 3]) (h' := h23) rfl).trans ?_
                  refine (mm_c1 (y := 88) (as := [.ref 3]) (nx := 108) (rest := []) rfl rfl).trans (mm_congI fun v26 h25 => ?_)
                  refine (mm_br (c := v26 = 0) (p1 := 115) (p2 := 111) (l1 := [.ref 4, .ref 3, .ref 11, .int 0]) (l2 := [.ref 4, .ref 3, .ref 11, .int 0]) (s1 := []) (s2 := []) (h1 := h25) (h2 := h25) rfl rfl).trans (mm_ite ?_ ?_)
                  · exact mm_by_end 2 rfl
                  · exact mm_by_end 3 rfl
              · exact mm_by_end 2 rfl
            · refine (mm_by 8 (pc' := 89) (ls' := [.ref 4, .ref 3, .ref 11, .int 1]) (st' := [.int 1, .int 3, .ref 5, .ref 11]) (h' := h8) rfl).trans ?_
              refine (mm_c1 (y := 46) (as := [.ref 11, .ref 5, .int 3, .int 1]) (nx := 92) (rest := []) rfl rfl).trans (mm_congI fun v28 h27 => ?_)
              refine (mm_br (c := ¬ v28 = 0) (p1 := 97) (p2 := 95) (l1 := [.ref 4, .ref 3, .ref 11, .int 1]) (l2 := [.ref 4, .ref 3, .ref 11, .int 1]) (s1 := []) (s2 := []) (h1 := h27) (h2 := h27) rfl rfl).trans (mm_ite ?_ ?_)
              · refine (mm_by 1 (pc' := 98) (ls' := [.ref 4, .ref 3, .ref 11, .int 1]) (st' := [.ref 3]) (h' := h27) rfl).trans ?_
                refine (mm_c1 (y := 76) (as := [.ref 3]) (nx := 101) (rest := []) rfl rfl).trans (mm_congI fun v30 h29 => ?_)
                refine (mm_br (c := ¬ v30 = 0) (p1 := 111) (p2 := 104) (l1 := [.ref 4, .ref 3, .ref 11, .int 1]) (l2 := [.ref 4, .ref 3, .ref 11, .int 1]) (s1 := []) (s2 := []) (h1 := h29) (h2 := h29) rfl rfl).trans (mm_ite ?_ ?_)
                · exact mm_by_end 3 rfl
                · refine (mm_by 1 (pc' := 105) (ls' := [.ref 4, .ref 3, .ref 11, .int 1]) (st' := [.ref 3]) (h' := h29) rfl).trans ?_
                  refine (mm_c1 (y := 88) (as := [.ref 3]) (nx := 108) (rest := []) rfl rfl).trans (mm_congI fun v32 h31 => ?_)
                  refine (mm_br (c := v32 = 0) (p1 := 115) (p2 := 111) (l1 := [.ref 4, .ref 3, .ref 11, .int 1]) (l2 := [.ref 4, .ref 3, .ref 11, .int 1]) (s1 := []) (s2 := []) (h1 := h31) (h2 := h31) rfl rfl).trans (mm_ite ?_ ?_)
                  · exact mm_by_end 2 rfl
                  · exact mm_by_end 3 rfl
              · exact mm_by_end 2 rfl
      · refine (mm_by 1 (pc' := 30) (ls' := [.ref 4, .ref 3, .ref 11, .null]) (st' := [.ref 3]) (h' := h2) rfl).trans ?_
        refine (mm_c1 (y := 88) (as := [.ref 3]) (nx := 33) (rest := []) rfl rfl).trans (mm_congI fun v34 h33 => ?_)
        exact mm_zend rfl
set_option maxRecDepth 100000 in
set_option maxHeartbeats 4000000 in
theorem U_X5_answer {d : Nat} {s : Nat} {h : mm_H} (hs : mm_isS s) : mm_M mm_T0 (d + 1) 71 [.ref 4, .ref s] h = (if (h.1 4 1) = 25 then (mm_D (mm_M mm_T0 d) cd_X5_answer 39 [.ref 4, .ref s, .null, .long ((-1)), .null, .int 0, .null] [] h) else (if ¬ (h.1 4 1) = 26 then (mm_D (mm_M mm_T0 d) cd_X5_answer 39 [.ref 4, .ref s, .null, .long 0, .null, .int 0, .null] [] h) else (mm_D (mm_M mm_T0 d) cd_X5_answer 39 [.ref 4, .ref s, .null, .long ((-1)), .null, .int 0, .null] [] h))) := by
  refine (mm_M_eq (ls := [.ref 4, .ref s, .null, .null, .null, .null, .null]) rfl (Nat.le_of_ble_eq_true rfl) rfl h).trans ?_
  refine (mm_by 3 (pc' := 6) (ls' := [.ref 4, .ref s, .null, .null, .null, .null, .null]) (st' := [.int 25, .int (h.1 4 1)]) (h' := h) rfl).trans ?_
  refine (mm_br (c := (h.1 4 1) = 25) (p1 := 18) (p2 := 9) (l1 := [.ref 4, .ref s, .null, .null, .null, .null, .null]) (l2 := [.ref 4, .ref s, .null, .null, .null, .null, .null]) (s1 := []) (s2 := []) (h1 := h) (h2 := h) rfl rfl).trans (mm_ite ?_ ?_)
  · exact mm_by 10 rfl
  · refine (mm_by 3 (pc' := 15) (ls' := [.ref 4, .ref s, .null, .null, .null, .null, .null]) (st' := [.int 26, .int (h.1 4 1)]) (h' := h) rfl).trans ?_
    refine (mm_br (c := ¬ (h.1 4 1) = 26) (p1 := 22) (p2 := 18) (l1 := [.ref 4, .ref s, .null, .null, .null, .null, .null]) (l2 := [.ref 4, .ref s, .null, .null, .null, .null, .null]) (s1 := []) (s2 := []) (h1 := h) (h2 := h) rfl rfl).trans (mm_ite ?_ ?_)
    · exact mm_by 8 rfl
    · exact mm_by 10 rfl
set_option maxRecDepth 100000 in
set_option maxHeartbeats 4000000 in
theorem U_X5_answer_39 {d : Nat} {s : Nat} {x3 : Int64} {x5 : Int32} {h : mm_H} (hs : mm_isS s) : mm_D (mm_M mm_T0 d) cd_X5_answer 39 [.ref 4, .ref s, .null, .long x3, .null, .int x5, .null] [] h = (if (h.1 s 10) ≤ x5 then (some (some (.long x3), h)) else (mm_bV (mm_M mm_T0 d 73 [.ref 4, .ref s, .int x5] h) (fun h1 => mm_bI (mm_M mm_T0 d 39 [.ref 5, .int 3, .ref s] h1) (fun v3 h2 => if ¬ x5 = 0 then (mm_bL (mm_M mm_T0 d 72 [.ref 4, .long x3, .int x5, .int v3] h2) (fun v5 h4 => mm_D (mm_M mm_T0 d) cd_X5_answer 39 [.ref 4, .ref s, .null, .long v5, .null, .int (x5 + 1), .null] [] h4)) else (if (h2.1 4 1) = 29 then (mm_D (mm_M mm_T0 d) cd_X5_answer 39 [.ref 4, .ref s, .null, .long v3.toInt64, .null, .int (x5 + 1), .null] [] h2) else (if ¬ (h2.1 4 1) = 30 then (mm_bL (mm_M mm_T0 d 72 [.ref 4, .long x3, .int x5, .int v3] h2) (fun v7 h6 => mm_D (mm_M mm_T0 d) cd_X5_answer 39 [.ref 4, .ref s, .null, .long v7, .null, .int (x5 + 1), .null] [] h6)) else (mm_D (mm_M mm_T0 d) cd_X5_answer 39 [.ref 4, .ref s, .null, .long v3.toInt64, .null, .int (x5 + 1), .null] [] h2))))))) := by
  refine (mm_by 2 (pc' := 42) (ls' := [.ref 4, .ref s, .null, .long x3, .null, .int x5, .null]) (st' := [.ref s, .int x5]) (h' := h) rfl).trans ?_
  refine (mm_go (pc' := 45) (ls' := [.ref 4, .ref s, .null, .long x3, .null, .int x5, .null]) (st' := [.int (h.1 s 10), .int x5]) (h' := h) rfl (q_get (isS_0 hs))).trans ?_
  refine (mm_br (c := (h.1 s 10) ≤ x5) (p1 := 112) (p2 := 48) (l1 := [.ref 4, .ref s, .null, .long x3, .null, .int x5, .null]) (l2 := [.ref 4, .ref s, .null, .long x3, .null, .int x5, .null]) (s1 := []) (s2 := []) (h1 := h) (h2 := h) rfl rfl).trans (mm_ite ?_ ?_)
  · exact mm_by_end 2 rfl
  · refine (mm_by 3 (pc' := 52) (ls' := [.ref 4, .ref s, .null, .long x3, .null, .int x5, .null]) (st' := [.int x5, .ref s, .ref 4]) (h' := h) rfl).trans ?_
    refine (mm_c0 (y := 73) (as := [.ref 4, .ref s, .int x5]) (nx := 55) (rest := []) rfl rfl).trans (mm_congV fun h1 => ?_)
    refine (mm_by 4 (pc' := 61) (ls' := [.ref 4, .ref s, .null, .long x3, .null, .int x5, .null]) (st' := [.ref s, .int 3, .ref 5]) (h' := h1) rfl).trans ?_
    refine (mm_c1 (y := 39) (as := [.ref 5, .int 3, .ref s]) (nx := 64) (rest := []) rfl rfl).trans (mm_congI fun v3 h2 => ?_)
    refine (mm_by 2 (pc' := 68) (ls' := [.ref 4, .ref s, .null, .long x3, .null, .int x5, .int v3]) (st' := [.int x5]) (h' := h2) rfl).trans ?_
    refine (mm_br (c := ¬ x5 = 0) (p1 := 96) (p2 := 71) (l1 := [.ref 4, .ref s, .null, .long x3, .null, .int x5, .int v3]) (l2 := [.ref 4, .ref s, .null, .long x3, .null, .int x5, .int v3]) (s1 := []) (s2 := []) (h1 := h2) (h2 := h2) rfl rfl).trans (mm_ite ?_ ?_)
    · refine (mm_by 4 (pc' := 102) (ls' := [.ref 4, .ref s, .null, .long x3, .null, .int x5, .int v3]) (st' := [.int v3, .int x5, .long x3, .ref 4]) (h' := h2) rfl).trans ?_
      refine (mm_c2 (y := 72) (as := [.ref 4, .long x3, .int x5, .int v3]) (nx := 105) (rest := []) rfl rfl).trans (mm_congL fun v5 h4 => ?_)
      exact mm_by 3 rfl
    · refine (mm_by 3 (pc' := 77) (ls' := [.ref 4, .ref s, .null, .long x3, .null, .int x5, .int v3]) (st' := [.int 29, .int (h2.1 4 1)]) (h' := h2) rfl).trans ?_
      refine (mm_br (c := (h2.1 4 1) = 29) (p1 := 89) (p2 := 80) (l1 := [.ref 4, .ref s, .null, .long x3, .null, .int x5, .int v3]) (l2 := [.ref 4, .ref s, .null, .long x3, .null, .int x5, .int v3]) (s1 := []) (s2 := []) (h1 := h2) (h2 := h2) rfl rfl).trans (mm_ite ?_ ?_)
      · exact mm_by 6 rfl
      · refine (mm_by 3 (pc' := 86) (ls' := [.ref 4, .ref s, .null, .long x3, .null, .int x5, .int v3]) (st' := [.int 30, .int (h2.1 4 1)]) (h' := h2) rfl).trans ?_
        refine (mm_br (c := ¬ (h2.1 4 1) = 30) (p1 := 96) (p2 := 89) (l1 := [.ref 4, .ref s, .null, .long x3, .null, .int x5, .int v3]) (l2 := [.ref 4, .ref s, .null, .long x3, .null, .int x5, .int v3]) (s1 := []) (s2 := []) (h1 := h2) (h2 := h2) rfl rfl).trans (mm_ite ?_ ?_)
        · refine (mm_by 4 (pc' := 102) (ls' := [.ref 4, .ref s, .null, .long x3, .null, .int x5, .int v3]) (st' := [.int v3, .int x5, .long x3, .ref 4]) (h' := h2) rfl).trans ?_
          refine (mm_c2 (y := 72) (as := [.ref 4, .long x3, .int x5, .int v3]) (nx := 105) (rest := []) rfl rfl).trans (mm_congL fun v7 h6 => ?_)
          exact mm_by 3 rfl
        · exact mm_by 6 rfl
set_option maxRecDepth 100000 in
set_option maxHeartbeats 4000000 in
theorem U_X5_joined {d : Nat} {x1 : Int64} {x3 : Int32} {x4 : Int32} {h : mm_H} : mm_M mm_T0 (d + 1) 72 [.ref 4, .long x1, .int x3, .int x4] h = (if (h.1 4 1) = 25 then (if ¬ (lg_cmp x1 ((-1))) = 0 then (some (some (.long x1), h)) else (if ¬ x4 = 1 then (some (some (.long x1), h)) else (some (some (.long x3.toInt64), h)))) else (if (h.1 4 1) = 26 then (if ¬ x4 = 1 then (some (some (.long x1), h)) else (some (some (.long x3.toInt64), h))) else (if (h.1 4 1) = 27 then (some (some (.long (x1 + x4.toInt64)), h)) else (if (h.1 4 1) = 28 then (some (some (.long (x1 + x4.toInt64)), h)) else (if (h.1 4 1) = 29 then (mm_bL (mm_M mm_T0 d 10 [.long x1, .long x4.toInt64] h) (fun v2 h1 => some (some (.long v2), h1))) else (if (h.1 4 1) = 30 then (mm_bL (mm_M mm_T0 d 12 [.long x1, .long x4.toInt64] h) (fun v4 h3 => some (some (.long v4), h3))) else (some (some (.long x1), h)))))))) := by
  refine (mm_M_eq (ls := [.ref 4, .long x1, .null, .int x3, .int x4]) rfl (Nat.le_of_ble_eq_true rfl) rfl h).trans ?_
  refine (mm_by 2 (pc' := 4) (ls' := [.ref 4, .long x1, .null, .int x3, .int x4]) (st' := [.int (h.1 4 1)]) (h' := h) rfl).trans ?_
  refine (mm_go (pc' := mm_sw [(25, 44), (26, 65), (27, 78), (28, 78), (29, 84), (30, 92)] 100 (h.1 4 1)) (ls' := [.ref 4, .long x1, .null, .int x3, .int x4]) (st' := []) (h' := h) rfl rfl).trans ?_
  refine mm_sw_c.trans (mm_ite ?_ ?_)
  · refine (mm_by 3 (pc' := 49) (ls' := [.ref 4, .long x1, .null, .int x3, .int x4]) (st' := [.int (lg_cmp x1 ((-1)))]) (h' := h) rfl).trans ?_
    refine (mm_br (c := ¬ (lg_cmp x1 ((-1))) = 0) (p1 := 63) (p2 := 52) (l1 := [.ref 4, .long x1, .null, .int x3, .int x4]) (l2 := [.ref 4, .long x1, .null, .int x3, .int x4]) (s1 := []) (s2 := []) (h1 := h) (h2 := h) rfl rfl).trans (mm_ite ?_ ?_)
    · exact mm_by_end 2 rfl
    · refine (mm_by 2 (pc' := 55) (ls' := [.ref 4, .long x1, .null, .int x3, .int x4]) (st' := [.int 1, .int x4]) (h' := h) rfl).trans ?_
      refine (mm_br (c := ¬ x4 = 1) (p1 := 63) (p2 := 58) (l1 := [.ref 4, .long x1, .null, .int x3, .int x4]) (l2 := [.ref 4, .long x1, .null, .int x3, .int x4]) (s1 := []) (s2 := []) (h1 := h) (h2 := h) rfl rfl).trans (mm_ite ?_ ?_)
      · exact mm_by_end 2 rfl
      · exact mm_by_end 4 rfl
  · refine mm_sw_c.trans (mm_ite ?_ ?_)
    · refine (mm_by 2 (pc' := 68) (ls' := [.ref 4, .long x1, .null, .int x3, .int x4]) (st' := [.int 1, .int x4]) (h' := h) rfl).trans ?_
      refine (mm_br (c := ¬ x4 = 1) (p1 := 76) (p2 := 71) (l1 := [.ref 4, .long x1, .null, .int x3, .int x4]) (l2 := [.ref 4, .long x1, .null, .int x3, .int x4]) (s1 := []) (s2 := []) (h1 := h) (h2 := h) rfl rfl).trans (mm_ite ?_ ?_)
      · exact mm_by_end 2 rfl
      · exact mm_by_end 4 rfl
    · refine mm_sw_c.trans (mm_ite ?_ ?_)
      · exact mm_by_end 5 rfl
      · refine mm_sw_c.trans (mm_ite ?_ ?_)
        · exact mm_by_end 5 rfl
        · refine mm_sw_c.trans (mm_ite ?_ ?_)
          · refine (mm_by 3 (pc' := 88) (ls' := [.ref 4, .long x1, .null, .int x3, .int x4]) (st' := [.long x4.toInt64, .long x1]) (h' := h) rfl).trans ?_
            refine (mm_c2 (y := 10) (as := [.long x1, .long x4.toInt64]) (nx := 91) (rest := []) rfl rfl).trans (mm_congL fun v2 h1 => ?_)
            exact mm_by_end 1 rfl
          · refine mm_sw_c.trans (mm_ite ?_ ?_)
            · refine (mm_by 3 (pc' := 96) (ls' := [.ref 4, .long x1, .null, .int x3, .int x4]) (st' := [.long x4.toInt64, .long x1]) (h' := h) rfl).trans ?_
              refine (mm_c2 (y := 12) (as := [.long x1, .long x4.toInt64]) (nx := 99) (rest := []) rfl rfl).trans (mm_congL fun v4 h3 => ?_)
              exact mm_by_end 1 rfl
            · refine Eq.trans (show mm_D _ _ (mm_sw [] 100 (h.1 4 1)) _ _ _ = mm_D _ _ 100 _ _ _ from rfl) ?_
              exact mm_by_end 2 rfl
set_option maxRecDepth 100000 in
set_option maxHeartbeats 4000000 in
theorem U_X5_setFor {d : Nat} {s : Nat} {x2 : Int32} {h : mm_H} (hs : mm_isS s) : mm_M mm_T0 (d + 1) 73 [.ref 4, .ref s, .int x2] h = (mm_bV (mm_M mm_T0 d 38 [.ref 5, .int 16, .int x2] h) (fun h1 => mm_bI (mm_M mm_T0 d 105 [.ref s, .int x2] h1) (fun v3 h2 => mm_bV (mm_M mm_T0 d 38 [.ref 5, .int 17, .int v3] h2) (fun h4 => mm_bI (mm_M mm_T0 d 106 [.ref s, .int x2] h4) (fun v6 h5 => mm_bV (mm_M mm_T0 d 38 [.ref 5, .int 11, .int v6] h5) (fun h7 => mm_bI (mm_M mm_T0 d 107 [.ref s, .int x2] h7) (fun v9 h8 => mm_bV (mm_M mm_T0 d 38 [.ref 5, .int 3, .int v9] h8) (fun h10 => mm_bI (mm_M mm_T0 d 108 [.ref s, .int x2] h10) (fun v12 h11 => mm_bV (mm_M mm_T0 d 38 [.ref 5, .int 4, .int v12] h11) (fun h13 => mm_bI (mm_M mm_T0 d 109 [.ref s, .int x2] h13) (fun v15 h14 => mm_bV (mm_M mm_T0 d 38 [.ref 5, .int 18, .int v15] h14) (fun h16 => mm_bV (mm_M mm_T0 d 38 [.ref 5, .int 15, .int (h16.1 s 11)] h16) (fun h17 => some (none, h17)))))))))))))) := by
  refine (mm_M_eq (ls := [.ref 4, .ref s, .int x2]) rfl (Nat.le_of_ble_eq_true rfl) rfl h).trans ?_
  refine (mm_by 4 (pc' := 7) (ls' := [.ref 4, .ref s, .int x2]) (st' := [.int x2, .int 16, .ref 5]) (h' := h) rfl).trans ?_
  refine (mm_c0 (y := 38) (as := [.ref 5, .int 16, .int x2]) (nx := 10) (rest := []) rfl rfl).trans (mm_congV fun h1 => ?_)
  refine (mm_by 5 (pc' := 18) (ls' := [.ref 4, .ref s, .int x2]) (st' := [.int x2, .ref s, .int 17, .ref 5]) (h' := h1) rfl).trans ?_
  refine (mm_c1 (y := 105) (as := [.ref s, .int x2]) (nx := 21) (rest := [.int 17, .ref 5]) rfl (if_pos ⟨(isS_0 hs), Nat.le_of_ble_eq_true rfl⟩)).trans (mm_congI fun v3 h2 => ?_)
  refine (mm_c0 (y := 38) (as := [.ref 5, .int 17, .int v3]) (nx := 24) (rest := []) rfl rfl).trans (mm_congV fun h4 => ?_)
  refine (mm_by 5 (pc' := 32) (ls' := [.ref 4, .ref s, .int x2]) (st' := [.int x2, .ref s, .int 11, .ref 5]) (h' := h4) rfl).trans ?_
  refine (mm_c1 (y := 106) (as := [.ref s, .int x2]) (nx := 35) (rest := [.int 11, .ref 5]) rfl (if_pos ⟨(isS_0 hs), Nat.le_of_ble_eq_true rfl⟩)).trans (mm_congI fun v6 h5 => ?_)
  refine (mm_c0 (y := 38) (as := [.ref 5, .int 11, .int v6]) (nx := 38) (rest := []) rfl rfl).trans (mm_congV fun h7 => ?_)
  refine (mm_by 5 (pc' := 45) (ls' := [.ref 4, .ref s, .int x2]) (st' := [.int x2, .ref s, .int 3, .ref 5]) (h' := h7) rfl).trans ?_
  refine (mm_c1 (y := 107) (as := [.ref s, .int x2]) (nx := 48) (rest := [.int 3, .ref 5]) rfl (if_pos ⟨(isS_0 hs), Nat.le_of_ble_eq_true rfl⟩)).trans (mm_congI fun v9 h8 => ?_)
  refine (mm_c0 (y := 38) (as := [.ref 5, .int 3, .int v9]) (nx := 51) (rest := []) rfl rfl).trans (mm_congV fun h10 => ?_)
  refine (mm_by 5 (pc' := 58) (ls' := [.ref 4, .ref s, .int x2]) (st' := [.int x2, .ref s, .int 4, .ref 5]) (h' := h10) rfl).trans ?_
  refine (mm_c1 (y := 108) (as := [.ref s, .int x2]) (nx := 61) (rest := [.int 4, .ref 5]) rfl (if_pos ⟨(isS_0 hs), Nat.le_of_ble_eq_true rfl⟩)).trans (mm_congI fun v12 h11 => ?_)
  refine (mm_c0 (y := 38) (as := [.ref 5, .int 4, .int v12]) (nx := 64) (rest := []) rfl rfl).trans (mm_congV fun h13 => ?_)
  refine (mm_by 5 (pc' := 72) (ls' := [.ref 4, .ref s, .int x2]) (st' := [.int x2, .ref s, .int 18, .ref 5]) (h' := h13) rfl).trans ?_
  refine (mm_c1 (y := 109) (as := [.ref s, .int x2]) (nx := 75) (rest := [.int 18, .ref 5]) rfl (if_pos ⟨(isS_0 hs), Nat.le_of_ble_eq_true rfl⟩)).trans (mm_congI fun v15 h14 => ?_)
  refine (mm_c0 (y := 38) (as := [.ref 5, .int 18, .int v15]) (nx := 78) (rest := []) rfl rfl).trans (mm_congV fun h16 => ?_)
  refine (mm_by 4 (pc' := 85) (ls' := [.ref 4, .ref s, .int x2]) (st' := [.ref s, .int 15, .ref 5]) (h' := h16) rfl).trans ?_
  refine (mm_go (pc' := 88) (ls' := [.ref 4, .ref s, .int x2]) (st' := [.int (h16.1 s 11), .int 15, .ref 5]) (h' := h16) rfl (q_get (isS_0 hs))).trans ?_
  refine (mm_c0 (y := 38) (as := [.ref 5, .int 15, .int (h16.1 s 11)]) (nx := 91) (rest := []) rfl rfl).trans (mm_congV fun h17 => ?_)
  exact mm_by_end 1 rfl
set_option maxRecDepth 100000 in
set_option maxHeartbeats 4000000 in
theorem U_X6_begin {d : Nat} {h : mm_H} : mm_M mm_T0 (d + 1) 74 [.ref 3] h = (mm_bV (mm_M mm_T0 d 75 [.ref 3] (wI (wI (wI (wI h 3 5 0) 3 6 ((-1))) 3 1 0) 3 3 0)) (fun h1 => some (none, h1))) := by
  refine (mm_M_eq (ls := [.ref 3]) rfl (Nat.le_of_ble_eq_true rfl) rfl h).trans ?_
  refine (mm_by 13 (pc' := 21) (ls' := [.ref 3]) (st' := [.ref 3]) (h' := wI (wI (wI (wI h 3 5 0) 3 6 ((-1))) 3 1 0) 3 3 0) rfl).trans ?_
  refine (mm_c0 (y := 75) (as := [.ref 3]) (nx := 24) (rest := []) rfl rfl).trans (mm_congV fun h1 => ?_)
  exact mm_by_end 1 rfl
set_option maxRecDepth 100000 in
set_option maxHeartbeats 4000000 in
theorem U_X6_advance {d : Nat} {h : mm_H} : mm_M mm_T0 (d + 1) 75 [.ref 3] h = (if (h.1 3 1) = 1 then (mm_bI (mm_M mm_T0 d 91 [.ref 3, .int (h.1 3 3)] h) (fun v2 h1 => mm_bI (mm_M mm_T0 d 126 [.ref 1, .int ((wI h1 3 2 v2).1 3 2)] (wI h1 3 2 v2)) (fun v4 h3 => if ¬ v4 = ((-1)) then (mm_bI (mm_M mm_T0 d 97 [.int v4] h3) (fun v6 h5 => if v6 = 0 then (mm_bI (mm_M mm_T0 d 98 [.int v4] h5) (fun v8 h7 => if v8 = 0 then (if ¬ ((wI (wI (wI h7 3 1 3) 3 3 (((wI h7 3 1 3).1 3 2) + 1)) 3 4 v4).1 3 2) = (h.1 3 3) then (some (none, wI (wI (wI (wI h7 3 1 3) 3 3 (((wI h7 3 1 3).1 3 2) + 1)) 3 4 v4) 3 1 ((wI (wI (wI h7 3 1 3) 3 3 (((wI h7 3 1 3).1 3 2) + 1)) 3 4 v4).1 3 1))) else (if ((wI (wI (wI h7 3 1 3) 3 3 (((wI h7 3 1 3).1 3 2) + 1)) 3 4 v4).1 3 1) = 1 then (some (none, wI (wI (wI (wI h7 3 1 3) 3 3 (((wI h7 3 1 3).1 3 2) + 1)) 3 4 v4) 3 1 4)) else (if ¬ ((wI (wI (wI h7 3 1 3) 3 3 (((wI h7 3 1 3).1 3 2) + 1)) 3 4 v4).1 3 1) = 2 then (some (none, wI (wI (wI (wI h7 3 1 3) 3 3 (((wI h7 3 1 3).1 3 2) + 1)) 3 4 v4) 3 1 ((wI (wI (wI h7 3 1 3) 3 3 (((wI h7 3 1 3).1 3 2) + 1)) 3 4 v4).1 3 1))) else (some (none, wI (wI (wI (wI h7 3 1 3) 3 3 (((wI h7 3 1 3).1 3 2) + 1)) 3 4 v4) 3 1 4))))) else (mm_bI (mm_M mm_T0 d 93 [.ref 3, .int ((wI h7 3 1 2).1 3 2)] (wI h7 3 1 2)) (fun v10 h9 => mm_bI (mm_M mm_T0 d 95 [.ref 3, .int ((wI h9 3 3 v10).1 3 2), .int ((wI h9 3 3 v10).1 3 3)] (wI h9 3 3 v10)) (fun v12 h11 => if ¬ ((wI h11 3 4 v12).1 3 2) = (h.1 3 3) then (some (none, wI (wI h11 3 4 v12) 3 1 ((wI h11 3 4 v12).1 3 1))) else (if ((wI h11 3 4 v12).1 3 1) = 1 then (some (none, wI (wI h11 3 4 v12) 3 1 4)) else (if ¬ ((wI h11 3 4 v12).1 3 1) = 2 then (some (none, wI (wI h11 3 4 v12) 3 1 ((wI h11 3 4 v12).1 3 1))) else (some (none, wI (wI h11 3 4 v12) 3 1 4))))))))) else (mm_bI (mm_M mm_T0 d 92 [.ref 3, .int ((wI h5 3 1 1).1 3 2)] (wI h5 3 1 1)) (fun v14 h13 => mm_bI (mm_M mm_T0 d 94 [.ref 3, .int ((wI h13 3 3 v14).1 3 2), .int ((wI h13 3 3 v14).1 3 3)] (wI h13 3 3 v14)) (fun v16 h15 => if ¬ ((wI h15 3 4 v16).1 3 2) = (h.1 3 3) then (some (none, wI (wI h15 3 4 v16) 3 1 ((wI h15 3 4 v16).1 3 1))) else (if ((wI h15 3 4 v16).1 3 1) = 1 then (some (none, wI (wI h15 3 4 v16) 3 1 4)) else (if ¬ ((wI h15 3 4 v16).1 3 1) = 2 then (some (none, wI (wI h15 3 4 v16) 3 1 ((wI h15 3 4 v16).1 3 1))) else (some (none, wI (wI h15 3 4 v16) 3 1 4))))))))) else (if ¬ ((wI (wI h3 3 1 0) 3 3 ((wI h3 3 1 0).1 3 2)).1 3 2) = (h.1 3 3) then (some (none, wI (wI (wI h3 3 1 0) 3 3 ((wI h3 3 1 0).1 3 2)) 3 1 ((wI (wI h3 3 1 0) 3 3 ((wI h3 3 1 0).1 3 2)).1 3 1))) else (if ((wI (wI h3 3 1 0) 3 3 ((wI h3 3 1 0).1 3 2)).1 3 1) = 1 then (some (none, wI (wI (wI h3 3 1 0) 3 3 ((wI h3 3 1 0).1 3 2)) 3 1 4)) else (if ¬ ((wI (wI h3 3 1 0) 3 3 ((wI h3 3 1 0).1 3 2)).1 3 1) = 2 then (some (none, wI (wI (wI h3 3 1 0) 3 3 ((wI h3 3 1 0).1 3 2)) 3 1 ((wI (wI h3 3 1 0) 3 3 ((wI h3 3 1 0).1 3 2)).1 3 1))) else (some (none, wI (wI (wI h3 3 1 0) 3 3 ((wI h3 3 1 0).1 3 2)) 3 1 4)))))))) else (if ¬ (h.1 3 1) = 2 then (mm_bI (mm_M mm_T0 d 91 [.ref 3, .int (h.1 3 3)] h) (fun v18 h17 => mm_bI (mm_M mm_T0 d 126 [.ref 1, .int ((wI h17 3 2 v18).1 3 2)] (wI h17 3 2 v18)) (fun v20 h19 => if ¬ v20 = ((-1)) then (mm_bI (mm_M mm_T0 d 97 [.int v20] h19) (fun v22 h21 => if v22 = 0 then (mm_bI (mm_M mm_T0 d 98 [.int v20] h21) (fun v24 h23 => if v24 = 0 then (some (none, wI (wI (wI (wI h23 3 1 3) 3 3 (((wI h23 3 1 3).1 3 2) + 1)) 3 4 v20) 3 1 ((wI (wI (wI h23 3 1 3) 3 3 (((wI h23 3 1 3).1 3 2) + 1)) 3 4 v20).1 3 1))) else (mm_bI (mm_M mm_T0 d 93 [.ref 3, .int ((wI h23 3 1 2).1 3 2)] (wI h23 3 1 2)) (fun v26 h25 => mm_bI (mm_M mm_T0 d 95 [.ref 3, .int ((wI h25 3 3 v26).1 3 2), .int ((wI h25 3 3 v26).1 3 3)] (wI h25 3 3 v26)) (fun v28 h27 => some (none, wI (wI h27 3 4 v28) 3 1 ((wI h27 3 4 v28).1 3 1))))))) else (mm_bI (mm_M mm_T0 d 92 [.ref 3, .int ((wI h21 3 1 1).1 3 2)] (wI h21 3 1 1)) (fun v30 h29 => mm_bI (mm_M mm_T0 d 94 [.ref 3, .int ((wI h29 3 3 v30).1 3 2), .int ((wI h29 3 3 v30).1 3 3)] (wI h29 3 3 v30)) (fun v32 h31 => some (none, wI (wI h31 3 4 v32) 3 1 ((wI h31 3 4 v32).1 3 1))))))) else (some (none, wI (wI (wI h19 3 1 0) 3 3 ((wI h19 3 1 0).1 3 2)) 3 1 ((wI (wI h19 3 1 0) 3 3 ((wI h19 3 1 0).1 3 2)).1 3 1)))))) else (mm_bI (mm_M mm_T0 d 91 [.ref 3, .int (h.1 3 3)] h) (fun v34 h33 => mm_bI (mm_M mm_T0 d 126 [.ref 1, .int ((wI h33 3 2 v34).1 3 2)] (wI h33 3 2 v34)) (fun v36 h35 => if ¬ v36 = ((-1)) then (mm_bI (mm_M mm_T0 d 97 [.int v36] h35) (fun v38 h37 => if v38 = 0 then (mm_bI (mm_M mm_T0 d 98 [.int v36] h37) (fun v40 h39 => if v40 = 0 then (if ¬ ((wI (wI (wI h39 3 1 3) 3 3 (((wI h39 3 1 3).1 3 2) + 1)) 3 4 v36).1 3 2) = (h.1 3 3) then (some (none, wI (wI (wI (wI h39 3 1 3) 3 3 (((wI h39 3 1 3).1 3 2) + 1)) 3 4 v36) 3 1 ((wI (wI (wI h39 3 1 3) 3 3 (((wI h39 3 1 3).1 3 2) + 1)) 3 4 v36).1 3 1))) else (if ((wI (wI (wI h39 3 1 3) 3 3 (((wI h39 3 1 3).1 3 2) + 1)) 3 4 v36).1 3 1) = 1 then (some (none, wI (wI (wI (wI h39 3 1 3) 3 3 (((wI h39 3 1 3).1 3 2) + 1)) 3 4 v36) 3 1 4)) else (if ¬ ((wI (wI (wI h39 3 1 3) 3 3 (((wI h39 3 1 3).1 3 2) + 1)) 3 4 v36).1 3 1) = 2 then (some (none, wI (wI (wI (wI h39 3 1 3) 3 3 (((wI h39 3 1 3).1 3 2) + 1)) 3 4 v36) 3 1 ((wI (wI (wI h39 3 1 3) 3 3 (((wI h39 3 1 3).1 3 2) + 1)) 3 4 v36).1 3 1))) else (some (none, wI (wI (wI (wI h39 3 1 3) 3 3 (((wI h39 3 1 3).1 3 2) + 1)) 3 4 v36) 3 1 4))))) else (mm_bI (mm_M mm_T0 d 93 [.ref 3, .int ((wI h39 3 1 2).1 3 2)] (wI h39 3 1 2)) (fun v42 h41 => mm_bI (mm_M mm_T0 d 95 [.ref 3, .int ((wI h41 3 3 v42).1 3 2), .int ((wI h41 3 3 v42).1 3 3)] (wI h41 3 3 v42)) (fun v44 h43 => if ¬ ((wI h43 3 4 v44).1 3 2) = (h.1 3 3) then (some (none, wI (wI h43 3 4 v44) 3 1 ((wI h43 3 4 v44).1 3 1))) else (if ((wI h43 3 4 v44).1 3 1) = 1 then (some (none, wI (wI h43 3 4 v44) 3 1 4)) else (if ¬ ((wI h43 3 4 v44).1 3 1) = 2 then (some (none, wI (wI h43 3 4 v44) 3 1 ((wI h43 3 4 v44).1 3 1))) else (some (none, wI (wI h43 3 4 v44) 3 1 4))))))))) else (mm_bI (mm_M mm_T0 d 92 [.ref 3, .int ((wI h37 3 1 1).1 3 2)] (wI h37 3 1 1)) (fun v46 h45 => mm_bI (mm_M mm_T0 d 94 [.ref 3, .int ((wI h45 3 3 v46).1 3 2), .int ((wI h45 3 3 v46).1 3 3)] (wI h45 3 3 v46)) (fun v48 h47 => if ¬ ((wI h47 3 4 v48).1 3 2) = (h.1 3 3) then (some (none, wI (wI h47 3 4 v48) 3 1 ((wI h47 3 4 v48).1 3 1))) else (if ((wI h47 3 4 v48).1 3 1) = 1 then (some (none, wI (wI h47 3 4 v48) 3 1 4)) else (if ¬ ((wI h47 3 4 v48).1 3 1) = 2 then (some (none, wI (wI h47 3 4 v48) 3 1 ((wI h47 3 4 v48).1 3 1))) else (some (none, wI (wI h47 3 4 v48) 3 1 4))))))))) else (if ¬ ((wI (wI h35 3 1 0) 3 3 ((wI h35 3 1 0).1 3 2)).1 3 2) = (h.1 3 3) then (some (none, wI (wI (wI h35 3 1 0) 3 3 ((wI h35 3 1 0).1 3 2)) 3 1 ((wI (wI h35 3 1 0) 3 3 ((wI h35 3 1 0).1 3 2)).1 3 1))) else (if ((wI (wI h35 3 1 0) 3 3 ((wI h35 3 1 0).1 3 2)).1 3 1) = 1 then (some (none, wI (wI (wI h35 3 1 0) 3 3 ((wI h35 3 1 0).1 3 2)) 3 1 4)) else (if ¬ ((wI (wI h35 3 1 0) 3 3 ((wI h35 3 1 0).1 3 2)).1 3 1) = 2 then (some (none, wI (wI (wI h35 3 1 0) 3 3 ((wI h35 3 1 0).1 3 2)) 3 1 ((wI (wI h35 3 1 0) 3 3 ((wI h35 3 1 0).1 3 2)).1 3 1))) else (some (none, wI (wI (wI h35 3 1 0) 3 3 ((wI h35 3 1 0).1 3 2)) 3 1 4)))))))))) := by
  refine (mm_M_eq (ls := [.ref 3, .null, .null, .null, .null]) rfl (Nat.le_of_ble_eq_true rfl) rfl h).trans ?_
  refine (mm_by 3 (pc' := 5) (ls' := [.ref 3, .null, .null, .null, .null]) (st' := [.int 1, .int (h.1 3 1)]) (h' := h) rfl).trans ?_
  refine (mm_br (c := (h.1 3 1) = 1) (p1 := 16) (p2 := 8) (l1 := [.ref 3, .null, .null, .null, .null]) (l2 := [.ref 3, .null, .null, .null, .null]) (s1 := []) (s2 := []) (h1 := h) (h2 := h) rfl rfl).trans (mm_ite ?_ ?_)
  · refine (mm_by 9 (pc' := 30) (ls' := [.ref 3, .int 1, .int (h.1 3 3), .null, .null]) (st' := [.int (h.1 3 3), .ref 3, .ref 3]) (h' := h) rfl).trans ?_
    refine (mm_c1 (y := 91) (as := [.ref 3, .int (h.1 3 3)]) (nx := 33) (rest := [.ref 3]) rfl rfl).trans (mm_congI fun v2 h1 => ?_)
    refine (mm_by 5 (pc' := 44) (ls' := [.ref 3, .int 1, .int (h.1 3 3), .null, .null]) (st' := [.int ((wI h1 3 2 v2).1 3 2), .ref 1]) (h' := wI h1 3 2 v2) rfl).trans ?_
    refine (mm_c1 (y := 126) (as := [.ref 1, .int ((wI h1 3 2 v2).1 3 2)]) (nx := 47) (rest := []) rfl rfl).trans (mm_congI fun v4 h3 => ?_)
    refine (mm_by 3 (pc' := 50) (ls' := [.ref 3, .int 1, .int (h.1 3 3), .int v4, .null]) (st' := [.int ((-1)), .int v4]) (h' := h3) rfl).trans ?_
    refine (mm_br (c := ¬ v4 = ((-1))) (p1 := 69) (p2 := 53) (l1 := [.ref 3, .int 1, .int (h.1 3 3), .int v4, .null]) (l2 := [.ref 3, .int 1, .int (h.1 3 3), .int v4, .null]) (s1 := []) (s2 := []) (h1 := h3) (h2 := h3) rfl rfl).trans (mm_ite ?_ ?_)
    · refine (mm_by 1 (pc' := 70) (ls' := [.ref 3, .int 1, .int (h.1 3 3), .int v4, .null]) (st' := [.int v4]) (h' := h3) rfl).trans ?_
      refine (mm_c1 (y := 97) (as := [.int v4]) (nx := 73) (rest := []) rfl rfl).trans (mm_congI fun v6 h5 => ?_)
      refine (mm_br (c := v6 = 0) (p1 := 112) (p2 := 76) (l1 := [.ref 3, .int 1, .int (h.1 3 3), .int v4, .null]) (l2 := [.ref 3, .int 1, .int (h.1 3 3), .int v4, .null]) (s1 := []) (s2 := []) (h1 := h5) (h2 := h5) rfl rfl).trans (mm_ite ?_ ?_)
      · refine (mm_by 1 (pc' := 113) (ls' := [.ref 3, .int 1, .int (h.1 3 3), .int v4, .null]) (st' := [.int v4]) (h' := h5) rfl).trans ?_
        refine (mm_c1 (y := 98) (as := [.int v4]) (nx := 116) (rest := []) rfl rfl).trans (mm_congI fun v8 h7 => ?_)
        refine (mm_br (c := v8 = 0) (p1 := 155) (p2 := 119) (l1 := [.ref 3, .int 1, .int (h.1 3 3), .int v4, .null]) (l2 := [.ref 3, .int 1, .int (h.1 3 3), .int v4, .null]) (s1 := []) (s2 := []) (h1 := h7) (h2 := h7) rfl rfl).trans (mm_ite ?_ ?_)
        · refine (mm_by 17 (pc' := 184) (ls' := [.ref 3, .int 1, .int (h.1 3 3), .int v4, .null]) (st' := [.int (h.1 3 3), .int ((wI (wI (wI h7 3 1 3) 3 3 (((wI h7 3 1 3).1 3 2) + 1)) 3 4 v4).1 3 2)]) (h' := wI (wI (wI h7 3 1 3) 3 3 (((wI h7 3 1 3).1 3 2) + 1)) 3 4 v4) rfl).trans ?_
          refine (mm_br (c := ¬ ((wI (wI (wI h7 3 1 3) 3 3 (((wI h7 3 1 3).1 3 2) + 1)) 3 4 v4).1 3 2) = (h.1 3 3)) (p1 := 207) (p2 := 187) (l1 := [.ref 3, .int 1, .int (h.1 3 3), .int v4, .null]) (l2 := [.ref 3, .int 1, .int (h.1 3 3), .int v4, .null]) (s1 := []) (s2 := []) (h1 := wI (wI (wI h7 3 1 3) 3 3 (((wI h7 3 1 3).1 3 2) + 1)) 3 4 v4) (h2 := wI (wI (wI h7 3 1 3) 3 3 (((wI h7 3 1 3).1 3 2) + 1)) 3 4 v4) rfl rfl).trans (mm_ite ?_ ?_)
          · exact mm_by_end 9 rfl
          · refine (mm_by 3 (pc' := 192) (ls' := [.ref 3, .int 1, .int (h.1 3 3), .int v4, .null]) (st' := [.int 1, .int ((wI (wI (wI h7 3 1 3) 3 3 (((wI h7 3 1 3).1 3 2) + 1)) 3 4 v4).1 3 1)]) (h' := wI (wI (wI h7 3 1 3) 3 3 (((wI h7 3 1 3).1 3 2) + 1)) 3 4 v4) rfl).trans ?_
            refine (mm_br (c := ((wI (wI (wI h7 3 1 3) 3 3 (((wI h7 3 1 3).1 3 2) + 1)) 3 4 v4).1 3 1) = 1) (p1 := 203) (p2 := 195) (l1 := [.ref 3, .int 1, .int (h.1 3 3), .int v4, .null]) (l2 := [.ref 3, .int 1, .int (h.1 3 3), .int v4, .null]) (s1 := []) (s2 := []) (h1 := wI (wI (wI h7 3 1 3) 3 3 (((wI h7 3 1 3).1 3 2) + 1)) 3 4 v4) (h2 := wI (wI (wI h7 3 1 3) 3 3 (((wI h7 3 1 3).1 3 2) + 1)) 3 4 v4) rfl rfl).trans (mm_ite ?_ ?_)
            · exact mm_by_end 10 rfl
            · refine (mm_by 3 (pc' := 200) (ls' := [.ref 3, .int 1, .int (h.1 3 3), .int v4, .null]) (st' := [.int 2, .int ((wI (wI (wI h7 3 1 3) 3 3 (((wI h7 3 1 3).1 3 2) + 1)) 3 4 v4).1 3 1)]) (h' := wI (wI (wI h7 3 1 3) 3 3 (((wI h7 3 1 3).1 3 2) + 1)) 3 4 v4) rfl).trans ?_
              refine (mm_br (c := ¬ ((wI (wI (wI h7 3 1 3) 3 3 (((wI h7 3 1 3).1 3 2) + 1)) 3 4 v4).1 3 1) = 2) (p1 := 207) (p2 := 203) (l1 := [.ref 3, .int 1, .int (h.1 3 3), .int v4, .null]) (l2 := [.ref 3, .int 1, .int (h.1 3 3), .int v4, .null]) (s1 := []) (s2 := []) (h1 := wI (wI (wI h7 3 1 3) 3 3 (((wI h7 3 1 3).1 3 2) + 1)) 3 4 v4) (h2 := wI (wI (wI h7 3 1 3) 3 3 (((wI h7 3 1 3).1 3 2) + 1)) 3 4 v4) rfl rfl).trans (mm_ite ?_ ?_)
              · exact mm_by_end 9 rfl
              · exact mm_by_end 10 rfl
        · refine (mm_by 7 (pc' := 130) (ls' := [.ref 3, .int 1, .int (h.1 3 3), .int v4, .null]) (st' := [.int ((wI h7 3 1 2).1 3 2), .ref 3, .ref 3]) (h' := wI h7 3 1 2) rfl).trans ?_
          refine (mm_c1 (y := 93) (as := [.ref 3, .int ((wI h7 3 1 2).1 3 2)]) (nx := 133) (rest := [.ref 3]) rfl rfl).trans (mm_congI fun v10 h9 => ?_)
          refine (mm_by 7 (pc' := 146) (ls' := [.ref 3, .int 1, .int (h.1 3 3), .int v4, .null]) (st' := [.int ((wI h9 3 3 v10).1 3 3), .int ((wI h9 3 3 v10).1 3 2), .ref 3, .ref 3]) (h' := wI h9 3 3 v10) rfl).trans ?_
          refine (mm_c1 (y := 95) (as := [.ref 3, .int ((wI h9 3 3 v10).1 3 2), .int ((wI h9 3 3 v10).1 3 3)]) (nx := 149) (rest := [.ref 3]) rfl rfl).trans (mm_congI fun v12 h11 => ?_)
          refine (mm_by 7 (pc' := 184) (ls' := [.ref 3, .int 1, .int (h.1 3 3), .int v4, .null]) (st' := [.int (h.1 3 3), .int ((wI h11 3 4 v12).1 3 2)]) (h' := wI h11 3 4 v12) rfl).trans ?_
          refine (mm_br (c := ¬ ((wI h11 3 4 v12).1 3 2) = (h.1 3 3)) (p1 := 207) (p2 := 187) (l1 := [.ref 3, .int 1, .int (h.1 3 3), .int v4, .null]) (l2 := [.ref 3, .int 1, .int (h.1 3 3), .int v4, .null]) (s1 := []) (s2 := []) (h1 := wI h11 3 4 v12) (h2 := wI h11 3 4 v12) rfl rfl).trans (mm_ite ?_ ?_)
          · exact mm_by_end 9 rfl
          · refine (mm_by 3 (pc' := 192) (ls' := [.ref 3, .int 1, .int (h.1 3 3), .int v4, .null]) (st' := [.int 1, .int ((wI h11 3 4 v12).1 3 1)]) (h' := wI h11 3 4 v12) rfl).trans ?_
            refine (mm_br (c := ((wI h11 3 4 v12).1 3 1) = 1) (p1 := 203) (p2 := 195) (l1 := [.ref 3, .int 1, .int (h.1 3 3), .int v4, .null]) (l2 := [.ref 3, .int 1, .int (h.1 3 3), .int v4, .null]) (s1 := []) (s2 := []) (h1 := wI h11 3 4 v12) (h2 := wI h11 3 4 v12) rfl rfl).trans (mm_ite ?_ ?_)
            · exact mm_by_end 10 rfl
            · refine (mm_by 3 (pc' := 200) (ls' := [.ref 3, .int 1, .int (h.1 3 3), .int v4, .null]) (st' := [.int 2, .int ((wI h11 3 4 v12).1 3 1)]) (h' := wI h11 3 4 v12) rfl).trans ?_
              refine (mm_br (c := ¬ ((wI h11 3 4 v12).1 3 1) = 2) (p1 := 207) (p2 := 203) (l1 := [.ref 3, .int 1, .int (h.1 3 3), .int v4, .null]) (l2 := [.ref 3, .int 1, .int (h.1 3 3), .int v4, .null]) (s1 := []) (s2 := []) (h1 := wI h11 3 4 v12) (h2 := wI h11 3 4 v12) rfl rfl).trans (mm_ite ?_ ?_)
              · exact mm_by_end 9 rfl
              · exact mm_by_end 10 rfl
      · refine (mm_by 7 (pc' := 87) (ls' := [.ref 3, .int 1, .int (h.1 3 3), .int v4, .null]) (st' := [.int ((wI h5 3 1 1).1 3 2), .ref 3, .ref 3]) (h' := wI h5 3 1 1) rfl).trans ?_
        refine (mm_c1 (y := 92) (as := [.ref 3, .int ((wI h5 3 1 1).1 3 2)]) (nx := 90) (rest := [.ref 3]) rfl rfl).trans (mm_congI fun v14 h13 => ?_)
        refine (mm_by 7 (pc' := 103) (ls' := [.ref 3, .int 1, .int (h.1 3 3), .int v4, .null]) (st' := [.int ((wI h13 3 3 v14).1 3 3), .int ((wI h13 3 3 v14).1 3 2), .ref 3, .ref 3]) (h' := wI h13 3 3 v14) rfl).trans ?_
        refine (mm_c1 (y := 94) (as := [.ref 3, .int ((wI h13 3 3 v14).1 3 2), .int ((wI h13 3 3 v14).1 3 3)]) (nx := 106) (rest := [.ref 3]) rfl rfl).trans (mm_congI fun v16 h15 => ?_)
        refine (mm_by 7 (pc' := 184) (ls' := [.ref 3, .int 1, .int (h.1 3 3), .int v4, .null]) (st' := [.int (h.1 3 3), .int ((wI h15 3 4 v16).1 3 2)]) (h' := wI h15 3 4 v16) rfl).trans ?_
        refine (mm_br (c := ¬ ((wI h15 3 4 v16).1 3 2) = (h.1 3 3)) (p1 := 207) (p2 := 187) (l1 := [.ref 3, .int 1, .int (h.1 3 3), .int v4, .null]) (l2 := [.ref 3, .int 1, .int (h.1 3 3), .int v4, .null]) (s1 := []) (s2 := []) (h1 := wI h15 3 4 v16) (h2 := wI h15 3 4 v16) rfl rfl).trans (mm_ite ?_ ?_)
        · exact mm_by_end 9 rfl
        · refine (mm_by 3 (pc' := 192) (ls' := [.ref 3, .int 1, .int (h.1 3 3), .int v4, .null]) (st' := [.int 1, .int ((wI h15 3 4 v16).1 3 1)]) (h' := wI h15 3 4 v16) rfl).trans ?_
          refine (mm_br (c := ((wI h15 3 4 v16).1 3 1) = 1) (p1 := 203) (p2 := 195) (l1 := [.ref 3, .int 1, .int (h.1 3 3), .int v4, .null]) (l2 := [.ref 3, .int 1, .int (h.1 3 3), .int v4, .null]) (s1 := []) (s2 := []) (h1 := wI h15 3 4 v16) (h2 := wI h15 3 4 v16) rfl rfl).trans (mm_ite ?_ ?_)
          · exact mm_by_end 10 rfl
          · refine (mm_by 3 (pc' := 200) (ls' := [.ref 3, .int 1, .int (h.1 3 3), .int v4, .null]) (st' := [.int 2, .int ((wI h15 3 4 v16).1 3 1)]) (h' := wI h15 3 4 v16) rfl).trans ?_
            refine (mm_br (c := ¬ ((wI h15 3 4 v16).1 3 1) = 2) (p1 := 207) (p2 := 203) (l1 := [.ref 3, .int 1, .int (h.1 3 3), .int v4, .null]) (l2 := [.ref 3, .int 1, .int (h.1 3 3), .int v4, .null]) (s1 := []) (s2 := []) (h1 := wI h15 3 4 v16) (h2 := wI h15 3 4 v16) rfl rfl).trans (mm_ite ?_ ?_)
            · exact mm_by_end 9 rfl
            · exact mm_by_end 10 rfl
    · refine (mm_by 13 (pc' := 184) (ls' := [.ref 3, .int 1, .int (h.1 3 3), .int v4, .null]) (st' := [.int (h.1 3 3), .int ((wI (wI h3 3 1 0) 3 3 ((wI h3 3 1 0).1 3 2)).1 3 2)]) (h' := wI (wI h3 3 1 0) 3 3 ((wI h3 3 1 0).1 3 2)) rfl).trans ?_
      refine (mm_br (c := ¬ ((wI (wI h3 3 1 0) 3 3 ((wI h3 3 1 0).1 3 2)).1 3 2) = (h.1 3 3)) (p1 := 207) (p2 := 187) (l1 := [.ref 3, .int 1, .int (h.1 3 3), .int v4, .null]) (l2 := [.ref 3, .int 1, .int (h.1 3 3), .int v4, .null]) (s1 := []) (s2 := []) (h1 := wI (wI h3 3 1 0) 3 3 ((wI h3 3 1 0).1 3 2)) (h2 := wI (wI h3 3 1 0) 3 3 ((wI h3 3 1 0).1 3 2)) rfl rfl).trans (mm_ite ?_ ?_)
      · exact mm_by_end 9 rfl
      · refine (mm_by 3 (pc' := 192) (ls' := [.ref 3, .int 1, .int (h.1 3 3), .int v4, .null]) (st' := [.int 1, .int ((wI (wI h3 3 1 0) 3 3 ((wI h3 3 1 0).1 3 2)).1 3 1)]) (h' := wI (wI h3 3 1 0) 3 3 ((wI h3 3 1 0).1 3 2)) rfl).trans ?_
        refine (mm_br (c := ((wI (wI h3 3 1 0) 3 3 ((wI h3 3 1 0).1 3 2)).1 3 1) = 1) (p1 := 203) (p2 := 195) (l1 := [.ref 3, .int 1, .int (h.1 3 3), .int v4, .null]) (l2 := [.ref 3, .int 1, .int (h.1 3 3), .int v4, .null]) (s1 := []) (s2 := []) (h1 := wI (wI h3 3 1 0) 3 3 ((wI h3 3 1 0).1 3 2)) (h2 := wI (wI h3 3 1 0) 3 3 ((wI h3 3 1 0).1 3 2)) rfl rfl).trans (mm_ite ?_ ?_)
        · exact mm_by_end 10 rfl
        · refine (mm_by 3 (pc' := 200) (ls' := [.ref 3, .int 1, .int (h.1 3 3), .int v4, .null]) (st' := [.int 2, .int ((wI (wI h3 3 1 0) 3 3 ((wI h3 3 1 0).1 3 2)).1 3 1)]) (h' := wI (wI h3 3 1 0) 3 3 ((wI h3 3 1 0).1 3 2)) rfl).trans ?_
          refine (mm_br (c := ¬ ((wI (wI h3 3 1 0) 3 3 ((wI h3 3 1 0).1 3 2)).1 3 1) = 2) (p1 := 207) (p2 := 203) (l1 := [.ref 3, .int 1, .int (h.1 3 3), .int v4, .null]) (l2 := [.ref 3, .int 1, .int (h.1 3 3), .int v4, .null]) (s1 := []) (s2 := []) (h1 := wI (wI h3 3 1 0) 3 3 ((wI h3 3 1 0).1 3 2)) (h2 := wI (wI h3 3 1 0) 3 3 ((wI h3 3 1 0).1 3 2)) rfl rfl).trans (mm_ite ?_ ?_)
          · exact mm_by_end 9 rfl
          · exact mm_by_end 10 rfl
  · refine (mm_by 3 (pc' := 13) (ls' := [.ref 3, .null, .null, .null, .null]) (st' := [.int 2, .int (h.1 3 1)]) (h' := h) rfl).trans ?_
    refine (mm_br (c := ¬ (h.1 3 1) = 2) (p1 := 20) (p2 := 16) (l1 := [.ref 3, .null, .null, .null, .null]) (l2 := [.ref 3, .null, .null, .null, .null]) (s1 := []) (s2 := []) (h1 := h) (h2 := h) rfl rfl).trans (mm_ite ?_ ?_)
    · refine (mm_by 8 (pc' := 30) (ls' := [.ref 3, .int 0, .int (h.1 3 3), .null, .null]) (st' := [.int (h.1 3 3), .ref 3, .ref 3]) (h' := h) rfl).trans ?_
      refine (mm_c1 (y := 91) (as := [.ref 3, .int (h.1 3 3)]) (nx := 33) (rest := [.ref 3]) rfl rfl).trans (mm_congI fun v18 h17 => ?_)
      refine (mm_by 5 (pc' := 44) (ls' := [.ref 3, .int 0, .int (h.1 3 3), .null, .null]) (st' := [.int ((wI h17 3 2 v18).1 3 2), .ref 1]) (h' := wI h17 3 2 v18) rfl).trans ?_
      refine (mm_c1 (y := 126) (as := [.ref 1, .int ((wI h17 3 2 v18).1 3 2)]) (nx := 47) (rest := []) rfl rfl).trans (mm_congI fun v20 h19 => ?_)
      refine (mm_by 3 (pc' := 50) (ls' := [.ref 3, .int 0, .int (h.1 3 3), .int v20, .null]) (st' := [.int ((-1)), .int v20]) (h' := h19) rfl).trans ?_
      refine (mm_br (c := ¬ v20 = ((-1))) (p1 := 69) (p2 := 53) (l1 := [.ref 3, .int 0, .int (h.1 3 3), .int v20, .null]) (l2 := [.ref 3, .int 0, .int (h.1 3 3), .int v20, .null]) (s1 := []) (s2 := []) (h1 := h19) (h2 := h19) rfl rfl).trans (mm_ite ?_ ?_)
      · refine (mm_by 1 (pc' := 70) (ls' := [.ref 3, .int 0, .int (h.1 3 3), .int v20, .null]) (st' := [.int v20]) (h' := h19) rfl).trans ?_
        refine (mm_c1 (y := 97) (as := [.int v20]) (nx := 73) (rest := []) rfl rfl).trans (mm_congI fun v22 h21 => ?_)
        refine (mm_br (c := v22 = 0) (p1 := 112) (p2 := 76) (l1 := [.ref 3, .int 0, .int (h.1 3 3), .int v20, .null]) (l2 := [.ref 3, .int 0, .int (h.1 3 3), .int v20, .null]) (s1 := []) (s2 := []) (h1 := h21) (h2 := h21) rfl rfl).trans (mm_ite ?_ ?_)
        · refine (mm_by 1 (pc' := 113) (ls' := [.ref 3, .int 0, .int (h.1 3 3), .int v20, .null]) (st' := [.int v20]) (h' := h21) rfl).trans ?_
          refine (mm_c1 (y := 98) (as := [.int v20]) (nx := 116) (rest := []) rfl rfl).trans (mm_congI fun v24 h23 => ?_)
          refine (mm_br (c := v24 = 0) (p1 := 155) (p2 := 119) (l1 := [.ref 3, .int 0, .int (h.1 3 3), .int v20, .null]) (l2 := [.ref 3, .int 0, .int (h.1 3 3), .int v20, .null]) (s1 := []) (s2 := []) (h1 := h23) (h2 := h23) rfl rfl).trans (mm_ite ?_ ?_)
          · exact mm_by_end 23 rfl
          · refine (mm_by 7 (pc' := 130) (ls' := [.ref 3, .int 0, .int (h.1 3 3), .int v20, .null]) (st' := [.int ((wI h23 3 1 2).1 3 2), .ref 3, .ref 3]) (h' := wI h23 3 1 2) rfl).trans ?_
            refine (mm_c1 (y := 93) (as := [.ref 3, .int ((wI h23 3 1 2).1 3 2)]) (nx := 133) (rest := [.ref 3]) rfl rfl).trans (mm_congI fun v26 h25 => ?_)
            refine (mm_by 7 (pc' := 146) (ls' := [.ref 3, .int 0, .int (h.1 3 3), .int v20, .null]) (st' := [.int ((wI h25 3 3 v26).1 3 3), .int ((wI h25 3 3 v26).1 3 2), .ref 3, .ref 3]) (h' := wI h25 3 3 v26) rfl).trans ?_
            refine (mm_c1 (y := 95) (as := [.ref 3, .int ((wI h25 3 3 v26).1 3 2), .int ((wI h25 3 3 v26).1 3 3)]) (nx := 149) (rest := [.ref 3]) rfl rfl).trans (mm_congI fun v28 h27 => ?_)
            exact mm_by_end 13 rfl
        · refine (mm_by 7 (pc' := 87) (ls' := [.ref 3, .int 0, .int (h.1 3 3), .int v20, .null]) (st' := [.int ((wI h21 3 1 1).1 3 2), .ref 3, .ref 3]) (h' := wI h21 3 1 1) rfl).trans ?_
          refine (mm_c1 (y := 92) (as := [.ref 3, .int ((wI h21 3 1 1).1 3 2)]) (nx := 90) (rest := [.ref 3]) rfl rfl).trans (mm_congI fun v30 h29 => ?_)
          refine (mm_by 7 (pc' := 103) (ls' := [.ref 3, .int 0, .int (h.1 3 3), .int v20, .null]) (st' := [.int ((wI h29 3 3 v30).1 3 3), .int ((wI h29 3 3 v30).1 3 2), .ref 3, .ref 3]) (h' := wI h29 3 3 v30) rfl).trans ?_
          refine (mm_c1 (y := 94) (as := [.ref 3, .int ((wI h29 3 3 v30).1 3 2), .int ((wI h29 3 3 v30).1 3 3)]) (nx := 106) (rest := [.ref 3]) rfl rfl).trans (mm_congI fun v32 h31 => ?_)
          exact mm_by_end 13 rfl
      · exact mm_by_end 19 rfl
    · refine (mm_by 9 (pc' := 30) (ls' := [.ref 3, .int 1, .int (h.1 3 3), .null, .null]) (st' := [.int (h.1 3 3), .ref 3, .ref 3]) (h' := h) rfl).trans ?_
      refine (mm_c1 (y := 91) (as := [.ref 3, .int (h.1 3 3)]) (nx := 33) (rest := [.ref 3]) rfl rfl).trans (mm_congI fun v34 h33 => ?_)
      refine (mm_by 5 (pc' := 44) (ls' := [.ref 3, .int 1, .int (h.1 3 3), .null, .null]) (st' := [.int ((wI h33 3 2 v34).1 3 2), .ref 1]) (h' := wI h33 3 2 v34) rfl).trans ?_
      refine (mm_c1 (y := 126) (as := [.ref 1, .int ((wI h33 3 2 v34).1 3 2)]) (nx := 47) (rest := []) rfl rfl).trans (mm_congI fun v36 h35 => ?_)
      refine (mm_by 3 (pc' := 50) (ls' := [.ref 3, .int 1, .int (h.1 3 3), .int v36, .null]) (st' := [.int ((-1)), .int v36]) (h' := h35) rfl).trans ?_
      refine (mm_br (c := ¬ v36 = ((-1))) (p1 := 69) (p2 := 53) (l1 := [.ref 3, .int 1, .int (h.1 3 3), .int v36, .null]) (l2 := [.ref 3, .int 1, .int (h.1 3 3), .int v36, .null]) (s1 := []) (s2 := []) (h1 := h35) (h2 := h35) rfl rfl).trans (mm_ite ?_ ?_)
      · refine (mm_by 1 (pc' := 70) (ls' := [.ref 3, .int 1, .int (h.1 3 3), .int v36, .null]) (st' := [.int v36]) (h' := h35) rfl).trans ?_
        refine (mm_c1 (y := 97) (as := [.int v36]) (nx := 73) (rest := []) rfl rfl).trans (mm_congI fun v38 h37 => ?_)
        refine (mm_br (c := v38 = 0) (p1 := 112) (p2 := 76) (l1 := [.ref 3, .int 1, .int (h.1 3 3), .int v36, .null]) (l2 := [.ref 3, .int 1, .int (h.1 3 3), .int v36, .null]) (s1 := []) (s2 := []) (h1 := h37) (h2 := h37) rfl rfl).trans (mm_ite ?_ ?_)
        · refine (mm_by 1 (pc' := 113) (ls' := [.ref 3, .int 1, .int (h.1 3 3), .int v36, .null]) (st' := [.int v36]) (h' := h37) rfl).trans ?_
          refine (mm_c1 (y := 98) (as := [.int v36]) (nx := 116) (rest := []) rfl rfl).trans (mm_congI fun v40 h39 => ?_)
          refine (mm_br (c := v40 = 0) (p1 := 155) (p2 := 119) (l1 := [.ref 3, .int 1, .int (h.1 3 3), .int v36, .null]) (l2 := [.ref 3, .int 1, .int (h.1 3 3), .int v36, .null]) (s1 := []) (s2 := []) (h1 := h39) (h2 := h39) rfl rfl).trans (mm_ite ?_ ?_)
          · refine (mm_by 17 (pc' := 184) (ls' := [.ref 3, .int 1, .int (h.1 3 3), .int v36, .null]) (st' := [.int (h.1 3 3), .int ((wI (wI (wI h39 3 1 3) 3 3 (((wI h39 3 1 3).1 3 2) + 1)) 3 4 v36).1 3 2)]) (h' := wI (wI (wI h39 3 1 3) 3 3 (((wI h39 3 1 3).1 3 2) + 1)) 3 4 v36) rfl).trans ?_
            refine (mm_br (c := ¬ ((wI (wI (wI h39 3 1 3) 3 3 (((wI h39 3 1 3).1 3 2) + 1)) 3 4 v36).1 3 2) = (h.1 3 3)) (p1 := 207) (p2 := 187) (l1 := [.ref 3, .int 1, .int (h.1 3 3), .int v36, .null]) (l2 := [.ref 3, .int 1, .int (h.1 3 3), .int v36, .null]) (s1 := []) (s2 := []) (h1 := wI (wI (wI h39 3 1 3) 3 3 (((wI h39 3 1 3).1 3 2) + 1)) 3 4 v36) (h2 := wI (wI (wI h39 3 1 3) 3 3 (((wI h39 3 1 3).1 3 2) + 1)) 3 4 v36) rfl rfl).trans (mm_ite ?_ ?_)
            · exact mm_by_end 9 rfl
            · refine (mm_by 3 (pc' := 192) (ls' := [.ref 3, .int 1, .int (h.1 3 3), .int v36, .null]) (st' := [.int 1, .int ((wI (wI (wI h39 3 1 3) 3 3 (((wI h39 3 1 3).1 3 2) + 1)) 3 4 v36).1 3 1)]) (h' := wI (wI (wI h39 3 1 3) 3 3 (((wI h39 3 1 3).1 3 2) + 1)) 3 4 v36) rfl).trans ?_
              refine (mm_br (c := ((wI (wI (wI h39 3 1 3) 3 3 (((wI h39 3 1 3).1 3 2) + 1)) 3 4 v36).1 3 1) = 1) (p1 := 203) (p2 := 195) (l1 := [.ref 3, .int 1, .int (h.1 3 3), .int v36, .null]) (l2 := [.ref 3, .int 1, .int (h.1 3 3), .int v36, .null]) (s1 := []) (s2 := []) (h1 := wI (wI (wI h39 3 1 3) 3 3 (((wI h39 3 1 3).1 3 2) + 1)) 3 4 v36) (h2 := wI (wI (wI h39 3 1 3) 3 3 (((wI h39 3 1 3).1 3 2) + 1)) 3 4 v36) rfl rfl).trans (mm_ite ?_ ?_)
              · exact mm_by_end 10 rfl
              · refine (mm_by 3 (pc' := 200) (ls' := [.ref 3, .int 1, .int (h.1 3 3), .int v36, .null]) (st' := [.int 2, .int ((wI (wI (wI h39 3 1 3) 3 3 (((wI h39 3 1 3).1 3 2) + 1)) 3 4 v36).1 3 1)]) (h' := wI (wI (wI h39 3 1 3) 3 3 (((wI h39 3 1 3).1 3 2) + 1)) 3 4 v36) rfl).trans ?_
                refine (mm_br (c := ¬ ((wI (wI (wI h39 3 1 3) 3 3 (((wI h39 3 1 3).1 3 2) + 1)) 3 4 v36).1 3 1) = 2) (p1 := 207) (p2 := 203) (l1 := [.ref 3, .int 1, .int (h.1 3 3), .int v36, .null]) (l2 := [.ref 3, .int 1, .int (h.1 3 3), .int v36, .null]) (s1 := []) (s2 := []) (h1 := wI (wI (wI h39 3 1 3) 3 3 (((wI h39 3 1 3).1 3 2) + 1)) 3 4 v36) (h2 := wI (wI (wI h39 3 1 3) 3 3 (((wI h39 3 1 3).1 3 2) + 1)) 3 4 v36) rfl rfl).trans (mm_ite ?_ ?_)
                · exact mm_by_end 9 rfl
                · exact mm_by_end 10 rfl
          · refine (mm_by 7 (pc' := 130) (ls' := [.ref 3, .int 1, .int (h.1 3 3), .int v36, .null]) (st' := [.int ((wI h39 3 1 2).1 3 2), .ref 3, .ref 3]) (h' := wI h39 3 1 2) rfl).trans ?_
            refine (mm_c1 (y := 93) (as := [.ref 3, .int ((wI h39 3 1 2).1 3 2)]) (nx := 133) (rest := [.ref 3]) rfl rfl).trans (mm_congI fun v42 h41 => ?_)
            refine (mm_by 7 (pc' := 146) (ls' := [.ref 3, .int 1, .int (h.1 3 3), .int v36, .null]) (st' := [.int ((wI h41 3 3 v42).1 3 3), .int ((wI h41 3 3 v42).1 3 2), .ref 3, .ref 3]) (h' := wI h41 3 3 v42) rfl).trans ?_
            refine (mm_c1 (y := 95) (as := [.ref 3, .int ((wI h41 3 3 v42).1 3 2), .int ((wI h41 3 3 v42).1 3 3)]) (nx := 149) (rest := [.ref 3]) rfl rfl).trans (mm_congI fun v44 h43 => ?_)
            refine (mm_by 7 (pc' := 184) (ls' := [.ref 3, .int 1, .int (h.1 3 3), .int v36, .null]) (st' := [.int (h.1 3 3), .int ((wI h43 3 4 v44).1 3 2)]) (h' := wI h43 3 4 v44) rfl).trans ?_
            refine (mm_br (c := ¬ ((wI h43 3 4 v44).1 3 2) = (h.1 3 3)) (p1 := 207) (p2 := 187) (l1 := [.ref 3, .int 1, .int (h.1 3 3), .int v36, .null]) (l2 := [.ref 3, .int 1, .int (h.1 3 3), .int v36, .null]) (s1 := []) (s2 := []) (h1 := wI h43 3 4 v44) (h2 := wI h43 3 4 v44) rfl rfl).trans (mm_ite ?_ ?_)
            · exact mm_by_end 9 rfl
            · refine (mm_by 3 (pc' := 192) (ls' := [.ref 3, .int 1, .int (h.1 3 3), .int v36, .null]) (st' := [.int 1, .int ((wI h43 3 4 v44).1 3 1)]) (h' := wI h43 3 4 v44) rfl).trans ?_
              refine (mm_br (c := ((wI h43 3 4 v44).1 3 1) = 1) (p1 := 203) (p2 := 195) (l1 := [.ref 3, .int 1, .int (h.1 3 3), .int v36, .null]) (l2 := [.ref 3, .int 1, .int (h.1 3 3), .int v36, .null]) (s1 := []) (s2 := []) (h1 := wI h43 3 4 v44) (h2 := wI h43 3 4 v44) rfl rfl).trans (mm_ite ?_ ?_)
              · exact mm_by_end 10 rfl
              · refine (mm_by 3 (pc' := 200) (ls' := [.ref 3, .int 1, .int (h.1 3 3), .int v36, .null]) (st' := [.int 2, .int ((wI h43 3 4 v44).1 3 1)]) (h' := wI h43 3 4 v44) rfl).trans ?_
                refine (mm_br (c := ¬ ((wI h43 3 4 v44).1 3 1) = 2) (p1 := 207) (p2 := 203) (l1 := [.ref 3, .int 1, .int (h.1 3 3), .int v36, .null]) (l2 := [.ref 3, .int 1, .int (h.1 3 3), .int v36, .null]) (s1 := []) (s2 := []) (h1 := wI h43 3 4 v44) (h2 := wI h43 3 4 v44) rfl rfl).trans (mm_ite ?_ ?_)
                · exact mm_by_end 9 rfl
                · exact mm_by_end 10 rfl
        · refine (mm_by 7 (pc' := 87) (ls' := [.ref 3, .int 1, .int (h.1 3 3), .int v36, .null]) (st' := [.int ((wI h37 3 1 1).1 3 2), .ref 3, .ref 3]) (h' := wI h37 3 1 1) rfl).trans ?_
          refine (mm_c1 (y := 92) (as := [.ref 3, .int ((wI h37 3 1 1).1 3 2)]) (nx := 90) (rest := [.ref 3]) rfl rfl).trans (mm_congI fun v46 h45 => ?_)
          refine (mm_by 7 (pc' := 103) (ls' := [.ref 3, .int 1, .int (h.1 3 3), .int v36, .null]) (st' := [.int ((wI h45 3 3 v46).1 3 3), .int ((wI h45 3 3 v46).1 3 2), .ref 3, .ref 3]) (h' := wI h45 3 3 v46) rfl).trans ?_
          refine (mm_c1 (y := 94) (as := [.ref 3, .int ((wI h45 3 3 v46).1 3 2), .int ((wI h45 3 3 v46).1 3 3)]) (nx := 106) (rest := [.ref 3]) rfl rfl).trans (mm_congI fun v48 h47 => ?_)
          refine (mm_by 7 (pc' := 184) (ls' := [.ref 3, .int 1, .int (h.1 3 3), .int v36, .null]) (st' := [.int (h.1 3 3), .int ((wI h47 3 4 v48).1 3 2)]) (h' := wI h47 3 4 v48) rfl).trans ?_
          refine (mm_br (c := ¬ ((wI h47 3 4 v48).1 3 2) = (h.1 3 3)) (p1 := 207) (p2 := 187) (l1 := [.ref 3, .int 1, .int (h.1 3 3), .int v36, .null]) (l2 := [.ref 3, .int 1, .int (h.1 3 3), .int v36, .null]) (s1 := []) (s2 := []) (h1 := wI h47 3 4 v48) (h2 := wI h47 3 4 v48) rfl rfl).trans (mm_ite ?_ ?_)
          · exact mm_by_end 9 rfl
          · refine (mm_by 3 (pc' := 192) (ls' := [.ref 3, .int 1, .int (h.1 3 3), .int v36, .null]) (st' := [.int 1, .int ((wI h47 3 4 v48).1 3 1)]) (h' := wI h47 3 4 v48) rfl).trans ?_
            refine (mm_br (c := ((wI h47 3 4 v48).1 3 1) = 1) (p1 := 203) (p2 := 195) (l1 := [.ref 3, .int 1, .int (h.1 3 3), .int v36, .null]) (l2 := [.ref 3, .int 1, .int (h.1 3 3), .int v36, .null]) (s1 := []) (s2 := []) (h1 := wI h47 3 4 v48) (h2 := wI h47 3 4 v48) rfl rfl).trans (mm_ite ?_ ?_)
            · exact mm_by_end 10 rfl
            · refine (mm_by 3 (pc' := 200) (ls' := [.ref 3, .int 1, .int (h.1 3 3), .int v36, .null]) (st' := [.int 2, .int ((wI h47 3 4 v48).1 3 1)]) (h' := wI h47 3 4 v48) rfl).trans ?_
              refine (mm_br (c := ¬ ((wI h47 3 4 v48).1 3 1) = 2) (p1 := 207) (p2 := 203) (l1 := [.ref 3, .int 1, .int (h.1 3 3), .int v36, .null]) (l2 := [.ref 3, .int 1, .int (h.1 3 3), .int v36, .null]) (s1 := []) (s2 := []) (h1 := wI h47 3 4 v48) (h2 := wI h47 3 4 v48) rfl rfl).trans (mm_ite ?_ ?_)
              · exact mm_by_end 9 rfl
              · exact mm_by_end 10 rfl
      · refine (mm_by 13 (pc' := 184) (ls' := [.ref 3, .int 1, .int (h.1 3 3), .int v36, .null]) (st' := [.int (h.1 3 3), .int ((wI (wI h35 3 1 0) 3 3 ((wI h35 3 1 0).1 3 2)).1 3 2)]) (h' := wI (wI h35 3 1 0) 3 3 ((wI h35 3 1 0).1 3 2)) rfl).trans ?_
        refine (mm_br (c := ¬ ((wI (wI h35 3 1 0) 3 3 ((wI h35 3 1 0).1 3 2)).1 3 2) = (h.1 3 3)) (p1 := 207) (p2 := 187) (l1 := [.ref 3, .int 1, .int (h.1 3 3), .int v36, .null]) (l2 := [.ref 3, .int 1, .int (h.1 3 3), .int v36, .null]) (s1 := []) (s2 := []) (h1 := wI (wI h35 3 1 0) 3 3 ((wI h35 3 1 0).1 3 2)) (h2 := wI (wI h35 3 1 0) 3 3 ((wI h35 3 1 0).1 3 2)) rfl rfl).trans (mm_ite ?_ ?_)
        · exact mm_by_end 9 rfl
        · refine (mm_by 3 (pc' := 192) (ls' := [.ref 3, .int 1, .int (h.1 3 3), .int v36, .null]) (st' := [.int 1, .int ((wI (wI h35 3 1 0) 3 3 ((wI h35 3 1 0).1 3 2)).1 3 1)]) (h' := wI (wI h35 3 1 0) 3 3 ((wI h35 3 1 0).1 3 2)) rfl).trans ?_
          refine (mm_br (c := ((wI (wI h35 3 1 0) 3 3 ((wI h35 3 1 0).1 3 2)).1 3 1) = 1) (p1 := 203) (p2 := 195) (l1 := [.ref 3, .int 1, .int (h.1 3 3), .int v36, .null]) (l2 := [.ref 3, .int 1, .int (h.1 3 3), .int v36, .null]) (s1 := []) (s2 := []) (h1 := wI (wI h35 3 1 0) 3 3 ((wI h35 3 1 0).1 3 2)) (h2 := wI (wI h35 3 1 0) 3 3 ((wI h35 3 1 0).1 3 2)) rfl rfl).trans (mm_ite ?_ ?_)
          · exact mm_by_end 10 rfl
          · refine (mm_by 3 (pc' := 200) (ls' := [.ref 3, .int 1, .int (h.1 3 3), .int v36, .null]) (st' := [.int 2, .int ((wI (wI h35 3 1 0) 3 3 ((wI h35 3 1 0).1 3 2)).1 3 1)]) (h' := wI (wI h35 3 1 0) 3 3 ((wI h35 3 1 0).1 3 2)) rfl).trans ?_
            refine (mm_br (c := ¬ ((wI (wI h35 3 1 0) 3 3 ((wI h35 3 1 0).1 3 2)).1 3 1) = 2) (p1 := 207) (p2 := 203) (l1 := [.ref 3, .int 1, .int (h.1 3 3), .int v36, .null]) (l2 := [.ref 3, .int 1, .int (h.1 3 3), .int v36, .null]) (s1 := []) (s2 := []) (h1 := wI (wI h35 3 1 0) 3 3 ((wI h35 3 1 0).1 3 2)) (h2 := wI (wI h35 3 1 0) 3 3 ((wI h35 3 1 0).1 3 2)) rfl rfl).trans (mm_ite ?_ ?_)
            · exact mm_by_end 9 rfl
            · exact mm_by_end 10 rfl
set_option maxRecDepth 100000 in
set_option maxHeartbeats 4000000 in
theorem U_X6_isAtEnd {d : Nat} {h : mm_H} : mm_M mm_T0 (d + 1) 76 [.ref 3] h = (if ¬ (h.1 3 1) = 0 then (some (some (.int 0), h)) else (some (some (.int 1), h))) := by
  refine (mm_M_eq (ls := [.ref 3]) rfl (Nat.le_of_ble_eq_true rfl) rfl h).trans ?_
  refine (mm_by 2 (pc' := 4) (ls' := [.ref 3]) (st' := [.int (h.1 3 1)]) (h' := h) rfl).trans ?_
  refine (mm_br (c := ¬ (h.1 3 1) = 0) (p1 := 11) (p2 := 7) (l1 := [.ref 3]) (l2 := [.ref 3]) (s1 := []) (s2 := []) (h1 := h) (h2 := h) rfl rfl).trans (mm_ite ?_ ?_)
  · exact mm_by_end 2 rfl
  · exact mm_by_end 3 rfl
set_option maxRecDepth 100000 in
set_option maxHeartbeats 4000000 in
theorem U_X6_isAnyWord {d : Nat} {h : mm_H} : mm_M mm_T0 (d + 1) 77 [.ref 3] h = (if ¬ (h.1 3 1) = 1 then (some (some (.int 0), h)) else (some (some (.int 1), h))) := by
  refine (mm_M_eq (ls := [.ref 3]) rfl (Nat.le_of_ble_eq_true rfl) rfl h).trans ?_
  refine (mm_by 3 (pc' := 5) (ls' := [.ref 3]) (st' := [.int 1, .int (h.1 3 1)]) (h' := h) rfl).trans ?_
  refine (mm_br (c := ¬ (h.1 3 1) = 1) (p1 := 12) (p2 := 8) (l1 := [.ref 3]) (l2 := [.ref 3]) (s1 := []) (s2 := []) (h1 := h) (h2 := h) rfl rfl).trans (mm_ite ?_ ?_)
  · exact mm_by_end 2 rfl
  · exact mm_by_end 3 rfl
set_option maxRecDepth 100000 in
set_option maxHeartbeats 4000000 in
theorem U_X6_isAnyNumber {d : Nat} {h : mm_H} : mm_M mm_T0 (d + 1) 78 [.ref 3] h = (if ¬ (h.1 3 1) = 2 then (some (some (.int 0), h)) else (some (some (.int 1), h))) := by
  refine (mm_M_eq (ls := [.ref 3]) rfl (Nat.le_of_ble_eq_true rfl) rfl h).trans ?_
  refine (mm_by 3 (pc' := 5) (ls' := [.ref 3]) (st' := [.int 2, .int (h.1 3 1)]) (h' := h) rfl).trans ?_
  refine (mm_br (c := ¬ (h.1 3 1) = 2) (p1 := 12) (p2 := 8) (l1 := [.ref 3]) (l2 := [.ref 3]) (s1 := []) (s2 := []) (h1 := h) (h2 := h) rfl rfl).trans (mm_ite ?_ ?_)
  · exact mm_by_end 2 rfl
  · exact mm_by_end 3 rfl
set_option maxRecDepth 100000 in
set_option maxHeartbeats 4000000 in
theorem U_X6_isWord {d : Nat} {x1 : Int32} {h : mm_H} : mm_M mm_T0 (d + 1) 79 [.ref 3, .int x1] h = (if ¬ (h.1 3 1) = 1 then (some (some (.int 0), h)) else (if ¬ (h.1 3 4) = x1 then (some (some (.int 0), h)) else (some (some (.int 1), h)))) := by
  refine (mm_M_eq (ls := [.ref 3, .int x1]) rfl (Nat.le_of_ble_eq_true rfl) rfl h).trans ?_
  refine (mm_by 3 (pc' := 5) (ls' := [.ref 3, .int x1]) (st' := [.int 1, .int (h.1 3 1)]) (h' := h) rfl).trans ?_
  refine (mm_br (c := ¬ (h.1 3 1) = 1) (p1 := 20) (p2 := 8) (l1 := [.ref 3, .int x1]) (l2 := [.ref 3, .int x1]) (s1 := []) (s2 := []) (h1 := h) (h2 := h) rfl rfl).trans (mm_ite ?_ ?_)
  · exact mm_by_end 2 rfl
  · refine (mm_by 3 (pc' := 13) (ls' := [.ref 3, .int x1]) (st' := [.int x1, .int (h.1 3 4)]) (h' := h) rfl).trans ?_
    refine (mm_br (c := ¬ (h.1 3 4) = x1) (p1 := 20) (p2 := 16) (l1 := [.ref 3, .int x1]) (l2 := [.ref 3, .int x1]) (s1 := []) (s2 := []) (h1 := h) (h2 := h) rfl rfl).trans (mm_ite ?_ ?_)
    · exact mm_by_end 2 rfl
    · exact mm_by_end 3 rfl
set_option maxRecDepth 100000 in
set_option maxHeartbeats 4000000 in
theorem U_X6_isSign {d : Nat} {x1 : Int32} {h : mm_H} : mm_M mm_T0 (d + 1) 80 [.ref 3, .int x1] h = (if ¬ (h.1 3 1) = 3 then (some (some (.int 0), h)) else (if ¬ (h.1 3 4) = x1 then (some (some (.int 0), h)) else (some (some (.int 1), h)))) := by
  refine (mm_M_eq (ls := [.ref 3, .int x1]) rfl (Nat.le_of_ble_eq_true rfl) rfl h).trans ?_
  refine (mm_by 3 (pc' := 5) (ls' := [.ref 3, .int x1]) (st' := [.int 3, .int (h.1 3 1)]) (h' := h) rfl).trans ?_
  refine (mm_br (c := ¬ (h.1 3 1) = 3) (p1 := 20) (p2 := 8) (l1 := [.ref 3, .int x1]) (l2 := [.ref 3, .int x1]) (s1 := []) (s2 := []) (h1 := h) (h2 := h) rfl rfl).trans (mm_ite ?_ ?_)
  · exact mm_by_end 2 rfl
  · refine (mm_by 3 (pc' := 13) (ls' := [.ref 3, .int x1]) (st' := [.int x1, .int (h.1 3 4)]) (h' := h) rfl).trans ?_
    refine (mm_br (c := ¬ (h.1 3 4) = x1) (p1 := 20) (p2 := 16) (l1 := [.ref 3, .int x1]) (l2 := [.ref 3, .int x1]) (s1 := []) (s2 := []) (h1 := h) (h2 := h) rfl rfl).trans (mm_ite ?_ ?_)
    · exact mm_by_end 2 rfl
    · exact mm_by_end 3 rfl
set_option maxRecDepth 100000 in
set_option maxHeartbeats 4000000 in
theorem U_X6_takeWord {d : Nat} {x1 : Int32} {h : mm_H} : mm_M mm_T0 (d + 1) 81 [.ref 3, .int x1] h = (mm_bI (mm_M mm_T0 d 79 [.ref 3, .int x1] h) (fun v2 h1 => if ¬ v2 = 0 then (mm_bV (mm_M mm_T0 d 75 [.ref 3] h1) (fun h3 => some (some (.int 1), h3))) else (mm_bI (mm_M mm_T0 d 88 [.ref 3] h1) (fun v5 h4 => mm_zr v5 h4)))) := by
  refine (mm_M_eq (ls := [.ref 3, .int x1]) rfl (Nat.le_of_ble_eq_true rfl) rfl h).trans ?_
  refine (mm_by 2 (pc' := 2) (ls' := [.ref 3, .int x1]) (st' := [.int x1, .ref 3]) (h' := h) rfl).trans ?_
  refine (mm_c1 (y := 79) (as := [.ref 3, .int x1]) (nx := 5) (rest := []) rfl rfl).trans (mm_congI fun v2 h1 => ?_)
  refine (mm_br (c := ¬ v2 = 0) (p1 := 13) (p2 := 8) (l1 := [.ref 3, .int x1]) (l2 := [.ref 3, .int x1]) (s1 := []) (s2 := []) (h1 := h1) (h2 := h1) rfl rfl).trans (mm_ite ?_ ?_)
  · refine (mm_by 1 (pc' := 14) (ls' := [.ref 3, .int x1]) (st' := [.ref 3]) (h' := h1) rfl).trans ?_
    refine (mm_c0 (y := 75) (as := [.ref 3]) (nx := 17) (rest := []) rfl rfl).trans (mm_congV fun h3 => ?_)
    exact mm_by_end 2 rfl
  · refine (mm_by 1 (pc' := 9) (ls' := [.ref 3, .int x1]) (st' := [.ref 3]) (h' := h1) rfl).trans ?_
    refine (mm_c1 (y := 88) (as := [.ref 3]) (nx := 12) (rest := []) rfl rfl).trans (mm_congI fun v5 h4 => ?_)
    exact mm_zend rfl
set_option maxRecDepth 100000 in
set_option maxHeartbeats 4000000 in
theorem U_X6_takeSign {d : Nat} {x1 : Int32} {h : mm_H} : mm_M mm_T0 (d + 1) 82 [.ref 3, .int x1] h = (mm_bI (mm_M mm_T0 d 80 [.ref 3, .int x1] h) (fun v2 h1 => if ¬ v2 = 0 then (mm_bV (mm_M mm_T0 d 75 [.ref 3] h1) (fun h3 => some (some (.int 1), h3))) else (mm_bI (mm_M mm_T0 d 88 [.ref 3] h1) (fun v5 h4 => mm_zr v5 h4)))) := by
  refine (mm_M_eq (ls := [.ref 3, .int x1]) rfl (Nat.le_of_ble_eq_true rfl) rfl h).trans ?_
  refine (mm_by 2 (pc' := 2) (ls' := [.ref 3, .int x1]) (st' := [.int x1, .ref 3]) (h' := h) rfl).trans ?_
  refine (mm_c1 (y := 80) (as := [.ref 3, .int x1]) (nx := 5) (rest := []) rfl rfl).trans (mm_congI fun v2 h1 => ?_)
  refine (mm_br (c := ¬ v2 = 0) (p1 := 13) (p2 := 8) (l1 := [.ref 3, .int x1]) (l2 := [.ref 3, .int x1]) (s1 := []) (s2 := []) (h1 := h1) (h2 := h1) rfl rfl).trans (mm_ite ?_ ?_)
  · refine (mm_by 1 (pc' := 14) (ls' := [.ref 3, .int x1]) (st' := [.ref 3]) (h' := h1) rfl).trans ?_
    refine (mm_c0 (y := 75) (as := [.ref 3]) (nx := 17) (rest := []) rfl rfl).trans (mm_congV fun h3 => ?_)
    exact mm_by_end 2 rfl
  · refine (mm_by 1 (pc' := 9) (ls' := [.ref 3, .int x1]) (st' := [.ref 3]) (h' := h1) rfl).trans ?_
    refine (mm_c1 (y := 88) (as := [.ref 3]) (nx := 12) (rest := []) rfl rfl).trans (mm_congI fun v5 h4 => ?_)
    exact mm_zend rfl
set_option maxRecDepth 100000 in
set_option maxHeartbeats 4000000 in
theorem U_X6_isNumberHere {d : Nat} {x1 : Int32} {x2 : Int32} {h : mm_H} : mm_M mm_T0 (d + 1) 83 [.ref 3, .int x1, .int x2] h = (if (h.1 3 1) = 2 then (if ((h.1 3 3) - (h.1 3 2)) ≤ 4 then (if (h.1 3 4) < x1 then (mm_bI (mm_M mm_T0 d 89 [.ref 3, .int 2] h) (fun v2 h1 => if v2 = 0 then (some (some (.int 0), h1)) else (some (some (.int 1), h1)))) else (if (h.1 3 4) ≤ x2 then (some (some (.int 1), h)) else (mm_bI (mm_M mm_T0 d 89 [.ref 3, .int 2] h) (fun v4 h3 => if v4 = 0 then (some (some (.int 0), h3)) else (some (some (.int 1), h3)))))) else (mm_bI (mm_M mm_T0 d 90 [.ref 3, .int 1, .int ((h.1 3 2) + 4)] h) (fun v6 h5 => mm_zr v6 h5))) else (mm_bI (mm_M mm_T0 d 88 [.ref 3] h) (fun v8 h7 => mm_zr v8 h7))) := by
  refine (mm_M_eq (ls := [.ref 3, .int x1, .int x2]) rfl (Nat.le_of_ble_eq_true rfl) rfl h).trans ?_
  refine (mm_by 3 (pc' := 5) (ls' := [.ref 3, .int x1, .int x2]) (st' := [.int 2, .int (h.1 3 1)]) (h' := h) rfl).trans ?_
  refine (mm_br (c := (h.1 3 1) = 2) (p1 := 13) (p2 := 8) (l1 := [.ref 3, .int x1, .int x2]) (l2 := [.ref 3, .int x1, .int x2]) (s1 := []) (s2 := []) (h1 := h) (h2 := h) rfl rfl).trans (mm_ite ?_ ?_)
  · refine (mm_by 6 (pc' := 23) (ls' := [.ref 3, .int x1, .int x2]) (st' := [.int 4, .int ((h.1 3 3) - (h.1 3 2))]) (h' := h) rfl).trans ?_
    refine (mm_br (c := ((h.1 3 3) - (h.1 3 2)) ≤ 4) (p1 := 38) (p2 := 26) (l1 := [.ref 3, .int x1, .int x2]) (l2 := [.ref 3, .int x1, .int x2]) (s1 := []) (s2 := []) (h1 := h) (h2 := h) rfl rfl).trans (mm_ite ?_ ?_)
    · refine (mm_by 3 (pc' := 43) (ls' := [.ref 3, .int x1, .int x2]) (st' := [.int x1, .int (h.1 3 4)]) (h' := h) rfl).trans ?_
      refine (mm_br (c := (h.1 3 4) < x1) (p1 := 54) (p2 := 46) (l1 := [.ref 3, .int x1, .int x2]) (l2 := [.ref 3, .int x1, .int x2]) (s1 := []) (s2 := []) (h1 := h) (h2 := h) rfl rfl).trans (mm_ite ?_ ?_)
      · refine (mm_by 2 (pc' := 56) (ls' := [.ref 3, .int x1, .int x2]) (st' := [.int 2, .ref 3]) (h' := h) rfl).trans ?_
        refine (mm_c1 (y := 89) (as := [.ref 3, .int 2]) (nx := 59) (rest := []) rfl rfl).trans (mm_congI fun v2 h1 => ?_)
        refine (mm_br (c := v2 = 0) (p1 := 66) (p2 := 62) (l1 := [.ref 3, .int x1, .int x2]) (l2 := [.ref 3, .int x1, .int x2]) (s1 := []) (s2 := []) (h1 := h1) (h2 := h1) rfl rfl).trans (mm_ite ?_ ?_)
        · exact mm_by_end 2 rfl
        · exact mm_by_end 3 rfl
      · refine (mm_by 3 (pc' := 51) (ls' := [.ref 3, .int x1, .int x2]) (st' := [.int x2, .int (h.1 3 4)]) (h' := h) rfl).trans ?_
        refine (mm_br (c := (h.1 3 4) ≤ x2) (p1 := 62) (p2 := 54) (l1 := [.ref 3, .int x1, .int x2]) (l2 := [.ref 3, .int x1, .int x2]) (s1 := []) (s2 := []) (h1 := h) (h2 := h) rfl rfl).trans (mm_ite ?_ ?_)
        · exact mm_by_end 3 rfl
        · refine (mm_by 2 (pc' := 56) (ls' := [.ref 3, .int x1, .int x2]) (st' := [.int 2, .ref 3]) (h' := h) rfl).trans ?_
          refine (mm_c1 (y := 89) (as := [.ref 3, .int 2]) (nx := 59) (rest := []) rfl rfl).trans (mm_congI fun v4 h3 => ?_)
          refine (mm_br (c := v4 = 0) (p1 := 66) (p2 := 62) (l1 := [.ref 3, .int x1, .int x2]) (l2 := [.ref 3, .int x1, .int x2]) (s1 := []) (s2 := []) (h1 := h3) (h2 := h3) rfl rfl).trans (mm_ite ?_ ?_)
          · exact mm_by_end 2 rfl
          · exact mm_by_end 3 rfl
    · refine (mm_by 6 (pc' := 34) (ls' := [.ref 3, .int x1, .int x2]) (st' := [.int ((h.1 3 2) + 4), .int 1, .ref 3]) (h' := h) rfl).trans ?_
      refine (mm_c1 (y := 90) (as := [.ref 3, .int 1, .int ((h.1 3 2) + 4)]) (nx := 37) (rest := []) rfl rfl).trans (mm_congI fun v6 h5 => ?_)
      exact mm_zend rfl
  · refine (mm_by 1 (pc' := 9) (ls' := [.ref 3, .int x1, .int x2]) (st' := [.ref 3]) (h' := h) rfl).trans ?_
    refine (mm_c1 (y := 88) (as := [.ref 3]) (nx := 12) (rest := []) rfl rfl).trans (mm_congI fun v8 h7 => ?_)
    exact mm_zend rfl
set_option maxRecDepth 100000 in
set_option maxHeartbeats 4000000 in
theorem U_X6_isNameHere {d : Nat} {h : mm_H} : mm_M mm_T0 (d + 1) 84 [.ref 3] h = (if ¬ (h.1 3 1) = 1 then (mm_bI (mm_M mm_T0 d 88 [.ref 3] h) (fun v2 h1 => mm_zr v2 h1)) else (if (h.1 3 4) < 0 then (if ((h.1 3 3) - (h.1 3 2)) ≤ 6 then (some (some (.int 1), h)) else (mm_bI (mm_M mm_T0 d 90 [.ref 3, .int 1, .int ((h.1 3 2) + 6)] h) (fun v4 h3 => if v4 = 0 then (some (some (.int 0), h3)) else (some (some (.int 1), h3))))) else (if 25 ≤ (h.1 3 4) then (if ((h.1 3 3) - (h.1 3 2)) ≤ 6 then (some (some (.int 1), h)) else (mm_bI (mm_M mm_T0 d 90 [.ref 3, .int 1, .int ((h.1 3 2) + 6)] h) (fun v6 h5 => if v6 = 0 then (some (some (.int 0), h5)) else (some (some (.int 1), h5))))) else (mm_bI (mm_M mm_T0 d 88 [.ref 3] h) (fun v8 h7 => mm_zr v8 h7))))) := by
  refine (mm_M_eq (ls := [.ref 3]) rfl (Nat.le_of_ble_eq_true rfl) rfl h).trans ?_
  refine (mm_by 3 (pc' := 5) (ls' := [.ref 3]) (st' := [.int 1, .int (h.1 3 1)]) (h' := h) rfl).trans ?_
  refine (mm_br (c := ¬ (h.1 3 1) = 1) (p1 := 24) (p2 := 8) (l1 := [.ref 3]) (l2 := [.ref 3]) (s1 := []) (s2 := []) (h1 := h) (h2 := h) rfl rfl).trans (mm_ite ?_ ?_)
  · refine (mm_by 1 (pc' := 25) (ls' := [.ref 3]) (st' := [.ref 3]) (h' := h) rfl).trans ?_
    refine (mm_c1 (y := 88) (as := [.ref 3]) (nx := 28) (rest := []) rfl rfl).trans (mm_congI fun v2 h1 => ?_)
    exact mm_zend rfl
  · refine (mm_by 2 (pc' := 12) (ls' := [.ref 3]) (st' := [.int (h.1 3 4)]) (h' := h) rfl).trans ?_
    refine (mm_br (c := (h.1 3 4) < 0) (p1 := 29) (p2 := 15) (l1 := [.ref 3]) (l2 := [.ref 3]) (s1 := []) (s2 := []) (h1 := h) (h2 := h) rfl rfl).trans (mm_ite ?_ ?_)
    · refine (mm_by 6 (pc' := 40) (ls' := [.ref 3]) (st' := [.int 6, .int ((h.1 3 3) - (h.1 3 2))]) (h' := h) rfl).trans ?_
      refine (mm_br (c := ((h.1 3 3) - (h.1 3 2)) ≤ 6) (p1 := 58) (p2 := 43) (l1 := [.ref 3]) (l2 := [.ref 3]) (s1 := []) (s2 := []) (h1 := h) (h2 := h) rfl rfl).trans (mm_ite ?_ ?_)
      · exact mm_by_end 3 rfl
      · refine (mm_by 6 (pc' := 52) (ls' := [.ref 3]) (st' := [.int ((h.1 3 2) + 6), .int 1, .ref 3]) (h' := h) rfl).trans ?_
        refine (mm_c1 (y := 90) (as := [.ref 3, .int 1, .int ((h.1 3 2) + 6)]) (nx := 55) (rest := []) rfl rfl).trans (mm_congI fun v4 h3 => ?_)
        refine (mm_br (c := v4 = 0) (p1 := 62) (p2 := 58) (l1 := [.ref 3]) (l2 := [.ref 3]) (s1 := []) (s2 := []) (h1 := h3) (h2 := h3) rfl rfl).trans (mm_ite ?_ ?_)
        · exact mm_by_end 2 rfl
        · exact mm_by_end 3 rfl
    · refine (mm_by 3 (pc' := 21) (ls' := [.ref 3]) (st' := [.int 25, .int (h.1 3 4)]) (h' := h) rfl).trans ?_
      refine (mm_br (c := 25 ≤ (h.1 3 4)) (p1 := 29) (p2 := 24) (l1 := [.ref 3]) (l2 := [.ref 3]) (s1 := []) (s2 := []) (h1 := h) (h2 := h) rfl rfl).trans (mm_ite ?_ ?_)
      · refine (mm_by 6 (pc' := 40) (ls' := [.ref 3]) (st' := [.int 6, .int ((h.1 3 3) - (h.1 3 2))]) (h' := h) rfl).trans ?_
        refine (mm_br (c := ((h.1 3 3) - (h.1 3 2)) ≤ 6) (p1 := 58) (p2 := 43) (l1 := [.ref 3]) (l2 := [.ref 3]) (s1 := []) (s2 := []) (h1 := h) (h2 := h) rfl rfl).trans (mm_ite ?_ ?_)
        · exact mm_by_end 3 rfl
        · refine (mm_by 6 (pc' := 52) (ls' := [.ref 3]) (st' := [.int ((h.1 3 2) + 6), .int 1, .ref 3]) (h' := h) rfl).trans ?_
          refine (mm_c1 (y := 90) (as := [.ref 3, .int 1, .int ((h.1 3 2) + 6)]) (nx := 55) (rest := []) rfl rfl).trans (mm_congI fun v6 h5 => ?_)
          refine (mm_br (c := v6 = 0) (p1 := 62) (p2 := 58) (l1 := [.ref 3]) (l2 := [.ref 3]) (s1 := []) (s2 := []) (h1 := h5) (h2 := h5) rfl rfl).trans (mm_ite ?_ ?_)
          · exact mm_by_end 2 rfl
          · exact mm_by_end 3 rfl
      · refine (mm_by 1 (pc' := 25) (ls' := [.ref 3]) (st' := [.ref 3]) (h' := h) rfl).trans ?_
        refine (mm_c1 (y := 88) (as := [.ref 3]) (nx := 28) (rest := []) rfl rfl).trans (mm_congI fun v8 h7 => ?_)
        exact mm_zend rfl
set_option maxRecDepth 100000 in
set_option maxHeartbeats 4000000 in
theorem U_X6_takeValue {d : Nat} {h : mm_H} : mm_M mm_T0 (d + 1) 85 [.ref 3] h = (mm_bV (mm_M mm_T0 d 75 [.ref 3] h) (fun h1 => some (some (.int (h.1 3 4)), h1))) := by
  refine (mm_M_eq (ls := [.ref 3, .null]) rfl (Nat.le_of_ble_eq_true rfl) rfl h).trans ?_
  refine (mm_by 4 (pc' := 6) (ls' := [.ref 3, .int (h.1 3 4)]) (st' := [.ref 3]) (h' := h) rfl).trans ?_
  refine (mm_c0 (y := 75) (as := [.ref 3]) (nx := 9) (rest := []) rfl rfl).trans (mm_congV fun h1 => ?_)
  exact mm_by_end 2 rfl
set_option maxRecDepth 100000 in
set_option maxHeartbeats 4000000 in
theorem U_X6_letterAt {d : Nat} {x1 : Int32} {h : mm_H} : mm_M mm_T0 (d + 1) 86 [.ref 3, .int x1] h = (if x1 < 0 then (some (some (.int 0), h)) else (if ((h.1 3 3) - (h.1 3 2)) ≤ x1 then (some (some (.int 0), h)) else (mm_bI (mm_M mm_T0 d 126 [.ref 1, .int ((h.1 3 2) + x1)] h) (fun v2 h1 => some (some (.int ((v2 - 97) + 1)), h1))))) := by
  refine (mm_M_eq (ls := [.ref 3, .int x1]) rfl (Nat.le_of_ble_eq_true rfl) rfl h).trans ?_
  refine (mm_by 1 (pc' := 1) (ls' := [.ref 3, .int x1]) (st' := [.int x1]) (h' := h) rfl).trans ?_
  refine (mm_br (c := x1 < 0) (p1 := 38) (p2 := 4) (l1 := [.ref 3, .int x1]) (l2 := [.ref 3, .int x1]) (s1 := []) (s2 := []) (h1 := h) (h2 := h) rfl rfl).trans (mm_ite ?_ ?_)
  · exact mm_by_end 2 rfl
  · refine (mm_by 6 (pc' := 14) (ls' := [.ref 3, .int x1]) (st' := [.int ((h.1 3 3) - (h.1 3 2)), .int x1]) (h' := h) rfl).trans ?_
    refine (mm_br (c := ((h.1 3 3) - (h.1 3 2)) ≤ x1) (p1 := 38) (p2 := 17) (l1 := [.ref 3, .int x1]) (l2 := [.ref 3, .int x1]) (s1 := []) (s2 := []) (h1 := h) (h2 := h) rfl rfl).trans (mm_ite ?_ ?_)
    · exact mm_by_end 2 rfl
    · refine (mm_by 6 (pc' := 27) (ls' := [.ref 3, .int x1]) (st' := [.int ((h.1 3 2) + x1), .ref 1]) (h' := h) rfl).trans ?_
      refine (mm_c1 (y := 126) (as := [.ref 1, .int ((h.1 3 2) + x1)]) (nx := 30) (rest := []) rfl rfl).trans (mm_congI fun v2 h1 => ?_)
      exact mm_by_end 6 rfl
set_option maxRecDepth 100000 in
set_option maxHeartbeats 4000000 in
theorem U_X6_mayOpen {d : Nat} {x1 : Int32} {h : mm_H} : mm_M mm_T0 (d + 1) 87 [.ref 3, .int x1] h = (if x1 < 6 then (some (some (.int 1), h)) else (mm_bI (mm_M mm_T0 d 89 [.ref 3, .int 4] h) (fun v2 h1 => if v2 = 0 then (some (some (.int 0), h1)) else (some (some (.int 1), h1))))) := by
  refine (mm_M_eq (ls := [.ref 3, .int x1]) rfl (Nat.le_of_ble_eq_true rfl) rfl h).trans ?_
  refine (mm_by 2 (pc' := 3) (ls' := [.ref 3, .int x1]) (st' := [.int 6, .int x1]) (h' := h) rfl).trans ?_
  refine (mm_br (c := x1 < 6) (p1 := 14) (p2 := 6) (l1 := [.ref 3, .int x1]) (l2 := [.ref 3, .int x1]) (s1 := []) (s2 := []) (h1 := h) (h2 := h) rfl rfl).trans (mm_ite ?_ ?_)
  · exact mm_by_end 3 rfl
  · refine (mm_by 2 (pc' := 8) (ls' := [.ref 3, .int x1]) (st' := [.int 4, .ref 3]) (h' := h) rfl).trans ?_
    refine (mm_c1 (y := 89) (as := [.ref 3, .int 4]) (nx := 11) (rest := []) rfl rfl).trans (mm_congI fun v2 h1 => ?_)
    refine (mm_br (c := v2 = 0) (p1 := 18) (p2 := 14) (l1 := [.ref 3, .int x1]) (l2 := [.ref 3, .int x1]) (s1 := []) (s2 := []) (h1 := h1) (h2 := h1) rfl rfl).trans (mm_ite ?_ ?_)
    · exact mm_by_end 2 rfl
    · exact mm_by_end 3 rfl
