set_option maxRecDepth 100000 in
set_option maxHeartbeats 4000000 in
theorem U_X10_pass {d : Nat} {t : Nat} {s : Nat} {x2 : Int32} {h : mm_H} (ht : mm_isT t) (hs : mm_isS s) : mm_M mm_T0 (d + 1) 141 [.ref t, .ref s, .int x2] h = (mm_D (mm_M mm_T0 d) cd_X10_pass 2 [.ref t, .ref s, .int x2, .int 0, .null, .null] [] h) := by
  refine (mm_M_eq (ls := [.ref t, .ref s, .int x2, .null, .null, .null]) rfl (Nat.le_of_ble_eq_true rfl) rfl h).trans ?_
  exact mm_by 2 rfl
set_option maxRecDepth 100000 in
set_option maxHeartbeats 4000000 in
theorem U_X10_pass_2 {d : Nat} {t : Nat} {s : Nat} {x2 : Int32} {x3 : Int32} {h : mm_H} (ht : mm_isT t) (hs : mm_isS s) : mm_D (mm_M mm_T0 d) cd_X10_pass 2 [.ref t, .ref s, .int x2, .int x3, .null, .null] [] h = (if x2 ≤ x3 then (some (none, h)) else (if 999 ≤ (h.1 s 11) then (some (none, h)) else (mm_D (mm_M mm_T0 d) cd_X10_pass 20 [.ref t, .ref s, .int x2, .int x3, .int 0, .null] [] h))) := by
  refine (mm_by 2 (pc' := 4) (ls' := [.ref t, .ref s, .int x2, .int x3, .null, .null]) (st' := [.int x2, .int x3]) (h' := h) rfl).trans ?_
  refine (mm_br (c := x2 ≤ x3) (p1 := 75) (p2 := 7) (l1 := [.ref t, .ref s, .int x2, .int x3, .null, .null]) (l2 := [.ref t, .ref s, .int x2, .int x3, .null, .null]) (s1 := []) (s2 := []) (h1 := h) (h2 := h) rfl rfl).trans (mm_ite ?_ ?_)
  · exact mm_by_end 1 rfl
  · refine (mm_by 1 (pc' := 8) (ls' := [.ref t, .ref s, .int x2, .int x3, .null, .null]) (st' := [.ref s]) (h' := h) rfl).trans ?_
    refine (mm_go (pc' := 11) (ls' := [.ref t, .ref s, .int x2, .int x3, .null, .null]) (st' := [.int (h.1 s 11)]) (h' := h) rfl (q_get (isS_0 hs))).trans ?_
    refine (mm_by 1 (pc' := 14) (ls' := [.ref t, .ref s, .int x2, .int x3, .null, .null]) (st' := [.int 999, .int (h.1 s 11)]) (h' := h) rfl).trans ?_
    refine (mm_br (c := 999 ≤ (h.1 s 11)) (p1 := 75) (p2 := 17) (l1 := [.ref t, .ref s, .int x2, .int x3, .null, .null]) (l2 := [.ref t, .ref s, .int x2, .int x3, .null, .null]) (s1 := []) (s2 := []) (h1 := h) (h2 := h) rfl rfl).trans (mm_ite ?_ ?_)
    · exact mm_by_end 1 rfl
    · exact mm_by 2 rfl
set_option maxRecDepth 100000 in
set_option maxHeartbeats 4000000 in
theorem U_X10_pass_20 {d : Nat} {t : Nat} {s : Nat} {x2 : Int32} {x3 : Int32} {x4 : Int32} {h : mm_H} (ht : mm_isT t) (hs : mm_isS s) : mm_D (mm_M mm_T0 d) cd_X10_pass 20 [.ref t, .ref s, .int x2, .int x3, .int x4, .null] [] h = (if (h.1 s 9) ≤ x4 then (mm_D (mm_M mm_T0 d) cd_X10_pass 2 [.ref t, .ref s, .int x2, .int (x3 + 1), .null, .null] [] (wI h s 11 ((h.1 s 11) + 1))) else (mm_bI (mm_M mm_T0 d 104 [.ref s, .int x4] h) (fun v2 h1 => mm_bV (mm_M mm_T0 d 142 [.ref t, .ref s, .int v2, .int 0] h1) (fun h3 => mm_bV (mm_M mm_T0 d 142 [.ref t, .ref s, .int v2, .int 1] h3) (fun h4 => mm_D (mm_M mm_T0 d) cd_X10_pass 20 [.ref t, .ref s, .int x2, .int x3, .int (x4 + 1), .null] [] h4))))) := by
  refine (mm_by 2 (pc' := 23) (ls' := [.ref t, .ref s, .int x2, .int x3, .int x4, .null]) (st' := [.ref s, .int x4]) (h' := h) rfl).trans ?_
  refine (mm_go (pc' := 26) (ls' := [.ref t, .ref s, .int x2, .int x3, .int x4, .null]) (st' := [.int (h.1 s 9), .int x4]) (h' := h) rfl (q_get (isS_0 hs))).trans ?_
  refine (mm_br (c := (h.1 s 9) ≤ x4) (p1 := 59) (p2 := 29) (l1 := [.ref t, .ref s, .int x2, .int x3, .int x4, .null]) (l2 := [.ref t, .ref s, .int x2, .int x3, .int x4, .null]) (s1 := []) (s2 := []) (h1 := h) (h2 := h) rfl rfl).trans (mm_ite ?_ ?_)
  · refine (mm_by 2 (pc' := 61) (ls' := [.ref t, .ref s, .int x2, .int x3, .int x4, .null]) (st' := [.ref s, .ref s]) (h' := h) rfl).trans ?_
    refine (mm_go (pc' := 64) (ls' := [.ref t, .ref s, .int x2, .int x3, .int x4, .null]) (st' := [.int (h.1 s 11), .ref s]) (h' := h) rfl (q_get (isS_0 hs))).trans ?_
    refine (mm_by 2 (pc' := 66) (ls' := [.ref t, .ref s, .int x2, .int x3, .int x4, .null]) (st' := [.int ((h.1 s 11) + 1), .ref s]) (h' := h) rfl).trans ?_
    refine (mm_go (pc' := 69) (ls' := [.ref t, .ref s, .int x2, .int x3, .int x4, .null]) (st' := []) (h' := wI h s 11 ((h.1 s 11) + 1)) rfl (q_putI (isS_0 hs))).trans ?_
    exact mm_by 2 rfl
  · refine (mm_by 2 (pc' := 32) (ls' := [.ref t, .ref s, .int x2, .int x3, .int x4, .null]) (st' := [.int x4, .ref s]) (h' := h) rfl).trans ?_
    refine (mm_c1 (y := 104) (as := [.ref s, .int x4]) (nx := 35) (rest := []) rfl (if_pos ⟨(isS_0 hs), Nat.le_of_ble_eq_true rfl⟩)).trans (mm_congI fun v2 h1 => ?_)
    refine (mm_by 5 (pc' := 42) (ls' := [.ref t, .ref s, .int x2, .int x3, .int x4, .int v2]) (st' := [.int 0, .int v2, .ref s, .ref t]) (h' := h1) rfl).trans ?_
    refine (mm_c0 (y := 142) (as := [.ref t, .ref s, .int v2, .int 0]) (nx := 45) (rest := []) rfl (if_pos ⟨(isT_0 ht), Nat.le_of_ble_eq_true rfl⟩)).trans (mm_congV fun h3 => ?_)
    refine (mm_by 4 (pc' := 50) (ls' := [.ref t, .ref s, .int x2, .int x3, .int x4, .int v2]) (st' := [.int 1, .int v2, .ref s, .ref t]) (h' := h3) rfl).trans ?_
    refine (mm_c0 (y := 142) (as := [.ref t, .ref s, .int v2, .int 1]) (nx := 53) (rest := []) rfl (if_pos ⟨(isT_0 ht), Nat.le_of_ble_eq_true rfl⟩)).trans (mm_congV fun h4 => ?_)
    exact mm_by 2 rfl
set_option maxRecDepth 100000 in
set_option maxHeartbeats 4000000 in
theorem U_X10_stroke {d : Nat} {t : Nat} {s : Nat} {x2 : Int32} {x3 : Int32} {h : mm_H} (ht : mm_isT t) (hs : mm_isS s) : mm_M mm_T0 (d + 1) 142 [.ref t, .ref s, .int x2, .int x3] h = (mm_bI (mm_M mm_T0 d 111 [.ref s, .int x2, .int x3] h) (fun v2 h1 => if v2 = ((-1)) then (some (none, h1)) else (mm_bI (mm_M mm_T0 d 109 [.ref s, .int v2] h1) (fun v4 h3 => if ¬ v4 = 1 then (mm_bI (mm_M mm_T0 d 106 [.ref s, .int x2] h3) (fun v6 h5 => mm_bV (mm_M mm_T0 d 144 [.ref t, .ref s, .int x2, .int v2, .int x3] h5) (fun h7 => mm_bI (mm_M mm_T0 d 39 [.ref (t + 10), .int 0, .ref s] h7) (fun v9 h8 => mm_bI (mm_M mm_T0 d 187 [.int v9, .int 99] h8) (fun v11 h10 => mm_bV (mm_M mm_T0 d 112 [.ref s, .int x2, .int v11] h10) (fun h12 => if ¬ v11 = 0 then (mm_bV (mm_M mm_T0 d 145 [.ref t, .ref s, .int x2, .int v2, .int (v11 - v6)] h12) (fun h13 => mm_bI (mm_M mm_T0 d 39 [.ref (t + 10), .int 1, .ref s] h13) (fun v15 h14 => mm_bI (mm_M mm_T0 d 187 [.int v15, .int 9] h14) (fun v17 h16 => mm_bV (mm_M mm_T0 d 115 [.ref s, .int x2, .int v2, .int v17] h16) (fun h18 => some (none, h18)))))) else (if v6 = 0 then (mm_bV (mm_M mm_T0 d 145 [.ref t, .ref s, .int x2, .int v2, .int (v11 - v6)] h12) (fun h19 => mm_bI (mm_M mm_T0 d 39 [.ref (t + 10), .int 1, .ref s] h19) (fun v21 h20 => mm_bI (mm_M mm_T0 d 187 [.int v21, .int 9] h20) (fun v23 h22 => mm_bV (mm_M mm_T0 d 115 [.ref s, .int x2, .int v2, .int v23] h22) (fun h24 => some (none, h24)))))) else (mm_bV (mm_M mm_T0 d 119 [.ref s, .int x2, .int v2] h12) (fun h25 => mm_bV (mm_M mm_T0 d 145 [.ref t, .ref s, .int x2, .int v2, .int (v11 - v6)] h25) (fun h26 => mm_bI (mm_M mm_T0 d 39 [.ref (t + 10), .int 1, .ref s] h26) (fun v28 h27 => mm_bI (mm_M mm_T0 d 187 [.int v28, .int 9] h27) (fun v30 h29 => mm_bV (mm_M mm_T0 d 115 [.ref s, .int x2, .int v2, .int v30] h29) (fun h31 => some (none, h31)))))))))))))) else (some (none, h3)))))) := by
  refine (mm_M_eq (ls := [.ref t, .ref s, .int x2, .int x3, .null, .null, .null]) rfl (Nat.le_of_ble_eq_true rfl) rfl h).trans ?_
  refine (mm_by 3 (pc' := 3) (ls' := [.ref t, .ref s, .int x2, .int x3, .null, .null, .null]) (st' := [.int x3, .int x2, .ref s]) (h' := h) rfl).trans ?_
  refine (mm_c1 (y := 111) (as := [.ref s, .int x2, .int x3]) (nx := 6) (rest := []) rfl (if_pos ⟨(isS_0 hs), Nat.le_of_ble_eq_true rfl⟩)).trans (mm_congI fun v2 h1 => ?_)
  refine (mm_by 3 (pc' := 11) (ls' := [.ref t, .ref s, .int x2, .int x3, .int v2, .null, .null]) (st' := [.int ((-1)), .int v2]) (h' := h1) rfl).trans ?_
  refine (mm_br (c := v2 = ((-1))) (p1 := 24) (p2 := 14) (l1 := [.ref t, .ref s, .int x2, .int x3, .int v2, .null, .null]) (l2 := [.ref t, .ref s, .int x2, .int x3, .int v2, .null, .null]) (s1 := []) (s2 := []) (h1 := h1) (h2 := h1) rfl rfl).trans (mm_ite ?_ ?_)
  · exact mm_by_end 1 rfl
  · refine (mm_by 2 (pc' := 17) (ls' := [.ref t, .ref s, .int x2, .int x3, .int v2, .null, .null]) (st' := [.int v2, .ref s]) (h' := h1) rfl).trans ?_
    refine (mm_c1 (y := 109) (as := [.ref s, .int v2]) (nx := 20) (rest := []) rfl (if_pos ⟨(isS_0 hs), Nat.le_of_ble_eq_true rfl⟩)).trans (mm_congI fun v4 h3 => ?_)
    refine (mm_by 1 (pc' := 21) (ls' := [.ref t, .ref s, .int x2, .int x3, .int v2, .null, .null]) (st' := [.int 1, .int v4]) (h' := h3) rfl).trans ?_
    refine (mm_br (c := ¬ v4 = 1) (p1 := 25) (p2 := 24) (l1 := [.ref t, .ref s, .int x2, .int x3, .int v2, .null, .null]) (l2 := [.ref t, .ref s, .int x2, .int x3, .int v2, .null, .null]) (s1 := []) (s2 := []) (h1 := h3) (h2 := h3) rfl rfl).trans (mm_ite ?_ ?_)
    · refine (mm_by 2 (pc' := 27) (ls' := [.ref t, .ref s, .int x2, .int x3, .int v2, .null, .null]) (st' := [.int x2, .ref s]) (h' := h3) rfl).trans ?_
      refine (mm_c1 (y := 106) (as := [.ref s, .int x2]) (nx := 30) (rest := []) rfl (if_pos ⟨(isS_0 hs), Nat.le_of_ble_eq_true rfl⟩)).trans (mm_congI fun v6 h5 => ?_)
      refine (mm_by 6 (pc' := 38) (ls' := [.ref t, .ref s, .int x2, .int x3, .int v2, .int v6, .null]) (st' := [.int x3, .int v2, .int x2, .ref s, .ref t]) (h' := h5) rfl).trans ?_
      refine (mm_c0 (y := 144) (as := [.ref t, .ref s, .int x2, .int v2, .int x3]) (nx := 41) (rest := []) rfl (if_pos ⟨(isT_0 ht), Nat.le_of_ble_eq_true rfl⟩)).trans (mm_congV fun h7 => ?_)
      refine (mm_by 1 (pc' := 42) (ls' := [.ref t, .ref s, .int x2, .int x3, .int v2, .int v6, .null]) (st' := [.ref t]) (h' := h7) rfl).trans ?_
      refine (mm_go (pc' := 45) (ls' := [.ref t, .ref s, .int x2, .int x3, .int v2, .int v6, .null]) (st' := [.ref (t + 10)]) (h' := h7) rfl (q_get (isT_0 ht))).trans ?_
      refine (mm_by 2 (pc' := 47) (ls' := [.ref t, .ref s, .int x2, .int x3, .int v2, .int v6, .null]) (st' := [.ref s, .int 0, .ref (t + 10)]) (h' := h7) rfl).trans ?_
      refine (mm_c1 (y := 39) (as := [.ref (t + 10), .int 0, .ref s]) (nx := 50) (rest := []) rfl (if_pos ⟨(isT_10 ht), Nat.le_of_ble_eq_true rfl⟩)).trans (mm_congI fun v9 h8 => ?_)
      refine (mm_by 1 (pc' := 52) (ls' := [.ref t, .ref s, .int x2, .int x3, .int v2, .int v6, .null]) (st' := [.int 99, .int v9]) (h' := h8) rfl).trans ?_
      refine (mm_c1 (y := 187) (as := [.int v9, .int 99]) (nx := 55) (rest := []) rfl rfl).trans (mm_congI fun v11 h10 => ?_)
      refine (mm_by 4 (pc' := 61) (ls' := [.ref t, .ref s, .int x2, .int x3, .int v2, .int v6, .int v11]) (st' := [.int v11, .int x2, .ref s]) (h' := h10) rfl).trans ?_
      refine (mm_c0 (y := 112) (as := [.ref s, .int x2, .int v11]) (nx := 64) (rest := []) rfl (if_pos ⟨(isS_0 hs), Nat.le_of_ble_eq_true rfl⟩)).trans (mm_congV fun h12 => ?_)
      refine (mm_by 1 (pc' := 66) (ls' := [.ref t, .ref s, .int x2, .int x3, .int v2, .int v6, .int v11]) (st' := [.int v11]) (h' := h12) rfl).trans ?_
      refine (mm_br (c := ¬ v11 = 0) (p1 := 81) (p2 := 69) (l1 := [.ref t, .ref s, .int x2, .int x3, .int v2, .int v6, .int v11]) (l2 := [.ref t, .ref s, .int x2, .int x3, .int v2, .int v6, .int v11]) (s1 := []) (s2 := []) (h1 := h12) (h2 := h12) rfl rfl).trans (mm_ite ?_ ?_)
      · refine (mm_by 7 (pc' := 91) (ls' := [.ref t, .ref s, .int x2, .int x3, .int v2, .int v6, .int v11]) (st' := [.int (v11 - v6), .int v2, .int x2, .ref s, .ref t]) (h' := h12) rfl).trans ?_
        refine (mm_c0 (y := 145) (as := [.ref t, .ref s, .int x2, .int v2, .int (v11 - v6)]) (nx := 94) (rest := []) rfl (if_pos ⟨(isT_0 ht), Nat.le_of_ble_eq_true rfl⟩)).trans (mm_congV fun h13 => ?_)
        refine (mm_by 4 (pc' := 99) (ls' := [.ref t, .ref s, .int x2, .int x3, .int v2, .int v6, .int v11]) (st' := [.ref t, .int v2, .int x2, .ref s]) (h' := h13) rfl).trans ?_
        refine (mm_go (pc' := 102) (ls' := [.ref t, .ref s, .int x2, .int x3, .int v2, .int v6, .int v11]) (st' := [.ref (t + 10), .int v2, .int x2, .ref s]) (h' := h13) rfl (q_get (isT_0 ht))).trans ?_
        refine (mm_by 2 (pc' := 104) (ls' := [.ref t, .ref s, .int x2, .int x3, .int v2, .int v6, .int v11]) (st' := [.ref s, .int 1, .ref (t + 10), .int v2, .int x2, .ref s]) (h' := h13) rfl).trans ?_
        refine (mm_c1 (y := 39) (as := [.ref (t + 10), .int 1, .ref s]) (nx := 107) (rest := [.int v2, .int x2, .ref s]) rfl (if_pos ⟨(isT_10 ht), Nat.le_of_ble_eq_true rfl⟩)).trans (mm_congI fun v15 h14 => ?_)
        refine (mm_by 1 (pc' := 109) (ls' := [.ref t, .ref s, .int x2, .int x3, .int v2, .int v6, .int v11]) (st' := [.int 9, .int v15, .int v2, .int x2, .ref s]) (h' := h14) rfl).trans ?_
        refine (mm_c1 (y := 187) (as := [.int v15, .int 9]) (nx := 112) (rest := [.int v2, .int x2, .ref s]) rfl rfl).trans (mm_congI fun v17 h16 => ?_)
        refine (mm_c0 (y := 115) (as := [.ref s, .int x2, .int v2, .int v17]) (nx := 115) (rest := []) rfl (if_pos ⟨(isS_0 hs), Nat.le_of_ble_eq_true rfl⟩)).trans (mm_congV fun h18 => ?_)
        exact mm_by_end 1 rfl
      · refine (mm_by 1 (pc' := 71) (ls' := [.ref t, .ref s, .int x2, .int x3, .int v2, .int v6, .int v11]) (st' := [.int v6]) (h' := h12) rfl).trans ?_
        refine (mm_br (c := v6 = 0) (p1 := 81) (p2 := 74) (l1 := [.ref t, .ref s, .int x2, .int x3, .int v2, .int v6, .int v11]) (l2 := [.ref t, .ref s, .int x2, .int x3, .int v2, .int v6, .int v11]) (s1 := []) (s2 := []) (h1 := h12) (h2 := h12) rfl rfl).trans (mm_ite ?_ ?_)
        · refine (mm_by 7 (pc' := 91) (ls' := [.ref t, .ref s, .int x2, .int x3, .int v2, .int v6, .int v11]) (st' := [.int (v11 - v6), .int v2, .int x2, .ref s, .ref t]) (h' := h12) rfl).trans ?_
          refine (mm_c0 (y := 145) (as := [.ref t, .ref s, .int x2, .int v2, .int (v11 - v6)]) (nx := 94) (rest := []) rfl (if_pos ⟨(isT_0 ht), Nat.le_of_ble_eq_true rfl⟩)).trans (mm_congV fun h19 => ?_)
          refine (mm_by 4 (pc' := 99) (ls' := [.ref t, .ref s, .int x2, .int x3, .int v2, .int v6, .int v11]) (st' := [.ref t, .int v2, .int x2, .ref s]) (h' := h19) rfl).trans ?_
          refine (mm_go (pc' := 102) (ls' := [.ref t, .ref s, .int x2, .int x3, .int v2, .int v6, .int v11]) (st' := [.ref (t + 10), .int v2, .int x2, .ref s]) (h' := h19) rfl (q_get (isT_0 ht))).trans ?_
          refine (mm_by 2 (pc' := 104) (ls' := [.ref t, .ref s, .int x2, .int x3, .int v2, .int v6, .int v11]) (st' := [.ref s, .int 1, .ref (t + 10), .int v2, .int x2, .ref s]) (h' := h19) rfl).trans ?_
          refine (mm_c1 (y := 39) (as := [.ref (t + 10), .int 1, .ref s]) (nx := 107) (rest := [.int v2, .int x2, .ref s]) rfl (if_pos ⟨(isT_10 ht), Nat.le_of_ble_eq_true rfl⟩)).trans (mm_congI fun v21 h20 => ?_)
          refine (mm_by 1 (pc' := 109) (ls' := [.ref t, .ref s, .int x2, .int x3, .int v2, .int v6, .int v11]) (st' := [.int 9, .int v21, .int v2, .int x2, .ref s]) (h' := h20) rfl).trans ?_
          refine (mm_c1 (y := 187) (as := [.int v21, .int 9]) (nx := 112) (rest := [.int v2, .int x2, .ref s]) rfl rfl).trans (mm_congI fun v23 h22 => ?_)
          refine (mm_c0 (y := 115) (as := [.ref s, .int x2, .int v2, .int v23]) (nx := 115) (rest := []) rfl (if_pos ⟨(isS_0 hs), Nat.le_of_ble_eq_true rfl⟩)).trans (mm_congV fun h24 => ?_)
          exact mm_by_end 1 rfl
        · refine (mm_by 3 (pc' := 78) (ls' := [.ref t, .ref s, .int x2, .int x3, .int v2, .int v6, .int v11]) (st' := [.int v2, .int x2, .ref s]) (h' := h12) rfl).trans ?_
          refine (mm_c0 (y := 119) (as := [.ref s, .int x2, .int v2]) (nx := 81) (rest := []) rfl (if_pos ⟨(isS_0 hs), Nat.le_of_ble_eq_true rfl⟩)).trans (mm_congV fun h25 => ?_)
          refine (mm_by 7 (pc' := 91) (ls' := [.ref t, .ref s, .int x2, .int x3, .int v2, .int v6, .int v11]) (st' := [.int (v11 - v6), .int v2, .int x2, .ref s, .ref t]) (h' := h25) rfl).trans ?_
          refine (mm_c0 (y := 145) (as := [.ref t, .ref s, .int x2, .int v2, .int (v11 - v6)]) (nx := 94) (rest := []) rfl (if_pos ⟨(isT_0 ht), Nat.le_of_ble_eq_true rfl⟩)).trans (mm_congV fun h26 => ?_)
          refine (mm_by 4 (pc' := 99) (ls' := [.ref t, .ref s, .int x2, .int x3, .int v2, .int v6, .int v11]) (st' := [.ref t, .int v2, .int x2, .ref s]) (h' := h26) rfl).trans ?_
          refine (mm_go (pc' := 102) (ls' := [.ref t, .ref s, .int x2, .int x3, .int v2, .int v6, .int v11]) (st' := [.ref (t + 10), .int v2, .int x2, .ref s]) (h' := h26) rfl (q_get (isT_0 ht))).trans ?_
          refine (mm_by 2 (pc' := 104) (ls' := [.ref t, .ref s, .int x2, .int x3, .int v2, .int v6, .int v11]) (st' := [.ref s, .int 1, .ref (t + 10), .int v2, .int x2, .ref s]) (h' := h26) rfl).trans ?_
          refine (mm_c1 (y := 39) (as := [.ref (t + 10), .int 1, .ref s]) (nx := 107) (rest := [.int v2, .int x2, .ref s]) rfl (if_pos ⟨(isT_10 ht), Nat.le_of_ble_eq_true rfl⟩)).trans (mm_congI fun v28 h27 => ?_)
          refine (mm_by 1 (pc' := 109) (ls' := [.ref t, .ref s, .int x2, .int x3, .int v2, .int v6, .int v11]) (st' := [.int 9, .int v28, .int v2, .int x2, .ref s]) (h' := h27) rfl).trans ?_
          refine (mm_c1 (y := 187) (as := [.int v28, .int 9]) (nx := 112) (rest := [.int v2, .int x2, .ref s]) rfl rfl).trans (mm_congI fun v30 h29 => ?_)
          refine (mm_c0 (y := 115) (as := [.ref s, .int x2, .int v2, .int v30]) (nx := 115) (rest := []) rfl (if_pos ⟨(isS_0 hs), Nat.le_of_ble_eq_true rfl⟩)).trans (mm_congV fun h31 => ?_)
          exact mm_by_end 1 rfl
    · exact mm_by_end 1 rfl
set_option maxRecDepth 100000 in
set_option maxHeartbeats 4000000 in
theorem U_X10_paintedLook {d : Nat} {t : Nat} {s : Nat} {x2 : Int32} {x3 : Int32} {x4 : Int32} {h : mm_H} (ht : mm_isT t) (hs : mm_isS s) : mm_M mm_T0 (d + 1) 143 [.ref t, .ref s, .int x2, .int x3, .int x4] h = (mm_bV (mm_M mm_T0 d 144 [.ref t, .ref s, .int x2, .int x3, .int x4] h) (fun h1 => mm_bI (mm_M mm_T0 d 39 [.ref (t + 10), .int 0, .ref s] h1) (fun v3 h2 => mm_bI (mm_M mm_T0 d 187 [.int v3, .int 99] h2) (fun v5 h4 => some (some (.int v5), h4))))) := by
  refine (mm_M_eq (ls := [.ref t, .ref s, .int x2, .int x3, .int x4]) rfl (Nat.le_of_ble_eq_true rfl) rfl h).trans ?_
  refine (mm_by 5 (pc' := 6) (ls' := [.ref t, .ref s, .int x2, .int x3, .int x4]) (st' := [.int x4, .int x3, .int x2, .ref s, .ref t]) (h' := h) rfl).trans ?_
  refine (mm_c0 (y := 144) (as := [.ref t, .ref s, .int x2, .int x3, .int x4]) (nx := 9) (rest := []) rfl (if_pos ⟨(isT_0 ht), Nat.le_of_ble_eq_true rfl⟩)).trans (mm_congV fun h1 => ?_)
  refine (mm_by 1 (pc' := 10) (ls' := [.ref t, .ref s, .int x2, .int x3, .int x4]) (st' := [.ref t]) (h' := h1) rfl).trans ?_
  refine (mm_go (pc' := 13) (ls' := [.ref t, .ref s, .int x2, .int x3, .int x4]) (st' := [.ref (t + 10)]) (h' := h1) rfl (q_get (isT_0 ht))).trans ?_
  refine (mm_by 2 (pc' := 15) (ls' := [.ref t, .ref s, .int x2, .int x3, .int x4]) (st' := [.ref s, .int 0, .ref (t + 10)]) (h' := h1) rfl).trans ?_
  refine (mm_c1 (y := 39) (as := [.ref (t + 10), .int 0, .ref s]) (nx := 18) (rest := []) rfl (if_pos ⟨(isT_10 ht), Nat.le_of_ble_eq_true rfl⟩)).trans (mm_congI fun v3 h2 => ?_)
  refine (mm_by 1 (pc' := 20) (ls' := [.ref t, .ref s, .int x2, .int x3, .int x4]) (st' := [.int 99, .int v3]) (h' := h2) rfl).trans ?_
  refine (mm_c1 (y := 187) (as := [.int v3, .int 99]) (nx := 23) (rest := []) rfl rfl).trans (mm_congI fun v5 h4 => ?_)
  exact mm_by_end 1 rfl
set_option maxRecDepth 100000 in
set_option maxHeartbeats 4000000 in
theorem U_X10_setForPaints {d : Nat} {t : Nat} {s : Nat} {x2 : Int32} {x3 : Int32} {x4 : Int32} {h : mm_H} (ht : mm_isT t) (hs : mm_isS s) : mm_M mm_T0 (d + 1) 144 [.ref t, .ref s, .int x2, .int x3, .int x4] h = (mm_bI (mm_M mm_T0 d 107 [.ref s, .int x2] h) (fun v2 h1 => mm_bV (mm_M mm_T0 d 38 [.ref (t + 10), .int 3, .int v2] h1) (fun h3 => mm_bI (mm_M mm_T0 d 108 [.ref s, .int x3] h3) (fun v5 h4 => mm_bV (mm_M mm_T0 d 38 [.ref (t + 10), .int 4, .int v5] h4) (fun h6 => mm_bI (mm_M mm_T0 d 110 [.ref s, .int x3, .int x2] h6) (fun v8 h7 => mm_bV (mm_M mm_T0 d 38 [.ref (t + 10), .int 5, .int v8] h7) (fun h9 => mm_bV (mm_M mm_T0 d 38 [.ref (t + 10), .int 15, .int (h9.1 s 11)] h9) (fun h10 => mm_bI (mm_M mm_T0 d 106 [.ref s, .int x2] h10) (fun v12 h11 => mm_bV (mm_M mm_T0 d 38 [.ref (t + 10), .int 11, .int v12] h11) (fun h13 => mm_bV (mm_M mm_T0 d 38 [.ref (t + 10), .int 12, .int x4] h13) (fun h14 => some (none, h14)))))))))))) := by
  refine (mm_M_eq (ls := [.ref t, .ref s, .int x2, .int x3, .int x4]) rfl (Nat.le_of_ble_eq_true rfl) rfl h).trans ?_
  refine (mm_by 1 (pc' := 1) (ls' := [.ref t, .ref s, .int x2, .int x3, .int x4]) (st' := [.ref t]) (h' := h) rfl).trans ?_
  refine (mm_go (pc' := 4) (ls' := [.ref t, .ref s, .int x2, .int x3, .int x4]) (st' := [.ref (t + 10)]) (h' := h) rfl (q_get (isT_0 ht))).trans ?_
  refine (mm_by 3 (pc' := 7) (ls' := [.ref t, .ref s, .int x2, .int x3, .int x4]) (st' := [.int x2, .ref s, .int 3, .ref (t + 10)]) (h' := h) rfl).trans ?_
  refine (mm_c1 (y := 107) (as := [.ref s, .int x2]) (nx := 10) (rest := [.int 3, .ref (t + 10)]) rfl (if_pos ⟨(isS_0 hs), Nat.le_of_ble_eq_true rfl⟩)).trans (mm_congI fun v2 h1 => ?_)
  refine (mm_c0 (y := 38) (as := [.ref (t + 10), .int 3, .int v2]) (nx := 13) (rest := []) rfl (if_pos ⟨(isT_10 ht), Nat.le_of_ble_eq_true rfl⟩)).trans (mm_congV fun h3 => ?_)
  refine (mm_by 1 (pc' := 14) (ls' := [.ref t, .ref s, .int x2, .int x3, .int x4]) (st' := [.ref t]) (h' := h3) rfl).trans ?_
  refine (mm_go (pc' := 17) (ls' := [.ref t, .ref s, .int x2, .int x3, .int x4]) (st' := [.ref (t + 10)]) (h' := h3) rfl (q_get (isT_0 ht))).trans ?_
  refine (mm_by 3 (pc' := 20) (ls' := [.ref t, .ref s, .int x2, .int x3, .int x4]) (st' := [.int x3, .ref s, .int 4, .ref (t + 10)]) (h' := h3) rfl).trans ?_
  refine (mm_c1 (y := 108) (as := [.ref s, .int x3]) (nx := 23) (rest := [.int 4, .ref (t + 10)]) rfl (if_pos ⟨(isS_0 hs), Nat.le_of_ble_eq_true rfl⟩)).trans (mm_congI fun v5 h4 => ?_)
  refine (mm_c0 (y := 38) (as := [.ref (t + 10), .int 4, .int v5]) (nx := 26) (rest := []) rfl (if_pos ⟨(isT_10 ht), Nat.le_of_ble_eq_true rfl⟩)).trans (mm_congV fun h6 => ?_)
  refine (mm_by 1 (pc' := 27) (ls' := [.ref t, .ref s, .int x2, .int x3, .int x4]) (st' := [.ref t]) (h' := h6) rfl).trans ?_
  refine (mm_go (pc' := 30) (ls' := [.ref t, .ref s, .int x2, .int x3, .int x4]) (st' := [.ref (t + 10)]) (h' := h6) rfl (q_get (isT_0 ht))).trans ?_
  refine (mm_by 4 (pc' := 34) (ls' := [.ref t, .ref s, .int x2, .int x3, .int x4]) (st' := [.int x2, .int x3, .ref s, .int 5, .ref (t + 10)]) (h' := h6) rfl).trans ?_
  refine (mm_c1 (y := 110) (as := [.ref s, .int x3, .int x2]) (nx := 37) (rest := [.int 5, .ref (t + 10)]) rfl (if_pos ⟨(isS_0 hs), Nat.le_of_ble_eq_true rfl⟩)).trans (mm_congI fun v8 h7 => ?_)
  refine (mm_c0 (y := 38) (as := [.ref (t + 10), .int 5, .int v8]) (nx := 40) (rest := []) rfl (if_pos ⟨(isT_10 ht), Nat.le_of_ble_eq_true rfl⟩)).trans (mm_congV fun h9 => ?_)
  refine (mm_by 1 (pc' := 41) (ls' := [.ref t, .ref s, .int x2, .int x3, .int x4]) (st' := [.ref t]) (h' := h9) rfl).trans ?_
  refine (mm_go (pc' := 44) (ls' := [.ref t, .ref s, .int x2, .int x3, .int x4]) (st' := [.ref (t + 10)]) (h' := h9) rfl (q_get (isT_0 ht))).trans ?_
  refine (mm_by 2 (pc' := 47) (ls' := [.ref t, .ref s, .int x2, .int x3, .int x4]) (st' := [.ref s, .int 15, .ref (t + 10)]) (h' := h9) rfl).trans ?_
  refine (mm_go (pc' := 50) (ls' := [.ref t, .ref s, .int x2, .int x3, .int x4]) (st' := [.int (h9.1 s 11), .int 15, .ref (t + 10)]) (h' := h9) rfl (q_get (isS_0 hs))).trans ?_
  refine (mm_c0 (y := 38) (as := [.ref (t + 10), .int 15, .int (h9.1 s 11)]) (nx := 53) (rest := []) rfl (if_pos ⟨(isT_10 ht), Nat.le_of_ble_eq_true rfl⟩)).trans (mm_congV fun h10 => ?_)
  refine (mm_by 1 (pc' := 54) (ls' := [.ref t, .ref s, .int x2, .int x3, .int x4]) (st' := [.ref t]) (h' := h10) rfl).trans ?_
  refine (mm_go (pc' := 57) (ls' := [.ref t, .ref s, .int x2, .int x3, .int x4]) (st' := [.ref (t + 10)]) (h' := h10) rfl (q_get (isT_0 ht))).trans ?_
  refine (mm_by 3 (pc' := 61) (ls' := [.ref t, .ref s, .int x2, .int x3, .int x4]) (st' := [.int x2, .ref s, .int 11, .ref (t + 10)]) (h' := h10) rfl).trans ?_
  refine (mm_c1 (y := 106) (as := [.ref s, .int x2]) (nx := 64) (rest := [.int 11, .ref (t + 10)]) rfl (if_pos ⟨(isS_0 hs), Nat.le_of_ble_eq_true rfl⟩)).trans (mm_congI fun v12 h11 => ?_)
  refine (mm_c0 (y := 38) (as := [.ref (t + 10), .int 11, .int v12]) (nx := 67) (rest := []) rfl (if_pos ⟨(isT_10 ht), Nat.le_of_ble_eq_true rfl⟩)).trans (mm_congV fun h13 => ?_)
  refine (mm_by 1 (pc' := 68) (ls' := [.ref t, .ref s, .int x2, .int x3, .int x4]) (st' := [.ref t]) (h' := h13) rfl).trans ?_
  refine (mm_go (pc' := 71) (ls' := [.ref t, .ref s, .int x2, .int x3, .int x4]) (st' := [.ref (t + 10)]) (h' := h13) rfl (q_get (isT_0 ht))).trans ?_
  refine (mm_by 2 (pc' := 75) (ls' := [.ref t, .ref s, .int x2, .int x3, .int x4]) (st' := [.int x4, .int 12, .ref (t + 10)]) (h' := h13) rfl).trans ?_
  refine (mm_c0 (y := 38) (as := [.ref (t + 10), .int 12, .int x4]) (nx := 78) (rest := []) rfl (if_pos ⟨(isT_10 ht), Nat.le_of_ble_eq_true rfl⟩)).trans (mm_congV fun h14 => ?_)
  exact mm_by_end 1 rfl
set_option maxRecDepth 100000 in
set_option maxHeartbeats 4000000 in
theorem U_X10_setForMinds {d : Nat} {t : Nat} {s : Nat} {x2 : Int32} {x3 : Int32} {x4 : Int32} {h : mm_H} (ht : mm_isT t) (hs : mm_isS s) : mm_M mm_T0 (d + 1) 145 [.ref t, .ref s, .int x2, .int x3, .int x4] h = (mm_bI (mm_M mm_T0 d 107 [.ref s, .int x3] h) (fun v2 h1 => mm_bV (mm_M mm_T0 d 38 [.ref (t + 10), .int 3, .int v2] h1) (fun h3 => mm_bI (mm_M mm_T0 d 108 [.ref s, .int x2] h3) (fun v5 h4 => mm_bV (mm_M mm_T0 d 38 [.ref (t + 10), .int 4, .int v5] h4) (fun h6 => mm_bI (mm_M mm_T0 d 110 [.ref s, .int x2, .int x3] h6) (fun v8 h7 => mm_bV (mm_M mm_T0 d 38 [.ref (t + 10), .int 5, .int v8] h7) (fun h9 => mm_bV (mm_M mm_T0 d 38 [.ref (t + 10), .int 15, .int (h9.1 s 11)] h9) (fun h10 => mm_bV (mm_M mm_T0 d 38 [.ref (t + 10), .int 13, .int x4] h10) (fun h11 => some (none, h11)))))))))) := by
  refine (mm_M_eq (ls := [.ref t, .ref s, .int x2, .int x3, .int x4]) rfl (Nat.le_of_ble_eq_true rfl) rfl h).trans ?_
  refine (mm_by 1 (pc' := 1) (ls' := [.ref t, .ref s, .int x2, .int x3, .int x4]) (st' := [.ref t]) (h' := h) rfl).trans ?_
  refine (mm_go (pc' := 4) (ls' := [.ref t, .ref s, .int x2, .int x3, .int x4]) (st' := [.ref (t + 10)]) (h' := h) rfl (q_get (isT_0 ht))).trans ?_
  refine (mm_by 3 (pc' := 7) (ls' := [.ref t, .ref s, .int x2, .int x3, .int x4]) (st' := [.int x3, .ref s, .int 3, .ref (t + 10)]) (h' := h) rfl).trans ?_
  refine (mm_c1 (y := 107) (as := [.ref s, .int x3]) (nx := 10) (rest := [.int 3, .ref (t + 10)]) rfl (if_pos ⟨(isS_0 hs), Nat.le_of_ble_eq_true rfl⟩)).trans (mm_congI fun v2 h1 => ?_)
  refine (mm_c0 (y := 38) (as := [.ref (t + 10), .int 3, .int v2]) (nx := 13) (rest := []) rfl (if_pos ⟨(isT_10 ht), Nat.le_of_ble_eq_true rfl⟩)).trans (mm_congV fun h3 => ?_)
  refine (mm_by 1 (pc' := 14) (ls' := [.ref t, .ref s, .int x2, .int x3, .int x4]) (st' := [.ref t]) (h' := h3) rfl).trans ?_
  refine (mm_go (pc' := 17) (ls' := [.ref t, .ref s, .int x2, .int x3, .int x4]) (st' := [.ref (t + 10)]) (h' := h3) rfl (q_get (isT_0 ht))).trans ?_
  refine (mm_by 3 (pc' := 20) (ls' := [.ref t, .ref s, .int x2, .int x3, .int x4]) (st' := [.int x2, .ref s, .int 4, .ref (t + 10)]) (h' := h3) rfl).trans ?_
  refine (mm_c1 (y := 108) (as := [.ref s, .int x2]) (nx := 23) (rest := [.int 4, .ref (t + 10)]) rfl (if_pos ⟨(isS_0 hs), Nat.le_of_ble_eq_true rfl⟩)).trans (mm_congI fun v5 h4 => ?_)
  refine (mm_c0 (y := 38) (as := [.ref (t + 10), .int 4, .int v5]) (nx := 26) (rest := []) rfl (if_pos ⟨(isT_10 ht), Nat.le_of_ble_eq_true rfl⟩)).trans (mm_congV fun h6 => ?_)
  refine (mm_by 1 (pc' := 27) (ls' := [.ref t, .ref s, .int x2, .int x3, .int x4]) (st' := [.ref t]) (h' := h6) rfl).trans ?_
  refine (mm_go (pc' := 30) (ls' := [.ref t, .ref s, .int x2, .int x3, .int x4]) (st' := [.ref (t + 10)]) (h' := h6) rfl (q_get (isT_0 ht))).trans ?_
  refine (mm_by 4 (pc' := 34) (ls' := [.ref t, .ref s, .int x2, .int x3, .int x4]) (st' := [.int x3, .int x2, .ref s, .int 5, .ref (t + 10)]) (h' := h6) rfl).trans ?_
  refine (mm_c1 (y := 110) (as := [.ref s, .int x2, .int x3]) (nx := 37) (rest := [.int 5, .ref (t + 10)]) rfl (if_pos ⟨(isS_0 hs), Nat.le_of_ble_eq_true rfl⟩)).trans (mm_congI fun v8 h7 => ?_)
  refine (mm_c0 (y := 38) (as := [.ref (t + 10), .int 5, .int v8]) (nx := 40) (rest := []) rfl (if_pos ⟨(isT_10 ht), Nat.le_of_ble_eq_true rfl⟩)).trans (mm_congV fun h9 => ?_)
  refine (mm_by 1 (pc' := 41) (ls' := [.ref t, .ref s, .int x2, .int x3, .int x4]) (st' := [.ref t]) (h' := h9) rfl).trans ?_
  refine (mm_go (pc' := 44) (ls' := [.ref t, .ref s, .int x2, .int x3, .int x4]) (st' := [.ref (t + 10)]) (h' := h9) rfl (q_get (isT_0 ht))).trans ?_
  refine (mm_by 2 (pc' := 47) (ls' := [.ref t, .ref s, .int x2, .int x3, .int x4]) (st' := [.ref s, .int 15, .ref (t + 10)]) (h' := h9) rfl).trans ?_
  refine (mm_go (pc' := 50) (ls' := [.ref t, .ref s, .int x2, .int x3, .int x4]) (st' := [.int (h9.1 s 11), .int 15, .ref (t + 10)]) (h' := h9) rfl (q_get (isS_0 hs))).trans ?_
  refine (mm_c0 (y := 38) (as := [.ref (t + 10), .int 15, .int (h9.1 s 11)]) (nx := 53) (rest := []) rfl (if_pos ⟨(isT_10 ht), Nat.le_of_ble_eq_true rfl⟩)).trans (mm_congV fun h10 => ?_)
  refine (mm_by 1 (pc' := 54) (ls' := [.ref t, .ref s, .int x2, .int x3, .int x4]) (st' := [.ref t]) (h' := h10) rfl).trans ?_
  refine (mm_go (pc' := 57) (ls' := [.ref t, .ref s, .int x2, .int x3, .int x4]) (st' := [.ref (t + 10)]) (h' := h10) rfl (q_get (isT_0 ht))).trans ?_
  refine (mm_by 2 (pc' := 61) (ls' := [.ref t, .ref s, .int x2, .int x3, .int x4]) (st' := [.int x4, .int 13, .ref (t + 10)]) (h' := h10) rfl).trans ?_
  refine (mm_c0 (y := 38) (as := [.ref (t + 10), .int 13, .int x4]) (nx := 64) (rest := []) rfl (if_pos ⟨(isT_10 ht), Nat.le_of_ble_eq_true rfl⟩)).trans (mm_congV fun h11 => ?_)
  exact mm_by_end 1 rfl
set_option maxRecDepth 100000 in
set_option maxHeartbeats 4000000 in
theorem U_X10_isFeud {d : Nat} {t : Nat} {s : Nat} {x2 : Int32} {x3 : Int32} {h : mm_H} (ht : mm_isT t) (hs : mm_isS s) : mm_M mm_T0 (d + 1) 146 [.ref t, .ref s, .int x2, .int x3] h = (mm_bI (mm_M mm_T0 d 107 [.ref s, .int x3] h) (fun v2 h1 => mm_bV (mm_M mm_T0 d 38 [.ref (t + 10), .int 3, .int v2] h1) (fun h3 => mm_bI (mm_M mm_T0 d 108 [.ref s, .int x2] h3) (fun v5 h4 => mm_bV (mm_M mm_T0 d 38 [.ref (t + 10), .int 4, .int v5] h4) (fun h6 => mm_bI (mm_M mm_T0 d 110 [.ref s, .int x2, .int x3] h6) (fun v8 h7 => mm_bV (mm_M mm_T0 d 38 [.ref (t + 10), .int 5, .int v8] h7) (fun h9 => mm_bV (mm_M mm_T0 d 38 [.ref (t + 10), .int 15, .int (h9.1 s 11)] h9) (fun h10 => mm_bI (mm_M mm_T0 d 110 [.ref s, .int x3, .int x2] h10) (fun v12 h11 => mm_bV (mm_M mm_T0 d 38 [.ref (t + 10), .int 14, .int v12] h11) (fun h13 => mm_bI (mm_M mm_T0 d 39 [.ref (t + 10), .int 2, .ref s] h13) (fun v15 h14 => if ¬ v15 = 1 then (some (some (.int 0), h14)) else (some (some (.int 1), h14))))))))))))) := by
  refine (mm_M_eq (ls := [.ref t, .ref s, .int x2, .int x3]) rfl (Nat.le_of_ble_eq_true rfl) rfl h).trans ?_
  refine (mm_by 1 (pc' := 1) (ls' := [.ref t, .ref s, .int x2, .int x3]) (st' := [.ref t]) (h' := h) rfl).trans ?_
  refine (mm_go (pc' := 4) (ls' := [.ref t, .ref s, .int x2, .int x3]) (st' := [.ref (t + 10)]) (h' := h) rfl (q_get (isT_0 ht))).trans ?_
  refine (mm_by 3 (pc' := 7) (ls' := [.ref t, .ref s, .int x2, .int x3]) (st' := [.int x3, .ref s, .int 3, .ref (t + 10)]) (h' := h) rfl).trans ?_
  refine (mm_c1 (y := 107) (as := [.ref s, .int x3]) (nx := 10) (rest := [.int 3, .ref (t + 10)]) rfl (if_pos ⟨(isS_0 hs), Nat.le_of_ble_eq_true rfl⟩)).trans (mm_congI fun v2 h1 => ?_)
  refine (mm_c0 (y := 38) (as := [.ref (t + 10), .int 3, .int v2]) (nx := 13) (rest := []) rfl (if_pos ⟨(isT_10 ht), Nat.le_of_ble_eq_true rfl⟩)).trans (mm_congV fun h3 => ?_)
  refine (mm_by 1 (pc' := 14) (ls' := [.ref t, .ref s, .int x2, .int x3]) (st' := [.ref t]) (h' := h3) rfl).trans ?_
  refine (mm_go (pc' := 17) (ls' := [.ref t, .ref s, .int x2, .int x3]) (st' := [.ref (t + 10)]) (h' := h3) rfl (q_get (isT_0 ht))).trans ?_
  refine (mm_by 3 (pc' := 20) (ls' := [.ref t, .ref s, .int x2, .int x3]) (st' := [.int x2, .ref s, .int 4, .ref (t + 10)]) (h' := h3) rfl).trans ?_
  refine (mm_c1 (y := 108) (as := [.ref s, .int x2]) (nx := 23) (rest := [.int 4, .ref (t + 10)]) rfl (if_pos ⟨(isS_0 hs), Nat.le_of_ble_eq_true rfl⟩)).trans (mm_congI fun v5 h4 => ?_)
  refine (mm_c0 (y := 38) (as := [.ref (t + 10), .int 4, .int v5]) (nx := 26) (rest := []) rfl (if_pos ⟨(isT_10 ht), Nat.le_of_ble_eq_true rfl⟩)).trans (mm_congV fun h6 => ?_)
  refine (mm_by 1 (pc' := 27) (ls' := [.ref t, .ref s, .int x2, .int x3]) (st' := [.ref t]) (h' := h6) rfl).trans ?_
  refine (mm_go (pc' := 30) (ls' := [.ref t, .ref s, .int x2, .int x3]) (st' := [.ref (t + 10)]) (h' := h6) rfl (q_get (isT_0 ht))).trans ?_
  refine (mm_by 4 (pc' := 34) (ls' := [.ref t, .ref s, .int x2, .int x3]) (st' := [.int x3, .int x2, .ref s, .int 5, .ref (t + 10)]) (h' := h6) rfl).trans ?_
  refine (mm_c1 (y := 110) (as := [.ref s, .int x2, .int x3]) (nx := 37) (rest := [.int 5, .ref (t + 10)]) rfl (if_pos ⟨(isS_0 hs), Nat.le_of_ble_eq_true rfl⟩)).trans (mm_congI fun v8 h7 => ?_)
  refine (mm_c0 (y := 38) (as := [.ref (t + 10), .int 5, .int v8]) (nx := 40) (rest := []) rfl (if_pos ⟨(isT_10 ht), Nat.le_of_ble_eq_true rfl⟩)).trans (mm_congV fun h9 => ?_)
  refine (mm_by 1 (pc' := 41) (ls' := [.ref t, .ref s, .int x2, .int x3]) (st' := [.ref t]) (h' := h9) rfl).trans ?_
  refine (mm_go (pc' := 44) (ls' := [.ref t, .ref s, .int x2, .int x3]) (st' := [.ref (t + 10)]) (h' := h9) rfl (q_get (isT_0 ht))).trans ?_
  refine (mm_by 2 (pc' := 47) (ls' := [.ref t, .ref s, .int x2, .int x3]) (st' := [.ref s, .int 15, .ref (t + 10)]) (h' := h9) rfl).trans ?_
  refine (mm_go (pc' := 50) (ls' := [.ref t, .ref s, .int x2, .int x3]) (st' := [.int (h9.1 s 11), .int 15, .ref (t + 10)]) (h' := h9) rfl (q_get (isS_0 hs))).trans ?_
  refine (mm_c0 (y := 38) (as := [.ref (t + 10), .int 15, .int (h9.1 s 11)]) (nx := 53) (rest := []) rfl (if_pos ⟨(isT_10 ht), Nat.le_of_ble_eq_true rfl⟩)).trans (mm_congV fun h10 => ?_)
  refine (mm_by 1 (pc' := 54) (ls' := [.ref t, .ref s, .int x2, .int x3]) (st' := [.ref t]) (h' := h10) rfl).trans ?_
  refine (mm_go (pc' := 57) (ls' := [.ref t, .ref s, .int x2, .int x3]) (st' := [.ref (t + 10)]) (h' := h10) rfl (q_get (isT_0 ht))).trans ?_
  refine (mm_by 4 (pc' := 62) (ls' := [.ref t, .ref s, .int x2, .int x3]) (st' := [.int x2, .int x3, .ref s, .int 14, .ref (t + 10)]) (h' := h10) rfl).trans ?_
  refine (mm_c1 (y := 110) (as := [.ref s, .int x3, .int x2]) (nx := 65) (rest := [.int 14, .ref (t + 10)]) rfl (if_pos ⟨(isS_0 hs), Nat.le_of_ble_eq_true rfl⟩)).trans (mm_congI fun v12 h11 => ?_)
  refine (mm_c0 (y := 38) (as := [.ref (t + 10), .int 14, .int v12]) (nx := 68) (rest := []) rfl (if_pos ⟨(isT_10 ht), Nat.le_of_ble_eq_true rfl⟩)).trans (mm_congV fun h13 => ?_)
  refine (mm_by 1 (pc' := 69) (ls' := [.ref t, .ref s, .int x2, .int x3]) (st' := [.ref t]) (h' := h13) rfl).trans ?_
  refine (mm_go (pc' := 72) (ls' := [.ref t, .ref s, .int x2, .int x3]) (st' := [.ref (t + 10)]) (h' := h13) rfl (q_get (isT_0 ht))).trans ?_
  refine (mm_by 2 (pc' := 74) (ls' := [.ref t, .ref s, .int x2, .int x3]) (st' := [.ref s, .int 2, .ref (t + 10)]) (h' := h13) rfl).trans ?_
  refine (mm_c1 (y := 39) (as := [.ref (t + 10), .int 2, .ref s]) (nx := 77) (rest := []) rfl (if_pos ⟨(isT_10 ht), Nat.le_of_ble_eq_true rfl⟩)).trans (mm_congI fun v15 h14 => ?_)
  refine (mm_by 1 (pc' := 78) (ls' := [.ref t, .ref s, .int x2, .int x3]) (st' := [.int 1, .int v15]) (h' := h14) rfl).trans ?_
  refine (mm_br (c := ¬ v15 = 1) (p1 := 85) (p2 := 81) (l1 := [.ref t, .ref s, .int x2, .int x3]) (l2 := [.ref t, .ref s, .int x2, .int x3]) (s1 := []) (s2 := []) (h1 := h14) (h2 := h14) rfl rfl).trans (mm_ite ?_ ?_)
  · exact mm_by_end 2 rfl
  · exact mm_by_end 3 rfl
set_option maxRecDepth 100000 in
set_option maxHeartbeats 4000000 in
theorem U_X10_feudBits {d : Nat} {t : Nat} {s : Nat} {h : mm_H} (ht : mm_isT t) (hs : mm_isS s) : mm_M mm_T0 (d + 1) 147 [.ref t, .ref s] h = (mm_D (mm_M mm_T0 d) cd_X10_feudBits 4 [.ref t, .ref s, .int 0, .int 0, .null, .null] [] h) := by
  refine (mm_M_eq (ls := [.ref t, .ref s, .null, .null, .null, .null]) rfl (Nat.le_of_ble_eq_true rfl) rfl h).trans ?_
  exact mm_by 4 rfl
set_option maxRecDepth 100000 in
set_option maxHeartbeats 4000000 in
theorem U_X10_feudBits_4 {d : Nat} {t : Nat} {s : Nat} {x2 : Int32} {x3 : Int32} {h : mm_H} (ht : mm_isT t) (hs : mm_isS s) : mm_D (mm_M mm_T0 d) cd_X10_feudBits 4 [.ref t, .ref s, .int x2, .int x3, .null, .null] [] h = (if (h.1 s 9) ≤ x3 then (some (some (.int x2), h)) else (mm_bI (mm_M mm_T0 d 104 [.ref s, .int x3] h) (fun v2 h1 => mm_bI (mm_M mm_T0 d 111 [.ref s, .int v2, .int 1] h1) (fun v4 h3 => if v4 = ((-1)) then (mm_D (mm_M mm_T0 d) cd_X10_feudBits 4 [.ref t, .ref s, .int x2, .int (x3 + 1), .null, .null] [] h3) else (mm_bI (mm_M mm_T0 d 146 [.ref t, .ref s, .int v2, .int v4] h3) (fun v6 h5 => if v6 = 0 then (mm_D (mm_M mm_T0 d) cd_X10_feudBits 4 [.ref t, .ref s, .int x2, .int (x3 + 1), .null, .null] [] h5) else (mm_D (mm_M mm_T0 d) cd_X10_feudBits 4 [.ref t, .ref s, .int (x2 ||| ((1 : Int32) <<< (x3 &&& 31))), .int (x3 + 1), .null, .null] [] h5))))))) := by
  refine (mm_by 2 (pc' := 6) (ls' := [.ref t, .ref s, .int x2, .int x3, .null, .null]) (st' := [.ref s, .int x3]) (h' := h) rfl).trans ?_
  refine (mm_go (pc' := 9) (ls' := [.ref t, .ref s, .int x2, .int x3, .null, .null]) (st' := [.int (h.1 s 9), .int x3]) (h' := h) rfl (q_get (isS_0 hs))).trans ?_
  refine (mm_br (c := (h.1 s 9) ≤ x3) (p1 := 58) (p2 := 12) (l1 := [.ref t, .ref s, .int x2, .int x3, .null, .null]) (l2 := [.ref t, .ref s, .int x2, .int x3, .null, .null]) (s1 := []) (s2 := []) (h1 := h) (h2 := h) rfl rfl).trans (mm_ite ?_ ?_)
  · exact mm_by_end 2 rfl
  · refine (mm_by 2 (pc' := 14) (ls' := [.ref t, .ref s, .int x2, .int x3, .null, .null]) (st' := [.int x3, .ref s]) (h' := h) rfl).trans ?_
    refine (mm_c1 (y := 104) (as := [.ref s, .int x3]) (nx := 17) (rest := []) rfl (if_pos ⟨(isS_0 hs), Nat.le_of_ble_eq_true rfl⟩)).trans (mm_congI fun v2 h1 => ?_)
    refine (mm_by 4 (pc' := 23) (ls' := [.ref t, .ref s, .int x2, .int x3, .int v2, .null]) (st' := [.int 1, .int v2, .ref s]) (h' := h1) rfl).trans ?_
    refine (mm_c1 (y := 111) (as := [.ref s, .int v2, .int 1]) (nx := 26) (rest := []) rfl (if_pos ⟨(isS_0 hs), Nat.le_of_ble_eq_true rfl⟩)).trans (mm_congI fun v4 h3 => ?_)
    refine (mm_by 3 (pc' := 31) (ls' := [.ref t, .ref s, .int x2, .int x3, .int v2, .int v4]) (st' := [.int ((-1)), .int v4]) (h' := h3) rfl).trans ?_
    refine (mm_br (c := v4 = ((-1))) (p1 := 52) (p2 := 34) (l1 := [.ref t, .ref s, .int x2, .int x3, .int v2, .int v4]) (l2 := [.ref t, .ref s, .int x2, .int x3, .int v2, .int v4]) (s1 := []) (s2 := []) (h1 := h3) (h2 := h3) rfl rfl).trans (mm_ite ?_ ?_)
    · exact mm_by 2 rfl
    · refine (mm_by 4 (pc' := 40) (ls' := [.ref t, .ref s, .int x2, .int x3, .int v2, .int v4]) (st' := [.int v4, .int v2, .ref s, .ref t]) (h' := h3) rfl).trans ?_
      refine (mm_c1 (y := 146) (as := [.ref t, .ref s, .int v2, .int v4]) (nx := 43) (rest := []) rfl (if_pos ⟨(isT_0 ht), Nat.le_of_ble_eq_true rfl⟩)).trans (mm_congI fun v6 h5 => ?_)
      refine (mm_br (c := v6 = 0) (p1 := 52) (p2 := 46) (l1 := [.ref t, .ref s, .int x2, .int x3, .int v2, .int v4]) (l2 := [.ref t, .ref s, .int x2, .int x3, .int v2, .int v4]) (s1 := []) (s2 := []) (h1 := h5) (h2 := h5) rfl rfl).trans (mm_ite ?_ ?_)
      · exact mm_by 2 rfl
      · exact mm_by 8 rfl
set_option maxRecDepth 100000 in
set_option maxHeartbeats 4000000 in
theorem U_X11_feed {d : Nat} {x1 : Int32} {x2 : Int32} {x3 : Int32} {x4 : Int32} {x5 : Int32} {h : mm_H} : mm_M mm_T0 (d + 1) 148 [.ref 0, .int x1, .int x2, .int x3, .int x4, .int x5] h = (mm_bI (mm_M mm_T0 d 125 [.ref 1] h) (fun v2 h1 => if (v2 + 20) ≤ 1600 then (mm_bV (mm_M mm_T0 d 127 [.ref 1, .int x1] h1) (fun h3 => mm_bV (mm_M mm_T0 d 127 [.ref 1, .int x2] h3) (fun h4 => mm_bV (mm_M mm_T0 d 127 [.ref 1, .int x3] h4) (fun h5 => mm_bV (mm_M mm_T0 d 127 [.ref 1, .int x4] h5) (fun h6 => mm_bV (mm_M mm_T0 d 127 [.ref 1, .int x5] h6) (fun h7 => mm_bI (mm_M mm_T0 d 125 [.ref 1] h7) (fun v9 h8 => some (some (.int v9), h8)))))))) else (mm_bI (mm_M mm_T0 d 183 [.ref 0, .int 0] h1) (fun v11 h10 => some (some (.int v11), h10))))) := by
  refine (mm_M_eq (ls := [.ref 0, .int x1, .int x2, .int x3, .int x4, .int x5]) rfl (Nat.le_of_ble_eq_true rfl) rfl h).trans ?_
  refine (mm_by 2 (pc' := 4) (ls' := [.ref 0, .int x1, .int x2, .int x3, .int x4, .int x5]) (st' := [.ref 1]) (h' := h) rfl).trans ?_
  refine (mm_c1 (y := 125) (as := [.ref 1]) (nx := 7) (rest := []) rfl rfl).trans (mm_congI fun v2 h1 => ?_)
  refine (mm_by 3 (pc' := 13) (ls' := [.ref 0, .int x1, .int x2, .int x3, .int x4, .int x5]) (st' := [.int 1600, .int (v2 + 20)]) (h' := h1) rfl).trans ?_
  refine (mm_br (c := (v2 + 20) ≤ 1600) (p1 := 22) (p2 := 16) (l1 := [.ref 0, .int x1, .int x2, .int x3, .int x4, .int x5]) (l2 := [.ref 0, .int x1, .int x2, .int x3, .int x4, .int x5]) (s1 := []) (s2 := []) (h1 := h1) (h2 := h1) rfl rfl).trans (mm_ite ?_ ?_)
  · refine (mm_by 3 (pc' := 27) (ls' := [.ref 0, .int x1, .int x2, .int x3, .int x4, .int x5]) (st' := [.int x1, .ref 1]) (h' := h1) rfl).trans ?_
    refine (mm_c0 (y := 127) (as := [.ref 1, .int x1]) (nx := 30) (rest := []) rfl rfl).trans (mm_congV fun h3 => ?_)
    refine (mm_by 3 (pc' := 35) (ls' := [.ref 0, .int x1, .int x2, .int x3, .int x4, .int x5]) (st' := [.int x2, .ref 1]) (h' := h3) rfl).trans ?_
    refine (mm_c0 (y := 127) (as := [.ref 1, .int x2]) (nx := 38) (rest := []) rfl rfl).trans (mm_congV fun h4 => ?_)
    refine (mm_by 3 (pc' := 43) (ls' := [.ref 0, .int x1, .int x2, .int x3, .int x4, .int x5]) (st' := [.int x3, .ref 1]) (h' := h4) rfl).trans ?_
    refine (mm_c0 (y := 127) (as := [.ref 1, .int x3]) (nx := 46) (rest := []) rfl rfl).trans (mm_congV fun h5 => ?_)
    refine (mm_by 3 (pc' := 52) (ls' := [.ref 0, .int x1, .int x2, .int x3, .int x4, .int x5]) (st' := [.int x4, .ref 1]) (h' := h5) rfl).trans ?_
    refine (mm_c0 (y := 127) (as := [.ref 1, .int x4]) (nx := 55) (rest := []) rfl rfl).trans (mm_congV fun h6 => ?_)
    refine (mm_by 3 (pc' := 61) (ls' := [.ref 0, .int x1, .int x2, .int x3, .int x4, .int x5]) (st' := [.int x5, .ref 1]) (h' := h6) rfl).trans ?_
    refine (mm_c0 (y := 127) (as := [.ref 1, .int x5]) (nx := 64) (rest := []) rfl rfl).trans (mm_congV fun h7 => ?_)
    refine (mm_by 2 (pc' := 68) (ls' := [.ref 0, .int x1, .int x2, .int x3, .int x4, .int x5]) (st' := [.ref 1]) (h' := h7) rfl).trans ?_
    refine (mm_c1 (y := 125) (as := [.ref 1]) (nx := 71) (rest := []) rfl rfl).trans (mm_congI fun v9 h8 => ?_)
    exact mm_by_end 1 rfl
  · refine (mm_by 2 (pc' := 18) (ls' := [.ref 0, .int x1, .int x2, .int x3, .int x4, .int x5]) (st' := [.int 0, .ref 0]) (h' := h1) rfl).trans ?_
    refine (mm_c1 (y := 183) (as := [.ref 0, .int 0]) (nx := 21) (rest := []) rfl rfl).trans (mm_congI fun v11 h10 => ?_)
    exact mm_by_end 1 rfl
set_option maxRecDepth 100000 in
set_option maxHeartbeats 4000000 in
theorem U_X11_end {d : Nat} {x1 : Int32} {h : mm_H} : mm_M mm_T0 (d + 1) 149 [.ref 0, .int x1] h = (if x1 < 0 then (mm_bI (mm_M mm_T0 d 183 [.ref 0, .int 0] h) (fun v2 h1 => some (some (.int 0), h1))) else (mm_bI (mm_M mm_T0 d 125 [.ref 1] h) (fun v4 h3 => if x1 ≤ v4 then (mm_bV (mm_M mm_T0 d 128 [.ref 1, .int x1] h3) (fun h5 => some (some (.int 1), h5))) else (mm_bI (mm_M mm_T0 d 183 [.ref 0, .int 0] h3) (fun v7 h6 => some (some (.int 0), h6)))))) := by
  refine (mm_M_eq (ls := [.ref 0, .int x1]) rfl (Nat.le_of_ble_eq_true rfl) rfl h).trans ?_
  refine (mm_by 1 (pc' := 1) (ls' := [.ref 0, .int x1]) (st' := [.int x1]) (h' := h) rfl).trans ?_
  refine (mm_br (c := x1 < 0) (p1 := 15) (p2 := 4) (l1 := [.ref 0, .int x1]) (l2 := [.ref 0, .int x1]) (s1 := []) (s2 := []) (h1 := h) (h2 := h) rfl rfl).trans (mm_ite ?_ ?_)
  · refine (mm_by 2 (pc' := 17) (ls' := [.ref 0, .int x1]) (st' := [.int 0, .ref 0]) (h' := h) rfl).trans ?_
    refine (mm_c1 (y := 183) (as := [.ref 0, .int 0]) (nx := 20) (rest := []) rfl rfl).trans (mm_congI fun v2 h1 => ?_)
    exact mm_by_end 3 rfl
  · refine (mm_by 3 (pc' := 9) (ls' := [.ref 0, .int x1]) (st' := [.ref 1, .int x1]) (h' := h) rfl).trans ?_
    refine (mm_c1 (y := 125) (as := [.ref 1]) (nx := 12) (rest := [.int x1]) rfl rfl).trans (mm_congI fun v4 h3 => ?_)
    refine (mm_br (c := x1 ≤ v4) (p1 := 23) (p2 := 15) (l1 := [.ref 0, .int x1]) (l2 := [.ref 0, .int x1]) (s1 := []) (s2 := []) (h1 := h3) (h2 := h3) rfl rfl).trans (mm_ite ?_ ?_)
    · refine (mm_by 3 (pc' := 28) (ls' := [.ref 0, .int x1]) (st' := [.int x1, .ref 1]) (h' := h3) rfl).trans ?_
      refine (mm_c0 (y := 128) (as := [.ref 1, .int x1]) (nx := 31) (rest := []) rfl rfl).trans (mm_congV fun h5 => ?_)
      exact mm_by_end 2 rfl
    · refine (mm_by 2 (pc' := 17) (ls' := [.ref 0, .int x1]) (st' := [.int 0, .ref 0]) (h' := h3) rfl).trans ?_
      refine (mm_c1 (y := 183) (as := [.ref 0, .int 0]) (nx := 20) (rest := []) rfl rfl).trans (mm_congI fun v7 h6 => ?_)
      exact mm_by_end 3 rfl
set_option maxRecDepth 100000 in
set_option maxHeartbeats 4000000 in
theorem U_X11_terrace {d : Nat} {h : mm_H} : mm_M mm_T0 (d + 1) 150 [.ref 0] h = (mm_bI (mm_M mm_T0 d 129 [.ref 12, .ref (h.2.2 0 11)] h) (fun v2 h1 => mm_bV (mm_M mm_T0 d 128 [.ref 1, .int 0] h1) (fun h3 => if ¬ v2 = 0 then (if mm_sh ((wR (wR h3 0 10 (h3.2.2 0 11)) 0 11 (h3.2.2 0 10)).2.2 0 10) = (0, 10) then (mm_bV (mm_M mm_T0 d 100 [.ref 13, .ref (((wR (wR h3 0 10 (h3.2.2 0 11)) 0 11 (h3.2.2 0 10)).2.2 0 10) + 1)] (wR (wR h3 0 10 (h3.2.2 0 11)) 0 11 (h3.2.2 0 10))) (fun h4 => mm_bV (mm_M mm_T0 d 61 [.ref 22] h4) (fun h5 => mm_bV (mm_M mm_T0 d 14 [.ref 204] h5) (fun h6 => if mm_sh ((wI h6 0 12 1).2.2 0 10) = (0, 10) then (some (some (.int ((wI h6 0 12 1).1 ((wI h6 0 12 1).2.2 0 10) 4)), wI h6 0 12 1)) else none)))) else none) else (mm_bI (mm_M mm_T0 d 183 [.ref 0, .int 1] h3) (fun v8 h7 => some (some (.int v8), h7)))))) := by
  refine (mm_M_eq (ls := [.ref 0, .null, .null]) rfl (Nat.le_of_ble_eq_true rfl) rfl h).trans ?_
  refine (mm_by 4 (pc' := 8) (ls' := [.ref 0, .null, .null]) (st' := [.ref (h.2.2 0 11), .ref 12]) (h' := h) rfl).trans ?_
  refine (mm_c1 (y := 129) (as := [.ref 12, .ref (h.2.2 0 11)]) (nx := 11) (rest := []) rfl rfl).trans (mm_congI fun v2 h1 => ?_)
  refine (mm_by 4 (pc' := 17) (ls' := [.ref 0, .int v2, .null]) (st' := [.int 0, .ref 1]) (h' := h1) rfl).trans ?_
  refine (mm_c0 (y := 128) (as := [.ref 1, .int 0]) (nx := 20) (rest := []) rfl rfl).trans (mm_congV fun h3 => ?_)
  refine (mm_by 1 (pc' := 21) (ls' := [.ref 0, .int v2, .null]) (st' := [.int v2]) (h' := h3) rfl).trans ?_
  refine (mm_br (c := ¬ v2 = 0) (p1 := 30) (p2 := 24) (l1 := [.ref 0, .int v2, .null]) (l2 := [.ref 0, .int v2, .null]) (s1 := []) (s2 := []) (h1 := h3) (h2 := h3) rfl rfl).trans (mm_ite ?_ ?_)
  · refine (mm_by 14 (pc' := 56) (ls' := [.ref 0, .int v2, .ref (h3.2.2 0 10)]) (st' := [.ref ((wR (wR h3 0 10 (h3.2.2 0 11)) 0 11 (h3.2.2 0 10)).2.2 0 10), .ref 13]) (h' := wR (wR h3 0 10 (h3.2.2 0 11)) 0 11 (h3.2.2 0 10)) rfl).trans ?_
    refine (mm_ok (c := mm_sh ((wR (wR h3 0 10 (h3.2.2 0 11)) 0 11 (h3.2.2 0 10)).2.2 0 10) = (0, 10)) (p1 := 59) (l1 := [.ref 0, .int v2, .ref (h3.2.2 0 10)]) (s1 := [.ref (((wR (wR h3 0 10 (h3.2.2 0 11)) 0 11 (h3.2.2 0 10)).2.2 0 10) + 1), .ref 13]) (h1 := wR (wR h3 0 10 (h3.2.2 0 11)) 0 11 (h3.2.2 0 10)) rfl rfl).trans (mm_ite ?_ rfl)
    refine (mm_c0 (y := 100) (as := [.ref 13, .ref (((wR (wR h3 0 10 (h3.2.2 0 11)) 0 11 (h3.2.2 0 10)).2.2 0 10) + 1)]) (nx := 62) (rest := []) rfl rfl).trans (mm_congV fun h4 => ?_)
    refine (mm_by 2 (pc' := 66) (ls' := [.ref 0, .int v2, .ref (h3.2.2 0 10)]) (st' := [.ref 22]) (h' := h4) rfl).trans ?_
    refine (mm_c0 (y := 61) (as := [.ref 22]) (nx := 69) (rest := []) rfl rfl).trans (mm_congV fun h5 => ?_)
    refine (mm_by 2 (pc' := 73) (ls' := [.ref 0, .int v2, .ref (h3.2.2 0 10)]) (st' := [.ref 204]) (h' := h5) rfl).trans ?_
    refine (mm_c0 (y := 14) (as := [.ref 204]) (nx := 76) (rest := []) rfl rfl).trans (mm_congV fun h6 => ?_)
    refine (mm_by 5 (pc' := 85) (ls' := [.ref 0, .int v2, .ref (h3.2.2 0 10)]) (st' := [.ref ((wI h6 0 12 1).2.2 0 10)]) (h' := wI h6 0 12 1) rfl).trans ?_
    refine (mm_ok (c := mm_sh ((wI h6 0 12 1).2.2 0 10) = (0, 10)) (p1 := 88) (l1 := [.ref 0, .int v2, .ref (h3.2.2 0 10)]) (s1 := [.int ((wI h6 0 12 1).1 ((wI h6 0 12 1).2.2 0 10) 4)]) (h1 := wI h6 0 12 1) rfl rfl).trans (mm_ite ?_ rfl)
    exact mm_by_end 1 rfl
  · refine (mm_by 2 (pc' := 26) (ls' := [.ref 0, .int v2, .null]) (st' := [.int 1, .ref 0]) (h' := h3) rfl).trans ?_
    refine (mm_c1 (y := 183) (as := [.ref 0, .int 1]) (nx := 29) (rest := []) rfl rfl).trans (mm_congI fun v8 h7 => ?_)
    exact mm_by_end 1 rfl
set_option maxRecDepth 100000 in
set_option maxHeartbeats 4000000 in
theorem U_X11_fault {d : Nat} {x1 : Int32} {h : mm_H} : mm_M mm_T0 (d + 1) 151 [.ref 0, .int x1] h = (if x1 = 0 then (some (some (.int (h.1 3 5)), h)) else (if x1 = 1 then (some (some (.int (h.1 3 6)), h)) else (some (some (.int ((-1))), h)))) := by
  refine (mm_M_eq (ls := [.ref 0, .int x1]) rfl (Nat.le_of_ble_eq_true rfl) rfl h).trans ?_
  refine (mm_by 1 (pc' := 1) (ls' := [.ref 0, .int x1]) (st' := [.int x1]) (h' := h) rfl).trans ?_
  refine (mm_go (pc' := mm_sw [(0, 28), (1, 36)] 44 x1) (ls' := [.ref 0, .int x1]) (st' := []) (h' := h) rfl rfl).trans ?_
  refine mm_sw_c.trans (mm_ite ?_ ?_)
  · exact mm_by_end 4 rfl
  · refine mm_sw_c.trans (mm_ite ?_ ?_)
    · exact mm_by_end 4 rfl
    · refine Eq.trans (show mm_D _ _ (mm_sw [] 44 x1) _ _ _ = mm_D _ _ 44 _ _ _ from rfl) ?_
      exact mm_by_end 2 rfl
set_option maxRecDepth 100000 in
set_option maxHeartbeats 4000000 in
theorem U_X11_has {d : Nat} {x1 : Int32} {h : mm_H} : mm_M mm_T0 (d + 1) 152 [.ref 0, .int x1] h = (if x1 = 0 then (some (some (.int (h.1 13 9)), h)) else (if x1 = 1 then (some (some (.int (h.1 13 10)), h)) else (if x1 = 2 then (some (some (.int (h.1 13 11)), h)) else (if x1 = 3 then (mm_bI (mm_M mm_T0 d 122 [.ref 13] h) (fun v2 h1 => some (some (.int v2), h1))) else (if x1 = 4 then (mm_bI (mm_M mm_T0 d 123 [.ref 13] h) (fun v4 h3 => some (some (.int v4), h3))) else (if x1 = 5 then (if mm_sh (h.2.2 0 10) = (0, 10) then (mm_bI (mm_M mm_T0 d 147 [.ref (h.2.2 0 10), .ref 13] h) (fun v6 h5 => mm_bI (mm_M mm_T0 d 6 [.int v6] h5) (fun v8 h7 => some (some (.int v8), h7)))) else none) else (if x1 = 6 then (mm_bI (mm_M mm_T0 d 124 [.ref 13] h) (fun v10 h9 => some (some (.int v10), h9))) else (if x1 = 7 then (mm_bI (mm_M mm_T0 d 120 [.ref 13] h) (fun v12 h11 => some (some (.int v12), h11))) else (if x1 = 8 then (mm_bI (mm_M mm_T0 d 13 [.ref 204] h) (fun v14 h13 => some (some (.int v14), h13))) else (if x1 = 9 then (mm_bI (mm_M mm_T0 d 60 [.ref 22] h) (fun v16 h15 => some (some (.int v16), h15))) else (some (some (.int ((-1))), h)))))))))))) := by
  refine (mm_M_eq (ls := [.ref 0, .int x1]) rfl (Nat.le_of_ble_eq_true rfl) rfl h).trans ?_
  refine (mm_by 1 (pc' := 1) (ls' := [.ref 0, .int x1]) (st' := [.int x1]) (h' := h) rfl).trans ?_
  refine (mm_go (pc' := mm_sw [(0, 56), (1, 64), (2, 72), (3, 80), (4, 88), (5, 96), (6, 111), (7, 119), (8, 127), (9, 135)] 143 x1) (ls' := [.ref 0, .int x1]) (st' := []) (h' := h) rfl rfl).trans ?_
  refine mm_sw_c.trans (mm_ite ?_ ?_)
  · exact mm_by_end 4 rfl
  · refine mm_sw_c.trans (mm_ite ?_ ?_)
    · exact mm_by_end 4 rfl
    · refine mm_sw_c.trans (mm_ite ?_ ?_)
      · exact mm_by_end 4 rfl
      · refine mm_sw_c.trans (mm_ite ?_ ?_)
        · refine (mm_by 2 (pc' := 84) (ls' := [.ref 0, .int x1]) (st' := [.ref 13]) (h' := h) rfl).trans ?_
          refine (mm_c1 (y := 122) (as := [.ref 13]) (nx := 87) (rest := []) rfl rfl).trans (mm_congI fun v2 h1 => ?_)
          exact mm_by_end 1 rfl
        · refine mm_sw_c.trans (mm_ite ?_ ?_)
          · refine (mm_by 2 (pc' := 92) (ls' := [.ref 0, .int x1]) (st' := [.ref 13]) (h' := h) rfl).trans ?_
            refine (mm_c1 (y := 123) (as := [.ref 13]) (nx := 95) (rest := []) rfl rfl).trans (mm_congI fun v4 h3 => ?_)
            exact mm_by_end 1 rfl
          · refine mm_sw_c.trans (mm_ite ?_ ?_)
            · refine (mm_by 4 (pc' := 104) (ls' := [.ref 0, .int x1]) (st' := [.ref 13, .ref (h.2.2 0 10)]) (h' := h) rfl).trans ?_
              refine (mm_d1 (b := h.2.2 0 10) (ci := 10) (y := 147) (as := [.ref (h.2.2 0 10), .ref 13]) (nx := 107) (rest := []) rfl rfl (Nat.le_of_ble_eq_true rfl)).trans (mm_ite (mm_congI fun v6 h5 => ?_) rfl)
              refine (mm_c1 (y := 6) (as := [.int v6]) (nx := 110) (rest := []) rfl rfl).trans (mm_congI fun v8 h7 => ?_)
              exact mm_by_end 1 rfl
            · refine mm_sw_c.trans (mm_ite ?_ ?_)
              · refine (mm_by 2 (pc' := 115) (ls' := [.ref 0, .int x1]) (st' := [.ref 13]) (h' := h) rfl).trans ?_
                refine (mm_c1 (y := 124) (as := [.ref 13]) (nx := 118) (rest := []) rfl rfl).trans (mm_congI fun v10 h9 => ?_)
                exact mm_by_end 1 rfl
              · refine mm_sw_c.trans (mm_ite ?_ ?_)
                · refine (mm_by 2 (pc' := 123) (ls' := [.ref 0, .int x1]) (st' := [.ref 13]) (h' := h) rfl).trans ?_
                  refine (mm_c1 (y := 120) (as := [.ref 13]) (nx := 126) (rest := []) rfl rfl).trans (mm_congI fun v12 h11 => ?_)
                  exact mm_by_end 1 rfl
                · refine mm_sw_c.trans (mm_ite ?_ ?_)
                  · refine (mm_by 2 (pc' := 131) (ls' := [.ref 0, .int x1]) (st' := [.ref 204]) (h' := h) rfl).trans ?_
                    refine (mm_c1 (y := 13) (as := [.ref 204]) (nx := 134) (rest := []) rfl rfl).trans (mm_congI fun v14 h13 => ?_)
                    exact mm_by_end 1 rfl
                  · refine mm_sw_c.trans (mm_ite ?_ ?_)
                    · refine (mm_by 2 (pc' := 139) (ls' := [.ref 0, .int x1]) (st' := [.ref 22]) (h' := h) rfl).trans ?_
                      refine (mm_c1 (y := 60) (as := [.ref 22]) (nx := 142) (rest := []) rfl rfl).trans (mm_congI fun v16 h15 => ?_)
                      exact mm_by_end 1 rfl
                    · refine Eq.trans (show mm_D _ _ (mm_sw [] 143 x1) _ _ _ = mm_D _ _ 143 _ _ _ from rfl) ?_
                      exact mm_by_end 2 rfl
set_option maxRecDepth 100000 in
set_option maxHeartbeats 4000000 in
theorem U_X11_letter {d : Nat} {x1 : Int32} {x2 : Int32} {h : mm_H} : mm_M mm_T0 (d + 1) 153 [.ref 0, .int x1, .int x2] h = (mm_bI (mm_M mm_T0 d 102 [.ref 13, .int x1] h) (fun v2 h1 => if v2 = 0 then (some (some (.int ((-1))), h1)) else (if mm_sh (h1.2.2 0 10) = (0, 10) then (mm_bI (mm_M mm_T0 d 139 [.ref (h1.2.2 0 10), .int x1, .int x2] h1) (fun v4 h3 => some (some (.int v4), h3))) else none))) := by
  refine (mm_M_eq (ls := [.ref 0, .int x1, .int x2]) rfl (Nat.le_of_ble_eq_true rfl) rfl h).trans ?_
  refine (mm_by 3 (pc' := 5) (ls' := [.ref 0, .int x1, .int x2]) (st' := [.int x1, .ref 13]) (h' := h) rfl).trans ?_
  refine (mm_c1 (y := 102) (as := [.ref 13, .int x1]) (nx := 8) (rest := []) rfl rfl).trans (mm_congI fun v2 h1 => ?_)
  refine (mm_br (c := v2 = 0) (p1 := 23) (p2 := 11) (l1 := [.ref 0, .int x1, .int x2]) (l2 := [.ref 0, .int x1, .int x2]) (s1 := []) (s2 := []) (h1 := h1) (h2 := h1) rfl rfl).trans (mm_ite ?_ ?_)
  · exact mm_by_end 2 rfl
  · refine (mm_by 4 (pc' := 17) (ls' := [.ref 0, .int x1, .int x2]) (st' := [.int x2, .int x1, .ref (h1.2.2 0 10)]) (h' := h1) rfl).trans ?_
    refine (mm_d1 (b := h1.2.2 0 10) (ci := 10) (y := 139) (as := [.ref (h1.2.2 0 10), .int x1, .int x2]) (nx := 20) (rest := []) rfl rfl (Nat.le_of_ble_eq_true rfl)).trans (mm_ite (mm_congI fun v4 h3 => ?_) rfl)
    exact mm_by_end 2 rfl
set_option maxRecDepth 100000 in
set_option maxHeartbeats 4000000 in
theorem U_X11_house {d : Nat} {x1 : Int32} {h : mm_H} : mm_M mm_T0 (d + 1) 154 [.ref 0, .int x1] h = (mm_bI (mm_M mm_T0 d 104 [.ref 13, .int x1] h) (fun v2 h1 => some (some (.int v2), h1))) := by
  refine (mm_M_eq (ls := [.ref 0, .int x1]) rfl (Nat.le_of_ble_eq_true rfl) rfl h).trans ?_
  refine (mm_by 3 (pc' := 5) (ls' := [.ref 0, .int x1]) (st' := [.int x1, .ref 13]) (h' := h) rfl).trans ?_
  refine (mm_c1 (y := 104) (as := [.ref 13, .int x1]) (nx := 8) (rest := []) rfl rfl).trans (mm_congI fun v2 h1 => ?_)
  exact mm_by_end 1 rfl
set_option maxRecDepth 100000 in
set_option maxHeartbeats 4000000 in
theorem U_X11_person {d : Nat} {x1 : Int32} {x2 : Int32} {h : mm_H} : mm_M mm_T0 (d + 1) 155 [.ref 0, .int x1, .int x2] h = (mm_bI (mm_M mm_T0 d 102 [.ref 13, .int x1] h) (fun v2 h1 => if ¬ v2 = 0 then (if x2 = 0 then (mm_bI (mm_M mm_T0 d 105 [.ref 13, .int x1] h1) (fun v4 h3 => some (some (.int v4), h3))) else (if x2 = 1 then (mm_bI (mm_M mm_T0 d 106 [.ref 13, .int x1] h1) (fun v6 h5 => some (some (.int v6), h5))) else (if x2 = 2 then (mm_bI (mm_M mm_T0 d 107 [.ref 13, .int x1] h1) (fun v8 h7 => some (some (.int v8), h7))) else (if x2 = 3 then (mm_bI (mm_M mm_T0 d 108 [.ref 13, .int x1] h1) (fun v10 h9 => some (some (.int v10), h9))) else (if x2 = 4 then (mm_bI (mm_M mm_T0 d 109 [.ref 13, .int x1] h1) (fun v12 h11 => some (some (.int v12), h11))) else (if x2 = 5 then (mm_bI (mm_M mm_T0 d 111 [.ref 13, .int x1, .int 0] h1) (fun v14 h13 => some (some (.int v14), h13))) else (if x2 = 6 then (mm_bI (mm_M mm_T0 d 111 [.ref 13, .int x1, .int 1] h1) (fun v16 h15 => some (some (.int v16), h15))) else (some (some (.int ((-1))), h1))))))))) else (some (some (.int ((-1))), h1)))) := by
  refine (mm_M_eq (ls := [.ref 0, .int x1, .int x2]) rfl (Nat.le_of_ble_eq_true rfl) rfl h).trans ?_
  refine (mm_by 3 (pc' := 5) (ls' := [.ref 0, .int x1, .int x2]) (st' := [.int x1, .ref 13]) (h' := h) rfl).trans ?_
  refine (mm_c1 (y := 102) (as := [.ref 13, .int x1]) (nx := 8) (rest := []) rfl rfl).trans (mm_congI fun v2 h1 => ?_)
  refine (mm_br (c := ¬ v2 = 0) (p1 := 13) (p2 := 11) (l1 := [.ref 0, .int x1, .int x2]) (l2 := [.ref 0, .int x1, .int x2]) (s1 := []) (s2 := []) (h1 := h1) (h2 := h1) rfl rfl).trans (mm_ite ?_ ?_)
  · refine (mm_by 1 (pc' := 14) (ls' := [.ref 0, .int x1, .int x2]) (st' := [.int x2]) (h' := h1) rfl).trans ?_
    refine (mm_go (pc' := mm_sw [(0, 56), (1, 65), (2, 74), (3, 83), (4, 92), (5, 101), (6, 111)] 121 x2) (ls' := [.ref 0, .int x1, .int x2]) (st' := []) (h' := h1) rfl rfl).trans ?_
    refine mm_sw_c.trans (mm_ite ?_ ?_)
    · refine (mm_by 3 (pc' := 61) (ls' := [.ref 0, .int x1, .int x2]) (st' := [.int x1, .ref 13]) (h' := h1) rfl).trans ?_
      refine (mm_c1 (y := 105) (as := [.ref 13, .int x1]) (nx := 64) (rest := []) rfl rfl).trans (mm_congI fun v4 h3 => ?_)
      exact mm_by_end 1 rfl
    · refine mm_sw_c.trans (mm_ite ?_ ?_)
      · refine (mm_by 3 (pc' := 70) (ls' := [.ref 0, .int x1, .int x2]) (st' := [.int x1, .ref 13]) (h' := h1) rfl).trans ?_
        refine (mm_c1 (y := 106) (as := [.ref 13, .int x1]) (nx := 73) (rest := []) rfl rfl).trans (mm_congI fun v6 h5 => ?_)
        exact mm_by_end 1 rfl
      · refine mm_sw_c.trans (mm_ite ?_ ?_)
        · refine (mm_by 3 (pc' := 79) (ls' := [.ref 0, .int x1, .int x2]) (st' := [.int x1, .ref 13]) (h' := h1) rfl).trans ?_
          refine (mm_c1 (y := 107) (as := [.ref 13, .int x1]) (nx := 82) (rest := []) rfl rfl).trans (mm_congI fun v8 h7 => ?_)
          exact mm_by_end 1 rfl
        · refine mm_sw_c.trans (mm_ite ?_ ?_)
          · refine (mm_by 3 (pc' := 88) (ls' := [.ref 0, .int x1, .int x2]) (st' := [.int x1, .ref 13]) (h' := h1) rfl).trans ?_
            refine (mm_c1 (y := 108) (as := [.ref 13, .int x1]) (nx := 91) (rest := []) rfl rfl).trans (mm_congI fun v10 h9 => ?_)
            exact mm_by_end 1 rfl
          · refine mm_sw_c.trans (mm_ite ?_ ?_)
            · refine (mm_by 3 (pc' := 97) (ls' := [.ref 0, .int x1, .int x2]) (st' := [.int x1, .ref 13]) (h' := h1) rfl).trans ?_
              refine (mm_c1 (y := 109) (as := [.ref 13, .int x1]) (nx := 100) (rest := []) rfl rfl).trans (mm_congI fun v12 h11 => ?_)
              exact mm_by_end 1 rfl
            · refine mm_sw_c.trans (mm_ite ?_ ?_)
              · refine (mm_by 4 (pc' := 107) (ls' := [.ref 0, .int x1, .int x2]) (st' := [.int 0, .int x1, .ref 13]) (h' := h1) rfl).trans ?_
                refine (mm_c1 (y := 111) (as := [.ref 13, .int x1, .int 0]) (nx := 110) (rest := []) rfl rfl).trans (mm_congI fun v14 h13 => ?_)
                exact mm_by_end 1 rfl
              · refine mm_sw_c.trans (mm_ite ?_ ?_)
                · refine (mm_by 4 (pc' := 117) (ls' := [.ref 0, .int x1, .int x2]) (st' := [.int 1, .int x1, .ref 13]) (h' := h1) rfl).trans ?_
                  refine (mm_c1 (y := 111) (as := [.ref 13, .int x1, .int 1]) (nx := 120) (rest := []) rfl rfl).trans (mm_congI fun v16 h15 => ?_)
                  exact mm_by_end 1 rfl
                · refine Eq.trans (show mm_D _ _ (mm_sw [] 121 x2) _ _ _ = mm_D _ _ 121 _ _ _ from rfl) ?_
                  exact mm_by_end 2 rfl
  · exact mm_by_end 2 rfl
set_option maxRecDepth 100000 in
set_option maxHeartbeats 4000000 in
theorem U_X11_thinks {d : Nat} {x1 : Int32} {x2 : Int32} {h : mm_H} : mm_M mm_T0 (d + 1) 156 [.ref 0, .int x1, .int x2] h = (mm_bI (mm_M mm_T0 d 103 [.ref 13, .int x1, .int x2] h) (fun v2 h1 => if v2 = 0 then (some (some (.int ((-1))), h1)) else (mm_bI (mm_M mm_T0 d 110 [.ref 13, .int x1, .int x2] h1) (fun v4 h3 => some (some (.int v4), h3))))) := by
  refine (mm_M_eq (ls := [.ref 0, .int x1, .int x2]) rfl (Nat.le_of_ble_eq_true rfl) rfl h).trans ?_
  refine (mm_by 4 (pc' := 6) (ls' := [.ref 0, .int x1, .int x2]) (st' := [.int x2, .int x1, .ref 13]) (h' := h) rfl).trans ?_
  refine (mm_c1 (y := 103) (as := [.ref 13, .int x1, .int x2]) (nx := 9) (rest := []) rfl rfl).trans (mm_congI fun v2 h1 => ?_)
  refine (mm_br (c := v2 = 0) (p1 := 24) (p2 := 12) (l1 := [.ref 0, .int x1, .int x2]) (l2 := [.ref 0, .int x1, .int x2]) (s1 := []) (s2 := []) (h1 := h1) (h2 := h1) rfl rfl).trans (mm_ite ?_ ?_)
  · exact mm_by_end 2 rfl
  · refine (mm_by 4 (pc' := 18) (ls' := [.ref 0, .int x1, .int x2]) (st' := [.int x2, .int x1, .ref 13]) (h' := h1) rfl).trans ?_
    refine (mm_c1 (y := 110) (as := [.ref 13, .int x1, .int x2]) (nx := 21) (rest := []) rfl rfl).trans (mm_congI fun v4 h3 => ?_)
    exact mm_by_end 2 rfl
set_option maxRecDepth 100000 in
set_option maxHeartbeats 4000000 in
theorem U_X11_paints {d : Nat} {x1 : Int32} {x2 : Int32} {h : mm_H} : mm_M mm_T0 (d + 1) 157 [.ref 0, .int x1, .int x2] h = (mm_bI (mm_M mm_T0 d 111 [.ref 13, .int x1, .int x2] h) (fun v2 h1 => if ¬ v2 = ((-1)) then (if mm_sh (h1.2.2 0 10) = (0, 10) then (mm_bI (mm_M mm_T0 d 143 [.ref (h1.2.2 0 10), .ref 13, .int x1, .int v2, .int x2] h1) (fun v4 h3 => some (some (.int v4), h3))) else none) else (some (some (.int ((-1))), h1)))) := by
  refine (mm_M_eq (ls := [.ref 0, .int x1, .int x2, .null]) rfl (Nat.le_of_ble_eq_true rfl) rfl h).trans ?_
  refine (mm_by 4 (pc' := 6) (ls' := [.ref 0, .int x1, .int x2, .null]) (st' := [.int x2, .int x1, .ref 13]) (h' := h) rfl).trans ?_
  refine (mm_c1 (y := 111) (as := [.ref 13, .int x1, .int x2]) (nx := 9) (rest := []) rfl rfl).trans (mm_congI fun v2 h1 => ?_)
  refine (mm_by 3 (pc' := 12) (ls' := [.ref 0, .int x1, .int x2, .int v2]) (st' := [.int ((-1)), .int v2]) (h' := h1) rfl).trans ?_
  refine (mm_br (c := ¬ v2 = ((-1))) (p1 := 19) (p2 := 15) (l1 := [.ref 0, .int x1, .int x2, .int v2]) (l2 := [.ref 0, .int x1, .int x2, .int v2]) (s1 := []) (s2 := []) (h1 := h1) (h2 := h1) rfl rfl).trans (mm_ite ?_ ?_)
  · refine (mm_by 7 (pc' := 30) (ls' := [.ref 0, .int x1, .int x2, .int v2]) (st' := [.int x2, .int v2, .int x1, .ref 13, .ref (h1.2.2 0 10)]) (h' := h1) rfl).trans ?_
    refine (mm_d1 (b := h1.2.2 0 10) (ci := 10) (y := 143) (as := [.ref (h1.2.2 0 10), .ref 13, .int x1, .int v2, .int x2]) (nx := 33) (rest := []) rfl rfl (Nat.le_of_ble_eq_true rfl)).trans (mm_ite (mm_congI fun v4 h3 => ?_) rfl)
    exact mm_by_end 1 rfl
  · exact mm_by_end 3 rfl
set_option maxRecDepth 100000 in
set_option maxHeartbeats 4000000 in
theorem U_X11_feud {d : Nat} {x1 : Int32} {h : mm_H} : mm_M mm_T0 (d + 1) 158 [.ref 0, .int x1] h = (mm_bI (mm_M mm_T0 d 104 [.ref 13, .int x1] h) (fun v2 h1 => if v2 = ((-1)) then (some (some (.int ((-1))), h1)) else (mm_bI (mm_M mm_T0 d 104 [.ref 13, .int (x1 + 1)] h1) (fun v4 h3 => if ¬ v4 = ((-1)) then (mm_bI (mm_M mm_T0 d 104 [.ref 13, .int (x1 + 1)] h3) (fun v6 h5 => if mm_sh (h3.2.2 0 10) = (0, 10) then (mm_bI (mm_M mm_T0 d 146 [.ref (h3.2.2 0 10), .ref 13, .int v2, .int v6] h5) (fun v8 h7 => if v8 = 0 then (some (some (.int 0), h7)) else (some (some (.int 1), h7)))) else none)) else (some (some (.int ((-1))), h3)))))) := by
  refine (mm_M_eq (ls := [.ref 0, .int x1, .null]) rfl (Nat.le_of_ble_eq_true rfl) rfl h).trans ?_
  refine (mm_by 3 (pc' := 5) (ls' := [.ref 0, .int x1, .null]) (st' := [.int x1, .ref 13]) (h' := h) rfl).trans ?_
  refine (mm_c1 (y := 104) (as := [.ref 13, .int x1]) (nx := 8) (rest := []) rfl rfl).trans (mm_congI fun v2 h1 => ?_)
  refine (mm_by 3 (pc' := 11) (ls' := [.ref 0, .int x1, .int v2]) (st' := [.int ((-1)), .int v2]) (h' := h1) rfl).trans ?_
  refine (mm_br (c := v2 = ((-1))) (p1 := 28) (p2 := 14) (l1 := [.ref 0, .int x1, .int v2]) (l2 := [.ref 0, .int x1, .int v2]) (s1 := []) (s2 := []) (h1 := h1) (h2 := h1) rfl rfl).trans (mm_ite ?_ ?_)
  · exact mm_by_end 2 rfl
  · refine (mm_by 5 (pc' := 21) (ls' := [.ref 0, .int x1, .int v2]) (st' := [.int (x1 + 1), .ref 13]) (h' := h1) rfl).trans ?_
    refine (mm_c1 (y := 104) (as := [.ref 13, .int (x1 + 1)]) (nx := 24) (rest := []) rfl rfl).trans (mm_congI fun v4 h3 => ?_)
    refine (mm_by 1 (pc' := 25) (ls' := [.ref 0, .int x1, .int v2]) (st' := [.int ((-1)), .int v4]) (h' := h3) rfl).trans ?_
    refine (mm_br (c := ¬ v4 = ((-1))) (p1 := 30) (p2 := 28) (l1 := [.ref 0, .int x1, .int v2]) (l2 := [.ref 0, .int x1, .int v2]) (s1 := []) (s2 := []) (h1 := h3) (h2 := h3) rfl rfl).trans (mm_ite ?_ ?_)
    · refine (mm_by 10 (pc' := 46) (ls' := [.ref 0, .int x1, .int v2]) (st' := [.int (x1 + 1), .ref 13, .int v2, .ref 13, .ref (h3.2.2 0 10)]) (h' := h3) rfl).trans ?_
      refine (mm_c1 (y := 104) (as := [.ref 13, .int (x1 + 1)]) (nx := 49) (rest := [.int v2, .ref 13, .ref (h3.2.2 0 10)]) rfl rfl).trans (mm_congI fun v6 h5 => ?_)
      refine (mm_d1 (b := h3.2.2 0 10) (ci := 10) (y := 146) (as := [.ref (h3.2.2 0 10), .ref 13, .int v2, .int v6]) (nx := 52) (rest := []) rfl rfl (Nat.le_of_ble_eq_true rfl)).trans (mm_ite (mm_congI fun v8 h7 => ?_) rfl)
      refine (mm_br (c := v8 = 0) (p1 := 59) (p2 := 55) (l1 := [.ref 0, .int x1, .int v2]) (l2 := [.ref 0, .int x1, .int v2]) (s1 := []) (s2 := []) (h1 := h7) (h2 := h7) rfl rfl).trans (mm_ite ?_ ?_)
      · exact mm_by_end 2 rfl
      · exact mm_by_end 3 rfl
    · exact mm_by_end 2 rfl
set_option maxRecDepth 100000 in
set_option maxHeartbeats 4000000 in
theorem U_X11_kept {d : Nat} {x1 : Int32} {x2 : Int32} {h : mm_H} : mm_M mm_T0 (d + 1) 159 [.ref 0, .int x1, .int x2] h = (mm_bI (mm_M mm_T0 d 121 [.ref 13, .int x1, .int x2] h) (fun v2 h1 => some (some (.int v2), h1))) := by
  refine (mm_M_eq (ls := [.ref 0, .int x1, .int x2]) rfl (Nat.le_of_ble_eq_true rfl) rfl h).trans ?_
  refine (mm_by 4 (pc' := 6) (ls' := [.ref 0, .int x1, .int x2]) (st' := [.int x2, .int x1, .ref 13]) (h' := h) rfl).trans ?_
  refine (mm_c1 (y := 121) (as := [.ref 13, .int x1, .int x2]) (nx := 9) (rest := []) rfl rfl).trans (mm_congI fun v2 h1 => ?_)
  exact mm_by_end 1 rfl
set_option maxRecDepth 100000 in
set_option maxHeartbeats 4000000 in
theorem U_X11_later {d : Nat} {x1 : Int32} {x2 : Int32} {h : mm_H} : mm_M mm_T0 (d + 1) 160 [.ref 0, .int x1, .int x2] h = (mm_bI (mm_M mm_T0 d 102 [.ref 13, .int x1] h) (fun v2 h1 => if v2 = 0 then (some (some (.int ((-1))), h1)) else (mm_bI (mm_M mm_T0 d 184 [.ref 0, .int x2, .int 0, .int 60] h1) (fun v4 h3 => if ¬ v4 = 0 then (mm_bA (mm_M mm_T0 d 15 [.ref 204, .ref (h3.2.2 0 10), .ref 13, .int x2] h3) (fun v6 h5 => if mm_sh v6 = (0, 7) then (mm_bI (mm_M mm_T0 d 106 [.ref v6, .int x1] h5) (fun v8 h7 => some (some (.int v8), h7))) else none)) else (some (some (.int ((-1))), h3)))))) := by
  refine (mm_M_eq (ls := [.ref 0, .int x1, .int x2]) rfl (Nat.le_of_ble_eq_true rfl) rfl h).trans ?_
  refine (mm_by 3 (pc' := 5) (ls' := [.ref 0, .int x1, .int x2]) (st' := [.int x1, .ref 13]) (h' := h) rfl).trans ?_
  refine (mm_c1 (y := 102) (as := [.ref 13, .int x1]) (nx := 8) (rest := []) rfl rfl).trans (mm_congI fun v2 h1 => ?_)
  refine (mm_br (c := v2 = 0) (p1 := 22) (p2 := 11) (l1 := [.ref 0, .int x1, .int x2]) (l2 := [.ref 0, .int x1, .int x2]) (s1 := []) (s2 := []) (h1 := h1) (h2 := h1) rfl rfl).trans (mm_ite ?_ ?_)
  · exact mm_by_end 2 rfl
  · refine (mm_by 4 (pc' := 16) (ls' := [.ref 0, .int x1, .int x2]) (st' := [.int 60, .int 0, .int x2, .ref 0]) (h' := h1) rfl).trans ?_
    refine (mm_c1 (y := 184) (as := [.ref 0, .int x2, .int 0, .int 60]) (nx := 19) (rest := []) rfl rfl).trans (mm_congI fun v4 h3 => ?_)
    refine (mm_br (c := ¬ v4 = 0) (p1 := 24) (p2 := 22) (l1 := [.ref 0, .int x1, .int x2]) (l2 := [.ref 0, .int x1, .int x2]) (s1 := []) (s2 := []) (h1 := h3) (h2 := h3) rfl rfl).trans (mm_ite ?_ ?_)
    · refine (mm_by 7 (pc' := 37) (ls' := [.ref 0, .int x1, .int x2]) (st' := [.int x2, .ref 13, .ref (h3.2.2 0 10), .ref 204]) (h' := h3) rfl).trans ?_
      refine (mm_c3 (y := 15) (as := [.ref 204, .ref (h3.2.2 0 10), .ref 13, .int x2]) (nx := 40) (rest := []) rfl rfl).trans (mm_congA fun v6 h5 => ?_)
      refine (mm_by 1 (pc' := 41) (ls' := [.ref 0, .int x1, .int x2]) (st' := [.int x1, .ref v6]) (h' := h5) rfl).trans ?_
      refine (mm_d1 (b := v6) (ci := 7) (y := 106) (as := [.ref v6, .int x1]) (nx := 44) (rest := []) rfl rfl (Nat.le_of_ble_eq_true rfl)).trans (mm_ite (mm_congI fun v8 h7 => ?_) rfl)
      exact mm_by_end 1 rfl
    · exact mm_by_end 2 rfl
set_option maxRecDepth 100000 in
set_option maxHeartbeats 4000000 in
theorem U_X11_mind {d : Nat} {x1 : Int32} {x2 : Int32} {x3 : Int32} {h : mm_H} : mm_M mm_T0 (d + 1) 161 [.ref 0, .int x1, .int x2, .int x3] h = (mm_bI (mm_M mm_T0 d 103 [.ref 13, .int x1, .int x2] h) (fun v2 h1 => if v2 = 0 then (some (some (.int ((-1))), h1)) else (mm_bI (mm_M mm_T0 d 184 [.ref 0, .int x3, .int 0, .int 60] h1) (fun v4 h3 => if ¬ v4 = 0 then (mm_bA (mm_M mm_T0 d 15 [.ref 204, .ref (h3.2.2 0 10), .ref 13, .int x3] h3) (fun v6 h5 => if mm_sh v6 = (0, 7) then (mm_bI (mm_M mm_T0 d 110 [.ref v6, .int x1, .int x2] h5) (fun v8 h7 => some (some (.int v8), h7))) else none)) else (some (some (.int ((-1))), h3)))))) := by
  refine (mm_M_eq (ls := [.ref 0, .int x1, .int x2, .int x3]) rfl (Nat.le_of_ble_eq_true rfl) rfl h).trans ?_
  refine (mm_by 4 (pc' := 6) (ls' := [.ref 0, .int x1, .int x2, .int x3]) (st' := [.int x2, .int x1, .ref 13]) (h' := h) rfl).trans ?_
  refine (mm_c1 (y := 103) (as := [.ref 13, .int x1, .int x2]) (nx := 9) (rest := []) rfl rfl).trans (mm_congI fun v2 h1 => ?_)
  refine (mm_br (c := v2 = 0) (p1 := 23) (p2 := 12) (l1 := [.ref 0, .int x1, .int x2, .int x3]) (l2 := [.ref 0, .int x1, .int x2, .int x3]) (s1 := []) (s2 := []) (h1 := h1) (h2 := h1) rfl rfl).trans (mm_ite ?_ ?_)
  · exact mm_by_end 2 rfl
  · refine (mm_by 4 (pc' := 17) (ls' := [.ref 0, .int x1, .int x2, .int x3]) (st' := [.int 60, .int 0, .int x3, .ref 0]) (h' := h1) rfl).trans ?_
    refine (mm_c1 (y := 184) (as := [.ref 0, .int x3, .int 0, .int 60]) (nx := 20) (rest := []) rfl rfl).trans (mm_congI fun v4 h3 => ?_)
    refine (mm_br (c := ¬ v4 = 0) (p1 := 25) (p2 := 23) (l1 := [.ref 0, .int x1, .int x2, .int x3]) (l2 := [.ref 0, .int x1, .int x2, .int x3]) (s1 := []) (s2 := []) (h1 := h3) (h2 := h3) rfl rfl).trans (mm_ite ?_ ?_)
    · refine (mm_by 7 (pc' := 38) (ls' := [.ref 0, .int x1, .int x2, .int x3]) (st' := [.int x3, .ref 13, .ref (h3.2.2 0 10), .ref 204]) (h' := h3) rfl).trans ?_
      refine (mm_c3 (y := 15) (as := [.ref 204, .ref (h3.2.2 0 10), .ref 13, .int x3]) (nx := 41) (rest := []) rfl rfl).trans (mm_congA fun v6 h5 => ?_)
      refine (mm_by 2 (pc' := 43) (ls' := [.ref 0, .int x1, .int x2, .int x3]) (st' := [.int x2, .int x1, .ref v6]) (h' := h5) rfl).trans ?_
      refine (mm_d1 (b := v6) (ci := 7) (y := 110) (as := [.ref v6, .int x1, .int x2]) (nx := 46) (rest := []) rfl rfl (Nat.le_of_ble_eq_true rfl)).trans (mm_ite (mm_congI fun v8 h7 => ?_) rfl)
      exact mm_by_end 1 rfl
    · exact mm_by_end 2 rfl
set_option maxRecDepth 100000 in
set_option maxHeartbeats 4000000 in
theorem U_X11_curtain {d : Nat} {x1 : Int32} {h : mm_H} : mm_M mm_T0 (d + 1) 162 [.ref 0, .int x1] h = (mm_bI (mm_M mm_T0 d 102 [.ref 13, .int x1] h) (fun v2 h1 => if v2 = 0 then (some (some (.int ((-1))), h1)) else (mm_bI (mm_M mm_T0 d 16 [.ref 204, .ref (h1.2.2 0 10), .ref 13, .int x1] h1) (fun v4 h3 => some (some (.int v4), h3))))) := by
  refine (mm_M_eq (ls := [.ref 0, .int x1]) rfl (Nat.le_of_ble_eq_true rfl) rfl h).trans ?_
  refine (mm_by 3 (pc' := 5) (ls' := [.ref 0, .int x1]) (st' := [.int x1, .ref 13]) (h' := h) rfl).trans ?_
  refine (mm_c1 (y := 102) (as := [.ref 13, .int x1]) (nx := 8) (rest := []) rfl rfl).trans (mm_congI fun v2 h1 => ?_)
  refine (mm_br (c := v2 = 0) (p1 := 30) (p2 := 11) (l1 := [.ref 0, .int x1]) (l2 := [.ref 0, .int x1]) (s1 := []) (s2 := []) (h1 := h1) (h2 := h1) rfl rfl).trans (mm_ite ?_ ?_)
  · exact mm_by_end 2 rfl
  · refine (mm_by 7 (pc' := 24) (ls' := [.ref 0, .int x1]) (st' := [.int x1, .ref 13, .ref (h1.2.2 0 10), .ref 204]) (h' := h1) rfl).trans ?_
    refine (mm_c1 (y := 16) (as := [.ref 204, .ref (h1.2.2 0 10), .ref 13, .int x1]) (nx := 27) (rest := []) rfl rfl).trans (mm_congI fun v4 h3 => ?_)
    exact mm_by_end 2 rfl
set_option maxRecDepth 100000 in
set_option maxHeartbeats 4000000 in
theorem U_X11_changed {d : Nat} {x1 : Int32} {x2 : Int32} {h : mm_H} : mm_M mm_T0 (d + 1) 163 [.ref 0, .int x1, .int x2] h = (if (h.1 0 12) = 0 then (some (some (.int ((-1))), h)) else (mm_bI (mm_M mm_T0 d 184 [.ref 0, .int x1, .int 1, .int 20] h) (fun v2 h1 => if v2 = 0 then (some (some (.int ((-1))), h1)) else (if x2 < 0 then (some (some (.int ((-1))), h1)) else (if x2 ≤ 2 then (mm_bI (mm_M mm_T0 d 17 [.ref 204, .ref (h1.2.2 0 10), .ref 13, .int x1] h1) (fun v4 h3 => if ¬ v4 = 0 then (if ¬ x2 = 2 then (if ¬ x2 = 0 then (some (some (.int (h3.1 204 7)), h3)) else (some (some (.int (h3.1 204 6)), h3))) else (some (some (.int (h3.1 204 8)), h3))) else (some (some (.int ((-1))), h3)))) else (some (some (.int ((-1))), h1))))))) := by
  refine (mm_M_eq (ls := [.ref 0, .int x1, .int x2]) rfl (Nat.le_of_ble_eq_true rfl) rfl h).trans ?_
  refine (mm_by 2 (pc' := 4) (ls' := [.ref 0, .int x1, .int x2]) (st' := [.int (h.1 0 12)]) (h' := h) rfl).trans ?_
  refine (mm_br (c := (h.1 0 12) = 0) (p1 := 27) (p2 := 7) (l1 := [.ref 0, .int x1, .int x2]) (l2 := [.ref 0, .int x1, .int x2]) (s1 := []) (s2 := []) (h1 := h) (h2 := h) rfl rfl).trans (mm_ite ?_ ?_)
  · exact mm_by_end 2 rfl
  · refine (mm_by 4 (pc' := 12) (ls' := [.ref 0, .int x1, .int x2]) (st' := [.int 20, .int 1, .int x1, .ref 0]) (h' := h) rfl).trans ?_
    refine (mm_c1 (y := 184) (as := [.ref 0, .int x1, .int 1, .int 20]) (nx := 15) (rest := []) rfl rfl).trans (mm_congI fun v2 h1 => ?_)
    refine (mm_br (c := v2 = 0) (p1 := 27) (p2 := 18) (l1 := [.ref 0, .int x1, .int x2]) (l2 := [.ref 0, .int x1, .int x2]) (s1 := []) (s2 := []) (h1 := h1) (h2 := h1) rfl rfl).trans (mm_ite ?_ ?_)
    · exact mm_by_end 2 rfl
    · refine (mm_by 1 (pc' := 19) (ls' := [.ref 0, .int x1, .int x2]) (st' := [.int x2]) (h' := h1) rfl).trans ?_
      refine (mm_br (c := x2 < 0) (p1 := 27) (p2 := 22) (l1 := [.ref 0, .int x1, .int x2]) (l2 := [.ref 0, .int x1, .int x2]) (s1 := []) (s2 := []) (h1 := h1) (h2 := h1) rfl rfl).trans (mm_ite ?_ ?_)
      · exact mm_by_end 2 rfl
      · refine (mm_by 2 (pc' := 24) (ls' := [.ref 0, .int x1, .int x2]) (st' := [.int 2, .int x2]) (h' := h1) rfl).trans ?_
        refine (mm_br (c := x2 ≤ 2) (p1 := 29) (p2 := 27) (l1 := [.ref 0, .int x1, .int x2]) (l2 := [.ref 0, .int x1, .int x2]) (s1 := []) (s2 := []) (h1 := h1) (h2 := h1) rfl rfl).trans (mm_ite ?_ ?_)
        · refine (mm_by 7 (pc' := 42) (ls' := [.ref 0, .int x1, .int x2]) (st' := [.int x1, .ref 13, .ref (h1.2.2 0 10), .ref 204]) (h' := h1) rfl).trans ?_
          refine (mm_c1 (y := 17) (as := [.ref 204, .ref (h1.2.2 0 10), .ref 13, .int x1]) (nx := 45) (rest := []) rfl rfl).trans (mm_congI fun v4 h3 => ?_)
          refine (mm_br (c := ¬ v4 = 0) (p1 := 50) (p2 := 48) (l1 := [.ref 0, .int x1, .int x2]) (l2 := [.ref 0, .int x1, .int x2]) (s1 := []) (s2 := []) (h1 := h3) (h2 := h3) rfl rfl).trans (mm_ite ?_ ?_)
          · refine (mm_by 2 (pc' := 52) (ls' := [.ref 0, .int x1, .int x2]) (st' := [.int 2, .int x2]) (h' := h3) rfl).trans ?_
            refine (mm_br (c := ¬ x2 = 2) (p1 := 63) (p2 := 55) (l1 := [.ref 0, .int x1, .int x2]) (l2 := [.ref 0, .int x1, .int x2]) (s1 := []) (s2 := []) (h1 := h3) (h2 := h3) rfl rfl).trans (mm_ite ?_ ?_)
            · refine (mm_by 1 (pc' := 64) (ls' := [.ref 0, .int x1, .int x2]) (st' := [.int x2]) (h' := h3) rfl).trans ?_
              refine (mm_br (c := ¬ x2 = 0) (p1 := 77) (p2 := 67) (l1 := [.ref 0, .int x1, .int x2]) (l2 := [.ref 0, .int x1, .int x2]) (s1 := []) (s2 := []) (h1 := h3) (h2 := h3) rfl rfl).trans (mm_ite ?_ ?_)
              · exact mm_by_end 4 rfl
              · exact mm_by_end 5 rfl
            · exact mm_by_end 4 rfl
          · exact mm_by_end 2 rfl
        · exact mm_by_end 2 rfl
set_option maxRecDepth 100000 in
set_option maxHeartbeats 4000000 in
theorem U_X11_stranger {d : Nat} {x1 : Int32} {x2 : Int32} {x3 : Int32} {x4 : Int32} {h : mm_H} : mm_M mm_T0 (d + 1) 164 [.ref 0, .int x1, .int x2, .int x3, .int x4] h = (if (h.1 0 12) = 0 then (some (some (.int ((-1))), h)) else (mm_bI (mm_M mm_T0 d 184 [.ref 0, .int x3, .int 1, .int 20] h) (fun v2 h1 => if v2 = 0 then (some (some (.int ((-1))), h1)) else (if x4 < 0 then (some (some (.int ((-1))), h1)) else (if x4 ≤ 1 then (if x1 < 0 then (some (some (.int ((-1))), h1)) else (if 9 < x1 then (some (some (.int ((-1))), h1)) else (if x2 < 0 then (some (some (.int ((-1))), h1)) else (if x2 ≤ 9 then (mm_bI (mm_M mm_T0 d 18 [.ref 204, .ref (h1.2.2 0 10), .ref 13, .int x1, .int x2, .int x3] h1) (fun v4 h3 => if ¬ v4 = 0 then (if ¬ x4 = 0 then (some (some (.int (h3.1 204 8)), h3)) else (some (some (.int (h3.1 204 6)), h3))) else (some (some (.int ((-1))), h3)))) else (some (some (.int ((-1))), h1)))))) else (some (some (.int ((-1))), h1))))))) := by
  refine (mm_M_eq (ls := [.ref 0, .int x1, .int x2, .int x3, .int x4]) rfl (Nat.le_of_ble_eq_true rfl) rfl h).trans ?_
  refine (mm_by 2 (pc' := 4) (ls' := [.ref 0, .int x1, .int x2, .int x3, .int x4]) (st' := [.int (h.1 0 12)]) (h' := h) rfl).trans ?_
  refine (mm_br (c := (h.1 0 12) = 0) (p1 := 29) (p2 := 7) (l1 := [.ref 0, .int x1, .int x2, .int x3, .int x4]) (l2 := [.ref 0, .int x1, .int x2, .int x3, .int x4]) (s1 := []) (s2 := []) (h1 := h) (h2 := h) rfl rfl).trans (mm_ite ?_ ?_)
  · exact mm_by_end 2 rfl
  · refine (mm_by 4 (pc' := 12) (ls' := [.ref 0, .int x1, .int x2, .int x3, .int x4]) (st' := [.int 20, .int 1, .int x3, .ref 0]) (h' := h) rfl).trans ?_
    refine (mm_c1 (y := 184) (as := [.ref 0, .int x3, .int 1, .int 20]) (nx := 15) (rest := []) rfl rfl).trans (mm_congI fun v2 h1 => ?_)
    refine (mm_br (c := v2 = 0) (p1 := 29) (p2 := 18) (l1 := [.ref 0, .int x1, .int x2, .int x3, .int x4]) (l2 := [.ref 0, .int x1, .int x2, .int x3, .int x4]) (s1 := []) (s2 := []) (h1 := h1) (h2 := h1) rfl rfl).trans (mm_ite ?_ ?_)
    · exact mm_by_end 2 rfl
    · refine (mm_by 1 (pc' := 20) (ls' := [.ref 0, .int x1, .int x2, .int x3, .int x4]) (st' := [.int x4]) (h' := h1) rfl).trans ?_
      refine (mm_br (c := x4 < 0) (p1 := 29) (p2 := 23) (l1 := [.ref 0, .int x1, .int x2, .int x3, .int x4]) (l2 := [.ref 0, .int x1, .int x2, .int x3, .int x4]) (s1 := []) (s2 := []) (h1 := h1) (h2 := h1) rfl rfl).trans (mm_ite ?_ ?_)
      · exact mm_by_end 2 rfl
      · refine (mm_by 2 (pc' := 26) (ls' := [.ref 0, .int x1, .int x2, .int x3, .int x4]) (st' := [.int 1, .int x4]) (h' := h1) rfl).trans ?_
        refine (mm_br (c := x4 ≤ 1) (p1 := 31) (p2 := 29) (l1 := [.ref 0, .int x1, .int x2, .int x3, .int x4]) (l2 := [.ref 0, .int x1, .int x2, .int x3, .int x4]) (s1 := []) (s2 := []) (h1 := h1) (h2 := h1) rfl rfl).trans (mm_ite ?_ ?_)
        · refine (mm_by 1 (pc' := 32) (ls' := [.ref 0, .int x1, .int x2, .int x3, .int x4]) (st' := [.int x1]) (h' := h1) rfl).trans ?_
          refine (mm_br (c := x1 < 0) (p1 := 51) (p2 := 35) (l1 := [.ref 0, .int x1, .int x2, .int x3, .int x4]) (l2 := [.ref 0, .int x1, .int x2, .int x3, .int x4]) (s1 := []) (s2 := []) (h1 := h1) (h2 := h1) rfl rfl).trans (mm_ite ?_ ?_)
          · exact mm_by_end 2 rfl
          · refine (mm_by 2 (pc' := 38) (ls' := [.ref 0, .int x1, .int x2, .int x3, .int x4]) (st' := [.int 9, .int x1]) (h' := h1) rfl).trans ?_
            refine (mm_br (c := 9 < x1) (p1 := 51) (p2 := 41) (l1 := [.ref 0, .int x1, .int x2, .int x3, .int x4]) (l2 := [.ref 0, .int x1, .int x2, .int x3, .int x4]) (s1 := []) (s2 := []) (h1 := h1) (h2 := h1) rfl rfl).trans (mm_ite ?_ ?_)
            · exact mm_by_end 2 rfl
            · refine (mm_by 1 (pc' := 42) (ls' := [.ref 0, .int x1, .int x2, .int x3, .int x4]) (st' := [.int x2]) (h' := h1) rfl).trans ?_
              refine (mm_br (c := x2 < 0) (p1 := 51) (p2 := 45) (l1 := [.ref 0, .int x1, .int x2, .int x3, .int x4]) (l2 := [.ref 0, .int x1, .int x2, .int x3, .int x4]) (s1 := []) (s2 := []) (h1 := h1) (h2 := h1) rfl rfl).trans (mm_ite ?_ ?_)
              · exact mm_by_end 2 rfl
              · refine (mm_by 2 (pc' := 48) (ls' := [.ref 0, .int x1, .int x2, .int x3, .int x4]) (st' := [.int 9, .int x2]) (h' := h1) rfl).trans ?_
                refine (mm_br (c := x2 ≤ 9) (p1 := 53) (p2 := 51) (l1 := [.ref 0, .int x1, .int x2, .int x3, .int x4]) (l2 := [.ref 0, .int x1, .int x2, .int x3, .int x4]) (s1 := []) (s2 := []) (h1 := h1) (h2 := h1) rfl rfl).trans (mm_ite ?_ ?_)
                · refine (mm_by 9 (pc' := 68) (ls' := [.ref 0, .int x1, .int x2, .int x3, .int x4]) (st' := [.int x3, .int x2, .int x1, .ref 13, .ref (h1.2.2 0 10), .ref 204]) (h' := h1) rfl).trans ?_
                  refine (mm_c1 (y := 18) (as := [.ref 204, .ref (h1.2.2 0 10), .ref 13, .int x1, .int x2, .int x3]) (nx := 71) (rest := []) rfl rfl).trans (mm_congI fun v4 h3 => ?_)
                  refine (mm_br (c := ¬ v4 = 0) (p1 := 76) (p2 := 74) (l1 := [.ref 0, .int x1, .int x2, .int x3, .int x4]) (l2 := [.ref 0, .int x1, .int x2, .int x3, .int x4]) (s1 := []) (s2 := []) (h1 := h3) (h2 := h3) rfl rfl).trans (mm_ite ?_ ?_)
                  · refine (mm_by 1 (pc' := 78) (ls' := [.ref 0, .int x1, .int x2, .int x3, .int x4]) (st' := [.int x4]) (h' := h3) rfl).trans ?_
                    refine (mm_br (c := ¬ x4 = 0) (p1 := 91) (p2 := 81) (l1 := [.ref 0, .int x1, .int x2, .int x3, .int x4]) (l2 := [.ref 0, .int x1, .int x2, .int x3, .int x4]) (s1 := []) (s2 := []) (h1 := h3) (h2 := h3) rfl rfl).trans (mm_ite ?_ ?_)
                    · exact mm_by_end 4 rfl
                    · exact mm_by_end 5 rfl
                  · exact mm_by_end 2 rfl
                · exact mm_by_end 2 rfl
        · exact mm_by_end 2 rfl
set_option maxRecDepth 100000 in
set_option maxHeartbeats 4000000 in
theorem U_X11_parted {d : Nat} {h : mm_H} : mm_M mm_T0 (d + 1) 165 [.ref 0] h = (mm_bI (mm_M mm_T0 d 19 [.ref 204, .ref (h.2.2 0 10), .ref 13] h) (fun v2 h1 => some (some (.int v2), h1))) := by
  refine (mm_M_eq (ls := [.ref 0]) rfl (Nat.le_of_ble_eq_true rfl) rfl h).trans ?_
  refine (mm_by 6 (pc' := 12) (ls' := [.ref 0]) (st' := [.ref 13, .ref (h.2.2 0 10), .ref 204]) (h' := h) rfl).trans ?_
  refine (mm_c1 (y := 19) (as := [.ref 204, .ref (h.2.2 0 10), .ref 13]) (nx := 15) (rest := []) rfl rfl).trans (mm_congI fun v2 h1 => ?_)
  exact mm_by_end 1 rfl
set_option maxRecDepth 100000 in
set_option maxHeartbeats 4000000 in
theorem U_X11_rest {d : Nat} {x1 : Int32} {h : mm_H} : mm_M mm_T0 (d + 1) 166 [.ref 0, .int x1] h = (if (h.1 0 12) = 0 then (some (some (.int ((-1))), h)) else (mm_bI (mm_M mm_T0 d 184 [.ref 0, .int x1, .int 1, .int 20] h) (fun v2 h1 => if ¬ v2 = 0 then (mm_bV (mm_M mm_T0 d 21 [.ref 204] h1) (fun h3 => mm_D (mm_M mm_T0 d) cd_X11_rest 39 [.ref 0, .int x1, .int ((1 : Int32) <<< ((h3.1 13 10) &&& 31)), .int 0, .null] [] h3)) else (some (some (.int ((-1))), h1))))) := by
  refine (mm_M_eq (ls := [.ref 0, .int x1, .null, .null, .null]) rfl (Nat.le_of_ble_eq_true rfl) rfl h).trans ?_
  refine (mm_by 2 (pc' := 4) (ls' := [.ref 0, .int x1, .null, .null, .null]) (st' := [.int (h.1 0 12)]) (h' := h) rfl).trans ?_
  refine (mm_br (c := (h.1 0 12) = 0) (p1 := 18) (p2 := 7) (l1 := [.ref 0, .int x1, .null, .null, .null]) (l2 := [.ref 0, .int x1, .null, .null, .null]) (s1 := []) (s2 := []) (h1 := h) (h2 := h) rfl rfl).trans (mm_ite ?_ ?_)
  · exact mm_by_end 2 rfl
  · refine (mm_by 4 (pc' := 12) (ls' := [.ref 0, .int x1, .null, .null, .null]) (st' := [.int 20, .int 1, .int x1, .ref 0]) (h' := h) rfl).trans ?_
    refine (mm_c1 (y := 184) (as := [.ref 0, .int x1, .int 1, .int 20]) (nx := 15) (rest := []) rfl rfl).trans (mm_congI fun v2 h1 => ?_)
    refine (mm_br (c := ¬ v2 = 0) (p1 := 20) (p2 := 18) (l1 := [.ref 0, .int x1, .null, .null, .null]) (l2 := [.ref 0, .int x1, .null, .null, .null]) (s1 := []) (s2 := []) (h1 := h1) (h2 := h1) rfl rfl).trans (mm_ite ?_ ?_)
    · refine (mm_by 2 (pc' := 24) (ls' := [.ref 0, .int x1, .null, .null, .null]) (st' := [.ref 204]) (h' := h1) rfl).trans ?_
      refine (mm_c0 (y := 21) (as := [.ref 204]) (nx := 27) (rest := []) rfl rfl).trans (mm_congV fun h3 => ?_)
      exact mm_by 8 rfl
    · exact mm_by_end 2 rfl
set_option maxRecDepth 100000 in
set_option maxHeartbeats 4000000 in
theorem U_X11_rest_39 {d : Nat} {x1 : Int32} {x2 : Int32} {x3 : Int32} {h : mm_H} : mm_D (mm_M mm_T0 d) cd_X11_rest 39 [.ref 0, .int x1, .int x2, .int x3, .null] [] h = (if (h.1 13 10) < x3 then (some (some (.int ((-1))), h)) else (mm_D (mm_M mm_T0 d) cd_X11_rest 53 [.ref 0, .int x1, .int x2, .int x3, .int 0] [] h)) := by
  refine (mm_by 4 (pc' := 47) (ls' := [.ref 0, .int x1, .int x2, .int x3, .null]) (st' := [.int (h.1 13 10), .int x3]) (h' := h) rfl).trans ?_
  refine (mm_br (c := (h.1 13 10) < x3) (p1 := 104) (p2 := 50) (l1 := [.ref 0, .int x1, .int x2, .int x3, .null]) (l2 := [.ref 0, .int x1, .int x2, .int x3, .null]) (s1 := []) (s2 := []) (h1 := h) (h2 := h) rfl rfl).trans (mm_ite ?_ ?_)
  · exact mm_by_end 2 rfl
  · exact mm_by 2 rfl
set_option maxRecDepth 100000 in
set_option maxHeartbeats 4000000 in
theorem U_X11_rest_53 {d : Nat} {x1 : Int32} {x2 : Int32} {x3 : Int32} {x4 : Int32} {h : mm_H} : mm_D (mm_M mm_T0 d) cd_X11_rest 53 [.ref 0, .int x1, .int x2, .int x3, .int x4] [] h = (if x2 ≤ x4 then (mm_D (mm_M mm_T0 d) cd_X11_rest 39 [.ref 0, .int x1, .int x2, .int (x3 + 1), .null] [] h) else (mm_bI (mm_M mm_T0 d 6 [.int x4] h) (fun v2 h1 => if ¬ v2 = x3 then (mm_D (mm_M mm_T0 d) cd_X11_rest 53 [.ref 0, .int x1, .int x2, .int x3, .int (x4 + 1)] [] h1) else (mm_bI (mm_M mm_T0 d 22 [.ref 204, .ref (h1.2.2 0 10), .ref 13, .int x1, .int x4] h1) (fun v4 h3 => if v4 = 0 then (mm_D (mm_M mm_T0 d) cd_X11_rest 53 [.ref 0, .int x1, .int x2, .int x3, .int (x4 + 1)] [] h3) else (some (some (.int x4), h3))))))) := by
  refine (mm_by 2 (pc' := 56) (ls' := [.ref 0, .int x1, .int x2, .int x3, .int x4]) (st' := [.int x2, .int x4]) (h' := h) rfl).trans ?_
  refine (mm_br (c := x2 ≤ x4) (p1 := 98) (p2 := 59) (l1 := [.ref 0, .int x1, .int x2, .int x3, .int x4]) (l2 := [.ref 0, .int x1, .int x2, .int x3, .int x4]) (s1 := []) (s2 := []) (h1 := h) (h2 := h) rfl rfl).trans (mm_ite ?_ ?_)
  · exact mm_by 2 rfl
  · refine (mm_by 1 (pc' := 61) (ls' := [.ref 0, .int x1, .int x2, .int x3, .int x4]) (st' := [.int x4]) (h' := h) rfl).trans ?_
    refine (mm_c1 (y := 6) (as := [.int x4]) (nx := 64) (rest := []) rfl rfl).trans (mm_congI fun v2 h1 => ?_)
    refine (mm_by 1 (pc' := 65) (ls' := [.ref 0, .int x1, .int x2, .int x3, .int x4]) (st' := [.int x3, .int v2]) (h' := h1) rfl).trans ?_
    refine (mm_br (c := ¬ v2 = x3) (p1 := 92) (p2 := 68) (l1 := [.ref 0, .int x1, .int x2, .int x3, .int x4]) (l2 := [.ref 0, .int x1, .int x2, .int x3, .int x4]) (s1 := []) (s2 := []) (h1 := h1) (h2 := h1) rfl rfl).trans (mm_ite ?_ ?_)
    · exact mm_by 2 rfl
    · refine (mm_by 8 (pc' := 83) (ls' := [.ref 0, .int x1, .int x2, .int x3, .int x4]) (st' := [.int x4, .int x1, .ref 13, .ref (h1.2.2 0 10), .ref 204]) (h' := h1) rfl).trans ?_
      refine (mm_c1 (y := 22) (as := [.ref 204, .ref (h1.2.2 0 10), .ref 13, .int x1, .int x4]) (nx := 86) (rest := []) rfl rfl).trans (mm_congI fun v4 h3 => ?_)
      refine (mm_br (c := v4 = 0) (p1 := 92) (p2 := 89) (l1 := [.ref 0, .int x1, .int x2, .int x3, .int x4]) (l2 := [.ref 0, .int x1, .int x2, .int x3, .int x4]) (s1 := []) (s2 := []) (h1 := h3) (h2 := h3) rfl rfl).trans (mm_ite ?_ ?_)
      · exact mm_by 2 rfl
      · exact mm_by_end 2 rfl
set_option maxRecDepth 100000 in
set_option maxHeartbeats 4000000 in
theorem U_X11_see {d : Nat} {h : mm_H} : mm_M mm_T0 (d + 1) 167 [.ref 0] h = (mm_bI (mm_M mm_T0 d 24 [.ref 204, .ref 1, .ref 13] h) (fun v2 h1 => mm_bV (mm_M mm_T0 d 128 [.ref 1, .int 0] h1) (fun h3 => if v2 = 0 then (mm_bI (mm_M mm_T0 d 183 [.ref 0, .int 1] h3) (fun v5 h4 => some (some (.int v5), h4))) else (mm_bI (mm_M mm_T0 d 13 [.ref 204] h3) (fun v7 h6 => some (some (.int v7), h6)))))) := by
  refine (mm_M_eq (ls := [.ref 0, .null]) rfl (Nat.le_of_ble_eq_true rfl) rfl h).trans ?_
  refine (mm_by 6 (pc' := 12) (ls' := [.ref 0, .null]) (st' := [.ref 13, .ref 1, .ref 204]) (h' := h) rfl).trans ?_
  refine (mm_c1 (y := 24) (as := [.ref 204, .ref 1, .ref 13]) (nx := 15) (rest := []) rfl rfl).trans (mm_congI fun v2 h1 => ?_)
  refine (mm_by 4 (pc' := 21) (ls' := [.ref 0, .int v2]) (st' := [.int 0, .ref 1]) (h' := h1) rfl).trans ?_
  refine (mm_c0 (y := 128) (as := [.ref 1, .int 0]) (nx := 24) (rest := []) rfl rfl).trans (mm_congV fun h3 => ?_)
  refine (mm_by 1 (pc' := 25) (ls' := [.ref 0, .int v2]) (st' := [.int v2]) (h' := h3) rfl).trans ?_
  refine (mm_br (c := v2 = 0) (p1 := 38) (p2 := 28) (l1 := [.ref 0, .int v2]) (l2 := [.ref 0, .int v2]) (s1 := []) (s2 := []) (h1 := h3) (h2 := h3) rfl rfl).trans (mm_ite ?_ ?_)
  · refine (mm_by 2 (pc' := 40) (ls' := [.ref 0, .int v2]) (st' := [.int 1, .ref 0]) (h' := h3) rfl).trans ?_
    refine (mm_c1 (y := 183) (as := [.ref 0, .int 1]) (nx := 43) (rest := []) rfl rfl).trans (mm_congI fun v5 h4 => ?_)
    exact mm_by_end 1 rfl
  · refine (mm_by 2 (pc' := 32) (ls' := [.ref 0, .int v2]) (st' := [.ref 204]) (h' := h3) rfl).trans ?_
    refine (mm_c1 (y := 13) (as := [.ref 204]) (nx := 35) (rest := []) rfl rfl).trans (mm_congI fun v7 h6 => ?_)
    exact mm_by_end 2 rfl
set_option maxRecDepth 100000 in
set_option maxHeartbeats 4000000 in
theorem U_X11_thoughts {d : Nat} {x1 : Int32} {x2 : Int32} {h : mm_H} : mm_M mm_T0 (d + 1) 168 [.ref 0, .int x1, .int x2] h = (mm_bI (mm_M mm_T0 d 103 [.ref 13, .int x1, .int x2] h) (fun v2 h1 => if v2 = 0 then (some (some (.int ((-1))), h1)) else (mm_bI (mm_M mm_T0 d 25 [.ref 204, .ref (h1.2.2 0 10), .ref 13, .int x1, .int x2] h1) (fun v4 h3 => some (some (.int v4), h3))))) := by
  refine (mm_M_eq (ls := [.ref 0, .int x1, .int x2]) rfl (Nat.le_of_ble_eq_true rfl) rfl h).trans ?_
  refine (mm_by 4 (pc' := 6) (ls' := [.ref 0, .int x1, .int x2]) (st' := [.int x2, .int x1, .ref 13]) (h' := h) rfl).trans ?_
  refine (mm_c1 (y := 103) (as := [.ref 13, .int x1, .int x2]) (nx := 9) (rest := []) rfl rfl).trans (mm_congI fun v2 h1 => ?_)
  refine (mm_br (c := v2 = 0) (p1 := 32) (p2 := 12) (l1 := [.ref 0, .int x1, .int x2]) (l2 := [.ref 0, .int x1, .int x2]) (s1 := []) (s2 := []) (h1 := h1) (h2 := h1) rfl rfl).trans (mm_ite ?_ ?_)
  · exact mm_by_end 2 rfl
  · refine (mm_by 8 (pc' := 26) (ls' := [.ref 0, .int x1, .int x2]) (st' := [.int x2, .int x1, .ref 13, .ref (h1.2.2 0 10), .ref 204]) (h' := h1) rfl).trans ?_
    refine (mm_c1 (y := 25) (as := [.ref 204, .ref (h1.2.2 0 10), .ref 13, .int x1, .int x2]) (nx := 29) (rest := []) rfl rfl).trans (mm_congI fun v4 h3 => ?_)
    exact mm_by_end 2 rfl
set_option maxRecDepth 100000 in
set_option maxHeartbeats 4000000 in
theorem U_X11_faces {d : Nat} {x1 : Int32} {h : mm_H} : mm_M mm_T0 (d + 1) 169 [.ref 0, .int x1] h = (mm_bI (mm_M mm_T0 d 102 [.ref 13, .int x1] h) (fun v2 h1 => if v2 = 0 then (some (some (.int ((-1))), h1)) else (mm_bI (mm_M mm_T0 d 26 [.ref 204, .ref (h1.2.2 0 10), .ref 13, .int x1] h1) (fun v4 h3 => some (some (.int v4), h3))))) := by
  refine (mm_M_eq (ls := [.ref 0, .int x1]) rfl (Nat.le_of_ble_eq_true rfl) rfl h).trans ?_
  refine (mm_by 3 (pc' := 5) (ls' := [.ref 0, .int x1]) (st' := [.int x1, .ref 13]) (h' := h) rfl).trans ?_
  refine (mm_c1 (y := 102) (as := [.ref 13, .int x1]) (nx := 8) (rest := []) rfl rfl).trans (mm_congI fun v2 h1 => ?_)
  refine (mm_br (c := v2 = 0) (p1 := 30) (p2 := 11) (l1 := [.ref 0, .int x1]) (l2 := [.ref 0, .int x1]) (s1 := []) (s2 := []) (h1 := h1) (h2 := h1) rfl rfl).trans (mm_ite ?_ ?_)
  · exact mm_by_end 2 rfl
  · refine (mm_by 7 (pc' := 24) (ls' := [.ref 0, .int x1]) (st' := [.int x1, .ref 13, .ref (h1.2.2 0 10), .ref 204]) (h' := h1) rfl).trans ?_
    refine (mm_c1 (y := 26) (as := [.ref 204, .ref (h1.2.2 0 10), .ref 13, .int x1]) (nx := 27) (rest := []) rfl rfl).trans (mm_congI fun v4 h3 => ?_)
    exact mm_by_end 2 rfl
set_option maxRecDepth 100000 in
set_option maxHeartbeats 4000000 in
theorem U_X11_tells {d : Nat} {x1 : Int32} {x2 : Int32} {x3 : Int32} {h : mm_H} : mm_M mm_T0 (d + 1) 170 [.ref 0, .int x1, .int x2, .int x3] h = (mm_bI (mm_M mm_T0 d 103 [.ref 13, .int x1, .int x2] h) (fun v2 h1 => if v2 = 0 then (some (some (.int ((-1))), h1)) else (if x3 < 0 then (some (some (.int ((-1))), h1)) else (if x3 ≤ 1 then (mm_bI (mm_M mm_T0 d 25 [.ref 204, .ref (h1.2.2 0 10), .ref 13, .int x1, .int x2] h1) (fun v4 h3 => mm_bI (mm_M mm_T0 d 30 [.ref 204, .ref (h3.2.2 0 10), .ref 13, .int x1, .int x2, .int v4] h3) (fun v6 h5 => if ¬ v6 = 0 then (if ¬ x3 = 0 then (some (some (.int (h5.1 204 10)), h5)) else (some (some (.int (h5.1 204 9)), h5))) else (some (some (.int ((-1))), h5))))) else (some (some (.int ((-1))), h1)))))) := by
  refine (mm_M_eq (ls := [.ref 0, .int x1, .int x2, .int x3, .null]) rfl (Nat.le_of_ble_eq_true rfl) rfl h).trans ?_
  refine (mm_by 4 (pc' := 6) (ls' := [.ref 0, .int x1, .int x2, .int x3, .null]) (st' := [.int x2, .int x1, .ref 13]) (h' := h) rfl).trans ?_
  refine (mm_c1 (y := 103) (as := [.ref 13, .int x1, .int x2]) (nx := 9) (rest := []) rfl rfl).trans (mm_congI fun v2 h1 => ?_)
  refine (mm_br (c := v2 = 0) (p1 := 21) (p2 := 12) (l1 := [.ref 0, .int x1, .int x2, .int x3, .null]) (l2 := [.ref 0, .int x1, .int x2, .int x3, .null]) (s1 := []) (s2 := []) (h1 := h1) (h2 := h1) rfl rfl).trans (mm_ite ?_ ?_)
  · exact mm_by_end 2 rfl
  · refine (mm_by 1 (pc' := 13) (ls' := [.ref 0, .int x1, .int x2, .int x3, .null]) (st' := [.int x3]) (h' := h1) rfl).trans ?_
    refine (mm_br (c := x3 < 0) (p1 := 21) (p2 := 16) (l1 := [.ref 0, .int x1, .int x2, .int x3, .null]) (l2 := [.ref 0, .int x1, .int x2, .int x3, .null]) (s1 := []) (s2 := []) (h1 := h1) (h2 := h1) rfl rfl).trans (mm_ite ?_ ?_)
    · exact mm_by_end 2 rfl
    · refine (mm_by 2 (pc' := 18) (ls' := [.ref 0, .int x1, .int x2, .int x3, .null]) (st' := [.int 1, .int x3]) (h' := h1) rfl).trans ?_
      refine (mm_br (c := x3 ≤ 1) (p1 := 23) (p2 := 21) (l1 := [.ref 0, .int x1, .int x2, .int x3, .null]) (l2 := [.ref 0, .int x1, .int x2, .int x3, .null]) (s1 := []) (s2 := []) (h1 := h1) (h2 := h1) rfl rfl).trans (mm_ite ?_ ?_)
      · refine (mm_by 8 (pc' := 37) (ls' := [.ref 0, .int x1, .int x2, .int x3, .null]) (st' := [.int x2, .int x1, .ref 13, .ref (h1.2.2 0 10), .ref 204]) (h' := h1) rfl).trans ?_
        refine (mm_c1 (y := 25) (as := [.ref 204, .ref (h1.2.2 0 10), .ref 13, .int x1, .int x2]) (nx := 40) (rest := []) rfl rfl).trans (mm_congI fun v4 h3 => ?_)
        refine (mm_by 10 (pc' := 58) (ls' := [.ref 0, .int x1, .int x2, .int x3, .int v4]) (st' := [.int v4, .int x2, .int x1, .ref 13, .ref (h3.2.2 0 10), .ref 204]) (h' := h3) rfl).trans ?_
        refine (mm_c1 (y := 30) (as := [.ref 204, .ref (h3.2.2 0 10), .ref 13, .int x1, .int x2, .int v4]) (nx := 61) (rest := []) rfl rfl).trans (mm_congI fun v6 h5 => ?_)
        refine (mm_br (c := ¬ v6 = 0) (p1 := 66) (p2 := 64) (l1 := [.ref 0, .int x1, .int x2, .int x3, .int v4]) (l2 := [.ref 0, .int x1, .int x2, .int x3, .int v4]) (s1 := []) (s2 := []) (h1 := h5) (h2 := h5) rfl rfl).trans (mm_ite ?_ ?_)
        · refine (mm_by 1 (pc' := 67) (ls' := [.ref 0, .int x1, .int x2, .int x3, .int v4]) (st' := [.int x3]) (h' := h5) rfl).trans ?_
          refine (mm_br (c := ¬ x3 = 0) (p1 := 80) (p2 := 70) (l1 := [.ref 0, .int x1, .int x2, .int x3, .int v4]) (l2 := [.ref 0, .int x1, .int x2, .int x3, .int v4]) (s1 := []) (s2 := []) (h1 := h5) (h2 := h5) rfl rfl).trans (mm_ite ?_ ?_)
          · exact mm_by_end 4 rfl
          · exact mm_by_end 5 rfl
        · exact mm_by_end 2 rfl
      · exact mm_by_end 2 rfl
set_option maxRecDepth 100000 in
set_option maxHeartbeats 4000000 in
theorem U_X11_change {d : Nat} {x1 : Int32} {x2 : Int32} {h : mm_H} : mm_M mm_T0 (d + 1) 171 [.ref 0, .int x1, .int x2] h = (mm_bI (mm_M mm_T0 d 104 [.ref 13, .int x1] h) (fun v2 h1 => if ¬ v2 = ((-1)) then (if x1 = x2 then (mm_bI (mm_M mm_T0 d 183 [.ref 0, .int 2] h1) (fun v4 h3 => some (some (.int 0), h3))) else (mm_bI (mm_M mm_T0 d 101 [.ref 13, .int x1] h1) (fun v6 h5 => if v6 = 0 then (mm_bI (mm_M mm_T0 d 183 [.ref 0, .int 2] h5) (fun v8 h7 => some (some (.int 0), h7))) else (mm_bI (mm_M mm_T0 d 101 [.ref 13, .int x2] h5) (fun v10 h9 => if v10 = 0 then (mm_bI (mm_M mm_T0 d 183 [.ref 0, .int 2] h9) (fun v12 h11 => some (some (.int 0), h11))) else (mm_bV (mm_M mm_T0 d 62 [.ref 22, .ref 13] h9) (fun h13 => mm_bV (mm_M mm_T0 d 117 [.ref 13, .int x1, .int x2] h13) (fun h14 => some (some (.int 1), h14))))))))) else (mm_bI (mm_M mm_T0 d 104 [.ref 13, .int x2] h1) (fun v16 h15 => if v16 = ((-1)) then (if x1 = x2 then (mm_bI (mm_M mm_T0 d 183 [.ref 0, .int 2] h15) (fun v18 h17 => some (some (.int 0), h17))) else (mm_bI (mm_M mm_T0 d 101 [.ref 13, .int x1] h15) (fun v20 h19 => if v20 = 0 then (mm_bI (mm_M mm_T0 d 183 [.ref 0, .int 2] h19) (fun v22 h21 => some (some (.int 0), h21))) else (mm_bI (mm_M mm_T0 d 101 [.ref 13, .int x2] h19) (fun v24 h23 => if v24 = 0 then (mm_bI (mm_M mm_T0 d 183 [.ref 0, .int 2] h23) (fun v26 h25 => some (some (.int 0), h25))) else (mm_bI (mm_M mm_T0 d 183 [.ref 0, .int 2] h23) (fun v28 h27 => some (some (.int 0), h27)))))))) else (if x1 = x2 then (mm_bI (mm_M mm_T0 d 183 [.ref 0, .int 2] h15) (fun v30 h29 => some (some (.int 0), h29))) else (mm_bI (mm_M mm_T0 d 101 [.ref 13, .int x1] h15) (fun v32 h31 => if v32 = 0 then (mm_bI (mm_M mm_T0 d 183 [.ref 0, .int 2] h31) (fun v34 h33 => some (some (.int 0), h33))) else (mm_bI (mm_M mm_T0 d 101 [.ref 13, .int x2] h31) (fun v36 h35 => if v36 = 0 then (mm_bI (mm_M mm_T0 d 183 [.ref 0, .int 2] h35) (fun v38 h37 => some (some (.int 0), h37))) else (mm_bV (mm_M mm_T0 d 62 [.ref 22, .ref 13] h35) (fun h39 => mm_bV (mm_M mm_T0 d 117 [.ref 13, .int x1, .int x2] h39) (fun h40 => some (some (.int 1), h40))))))))))))) := by
  refine (mm_M_eq (ls := [.ref 0, .int x1, .int x2, .null]) rfl (Nat.le_of_ble_eq_true rfl) rfl h).trans ?_
  refine (mm_by 3 (pc' := 5) (ls' := [.ref 0, .int x1, .int x2, .null]) (st' := [.int x1, .ref 13]) (h' := h) rfl).trans ?_
  refine (mm_c1 (y := 104) (as := [.ref 13, .int x1]) (nx := 8) (rest := []) rfl rfl).trans (mm_congI fun v2 h1 => ?_)
  refine (mm_by 1 (pc' := 9) (ls' := [.ref 0, .int x1, .int x2, .null]) (st' := [.int ((-1)), .int v2]) (h' := h1) rfl).trans ?_
  refine (mm_br (c := ¬ v2 = ((-1))) (p1 := 24) (p2 := 12) (l1 := [.ref 0, .int x1, .int x2, .null]) (l2 := [.ref 0, .int x1, .int x2, .null]) (s1 := []) (s2 := []) (h1 := h1) (h2 := h1) rfl rfl).trans (mm_ite ?_ ?_)
  · refine (mm_by 5 (pc' := 32) (ls' := [.ref 0, .int x1, .int x2, .int 1]) (st' := [.int x2, .int x1]) (h' := h1) rfl).trans ?_
    refine (mm_br (c := x1 = x2) (p1 := 61) (p2 := 35) (l1 := [.ref 0, .int x1, .int x2, .int 1]) (l2 := [.ref 0, .int x1, .int x2, .int 1]) (s1 := []) (s2 := []) (h1 := h1) (h2 := h1) rfl rfl).trans (mm_ite ?_ ?_)
    · refine (mm_by 2 (pc' := 63) (ls' := [.ref 0, .int x1, .int x2, .int 1]) (st' := [.int 2, .ref 0]) (h' := h1) rfl).trans ?_
      refine (mm_c1 (y := 183) (as := [.ref 0, .int 2]) (nx := 66) (rest := []) rfl rfl).trans (mm_congI fun v4 h3 => ?_)
      exact mm_by_end 3 rfl
    · refine (mm_by 3 (pc' := 40) (ls' := [.ref 0, .int x1, .int x2, .int 1]) (st' := [.int x1, .ref 13]) (h' := h1) rfl).trans ?_
      refine (mm_c1 (y := 101) (as := [.ref 13, .int x1]) (nx := 43) (rest := []) rfl rfl).trans (mm_congI fun v6 h5 => ?_)
      refine (mm_br (c := v6 = 0) (p1 := 61) (p2 := 46) (l1 := [.ref 0, .int x1, .int x2, .int 1]) (l2 := [.ref 0, .int x1, .int x2, .int 1]) (s1 := []) (s2 := []) (h1 := h5) (h2 := h5) rfl rfl).trans (mm_ite ?_ ?_)
      · refine (mm_by 2 (pc' := 63) (ls' := [.ref 0, .int x1, .int x2, .int 1]) (st' := [.int 2, .ref 0]) (h' := h5) rfl).trans ?_
        refine (mm_c1 (y := 183) (as := [.ref 0, .int 2]) (nx := 66) (rest := []) rfl rfl).trans (mm_congI fun v8 h7 => ?_)
        exact mm_by_end 3 rfl
      · refine (mm_by 3 (pc' := 51) (ls' := [.ref 0, .int x1, .int x2, .int 1]) (st' := [.int x2, .ref 13]) (h' := h5) rfl).trans ?_
        refine (mm_c1 (y := 101) (as := [.ref 13, .int x2]) (nx := 54) (rest := []) rfl rfl).trans (mm_congI fun v10 h9 => ?_)
        refine (mm_br (c := v10 = 0) (p1 := 61) (p2 := 57) (l1 := [.ref 0, .int x1, .int x2, .int 1]) (l2 := [.ref 0, .int x1, .int x2, .int 1]) (s1 := []) (s2 := []) (h1 := h9) (h2 := h9) rfl rfl).trans (mm_ite ?_ ?_)
        · refine (mm_by 2 (pc' := 63) (ls' := [.ref 0, .int x1, .int x2, .int 1]) (st' := [.int 2, .ref 0]) (h' := h9) rfl).trans ?_
          refine (mm_c1 (y := 183) (as := [.ref 0, .int 2]) (nx := 66) (rest := []) rfl rfl).trans (mm_congI fun v12 h11 => ?_)
          exact mm_by_end 3 rfl
        · refine (mm_by 6 (pc' := 77) (ls' := [.ref 0, .int x1, .int x2, .int 1]) (st' := [.ref 13, .ref 22]) (h' := h9) rfl).trans ?_
          refine (mm_c0 (y := 62) (as := [.ref 22, .ref 13]) (nx := 80) (rest := []) rfl rfl).trans (mm_congV fun h13 => ?_)
          refine (mm_by 4 (pc' := 86) (ls' := [.ref 0, .int x1, .int x2, .int 1]) (st' := [.int x2, .int x1, .ref 13]) (h' := h13) rfl).trans ?_
          refine (mm_c0 (y := 117) (as := [.ref 13, .int x1, .int x2]) (nx := 89) (rest := []) rfl rfl).trans (mm_congV fun h14 => ?_)
          exact mm_by_end 2 rfl
  · refine (mm_by 3 (pc' := 17) (ls' := [.ref 0, .int x1, .int x2, .null]) (st' := [.int x2, .ref 13]) (h' := h1) rfl).trans ?_
    refine (mm_c1 (y := 104) (as := [.ref 13, .int x2]) (nx := 20) (rest := []) rfl rfl).trans (mm_congI fun v16 h15 => ?_)
    refine (mm_by 1 (pc' := 21) (ls' := [.ref 0, .int x1, .int x2, .null]) (st' := [.int ((-1)), .int v16]) (h' := h15) rfl).trans ?_
    refine (mm_br (c := v16 = ((-1))) (p1 := 28) (p2 := 24) (l1 := [.ref 0, .int x1, .int x2, .null]) (l2 := [.ref 0, .int x1, .int x2, .null]) (s1 := []) (s2 := []) (h1 := h15) (h2 := h15) rfl rfl).trans (mm_ite ?_ ?_)
    · refine (mm_by 4 (pc' := 32) (ls' := [.ref 0, .int x1, .int x2, .int 0]) (st' := [.int x2, .int x1]) (h' := h15) rfl).trans ?_
      refine (mm_br (c := x1 = x2) (p1 := 61) (p2 := 35) (l1 := [.ref 0, .int x1, .int x2, .int 0]) (l2 := [.ref 0, .int x1, .int x2, .int 0]) (s1 := []) (s2 := []) (h1 := h15) (h2 := h15) rfl rfl).trans (mm_ite ?_ ?_)
      · refine (mm_by 2 (pc' := 63) (ls' := [.ref 0, .int x1, .int x2, .int 0]) (st' := [.int 2, .ref 0]) (h' := h15) rfl).trans ?_
        refine (mm_c1 (y := 183) (as := [.ref 0, .int 2]) (nx := 66) (rest := []) rfl rfl).trans (mm_congI fun v18 h17 => ?_)
        exact mm_by_end 3 rfl
      · refine (mm_by 3 (pc' := 40) (ls' := [.ref 0, .int x1, .int x2, .int 0]) (st' := [.int x1, .ref 13]) (h' := h15) rfl).trans ?_
        refine (mm_c1 (y := 101) (as := [.ref 13, .int x1]) (nx := 43) (rest := []) rfl rfl).trans (mm_congI fun v20 h19 => ?_)
        refine (mm_br (c := v20 = 0) (p1 := 61) (p2 := 46) (l1 := [.ref 0, .int x1, .int x2, .int 0]) (l2 := [.ref 0, .int x1, .int x2, .int 0]) (s1 := []) (s2 := []) (h1 := h19) (h2 := h19) rfl rfl).trans (mm_ite ?_ ?_)
        · refine (mm_by 2 (pc' := 63) (ls' := [.ref 0, .int x1, .int x2, .int 0]) (st' := [.int 2, .ref 0]) (h' := h19) rfl).trans ?_
          refine (mm_c1 (y := 183) (as := [.ref 0, .int 2]) (nx := 66) (rest := []) rfl rfl).trans (mm_congI fun v22 h21 => ?_)
          exact mm_by_end 3 rfl
        · refine (mm_by 3 (pc' := 51) (ls' := [.ref 0, .int x1, .int x2, .int 0]) (st' := [.int x2, .ref 13]) (h' := h19) rfl).trans ?_
          refine (mm_c1 (y := 101) (as := [.ref 13, .int x2]) (nx := 54) (rest := []) rfl rfl).trans (mm_congI fun v24 h23 => ?_)
          refine (mm_br (c := v24 = 0) (p1 := 61) (p2 := 57) (l1 := [.ref 0, .int x1, .int x2, .int 0]) (l2 := [.ref 0, .int x1, .int x2, .int 0]) (s1 := []) (s2 := []) (h1 := h23) (h2 := h23) rfl rfl).trans (mm_ite ?_ ?_)
          · refine (mm_by 2 (pc' := 63) (ls' := [.ref 0, .int x1, .int x2, .int 0]) (st' := [.int 2, .ref 0]) (h' := h23) rfl).trans ?_
            refine (mm_c1 (y := 183) (as := [.ref 0, .int 2]) (nx := 66) (rest := []) rfl rfl).trans (mm_congI fun v26 h25 => ?_)
            exact mm_by_end 3 rfl
          · refine (mm_by 4 (pc' := 63) (ls' := [.ref 0, .int x1, .int x2, .int 0]) (st' := [.int 2, .ref 0]) (h' := h23) rfl).trans ?_
            refine (mm_c1 (y := 183) (as := [.ref 0, .int 2]) (nx := 66) (rest := []) rfl rfl).trans (mm_congI fun v28 h27 => ?_)
            exact mm_by_end 3 rfl
    · refine (mm_by 5 (pc' := 32) (ls' := [.ref 0, .int x1, .int x2, .int 1]) (st' := [.int x2, .int x1]) (h' := h15) rfl).trans ?_
      refine (mm_br (c := x1 = x2) (p1 := 61) (p2 := 35) (l1 := [.ref 0, .int x1, .int x2, .int 1]) (l2 := [.ref 0, .int x1, .int x2, .int 1]) (s1 := []) (s2 := []) (h1 := h15) (h2 := h15) rfl rfl).trans (mm_ite ?_ ?_)
      · refine (mm_by 2 (pc' := 63) (ls' := [.ref 0, .int x1, .int x2, .int 1]) (st' := [.int 2, .ref 0]) (h' := h15) rfl).trans ?_
        refine (mm_c1 (y := 183) (as := [.ref 0, .int 2]) (nx := 66) (rest := []) rfl rfl).trans (mm_congI fun v30 h29 => ?_)
        exact mm_by_end 3 rfl
      · refine (mm_by 3 (pc' := 40) (ls' := [.ref 0, .int x1, .int x2, .int 1]) (st' := [.int x1, .ref 13]) (h' := h15) rfl).trans ?_
        refine (mm_c1 (y := 101) (as := [.ref 13, .int x1]) (nx := 43) (rest := []) rfl rfl).trans (mm_congI fun v32 h31 => ?_)
        refine (mm_br (c := v32 = 0) (p1 := 61) (p2 := 46) (l1 := [.ref 0, .int x1, .int x2, .int 1]) (l2 := [.ref 0, .int x1, .int x2, .int 1]) (s1 := []) (s2 := []) (h1 := h31) (h2 := h31) rfl rfl).trans (mm_ite ?_ ?_)
        · refine (mm_by 2 (pc' := 63) (ls' := [.ref 0, .int x1, .int x2, .int 1]) (st' := [.int 2, .ref 0]) (h' := h31) rfl).trans ?_
          refine (mm_c1 (y := 183) (as := [.ref 0, .int 2]) (nx := 66) (rest := []) rfl rfl).trans (mm_congI fun v34 h33 => ?_)
          exact mm_by_end 3 rfl
        · refine (mm_by 3 (pc' := 51) (ls' := [.ref 0, .int x1, .int x2, .int 1]) (st' := [.int x2, .ref 13]) (h' := h31) rfl).trans ?_
          refine (mm_c1 (y := 101) (as := [.ref 13, .int x2]) (nx := 54) (rest := []) rfl rfl).trans (mm_congI fun v36 h35 => ?_)
          refine (mm_br (c := v36 = 0) (p1 := 61) (p2 := 57) (l1 := [.ref 0, .int x1, .int x2, .int 1]) (l2 := [.ref 0, .int x1, .int x2, .int 1]) (s1 := []) (s2 := []) (h1 := h35) (h2 := h35) rfl rfl).trans (mm_ite ?_ ?_)
          · refine (mm_by 2 (pc' := 63) (ls' := [.ref 0, .int x1, .int x2, .int 1]) (st' := [.int 2, .ref 0]) (h' := h35) rfl).trans ?_
            refine (mm_c1 (y := 183) (as := [.ref 0, .int 2]) (nx := 66) (rest := []) rfl rfl).trans (mm_congI fun v38 h37 => ?_)
            exact mm_by_end 3 rfl
          · refine (mm_by 6 (pc' := 77) (ls' := [.ref 0, .int x1, .int x2, .int 1]) (st' := [.ref 13, .ref 22]) (h' := h35) rfl).trans ?_
            refine (mm_c0 (y := 62) (as := [.ref 22, .ref 13]) (nx := 80) (rest := []) rfl rfl).trans (mm_congV fun h39 => ?_)
            refine (mm_by 4 (pc' := 86) (ls' := [.ref 0, .int x1, .int x2, .int 1]) (st' := [.int x2, .int x1, .ref 13]) (h' := h39) rfl).trans ?_
            refine (mm_c0 (y := 117) (as := [.ref 13, .int x1, .int x2]) (nx := 89) (rest := []) rfl rfl).trans (mm_congV fun h40 => ?_)
            exact mm_by_end 2 rfl
set_option maxRecDepth 100000 in
set_option maxHeartbeats 4000000 in
theorem U_X11_right {d : Nat} {x1 : Int32} {h : mm_H} : mm_M mm_T0 (d + 1) 172 [.ref 0, .int x1] h = (mm_bI (mm_M mm_T0 d 107 [.ref 13, .int x1] h) (fun v2 h1 => mm_bI (mm_M mm_T0 d 102 [.ref 13, .int x1] h1) (fun v4 h3 => if v4 = 0 then (mm_bI (mm_M mm_T0 d 183 [.ref 0, .int 2] h3) (fun v6 h5 => some (some (.int 0), h5))) else (mm_bI (mm_M mm_T0 d 106 [.ref 13, .int x1] h3) (fun v8 h7 => if ¬ v8 = (v2 * 10) then (mm_bV (mm_M mm_T0 d 62 [.ref 22, .ref 13] h7) (fun h9 => mm_bV (mm_M mm_T0 d 112 [.ref 13, .int x1, .int (v2 * 10)] h9) (fun h10 => some (some (.int 1), h10)))) else (mm_bI (mm_M mm_T0 d 183 [.ref 0, .int 2] h7) (fun v12 h11 => some (some (.int 0), h11)))))))) := by
  refine (mm_M_eq (ls := [.ref 0, .int x1, .null]) rfl (Nat.le_of_ble_eq_true rfl) rfl h).trans ?_
  refine (mm_by 3 (pc' := 5) (ls' := [.ref 0, .int x1, .null]) (st' := [.int x1, .ref 13]) (h' := h) rfl).trans ?_
  refine (mm_c1 (y := 107) (as := [.ref 13, .int x1]) (nx := 8) (rest := []) rfl rfl).trans (mm_congI fun v2 h1 => ?_)
  refine (mm_by 6 (pc' := 17) (ls' := [.ref 0, .int x1, .int (v2 * 10)]) (st' := [.int x1, .ref 13]) (h' := h1) rfl).trans ?_
  refine (mm_c1 (y := 102) (as := [.ref 13, .int x1]) (nx := 20) (rest := []) rfl rfl).trans (mm_congI fun v4 h3 => ?_)
  refine (mm_br (c := v4 = 0) (p1 := 35) (p2 := 23) (l1 := [.ref 0, .int x1, .int (v2 * 10)]) (l2 := [.ref 0, .int x1, .int (v2 * 10)]) (s1 := []) (s2 := []) (h1 := h3) (h2 := h3) rfl rfl).trans (mm_ite ?_ ?_)
  · refine (mm_by 2 (pc' := 37) (ls' := [.ref 0, .int x1, .int (v2 * 10)]) (st' := [.int 2, .ref 0]) (h' := h3) rfl).trans ?_
    refine (mm_c1 (y := 183) (as := [.ref 0, .int 2]) (nx := 40) (rest := []) rfl rfl).trans (mm_congI fun v6 h5 => ?_)
    exact mm_by_end 3 rfl
  · refine (mm_by 3 (pc' := 28) (ls' := [.ref 0, .int x1, .int (v2 * 10)]) (st' := [.int x1, .ref 13]) (h' := h3) rfl).trans ?_
    refine (mm_c1 (y := 106) (as := [.ref 13, .int x1]) (nx := 31) (rest := []) rfl rfl).trans (mm_congI fun v8 h7 => ?_)
    refine (mm_by 1 (pc' := 32) (ls' := [.ref 0, .int x1, .int (v2 * 10)]) (st' := [.int (v2 * 10), .int v8]) (h' := h7) rfl).trans ?_
    refine (mm_br (c := ¬ v8 = (v2 * 10)) (p1 := 43) (p2 := 35) (l1 := [.ref 0, .int x1, .int (v2 * 10)]) (l2 := [.ref 0, .int x1, .int (v2 * 10)]) (s1 := []) (s2 := []) (h1 := h7) (h2 := h7) rfl rfl).trans (mm_ite ?_ ?_)
    · refine (mm_by 4 (pc' := 51) (ls' := [.ref 0, .int x1, .int (v2 * 10)]) (st' := [.ref 13, .ref 22]) (h' := h7) rfl).trans ?_
      refine (mm_c0 (y := 62) (as := [.ref 22, .ref 13]) (nx := 54) (rest := []) rfl rfl).trans (mm_congV fun h9 => ?_)
      refine (mm_by 4 (pc' := 60) (ls' := [.ref 0, .int x1, .int (v2 * 10)]) (st' := [.int (v2 * 10), .int x1, .ref 13]) (h' := h9) rfl).trans ?_
      refine (mm_c0 (y := 112) (as := [.ref 13, .int x1, .int (v2 * 10)]) (nx := 63) (rest := []) rfl rfl).trans (mm_congV fun h10 => ?_)
      exact mm_by_end 2 rfl
    · refine (mm_by 2 (pc' := 37) (ls' := [.ref 0, .int x1, .int (v2 * 10)]) (st' := [.int 2, .ref 0]) (h' := h7) rfl).trans ?_
      refine (mm_c1 (y := 183) (as := [.ref 0, .int 2]) (nx := 40) (rest := []) rfl rfl).trans (mm_congI fun v12 h11 => ?_)
      exact mm_by_end 3 rfl
set_option maxRecDepth 100000 in
set_option maxHeartbeats 4000000 in
theorem U_X11_spare {d : Nat} {x1 : Int32} {x2 : Int32} {h : mm_H} : mm_M mm_T0 (d + 1) 173 [.ref 0, .int x1, .int x2] h = (mm_bI (mm_M mm_T0 d 102 [.ref 13, .int x1] h) (fun v2 h1 => if v2 = 0 then (mm_bI (mm_M mm_T0 d 183 [.ref 0, .int 2] h1) (fun v4 h3 => some (some (.int 0), h3))) else (if x2 < 0 then (mm_bI (mm_M mm_T0 d 183 [.ref 0, .int 2] h1) (fun v6 h5 => some (some (.int 0), h5))) else (if 1 < x2 then (mm_bI (mm_M mm_T0 d 183 [.ref 0, .int 2] h1) (fun v8 h7 => some (some (.int 0), h7))) else (mm_bI (mm_M mm_T0 d 109 [.ref 13, .int x1] h1) (fun v10 h9 => if ¬ v10 = x2 then (mm_bV (mm_M mm_T0 d 62 [.ref 22, .ref 13] h9) (fun h11 => mm_bV (mm_M mm_T0 d 114 [.ref 13, .int x1, .int x2] h11) (fun h12 => some (some (.int 1), h12)))) else (mm_bI (mm_M mm_T0 d 183 [.ref 0, .int 2] h9) (fun v14 h13 => some (some (.int 0), h13))))))))) := by
  refine (mm_M_eq (ls := [.ref 0, .int x1, .int x2]) rfl (Nat.le_of_ble_eq_true rfl) rfl h).trans ?_
  refine (mm_by 3 (pc' := 5) (ls' := [.ref 0, .int x1, .int x2]) (st' := [.int x1, .ref 13]) (h' := h) rfl).trans ?_
  refine (mm_c1 (y := 102) (as := [.ref 13, .int x1]) (nx := 8) (rest := []) rfl rfl).trans (mm_congI fun v2 h1 => ?_)
  refine (mm_br (c := v2 = 0) (p1 := 32) (p2 := 11) (l1 := [.ref 0, .int x1, .int x2]) (l2 := [.ref 0, .int x1, .int x2]) (s1 := []) (s2 := []) (h1 := h1) (h2 := h1) rfl rfl).trans (mm_ite ?_ ?_)
  · refine (mm_by 2 (pc' := 34) (ls' := [.ref 0, .int x1, .int x2]) (st' := [.int 2, .ref 0]) (h' := h1) rfl).trans ?_
    refine (mm_c1 (y := 183) (as := [.ref 0, .int 2]) (nx := 37) (rest := []) rfl rfl).trans (mm_congI fun v4 h3 => ?_)
    exact mm_by_end 3 rfl
  · refine (mm_by 1 (pc' := 12) (ls' := [.ref 0, .int x1, .int x2]) (st' := [.int x2]) (h' := h1) rfl).trans ?_
    refine (mm_br (c := x2 < 0) (p1 := 32) (p2 := 15) (l1 := [.ref 0, .int x1, .int x2]) (l2 := [.ref 0, .int x1, .int x2]) (s1 := []) (s2 := []) (h1 := h1) (h2 := h1) rfl rfl).trans (mm_ite ?_ ?_)
    · refine (mm_by 2 (pc' := 34) (ls' := [.ref 0, .int x1, .int x2]) (st' := [.int 2, .ref 0]) (h' := h1) rfl).trans ?_
      refine (mm_c1 (y := 183) (as := [.ref 0, .int 2]) (nx := 37) (rest := []) rfl rfl).trans (mm_congI fun v6 h5 => ?_)
      exact mm_by_end 3 rfl
    · refine (mm_by 2 (pc' := 17) (ls' := [.ref 0, .int x1, .int x2]) (st' := [.int 1, .int x2]) (h' := h1) rfl).trans ?_
      refine (mm_br (c := 1 < x2) (p1 := 32) (p2 := 20) (l1 := [.ref 0, .int x1, .int x2]) (l2 := [.ref 0, .int x1, .int x2]) (s1 := []) (s2 := []) (h1 := h1) (h2 := h1) rfl rfl).trans (mm_ite ?_ ?_)
      · refine (mm_by 2 (pc' := 34) (ls' := [.ref 0, .int x1, .int x2]) (st' := [.int 2, .ref 0]) (h' := h1) rfl).trans ?_
        refine (mm_c1 (y := 183) (as := [.ref 0, .int 2]) (nx := 37) (rest := []) rfl rfl).trans (mm_congI fun v8 h7 => ?_)
        exact mm_by_end 3 rfl
      · refine (mm_by 3 (pc' := 25) (ls' := [.ref 0, .int x1, .int x2]) (st' := [.int x1, .ref 13]) (h' := h1) rfl).trans ?_
        refine (mm_c1 (y := 109) (as := [.ref 13, .int x1]) (nx := 28) (rest := []) rfl rfl).trans (mm_congI fun v10 h9 => ?_)
        refine (mm_by 1 (pc' := 29) (ls' := [.ref 0, .int x1, .int x2]) (st' := [.int x2, .int v10]) (h' := h9) rfl).trans ?_
        refine (mm_br (c := ¬ v10 = x2) (p1 := 40) (p2 := 32) (l1 := [.ref 0, .int x1, .int x2]) (l2 := [.ref 0, .int x1, .int x2]) (s1 := []) (s2 := []) (h1 := h9) (h2 := h9) rfl rfl).trans (mm_ite ?_ ?_)
        · refine (mm_by 4 (pc' := 48) (ls' := [.ref 0, .int x1, .int x2]) (st' := [.ref 13, .ref 22]) (h' := h9) rfl).trans ?_
          refine (mm_c0 (y := 62) (as := [.ref 22, .ref 13]) (nx := 51) (rest := []) rfl rfl).trans (mm_congV fun h11 => ?_)
          refine (mm_by 4 (pc' := 57) (ls' := [.ref 0, .int x1, .int x2]) (st' := [.int x2, .int x1, .ref 13]) (h' := h11) rfl).trans ?_
          refine (mm_c0 (y := 114) (as := [.ref 13, .int x1, .int x2]) (nx := 60) (rest := []) rfl rfl).trans (mm_congV fun h12 => ?_)
          exact mm_by_end 2 rfl
        · refine (mm_by 2 (pc' := 34) (ls' := [.ref 0, .int x1, .int x2]) (st' := [.int 2, .ref 0]) (h' := h9) rfl).trans ?_
          refine (mm_c1 (y := 183) (as := [.ref 0, .int 2]) (nx := 37) (rest := []) rfl rfl).trans (mm_congI fun v14 h13 => ?_)
          exact mm_by_end 3 rfl
set_option maxRecDepth 100000 in
set_option maxHeartbeats 4000000 in
theorem U_X11_years {d : Nat} {x1 : Int32} {h : mm_H} : mm_M mm_T0 (d + 1) 174 [.ref 0, .int x1] h = (if (h.1 0 12) = 0 then (mm_bI (mm_M mm_T0 d 183 [.ref 0, .int 3] h) (fun v2 h1 => some (some (.int v2), h1))) else (mm_bI (mm_M mm_T0 d 184 [.ref 0, .int x1, .int 1, .int 100] h) (fun v4 h3 => if ¬ v4 = 0 then (mm_bV (mm_M mm_T0 d 62 [.ref 22, .ref 13] h3) (fun h5 => if mm_sh (h5.2.2 0 10) = (0, 10) then (mm_bV (mm_M mm_T0 d 141 [.ref (h5.2.2 0 10), .ref 13, .int x1] h5) (fun h6 => some (some (.int ((h6.1 13 8) - (h5.1 13 8))), h6))) else none)) else (mm_bI (mm_M mm_T0 d 183 [.ref 0, .int 3] h3) (fun v8 h7 => some (some (.int v8), h7)))))) := by
  refine (mm_M_eq (ls := [.ref 0, .int x1, .null]) rfl (Nat.le_of_ble_eq_true rfl) rfl h).trans ?_
  refine (mm_by 2 (pc' := 4) (ls' := [.ref 0, .int x1, .null]) (st' := [.int (h.1 0 12)]) (h' := h) rfl).trans ?_
  refine (mm_br (c := (h.1 0 12) = 0) (p1 := 18) (p2 := 7) (l1 := [.ref 0, .int x1, .null]) (l2 := [.ref 0, .int x1, .null]) (s1 := []) (s2 := []) (h1 := h) (h2 := h) rfl rfl).trans (mm_ite ?_ ?_)
  · refine (mm_by 2 (pc' := 20) (ls' := [.ref 0, .int x1, .null]) (st' := [.int 3, .ref 0]) (h' := h) rfl).trans ?_
    refine (mm_c1 (y := 183) (as := [.ref 0, .int 3]) (nx := 23) (rest := []) rfl rfl).trans (mm_congI fun v2 h1 => ?_)
    exact mm_by_end 1 rfl
  · refine (mm_by 4 (pc' := 12) (ls' := [.ref 0, .int x1, .null]) (st' := [.int 100, .int 1, .int x1, .ref 0]) (h' := h) rfl).trans ?_
    refine (mm_c1 (y := 184) (as := [.ref 0, .int x1, .int 1, .int 100]) (nx := 15) (rest := []) rfl rfl).trans (mm_congI fun v4 h3 => ?_)
    refine (mm_br (c := ¬ v4 = 0) (p1 := 24) (p2 := 18) (l1 := [.ref 0, .int x1, .null]) (l2 := [.ref 0, .int x1, .null]) (s1 := []) (s2 := []) (h1 := h3) (h2 := h3) rfl rfl).trans (mm_ite ?_ ?_)
    · refine (mm_by 4 (pc' := 32) (ls' := [.ref 0, .int x1, .null]) (st' := [.ref 13, .ref 22]) (h' := h3) rfl).trans ?_
      refine (mm_c0 (y := 62) (as := [.ref 22, .ref 13]) (nx := 35) (rest := []) rfl rfl).trans (mm_congV fun h5 => ?_)
      refine (mm_by 9 (pc' := 52) (ls' := [.ref 0, .int x1, .int (h5.1 13 8)]) (st' := [.int x1, .ref 13, .ref (h5.2.2 0 10)]) (h' := h5) rfl).trans ?_
      refine (mm_d0 (b := h5.2.2 0 10) (ci := 10) (y := 141) (as := [.ref (h5.2.2 0 10), .ref 13, .int x1]) (nx := 55) (rest := []) rfl rfl (Nat.le_of_ble_eq_true rfl)).trans (mm_ite (mm_congV fun h6 => ?_) rfl)
      exact mm_by_end 6 rfl
    · refine (mm_by 2 (pc' := 20) (ls' := [.ref 0, .int x1, .null]) (st' := [.int 3, .ref 0]) (h' := h3) rfl).trans ?_
      refine (mm_c1 (y := 183) (as := [.ref 0, .int 3]) (nx := 23) (rest := []) rfl rfl).trans (mm_congI fun v8 h7 => ?_)
      exact mm_by_end 1 rfl
set_option maxRecDepth 100000 in
set_option maxHeartbeats 4000000 in
theorem U_X11_chance {d : Nat} {x1 : Int32} {h : mm_H} : mm_M mm_T0 (d + 1) 175 [.ref 0, .int x1] h = (if (h.1 0 12) = 0 then (mm_bI (mm_M mm_T0 d 183 [.ref 0, .int 3] h) (fun v2 h1 => some (some (.int v2), h1))) else (mm_bI (mm_M mm_T0 d 184 [.ref 0, .int x1, .int 1, .int 100] h) (fun v4 h3 => if ¬ v4 = 0 then (mm_bV (mm_M mm_T0 d 62 [.ref 22, .ref 13] h3) (fun h5 => mm_D (mm_M mm_T0 d) cd_X11_chance 39 [.ref 0, .int x1, .int 0, .int 0] [] h5)) else (mm_bI (mm_M mm_T0 d 183 [.ref 0, .int 3] h3) (fun v7 h6 => some (some (.int v7), h6)))))) := by
  refine (mm_M_eq (ls := [.ref 0, .int x1, .null, .null]) rfl (Nat.le_of_ble_eq_true rfl) rfl h).trans ?_
  refine (mm_by 2 (pc' := 4) (ls' := [.ref 0, .int x1, .null, .null]) (st' := [.int (h.1 0 12)]) (h' := h) rfl).trans ?_
  refine (mm_br (c := (h.1 0 12) = 0) (p1 := 18) (p2 := 7) (l1 := [.ref 0, .int x1, .null, .null]) (l2 := [.ref 0, .int x1, .null, .null]) (s1 := []) (s2 := []) (h1 := h) (h2 := h) rfl rfl).trans (mm_ite ?_ ?_)
  · refine (mm_by 2 (pc' := 20) (ls' := [.ref 0, .int x1, .null, .null]) (st' := [.int 3, .ref 0]) (h' := h) rfl).trans ?_
    refine (mm_c1 (y := 183) (as := [.ref 0, .int 3]) (nx := 23) (rest := []) rfl rfl).trans (mm_congI fun v2 h1 => ?_)
    exact mm_by_end 1 rfl
  · refine (mm_by 4 (pc' := 12) (ls' := [.ref 0, .int x1, .null, .null]) (st' := [.int 100, .int 1, .int x1, .ref 0]) (h' := h) rfl).trans ?_
    refine (mm_c1 (y := 184) (as := [.ref 0, .int x1, .int 1, .int 100]) (nx := 15) (rest := []) rfl rfl).trans (mm_congI fun v4 h3 => ?_)
    refine (mm_br (c := ¬ v4 = 0) (p1 := 24) (p2 := 18) (l1 := [.ref 0, .int x1, .null, .null]) (l2 := [.ref 0, .int x1, .null, .null]) (s1 := []) (s2 := []) (h1 := h3) (h2 := h3) rfl rfl).trans (mm_ite ?_ ?_)
    · refine (mm_by 4 (pc' := 32) (ls' := [.ref 0, .int x1, .null, .null]) (st' := [.ref 13, .ref 22]) (h' := h3) rfl).trans ?_
      refine (mm_c0 (y := 62) (as := [.ref 22, .ref 13]) (nx := 35) (rest := []) rfl rfl).trans (mm_congV fun h5 => ?_)
      exact mm_by 4 rfl
    · refine (mm_by 2 (pc' := 20) (ls' := [.ref 0, .int x1, .null, .null]) (st' := [.int 3, .ref 0]) (h' := h3) rfl).trans ?_
      refine (mm_c1 (y := 183) (as := [.ref 0, .int 3]) (nx := 23) (rest := []) rfl rfl).trans (mm_congI fun v7 h6 => ?_)
      exact mm_by_end 1 rfl
set_option maxRecDepth 100000 in
set_option maxHeartbeats 4000000 in
theorem U_X11_chance_39 {d : Nat} {x1 : Int32} {x2 : Int32} {x3 : Int32} {h : mm_H} : mm_D (mm_M mm_T0 d) cd_X11_chance 39 [.ref 0, .int x1, .int x2, .int x3] [] h = (if x1 ≤ x3 then (some (some (.int x2), h)) else (mm_bI (mm_M mm_T0 d 185 [.ref 0] h) (fun v2 h1 => if mm_sh (h1.2.2 0 10) = (0, 10) then (mm_bV (mm_M mm_T0 d 141 [.ref (h1.2.2 0 10), .ref 13, .int 1] h1) (fun h3 => mm_D (mm_M mm_T0 d) cd_X11_chance 39 [.ref 0, .int x1, .int (x2 + v2), .int (x3 + 1)] [] h3)) else none))) := by
  refine (mm_by 2 (pc' := 41) (ls' := [.ref 0, .int x1, .int x2, .int x3]) (st' := [.int x1, .int x3]) (h' := h) rfl).trans ?_
  refine (mm_br (c := x1 ≤ x3) (p1 := 69) (p2 := 44) (l1 := [.ref 0, .int x1, .int x2, .int x3]) (l2 := [.ref 0, .int x1, .int x2, .int x3]) (s1 := []) (s2 := []) (h1 := h) (h2 := h) rfl rfl).trans (mm_ite ?_ ?_)
  · exact mm_by_end 2 rfl
  · refine (mm_by 2 (pc' := 46) (ls' := [.ref 0, .int x1, .int x2, .int x3]) (st' := [.ref 0, .int x2]) (h' := h) rfl).trans ?_
    refine (mm_c1 (y := 185) (as := [.ref 0]) (nx := 49) (rest := [.int x2]) rfl rfl).trans (mm_congI fun v2 h1 => ?_)
    refine (mm_by 7 (pc' := 60) (ls' := [.ref 0, .int x1, .int (x2 + v2), .int x3]) (st' := [.int 1, .ref 13, .ref (h1.2.2 0 10)]) (h' := h1) rfl).trans ?_
    refine (mm_d0 (b := h1.2.2 0 10) (ci := 10) (y := 141) (as := [.ref (h1.2.2 0 10), .ref 13, .int 1]) (nx := 63) (rest := []) rfl rfl (Nat.le_of_ble_eq_true rfl)).trans (mm_ite (mm_congV fun h3 => ?_) rfl)
    exact mm_by 2 rfl
set_option maxRecDepth 100000 in
set_option maxHeartbeats 4000000 in
theorem U_X11_undo {d : Nat} {h : mm_H} : mm_M mm_T0 (d + 1) 176 [.ref 0] h = (mm_bI (mm_M mm_T0 d 63 [.ref 22, .ref 13] h) (fun v2 h1 => if ¬ v2 = 0 then (some (some (.int 1), h1)) else (mm_bI (mm_M mm_T0 d 183 [.ref 0, .int 4] h1) (fun v4 h3 => some (some (.int 0), h3))))) := by
  refine (mm_M_eq (ls := [.ref 0]) rfl (Nat.le_of_ble_eq_true rfl) rfl h).trans ?_
  refine (mm_by 4 (pc' := 8) (ls' := [.ref 0]) (st' := [.ref 13, .ref 22]) (h' := h) rfl).trans ?_
  refine (mm_c1 (y := 63) (as := [.ref 22, .ref 13]) (nx := 11) (rest := []) rfl rfl).trans (mm_congI fun v2 h1 => ?_)
  refine (mm_br (c := ¬ v2 = 0) (p1 := 22) (p2 := 14) (l1 := [.ref 0]) (l2 := [.ref 0]) (s1 := []) (s2 := []) (h1 := h1) (h2 := h1) rfl rfl).trans (mm_ite ?_ ?_)
  · exact mm_by_end 2 rfl
  · refine (mm_by 2 (pc' := 16) (ls' := [.ref 0]) (st' := [.int 4, .ref 0]) (h' := h1) rfl).trans ?_
    refine (mm_c1 (y := 183) (as := [.ref 0, .int 4]) (nx := 19) (rest := []) rfl rfl).trans (mm_congI fun v4 h3 => ?_)
    exact mm_by_end 3 rfl
set_option maxRecDepth 100000 in
set_option maxHeartbeats 4000000 in
theorem U_X11_seed {d : Nat} {x1 : Int32} {h : mm_H} : mm_M mm_T0 (d + 1) 177 [.ref 0, .int x1] h = (if 0 ≤ x1 then (some (some (.int 1), wI h 0 13 x1)) else (mm_bI (mm_M mm_T0 d 183 [.ref 0, .int 5] h) (fun v2 h1 => some (some (.int 0), h1)))) := by
  refine (mm_M_eq (ls := [.ref 0, .int x1]) rfl (Nat.le_of_ble_eq_true rfl) rfl h).trans ?_
  refine (mm_by 1 (pc' := 1) (ls' := [.ref 0, .int x1]) (st' := [.int x1]) (h' := h) rfl).trans ?_
  refine (mm_br (c := 0 ≤ x1) (p1 := 12) (p2 := 4) (l1 := [.ref 0, .int x1]) (l2 := [.ref 0, .int x1]) (s1 := []) (s2 := []) (h1 := h) (h2 := h) rfl rfl).trans (mm_ite ?_ ?_)
  · exact mm_by_end 5 rfl
  · refine (mm_by 2 (pc' := 6) (ls' := [.ref 0, .int x1]) (st' := [.int 5, .ref 0]) (h' := h) rfl).trans ?_
    refine (mm_c1 (y := 183) (as := [.ref 0, .int 5]) (nx := 9) (rest := []) rfl rfl).trans (mm_congI fun v2 h1 => ?_)
    exact mm_by_end 3 rfl
set_option maxRecDepth 100000 in
set_option maxHeartbeats 4000000 in
theorem U_X11_ask {d : Nat} {h : mm_H} : mm_M mm_T0 (d + 1) 178 [.ref 0] h = (if (h.1 0 12) = 0 then (mm_bV (mm_M mm_T0 d 128 [.ref 1, .int 0] h) (fun h1 => some (some (.long ((-1000000000000000))), h1))) else (mm_bI (mm_M mm_T0 d 70 [.ref 4, .ref 3, .ref 11] h) (fun v3 h2 => if v3 = 0 then (mm_bV (mm_M mm_T0 d 128 [.ref 1, .int 0] h2) (fun h4 => some (some (.long ((-1000000000000000))), h4))) else (mm_bV (mm_M mm_T0 d 128 [.ref 1, .int 0] h2) (fun h5 => mm_bL (mm_M mm_T0 d 71 [.ref 4, .ref 13] h5) (fun v7 h6 => some (some (.long v7), h6))))))) := by
  refine (mm_M_eq (ls := [.ref 0, .null]) rfl (Nat.le_of_ble_eq_true rfl) rfl h).trans ?_
  refine (mm_by 2 (pc' := 4) (ls' := [.ref 0, .null]) (st' := [.int (h.1 0 12)]) (h' := h) rfl).trans ?_
  refine (mm_br (c := (h.1 0 12) = 0) (p1 := 29) (p2 := 7) (l1 := [.ref 0, .null]) (l2 := [.ref 0, .null]) (s1 := []) (s2 := []) (h1 := h) (h2 := h) rfl rfl).trans (mm_ite ?_ ?_)
  · refine (mm_by 5 (pc' := 36) (ls' := [.ref 0, .int 0]) (st' := [.int 0, .ref 1]) (h' := h) rfl).trans ?_
    refine (mm_c0 (y := 128) (as := [.ref 1, .int 0]) (nx := 39) (rest := []) rfl rfl).trans (mm_congV fun h1 => ?_)
    exact mm_by_end 4 rfl
  · refine (mm_by 6 (pc' := 19) (ls' := [.ref 0, .null]) (st' := [.ref 11, .ref 3, .ref 4]) (h' := h) rfl).trans ?_
    refine (mm_c1 (y := 70) (as := [.ref 4, .ref 3, .ref 11]) (nx := 22) (rest := []) rfl rfl).trans (mm_congI fun v3 h2 => ?_)
    refine (mm_br (c := v3 = 0) (p1 := 29) (p2 := 25) (l1 := [.ref 0, .null]) (l2 := [.ref 0, .null]) (s1 := []) (s2 := []) (h1 := h2) (h2 := h2) rfl rfl).trans (mm_ite ?_ ?_)
    · refine (mm_by 5 (pc' := 36) (ls' := [.ref 0, .int 0]) (st' := [.int 0, .ref 1]) (h' := h2) rfl).trans ?_
      refine (mm_c0 (y := 128) (as := [.ref 1, .int 0]) (nx := 39) (rest := []) rfl rfl).trans (mm_congV fun h4 => ?_)
      exact mm_by_end 4 rfl
    · refine (mm_by 6 (pc' := 36) (ls' := [.ref 0, .int 1]) (st' := [.int 0, .ref 1]) (h' := h2) rfl).trans ?_
      refine (mm_c0 (y := 128) (as := [.ref 1, .int 0]) (nx := 39) (rest := []) rfl rfl).trans (mm_congV fun h5 => ?_)
      refine (mm_by 6 (pc' := 51) (ls' := [.ref 0, .int 1]) (st' := [.ref 13, .ref 4]) (h' := h5) rfl).trans ?_
      refine (mm_c2 (y := 71) (as := [.ref 4, .ref 13]) (nx := 54) (rest := []) rfl rfl).trans (mm_congL fun v7 h6 => ?_)
      exact mm_by_end 2 rfl
set_option maxRecDepth 100000 in
set_option maxHeartbeats 4000000 in
theorem U_X11_image {d : Nat} {h : mm_H} : mm_M mm_T0 (d + 1) 179 [.ref 0] h = (mm_bI (mm_M mm_T0 d 65 [.ref 218, .ref 13] h) (fun v2 h1 => some (some (.int v2), h1))) := by
  refine (mm_M_eq (ls := [.ref 0]) rfl (Nat.le_of_ble_eq_true rfl) rfl h).trans ?_
  refine (mm_by 4 (pc' := 8) (ls' := [.ref 0]) (st' := [.ref 13, .ref 218]) (h' := h) rfl).trans ?_
  refine (mm_c1 (y := 65) (as := [.ref 218, .ref 13]) (nx := 11) (rest := []) rfl rfl).trans (mm_congI fun v2 h1 => ?_)
  exact mm_by_end 1 rfl
set_option maxRecDepth 100000 in
set_option maxHeartbeats 4000000 in
theorem U_X11_octet {d : Nat} {x1 : Int32} {h : mm_H} : mm_M mm_T0 (d + 1) 180 [.ref 0, .int x1] h = (mm_bI (mm_M mm_T0 d 64 [.ref 218, .int x1] h) (fun v2 h1 => some (some (.int v2), h1))) := by
  refine (mm_M_eq (ls := [.ref 0, .int x1]) rfl (Nat.le_of_ble_eq_true rfl) rfl h).trans ?_
  refine (mm_by 3 (pc' := 5) (ls' := [.ref 0, .int x1]) (st' := [.int x1, .ref 218]) (h' := h) rfl).trans ?_
  refine (mm_c1 (y := 64) (as := [.ref 218, .int x1]) (nx := 8) (rest := []) rfl rfl).trans (mm_congI fun v2 h1 => ?_)
  exact mm_by_end 1 rfl
set_option maxRecDepth 100000 in
set_option maxHeartbeats 4000000 in
theorem U_X11_on {d : Nat} {h : mm_H} : mm_M mm_T0 (d + 1) 181 [.ref 0] h = (if (h.1 0 12) = 0 then (mm_bV (mm_M mm_T0 d 128 [.ref 1, .int 0] h) (fun h1 => mm_bI (mm_M mm_T0 d 183 [.ref 0, .int 5] h1) (fun v3 h2 => some (some (.int 0), h2)))) else (mm_bI (mm_M mm_T0 d 67 [.ref 218, .ref 1, .ref 13] h) (fun v5 h4 => if v5 = 0 then (mm_bV (mm_M mm_T0 d 128 [.ref 1, .int 0] h4) (fun h6 => mm_bI (mm_M mm_T0 d 183 [.ref 0, .int 5] h6) (fun v8 h7 => some (some (.int 0), h7)))) else (mm_bV (mm_M mm_T0 d 128 [.ref 1, .int 0] h4) (fun h9 => mm_bV (mm_M mm_T0 d 61 [.ref 22] h9) (fun h10 => some (some (.int 1), h10))))))) := by
  refine (mm_M_eq (ls := [.ref 0, .null]) rfl (Nat.le_of_ble_eq_true rfl) rfl h).trans ?_
  refine (mm_by 2 (pc' := 4) (ls' := [.ref 0, .null]) (st' := [.int (h.1 0 12)]) (h' := h) rfl).trans ?_
  refine (mm_br (c := (h.1 0 12) = 0) (p1 := 29) (p2 := 7) (l1 := [.ref 0, .null]) (l2 := [.ref 0, .null]) (s1 := []) (s2 := []) (h1 := h) (h2 := h) rfl rfl).trans (mm_ite ?_ ?_)
  · refine (mm_by 5 (pc' := 36) (ls' := [.ref 0, .int 0]) (st' := [.int 0, .ref 1]) (h' := h) rfl).trans ?_
    refine (mm_c0 (y := 128) (as := [.ref 1, .int 0]) (nx := 39) (rest := []) rfl rfl).trans (mm_congV fun h1 => ?_)
    refine (mm_by 4 (pc' := 45) (ls' := [.ref 0, .int 0]) (st' := [.int 5, .ref 0]) (h' := h1) rfl).trans ?_
    refine (mm_c1 (y := 183) (as := [.ref 0, .int 5]) (nx := 48) (rest := []) rfl rfl).trans (mm_congI fun v3 h2 => ?_)
    exact mm_by_end 3 rfl
  · refine (mm_by 6 (pc' := 19) (ls' := [.ref 0, .null]) (st' := [.ref 13, .ref 1, .ref 218]) (h' := h) rfl).trans ?_
    refine (mm_c1 (y := 67) (as := [.ref 218, .ref 1, .ref 13]) (nx := 22) (rest := []) rfl rfl).trans (mm_congI fun v5 h4 => ?_)
    refine (mm_br (c := v5 = 0) (p1 := 29) (p2 := 25) (l1 := [.ref 0, .null]) (l2 := [.ref 0, .null]) (s1 := []) (s2 := []) (h1 := h4) (h2 := h4) rfl rfl).trans (mm_ite ?_ ?_)
    · refine (mm_by 5 (pc' := 36) (ls' := [.ref 0, .int 0]) (st' := [.int 0, .ref 1]) (h' := h4) rfl).trans ?_
      refine (mm_c0 (y := 128) (as := [.ref 1, .int 0]) (nx := 39) (rest := []) rfl rfl).trans (mm_congV fun h6 => ?_)
      refine (mm_by 4 (pc' := 45) (ls' := [.ref 0, .int 0]) (st' := [.int 5, .ref 0]) (h' := h6) rfl).trans ?_
      refine (mm_c1 (y := 183) (as := [.ref 0, .int 5]) (nx := 48) (rest := []) rfl rfl).trans (mm_congI fun v8 h7 => ?_)
      exact mm_by_end 3 rfl
    · refine (mm_by 6 (pc' := 36) (ls' := [.ref 0, .int 1]) (st' := [.int 0, .ref 1]) (h' := h4) rfl).trans ?_
      refine (mm_c0 (y := 128) (as := [.ref 1, .int 0]) (nx := 39) (rest := []) rfl rfl).trans (mm_congV fun h9 => ?_)
      refine (mm_by 4 (pc' := 55) (ls' := [.ref 0, .int 1]) (st' := [.ref 22]) (h' := h9) rfl).trans ?_
      refine (mm_c0 (y := 61) (as := [.ref 22]) (nx := 58) (rest := []) rfl rfl).trans (mm_congV fun h10 => ?_)
      exact mm_by_end 2 rfl
set_option maxRecDepth 100000 in
set_option maxHeartbeats 4000000 in
theorem U_X11_status {d : Nat} {x1 : Int32} {h : mm_H} : mm_M mm_T0 (d + 1) 182 [.ref 0, .int x1] h = (if x1 < 0 then (some (some (.int ((-1))), h)) else (if 6 ≤ x1 then (some (some (.int ((-1))), h)) else (if x1 < 0 ∨ 6 ≤ x1.toNatClampNeg then none else (some (some (.int (h.1 229 x1.toNatClampNeg)), h))))) := by
  refine (mm_M_eq (ls := [.ref 0, .int x1]) rfl (Nat.le_of_ble_eq_true rfl) rfl h).trans ?_
  refine (mm_by 1 (pc' := 1) (ls' := [.ref 0, .int x1]) (st' := [.int x1]) (h' := h) rfl).trans ?_
  refine (mm_br (c := x1 < 0) (p1 := 22) (p2 := 4) (l1 := [.ref 0, .int x1]) (l2 := [.ref 0, .int x1]) (s1 := []) (s2 := []) (h1 := h) (h2 := h) rfl rfl).trans (mm_ite ?_ ?_)
  · exact mm_by_end 2 rfl
  · refine (mm_by 4 (pc' := 10) (ls' := [.ref 0, .int x1]) (st' := [.int 6, .int x1]) (h' := h) rfl).trans ?_
    refine (mm_br (c := 6 ≤ x1) (p1 := 22) (p2 := 13) (l1 := [.ref 0, .int x1]) (l2 := [.ref 0, .int x1]) (s1 := []) (s2 := []) (h1 := h) (h2 := h) rfl rfl).trans (mm_ite ?_ ?_)
    · exact mm_by_end 2 rfl
    · refine (mm_by 3 (pc' := 18) (ls' := [.ref 0, .int x1]) (st' := [.int x1, .ref 229]) (h' := h) rfl).trans ?_
      refine (mm_gd (c := x1 < 0 ∨ 6 ≤ x1.toNatClampNeg) (p1 := 19) (l1 := [.ref 0, .int x1]) (s1 := [.int (h.1 229 x1.toNatClampNeg)]) (h1 := h) rfl (q_iald (n := 6) rfl)).trans (mm_ite rfl ?_)
      exact mm_by_end 2 rfl
set_option maxRecDepth 100000 in
set_option maxHeartbeats 4000000 in
theorem U_X11_refuse {d : Nat} {x1 : Int32} {h : mm_H} : mm_M mm_T0 (d + 1) 183 [.ref 0, .int x1] h = (if x1 < 0 then (some (some (.int ((-1))), h)) else (if 6 ≤ x1 then (some (some (.int ((-1))), h)) else (if x1 < 0 ∨ 6 ≤ x1.toNatClampNeg then none else (if x1 < 0 ∨ 6 ≤ x1.toNatClampNeg then none else (some (some (.int ((-1))), wI h 229 x1.toNatClampNeg ((h.1 229 x1.toNatClampNeg) + 1))))))) := by
  refine (mm_M_eq (ls := [.ref 0, .int x1]) rfl (Nat.le_of_ble_eq_true rfl) rfl h).trans ?_
  refine (mm_by 1 (pc' := 1) (ls' := [.ref 0, .int x1]) (st' := [.int x1]) (h' := h) rfl).trans ?_
  refine (mm_br (c := x1 < 0) (p1 := 23) (p2 := 4) (l1 := [.ref 0, .int x1]) (l2 := [.ref 0, .int x1]) (s1 := []) (s2 := []) (h1 := h) (h2 := h) rfl rfl).trans (mm_ite ?_ ?_)
  · exact mm_by_end 2 rfl
  · refine (mm_by 4 (pc' := 10) (ls' := [.ref 0, .int x1]) (st' := [.int 6, .int x1]) (h' := h) rfl).trans ?_
    refine (mm_br (c := 6 ≤ x1) (p1 := 23) (p2 := 13) (l1 := [.ref 0, .int x1]) (l2 := [.ref 0, .int x1]) (s1 := []) (s2 := []) (h1 := h) (h2 := h) rfl rfl).trans (mm_ite ?_ ?_)
    · exact mm_by_end 2 rfl
    · refine (mm_by 4 (pc' := 19) (ls' := [.ref 0, .int x1]) (st' := [.int x1, .ref 229, .int x1, .ref 229]) (h' := h) rfl).trans ?_
      refine (mm_gd (c := x1 < 0 ∨ 6 ≤ x1.toNatClampNeg) (p1 := 20) (l1 := [.ref 0, .int x1]) (s1 := [.int (h.1 229 x1.toNatClampNeg), .int x1, .ref 229]) (h1 := h) rfl (q_iald (n := 6) rfl)).trans (mm_ite rfl ?_)
      refine (mm_by 2 (pc' := 22) (ls' := [.ref 0, .int x1]) (st' := [.int ((h.1 229 x1.toNatClampNeg) + 1), .int x1, .ref 229]) (h' := h) rfl).trans ?_
      refine (mm_gd (c := x1 < 0 ∨ 6 ≤ x1.toNatClampNeg) (p1 := 23) (l1 := [.ref 0, .int x1]) (s1 := []) (h1 := wI h 229 x1.toNatClampNeg ((h.1 229 x1.toNatClampNeg) + 1)) rfl (q_iast (n := 6) rfl)).trans (mm_ite rfl ?_)
      exact mm_by_end 2 rfl
set_option maxRecDepth 100000 in
set_option maxHeartbeats 4000000 in
theorem U_X11_canPass {d : Nat} {x1 : Int32} {x2 : Int32} {x3 : Int32} {h : mm_H} : mm_M mm_T0 (d + 1) 184 [.ref 0, .int x1, .int x2, .int x3] h = (if x1 < x2 then (some (some (.int 0), h)) else (if x3 < x1 then (some (some (.int 0), h)) else (if 999 < ((h.1 13 11) + x1) then (some (some (.int 0), h)) else (some (some (.int 1), h))))) := by
  refine (mm_M_eq (ls := [.ref 0, .int x1, .int x2, .int x3]) rfl (Nat.le_of_ble_eq_true rfl) rfl h).trans ?_
  refine (mm_by 2 (pc' := 2) (ls' := [.ref 0, .int x1, .int x2, .int x3]) (st' := [.int x2, .int x1]) (h' := h) rfl).trans ?_
  refine (mm_br (c := x1 < x2) (p1 := 29) (p2 := 5) (l1 := [.ref 0, .int x1, .int x2, .int x3]) (l2 := [.ref 0, .int x1, .int x2, .int x3]) (s1 := []) (s2 := []) (h1 := h) (h2 := h) rfl rfl).trans (mm_ite ?_ ?_)
  · exact mm_by_end 2 rfl
  · refine (mm_by 2 (pc' := 7) (ls' := [.ref 0, .int x1, .int x2, .int x3]) (st' := [.int x3, .int x1]) (h' := h) rfl).trans ?_
    refine (mm_br (c := x3 < x1) (p1 := 29) (p2 := 10) (l1 := [.ref 0, .int x1, .int x2, .int x3]) (l2 := [.ref 0, .int x1, .int x2, .int x3]) (s1 := []) (s2 := []) (h1 := h) (h2 := h) rfl rfl).trans (mm_ite ?_ ?_)
    · exact mm_by_end 2 rfl
    · refine (mm_by 6 (pc' := 22) (ls' := [.ref 0, .int x1, .int x2, .int x3]) (st' := [.int 999, .int ((h.1 13 11) + x1)]) (h' := h) rfl).trans ?_
      refine (mm_br (c := 999 < ((h.1 13 11) + x1)) (p1 := 29) (p2 := 25) (l1 := [.ref 0, .int x1, .int x2, .int x3]) (l2 := [.ref 0, .int x1, .int x2, .int x3]) (s1 := []) (s2 := []) (h1 := h) (h2 := h) rfl rfl).trans (mm_ite ?_ ?_)
      · exact mm_by_end 2 rfl
      · exact mm_by_end 3 rfl
set_option maxRecDepth 100000 in
set_option maxHeartbeats 4000000 in
theorem U_X11_slipOnce {d : Nat} {h : mm_H} : mm_M mm_T0 (d + 1) 185 [.ref 0] h = (mm_bI (mm_M mm_T0 d 186 [.ref 0, .int 100] h) (fun v2 h1 => if mm_sh (h1.2.2 0 10) = (0, 10) then (if (h1.1 (h1.2.2 0 10) 3) ≤ v2 then (some (some (.int 0), h1)) else (if ¬ (h1.1 13 10) = 0 then (mm_bI (mm_M mm_T0 d 186 [.ref 0, .int (h1.1 13 10)] h1) (fun v4 h3 => mm_bI (mm_M mm_T0 d 186 [.ref 0, .int 100] h3) (fun v6 h5 => mm_bV (mm_M mm_T0 d 112 [.ref 13, .int v4, .int v6] h5) (fun h7 => some (some (.int 1), h7))))) else (some (some (.int 0), h1)))) else none)) := by
  refine (mm_M_eq (ls := [.ref 0, .null]) rfl (Nat.le_of_ble_eq_true rfl) rfl h).trans ?_
  refine (mm_by 2 (pc' := 3) (ls' := [.ref 0, .null]) (st' := [.int 100, .ref 0]) (h' := h) rfl).trans ?_
  refine (mm_c1 (y := 186) (as := [.ref 0, .int 100]) (nx := 6) (rest := []) rfl rfl).trans (mm_congI fun v2 h1 => ?_)
  refine (mm_by 2 (pc' := 10) (ls' := [.ref 0, .null]) (st' := [.ref (h1.2.2 0 10), .int v2]) (h' := h1) rfl).trans ?_
  refine (mm_ok (c := mm_sh (h1.2.2 0 10) = (0, 10)) (p1 := 13) (l1 := [.ref 0, .null]) (s1 := [.int (h1.1 (h1.2.2 0 10) 3), .int v2]) (h1 := h1) rfl rfl).trans (mm_ite ?_ rfl)
  refine (mm_br (c := (h1.1 (h1.2.2 0 10) 3) ≤ v2) (p1 := 26) (p2 := 16) (l1 := [.ref 0, .null]) (l2 := [.ref 0, .null]) (s1 := []) (s2 := []) (h1 := h1) (h2 := h1) rfl rfl).trans (mm_ite ?_ ?_)
  · exact mm_by_end 2 rfl
  · refine (mm_by 3 (pc' := 23) (ls' := [.ref 0, .null]) (st' := [.int (h1.1 13 10)]) (h' := h1) rfl).trans ?_
    refine (mm_br (c := ¬ (h1.1 13 10) = 0) (p1 := 28) (p2 := 26) (l1 := [.ref 0, .null]) (l2 := [.ref 0, .null]) (s1 := []) (s2 := []) (h1 := h1) (h2 := h1) rfl rfl).trans (mm_ite ?_ ?_)
    · refine (mm_by 4 (pc' := 36) (ls' := [.ref 0, .null]) (st' := [.int (h1.1 13 10), .ref 0]) (h' := h1) rfl).trans ?_
      refine (mm_c1 (y := 186) (as := [.ref 0, .int (h1.1 13 10)]) (nx := 39) (rest := []) rfl rfl).trans (mm_congI fun v4 h3 => ?_)
      refine (mm_by 6 (pc' := 48) (ls' := [.ref 0, .int v4]) (st' := [.int 100, .ref 0, .int v4, .ref 13]) (h' := h3) rfl).trans ?_
      refine (mm_c1 (y := 186) (as := [.ref 0, .int 100]) (nx := 51) (rest := [.int v4, .ref 13]) rfl rfl).trans (mm_congI fun v6 h5 => ?_)
      refine (mm_c0 (y := 112) (as := [.ref 13, .int v4, .int v6]) (nx := 54) (rest := []) rfl rfl).trans (mm_congV fun h7 => ?_)
      exact mm_by_end 2 rfl
    · exact mm_by_end 2 rfl
set_option maxRecDepth 100000 in
set_option maxHeartbeats 4000000 in
theorem U_X11_draw {d : Nat} {x1 : Int32} {h : mm_H} : mm_M mm_T0 (d + 1) 186 [.ref 0, .int x1] h = (if x1 ≤ 0 then (some (some (.int 0), wI h 0 13 (((1103515245 * (h.1 0 13)) + 12345) &&& 2147483647))) else (if x1 = 0 then none else (some (some (.int ((((wI h 0 13 (((1103515245 * (h.1 0 13)) + 12345) &&& 2147483647)).1 0 13) / 64) - (((wI h 0 13 (((1103515245 * (h.1 0 13)) + 12345) &&& 2147483647)).1 0 13) / 64) / x1 * x1)), wI h 0 13 (((1103515245 * (h.1 0 13)) + 12345) &&& 2147483647))))) := by
  refine (mm_M_eq (ls := [.ref 0, .int x1]) rfl (Nat.le_of_ble_eq_true rfl) rfl h).trans ?_
  refine (mm_by 11 (pc' := 21) (ls' := [.ref 0, .int x1]) (st' := [.int x1]) (h' := wI h 0 13 (((1103515245 * (h.1 0 13)) + 12345) &&& 2147483647)) rfl).trans ?_
  refine (mm_br (c := x1 ≤ 0) (p1 := 36) (p2 := 24) (l1 := [.ref 0, .int x1]) (l2 := [.ref 0, .int x1]) (s1 := []) (s2 := []) (h1 := wI h 0 13 (((1103515245 * (h.1 0 13)) + 12345) &&& 2147483647)) (h2 := wI h 0 13 (((1103515245 * (h.1 0 13)) + 12345) &&& 2147483647)) rfl rfl).trans (mm_ite ?_ ?_)
  · exact mm_by_end 2 rfl
  · refine (mm_by 5 (pc' := 32) (ls' := [.ref 0, .int x1]) (st' := [.int x1, .int (((wI h 0 13 (((1103515245 * (h.1 0 13)) + 12345) &&& 2147483647)).1 0 13) / 64)]) (h' := wI h 0 13 (((1103515245 * (h.1 0 13)) + 12345) &&& 2147483647)) rfl).trans ?_
    refine (mm_gd (c := x1 = 0) (p1 := 33) (l1 := [.ref 0, .int x1]) (s1 := [.int ((((wI h 0 13 (((1103515245 * (h.1 0 13)) + 12345) &&& 2147483647)).1 0 13) / 64) - (((wI h 0 13 (((1103515245 * (h.1 0 13)) + 12345) &&& 2147483647)).1 0 13) / 64) / x1 * x1)]) (h1 := wI h 0 13 (((1103515245 * (h.1 0 13)) + 12345) &&& 2147483647)) rfl rfl).trans (mm_ite rfl ?_)
    exact mm_by_end 2 rfl
set_option maxRecDepth 100000 in
set_option maxHeartbeats 4000000 in
theorem U_X11_within {d : Nat} {x0 : Int32} {x1 : Int32} {h : mm_H} : mm_M mm_T0 (d + 1) 187 [.int x0, .int x1] h = (mm_bI (mm_M mm_T0 d 11 [.int x1, .int x0] h) (fun v2 h1 => mm_bI (mm_M mm_T0 d 9 [.int 0, .int v2] h1) (fun v4 h3 => some (some (.int v4), h3)))) := by
  refine (mm_M_eq (ls := [.int x0, .int x1]) rfl (Nat.le_of_ble_eq_true rfl) rfl h).trans ?_
  refine (mm_by 3 (pc' := 3) (ls' := [.int x0, .int x1]) (st' := [.int x0, .int x1, .int 0]) (h' := h) rfl).trans ?_
  refine (mm_c1 (y := 11) (as := [.int x1, .int x0]) (nx := 6) (rest := [.int 0]) rfl rfl).trans (mm_congI fun v2 h1 => ?_)
  refine (mm_c1 (y := 9) (as := [.int 0, .int v2]) (nx := 9) (rest := []) rfl rfl).trans (mm_congI fun v4 h3 => ?_)
  exact mm_by_end 1 rfl
set_option maxRecDepth 100000 in
set_option maxHeartbeats 4000000 in
theorem U_X12_isIn {d : Nat} {x0 : Int64} {x2 : Int64} {x4 : Int64} {h : mm_H} : mm_M mm_T0 (d + 1) 188 [.long x0, .long x2, .long x4] h = (if (lg_cmp x0 x2) < 0 then (some (some (.int 0), h)) else (if 0 < (lg_cmp x0 x4) then (some (some (.int 0), h)) else (some (some (.int 1), h)))) := by
  refine (mm_M_eq (ls := [.long x0, .null, .long x2, .null, .long x4, .null]) rfl (Nat.le_of_ble_eq_true rfl) rfl h).trans ?_
  refine (mm_by 3 (pc' := 3) (ls' := [.long x0, .null, .long x2, .null, .long x4, .null]) (st' := [.int (lg_cmp x0 x2)]) (h' := h) rfl).trans ?_
  refine (mm_br (c := (lg_cmp x0 x2) < 0) (p1 := 17) (p2 := 6) (l1 := [.long x0, .null, .long x2, .null, .long x4, .null]) (l2 := [.long x0, .null, .long x2, .null, .long x4, .null]) (s1 := []) (s2 := []) (h1 := h) (h2 := h) rfl rfl).trans (mm_ite ?_ ?_)
  · exact mm_by_end 2 rfl
  · refine (mm_by 3 (pc' := 10) (ls' := [.long x0, .null, .long x2, .null, .long x4, .null]) (st' := [.int (lg_cmp x0 x4)]) (h' := h) rfl).trans ?_
    refine (mm_br (c := 0 < (lg_cmp x0 x4)) (p1 := 17) (p2 := 13) (l1 := [.long x0, .null, .long x2, .null, .long x4, .null]) (l2 := [.long x0, .null, .long x2, .null, .long x4, .null]) (s1 := []) (s2 := []) (h1 := h) (h2 := h) rfl rfl).trans (mm_ite ?_ ?_)
    · exact mm_by_end 2 rfl
    · exact mm_by_end 3 rfl
set_option maxRecDepth 100000 in
set_option maxHeartbeats 4000000 in
theorem U_X12_feed {d : Nat} {x1 : Int32} {x2 : Int32} {x3 : Int32} {x4 : Int32} {x5 : Int32} {h : mm_H} : mm_M mm_T0 (d + 1) 189 [.ref 264, .int x1, .int x2, .int x3, .int x4, .int x5] h = (if ((h.1 264 1) + 20) ≤ 1600 then (mm_D (mm_M mm_T0 d) cd_X12_feed 28 [.ref 264, .int x1, .int x2, .int x3, .int x4, .int x5, .int 0, .null] [] h) else (some (some (.int ((-1))), wI h 266 0 ((h.1 266 0) + 1)))) := by
  refine (mm_M_eq (ls := [.ref 264, .int x1, .int x2, .int x3, .int x4, .int x5, .null, .null]) rfl (Nat.le_of_ble_eq_true rfl) rfl h).trans ?_
  refine (mm_by 5 (pc' := 10) (ls' := [.ref 264, .int x1, .int x2, .int x3, .int x4, .int x5, .null, .null]) (st' := [.int 1600, .int ((h.1 264 1) + 20)]) (h' := h) rfl).trans ?_
  refine (mm_br (c := ((h.1 264 1) + 20) ≤ 1600) (p1 := 25) (p2 := 13) (l1 := [.ref 264, .int x1, .int x2, .int x3, .int x4, .int x5, .null, .null]) (l2 := [.ref 264, .int x1, .int x2, .int x3, .int x4, .int x5, .null, .null]) (s1 := []) (s2 := []) (h1 := h) (h2 := h) rfl rfl).trans (mm_ite ?_ ?_)
  · exact mm_by 2 rfl
  · exact mm_by_end 10 rfl
set_option maxRecDepth 100000 in
set_option maxHeartbeats 4000000 in
theorem U_X12_feed_28 {d : Nat} {x1 : Int32} {x2 : Int32} {x3 : Int32} {x4 : Int32} {x5 : Int32} {x6 : Int32} {h : mm_H} : mm_D (mm_M mm_T0 d) cd_X12_feed 28 [.ref 264, .int x1, .int x2, .int x3, .int x4, .int x5, .int x6, .null] [] h = (if 20 ≤ x6 then (some (some (.int (h.1 264 1)), h)) else (if 4 ≤ x6 then (if 8 ≤ x6 then (if 12 ≤ x6 then (if 16 ≤ x6 then (if (h.1 264 1) < 0 ∨ 1600 ≤ (h.1 264 1).toNatClampNeg then none else (mm_D (mm_M mm_T0 d) cd_X12_feed 28 [.ref 264, .int x1, .int x2, .int x3, .int x4, .int x5, .int (x6 + 1), .null] [] (wI (wI h 265 ((h.1 264 1).toNatClampNeg) ((x5 >>> ((8 * (3 - (x6 - x6 / 4 * 4))) &&& 31)) &&& 255)) 264 1 (((wI h 265 ((h.1 264 1).toNatClampNeg) ((x5 >>> ((8 * (3 - (x6 - x6 / 4 * 4))) &&& 31)) &&& 255)).1 264 1) + 1)))) else (if (h.1 264 1) < 0 ∨ 1600 ≤ (h.1 264 1).toNatClampNeg then none else (mm_D (mm_M mm_T0 d) cd_X12_feed 28 [.ref 264, .int x1, .int x2, .int x3, .int x4, .int x5, .int (x6 + 1), .null] [] (wI (wI h 265 ((h.1 264 1).toNatClampNeg) ((x4 >>> ((8 * (3 - (x6 - x6 / 4 * 4))) &&& 31)) &&& 255)) 264 1 (((wI h 265 ((h.1 264 1).toNatClampNeg) ((x4 >>> ((8 * (3 - (x6 - x6 / 4 * 4))) &&& 31)) &&& 255)).1 264 1) + 1))))) else (if (h.1 264 1) < 0 ∨ 1600 ≤ (h.1 264 1).toNatClampNeg then none else (mm_D (mm_M mm_T0 d) cd_X12_feed 28 [.ref 264, .int x1, .int x2, .int x3, .int x4, .int x5, .int (x6 + 1), .null] [] (wI (wI h 265 ((h.1 264 1).toNatClampNeg) ((x3 >>> ((8 * (3 - (x6 - x6 / 4 * 4))) &&& 31)) &&& 255)) 264 1 (((wI h 265 ((h.1 264 1).toNatClampNeg) ((x3 >>> ((8 * (3 - (x6 - x6 / 4 * 4))) &&& 31)) &&& 255)).1 264 1) + 1))))) else (if (h.1 264 1) < 0 ∨ 1600 ≤ (h.1 264 1).toNatClampNeg then none else (mm_D (mm_M mm_T0 d) cd_X12_feed 28 [.ref 264, .int x1, .int x2, .int x3, .int x4, .int x5, .int (x6 + 1), .null] [] (wI (wI h 265 ((h.1 264 1).toNatClampNeg) ((x2 >>> ((8 * (3 - (x6 - x6 / 4 * 4))) &&& 31)) &&& 255)) 264 1 (((wI h 265 ((h.1 264 1).toNatClampNeg) ((x2 >>> ((8 * (3 - (x6 - x6 / 4 * 4))) &&& 31)) &&& 255)).1 264 1) + 1))))) else (if (h.1 264 1) < 0 ∨ 1600 ≤ (h.1 264 1).toNatClampNeg then none else (mm_D (mm_M mm_T0 d) cd_X12_feed 28 [.ref 264, .int x1, .int x2, .int x3, .int x4, .int x5, .int (x6 + 1), .null] [] (wI (wI h 265 ((h.1 264 1).toNatClampNeg) ((x1 >>> ((8 * (3 - (x6 - x6 / 4 * 4))) &&& 31)) &&& 255)) 264 1 (((wI h 265 ((h.1 264 1).toNatClampNeg) ((x1 >>> ((8 * (3 - (x6 - x6 / 4 * 4))) &&& 31)) &&& 255)).1 264 1) + 1)))))) := by
  refine (mm_by 2 (pc' := 32) (ls' := [.ref 264, .int x1, .int x2, .int x3, .int x4, .int x5, .int x6, .null]) (st' := [.int 20, .int x6]) (h' := h) rfl).trans ?_
  refine (mm_br (c := 20 ≤ x6) (p1 := 124) (p2 := 35) (l1 := [.ref 264, .int x1, .int x2, .int x3, .int x4, .int x5, .int x6, .null]) (l2 := [.ref 264, .int x1, .int x2, .int x3, .int x4, .int x5, .int x6, .null]) (s1 := []) (s2 := []) (h1 := h) (h2 := h) rfl rfl).trans (mm_ite ?_ ?_)
  · exact mm_by_end 3 rfl
  · refine (mm_by 2 (pc' := 38) (ls' := [.ref 264, .int x1, .int x2, .int x3, .int x4, .int x5, .int x6, .null]) (st' := [.int 4, .int x6]) (h' := h) rfl).trans ?_
    refine (mm_br (c := 4 ≤ x6) (p1 := 45) (p2 := 41) (l1 := [.ref 264, .int x1, .int x2, .int x3, .int x4, .int x5, .int x6, .null]) (l2 := [.ref 264, .int x1, .int x2, .int x3, .int x4, .int x5, .int x6, .null]) (s1 := []) (s2 := []) (h1 := h) (h2 := h) rfl rfl).trans (mm_ite ?_ ?_)
    · refine (mm_by 2 (pc' := 49) (ls' := [.ref 264, .int x1, .int x2, .int x3, .int x4, .int x5, .int x6, .null]) (st' := [.int 8, .int x6]) (h' := h) rfl).trans ?_
      refine (mm_br (c := 8 ≤ x6) (p1 := 56) (p2 := 52) (l1 := [.ref 264, .int x1, .int x2, .int x3, .int x4, .int x5, .int x6, .null]) (l2 := [.ref 264, .int x1, .int x2, .int x3, .int x4, .int x5, .int x6, .null]) (s1 := []) (s2 := []) (h1 := h) (h2 := h) rfl rfl).trans (mm_ite ?_ ?_)
      · refine (mm_by 2 (pc' := 60) (ls' := [.ref 264, .int x1, .int x2, .int x3, .int x4, .int x5, .int x6, .null]) (st' := [.int 12, .int x6]) (h' := h) rfl).trans ?_
        refine (mm_br (c := 12 ≤ x6) (p1 := 67) (p2 := 63) (l1 := [.ref 264, .int x1, .int x2, .int x3, .int x4, .int x5, .int x6, .null]) (l2 := [.ref 264, .int x1, .int x2, .int x3, .int x4, .int x5, .int x6, .null]) (s1 := []) (s2 := []) (h1 := h) (h2 := h) rfl rfl).trans (mm_ite ?_ ?_)
        · refine (mm_by 2 (pc' := 71) (ls' := [.ref 264, .int x1, .int x2, .int x3, .int x4, .int x5, .int x6, .null]) (st' := [.int 16, .int x6]) (h' := h) rfl).trans ?_
          refine (mm_br (c := 16 ≤ x6) (p1 := 79) (p2 := 74) (l1 := [.ref 264, .int x1, .int x2, .int x3, .int x4, .int x5, .int x6, .null]) (l2 := [.ref 264, .int x1, .int x2, .int x3, .int x4, .int x5, .int x6, .null]) (s1 := []) (s2 := []) (h1 := h) (h2 := h) rfl rfl).trans (mm_ite ?_ ?_)
          · refine (mm_by 17 (pc' := 107) (ls' := [.ref 264, .int x1, .int x2, .int x3, .int x4, .int x5, .int x6, .int x5]) (st' := [.int ((x5 >>> ((8 * (3 - (x6 - x6 / 4 * 4))) &&& 31)) &&& 255), .int (h.1 264 1), .ref 265]) (h' := h) rfl).trans ?_
            refine (mm_gd (c := (h.1 264 1) < 0 ∨ 1600 ≤ (h.1 264 1).toNatClampNeg) (p1 := 108) (l1 := [.ref 264, .int x1, .int x2, .int x3, .int x4, .int x5, .int x6, .int x5]) (s1 := []) (h1 := wI h 265 ((h.1 264 1).toNatClampNeg) ((x5 >>> ((8 * (3 - (x6 - x6 / 4 * 4))) &&& 31)) &&& 255)) rfl (q_iast (n := 1600) rfl)).trans (mm_ite rfl ?_)
            exact mm_by 8 rfl
          · refine (mm_by 18 (pc' := 107) (ls' := [.ref 264, .int x1, .int x2, .int x3, .int x4, .int x5, .int x6, .int x4]) (st' := [.int ((x4 >>> ((8 * (3 - (x6 - x6 / 4 * 4))) &&& 31)) &&& 255), .int (h.1 264 1), .ref 265]) (h' := h) rfl).trans ?_
            refine (mm_gd (c := (h.1 264 1) < 0 ∨ 1600 ≤ (h.1 264 1).toNatClampNeg) (p1 := 108) (l1 := [.ref 264, .int x1, .int x2, .int x3, .int x4, .int x5, .int x6, .int x4]) (s1 := []) (h1 := wI h 265 ((h.1 264 1).toNatClampNeg) ((x4 >>> ((8 * (3 - (x6 - x6 / 4 * 4))) &&& 31)) &&& 255)) rfl (q_iast (n := 1600) rfl)).trans (mm_ite rfl ?_)
            exact mm_by 8 rfl
        · refine (mm_by 18 (pc' := 107) (ls' := [.ref 264, .int x1, .int x2, .int x3, .int x4, .int x5, .int x6, .int x3]) (st' := [.int ((x3 >>> ((8 * (3 - (x6 - x6 / 4 * 4))) &&& 31)) &&& 255), .int (h.1 264 1), .ref 265]) (h' := h) rfl).trans ?_
          refine (mm_gd (c := (h.1 264 1) < 0 ∨ 1600 ≤ (h.1 264 1).toNatClampNeg) (p1 := 108) (l1 := [.ref 264, .int x1, .int x2, .int x3, .int x4, .int x5, .int x6, .int x3]) (s1 := []) (h1 := wI h 265 ((h.1 264 1).toNatClampNeg) ((x3 >>> ((8 * (3 - (x6 - x6 / 4 * 4))) &&& 31)) &&& 255)) rfl (q_iast (n := 1600) rfl)).trans (mm_ite rfl ?_)
          exact mm_by 8 rfl
      · refine (mm_by 18 (pc' := 107) (ls' := [.ref 264, .int x1, .int x2, .int x3, .int x4, .int x5, .int x6, .int x2]) (st' := [.int ((x2 >>> ((8 * (3 - (x6 - x6 / 4 * 4))) &&& 31)) &&& 255), .int (h.1 264 1), .ref 265]) (h' := h) rfl).trans ?_
        refine (mm_gd (c := (h.1 264 1) < 0 ∨ 1600 ≤ (h.1 264 1).toNatClampNeg) (p1 := 108) (l1 := [.ref 264, .int x1, .int x2, .int x3, .int x4, .int x5, .int x6, .int x2]) (s1 := []) (h1 := wI h 265 ((h.1 264 1).toNatClampNeg) ((x2 >>> ((8 * (3 - (x6 - x6 / 4 * 4))) &&& 31)) &&& 255)) rfl (q_iast (n := 1600) rfl)).trans (mm_ite rfl ?_)
        exact mm_by 8 rfl
    · refine (mm_by 18 (pc' := 107) (ls' := [.ref 264, .int x1, .int x2, .int x3, .int x4, .int x5, .int x6, .int x1]) (st' := [.int ((x1 >>> ((8 * (3 - (x6 - x6 / 4 * 4))) &&& 31)) &&& 255), .int (h.1 264 1), .ref 265]) (h' := h) rfl).trans ?_
      refine (mm_gd (c := (h.1 264 1) < 0 ∨ 1600 ≤ (h.1 264 1).toNatClampNeg) (p1 := 108) (l1 := [.ref 264, .int x1, .int x2, .int x3, .int x4, .int x5, .int x6, .int x1]) (s1 := []) (h1 := wI h 265 ((h.1 264 1).toNatClampNeg) ((x1 >>> ((8 * (3 - (x6 - x6 / 4 * 4))) &&& 31)) &&& 255)) rfl (q_iast (n := 1600) rfl)).trans (mm_ite rfl ?_)
      exact mm_by 8 rfl
set_option maxRecDepth 100000 in
set_option maxHeartbeats 4000000 in
theorem U_X12_end {d : Nat} {x1 : Int32} {h : mm_H} : mm_M mm_T0 (d + 1) 190 [.ref 264, .int x1] h = (if x1 < 0 then (some (some (.int 0), wI h 266 0 ((h.1 266 0) + 1))) else (if x1 ≤ (h.1 264 1) then (some (some (.int 1), wI h 264 1 x1)) else (some (some (.int 0), wI h 266 0 ((h.1 266 0) + 1))))) := by
  refine (mm_M_eq (ls := [.ref 264, .int x1]) rfl (Nat.le_of_ble_eq_true rfl) rfl h).trans ?_
  refine (mm_by 1 (pc' := 1) (ls' := [.ref 264, .int x1]) (st' := [.int x1]) (h' := h) rfl).trans ?_
  refine (mm_br (c := x1 < 0) (p1 := 12) (p2 := 4) (l1 := [.ref 264, .int x1]) (l2 := [.ref 264, .int x1]) (s1 := []) (s2 := []) (h1 := h) (h2 := h) rfl rfl).trans (mm_ite ?_ ?_)
  · exact mm_by_end 10 rfl
  · refine (mm_by 3 (pc' := 9) (ls' := [.ref 264, .int x1]) (st' := [.int (h.1 264 1), .int x1]) (h' := h) rfl).trans ?_
    refine (mm_br (c := x1 ≤ (h.1 264 1)) (p1 := 24) (p2 := 12) (l1 := [.ref 264, .int x1]) (l2 := [.ref 264, .int x1]) (s1 := []) (s2 := []) (h1 := h) (h2 := h) rfl rfl).trans (mm_ite ?_ ?_)
    · exact mm_by_end 5 rfl
    · exact mm_by_end 10 rfl
set_option maxRecDepth 100000 in
set_option maxHeartbeats 4000000 in
theorem U_X12_fail {d : Nat} {x1 : Int32} {x2 : Int32} {h : mm_H} : mm_M mm_T0 (d + 1) 191 [.ref 264, .int x1, .int x2] h = (if (h.1 264 5) = 0 then (some (none, wI (wI h 264 5 x1) 264 6 x2)) else (some (none, h))) := by
  refine (mm_M_eq (ls := [.ref 264, .int x1, .int x2]) rfl (Nat.le_of_ble_eq_true rfl) rfl h).trans ?_
  refine (mm_by 2 (pc' := 4) (ls' := [.ref 264, .int x1, .int x2]) (st' := [.int (h.1 264 5)]) (h' := h) rfl).trans ?_
  refine (mm_br (c := (h.1 264 5) = 0) (p1 := 8) (p2 := 7) (l1 := [.ref 264, .int x1, .int x2]) (l2 := [.ref 264, .int x1, .int x2]) (s1 := []) (s2 := []) (h1 := h) (h2 := h) rfl rfl).trans (mm_ite ?_ ?_)
  · exact mm_by_end 7 rfl
  · exact mm_by_end 1 rfl
set_option maxRecDepth 100000 in
set_option maxHeartbeats 4000000 in
theorem U_X12_isLetter {d : Nat} {x0 : Int32} {h : mm_H} : mm_M mm_T0 (d + 1) 192 [.int x0] h = (if x0 < 97 then (some (some (.int 0), h)) else (if 122 < x0 then (some (some (.int 0), h)) else (some (some (.int 1), h)))) := by
  refine (mm_M_eq (ls := [.int x0]) rfl (Nat.le_of_ble_eq_true rfl) rfl h).trans ?_
  refine (mm_by 2 (pc' := 3) (ls' := [.int x0]) (st' := [.int 97, .int x0]) (h' := h) rfl).trans ?_
  refine (mm_br (c := x0 < 97) (p1 := 16) (p2 := 6) (l1 := [.int x0]) (l2 := [.int x0]) (s1 := []) (s2 := []) (h1 := h) (h2 := h) rfl rfl).trans (mm_ite ?_ ?_)
  · exact mm_by_end 2 rfl
  · refine (mm_by 2 (pc' := 9) (ls' := [.int x0]) (st' := [.int 122, .int x0]) (h' := h) rfl).trans ?_
    refine (mm_br (c := 122 < x0) (p1 := 16) (p2 := 12) (l1 := [.int x0]) (l2 := [.int x0]) (s1 := []) (s2 := []) (h1 := h) (h2 := h) rfl rfl).trans (mm_ite ?_ ?_)
    · exact mm_by_end 2 rfl
    · exact mm_by_end 3 rfl
set_option maxRecDepth 100000 in
set_option maxHeartbeats 4000000 in
theorem U_X12_isDigit {d : Nat} {x0 : Int32} {h : mm_H} : mm_M mm_T0 (d + 1) 193 [.int x0] h = (if x0 < 48 then (some (some (.int 0), h)) else (if 57 < x0 then (some (some (.int 0), h)) else (some (some (.int 1), h)))) := by
  refine (mm_M_eq (ls := [.int x0]) rfl (Nat.le_of_ble_eq_true rfl) rfl h).trans ?_
  refine (mm_by 2 (pc' := 3) (ls' := [.int x0]) (st' := [.int 48, .int x0]) (h' := h) rfl).trans ?_
  refine (mm_br (c := x0 < 48) (p1 := 16) (p2 := 6) (l1 := [.int x0]) (l2 := [.int x0]) (s1 := []) (s2 := []) (h1 := h) (h2 := h) rfl rfl).trans (mm_ite ?_ ?_)
  · exact mm_by_end 2 rfl
  · refine (mm_by 2 (pc' := 9) (ls' := [.int x0]) (st' := [.int 57, .int x0]) (h' := h) rfl).trans ?_
    refine (mm_br (c := 57 < x0) (p1 := 16) (p2 := 12) (l1 := [.int x0]) (l2 := [.int x0]) (s1 := []) (s2 := []) (h1 := h) (h2 := h) rfl rfl).trans (mm_ite ?_ ?_)
    · exact mm_by_end 2 rfl
    · exact mm_by_end 3 rfl
set_option maxRecDepth 100000 in
set_option maxHeartbeats 4000000 in
theorem U_X12_look {d : Nat} {h : mm_H} : mm_M mm_T0 (d + 1) 194 [.ref 264] h = (if (h.1 264 3) ≤ (h.1 264 2) then (if (h.1 264 3) ≤ (h.1 264 2) then (some (some (.int ((-1))), h)) else (if (h.1 264 2) < 0 ∨ 1600 ≤ (h.1 264 2).toNatClampNeg then none else (some (some (.int (h.1 265 (h.1 264 2).toNatClampNeg)), h)))) else (if (h.1 264 2) < 0 ∨ 1600 ≤ (h.1 264 2).toNatClampNeg then none else (if (h.1 265 (h.1 264 2).toNatClampNeg) = 10 then (mm_D (mm_M mm_T0 d) cd_X12_look 0 [.ref 264] [] (wI h 264 2 ((h.1 264 2) + 1))) else (if (h.1 264 2) < 0 ∨ 1600 ≤ (h.1 264 2).toNatClampNeg then none else (if ¬ (h.1 265 (h.1 264 2).toNatClampNeg) = 32 then (if (h.1 264 3) ≤ (h.1 264 2) then (some (some (.int ((-1))), h)) else (if (h.1 264 2) < 0 ∨ 1600 ≤ (h.1 264 2).toNatClampNeg then none else (some (some (.int (h.1 265 (h.1 264 2).toNatClampNeg)), h)))) else (mm_D (mm_M mm_T0 d) cd_X12_look 0 [.ref 264] [] (wI h 264 2 ((h.1 264 2) + 1)))))))) := by
  refine (mm_M_eq (ls := [.ref 264]) rfl (Nat.le_of_ble_eq_true rfl) rfl h).trans ?_
  refine (mm_by 4 (pc' := 8) (ls' := [.ref 264]) (st' := [.int (h.1 264 3), .int (h.1 264 2)]) (h' := h) rfl).trans ?_
  refine (mm_br (c := (h.1 264 3) ≤ (h.1 264 2)) (p1 := 52) (p2 := 11) (l1 := [.ref 264]) (l2 := [.ref 264]) (s1 := []) (s2 := []) (h1 := h) (h2 := h) rfl rfl).trans (mm_ite ?_ ?_)
  · refine (mm_by 4 (pc' := 60) (ls' := [.ref 264]) (st' := [.int (h.1 264 3), .int (h.1 264 2)]) (h' := h) rfl).trans ?_
    refine (mm_br (c := (h.1 264 3) ≤ (h.1 264 2)) (p1 := 75) (p2 := 63) (l1 := [.ref 264]) (l2 := [.ref 264]) (s1 := []) (s2 := []) (h1 := h) (h2 := h) rfl rfl).trans (mm_ite ?_ ?_)
    · exact mm_by_end 2 rfl
    · refine (mm_by 4 (pc' := 71) (ls' := [.ref 264]) (st' := [.int (h.1 264 2), .ref 265]) (h' := h) rfl).trans ?_
      refine (mm_gd (c := (h.1 264 2) < 0 ∨ 1600 ≤ (h.1 264 2).toNatClampNeg) (p1 := 72) (l1 := [.ref 264]) (s1 := [.int (h.1 265 (h.1 264 2).toNatClampNeg)]) (h1 := h) rfl (q_iald (n := 1600) rfl)).trans (mm_ite rfl ?_)
      exact mm_by_end 2 rfl
  · refine (mm_by 4 (pc' := 19) (ls' := [.ref 264]) (st' := [.int (h.1 264 2), .ref 265]) (h' := h) rfl).trans ?_
    refine (mm_gd (c := (h.1 264 2) < 0 ∨ 1600 ≤ (h.1 264 2).toNatClampNeg) (p1 := 20) (l1 := [.ref 264]) (s1 := [.int (h.1 265 (h.1 264 2).toNatClampNeg)]) (h1 := h) rfl (q_iald (n := 1600) rfl)).trans (mm_ite rfl ?_)
    refine (mm_by 1 (pc' := 22) (ls' := [.ref 264]) (st' := [.int 10, .int (h.1 265 (h.1 264 2).toNatClampNeg)]) (h' := h) rfl).trans ?_
    refine (mm_br (c := (h.1 265 (h.1 264 2).toNatClampNeg) = 10) (p1 := 39) (p2 := 25) (l1 := [.ref 264]) (l2 := [.ref 264]) (s1 := []) (s2 := []) (h1 := h) (h2 := h) rfl rfl).trans (mm_ite ?_ ?_)
    · exact mm_by 7 rfl
    · refine (mm_by 4 (pc' := 33) (ls' := [.ref 264]) (st' := [.int (h.1 264 2), .ref 265]) (h' := h) rfl).trans ?_
      refine (mm_gd (c := (h.1 264 2) < 0 ∨ 1600 ≤ (h.1 264 2).toNatClampNeg) (p1 := 34) (l1 := [.ref 264]) (s1 := [.int (h.1 265 (h.1 264 2).toNatClampNeg)]) (h1 := h) rfl (q_iald (n := 1600) rfl)).trans (mm_ite rfl ?_)
      refine (mm_by 1 (pc' := 36) (ls' := [.ref 264]) (st' := [.int 32, .int (h.1 265 (h.1 264 2).toNatClampNeg)]) (h' := h) rfl).trans ?_
      refine (mm_br (c := ¬ (h.1 265 (h.1 264 2).toNatClampNeg) = 32) (p1 := 52) (p2 := 39) (l1 := [.ref 264]) (l2 := [.ref 264]) (s1 := []) (s2 := []) (h1 := h) (h2 := h) rfl rfl).trans (mm_ite ?_ ?_)
      · refine (mm_by 4 (pc' := 60) (ls' := [.ref 264]) (st' := [.int (h.1 264 3), .int (h.1 264 2)]) (h' := h) rfl).trans ?_
        refine (mm_br (c := (h.1 264 3) ≤ (h.1 264 2)) (p1 := 75) (p2 := 63) (l1 := [.ref 264]) (l2 := [.ref 264]) (s1 := []) (s2 := []) (h1 := h) (h2 := h) rfl rfl).trans (mm_ite ?_ ?_)
        · exact mm_by_end 2 rfl
        · refine (mm_by 4 (pc' := 71) (ls' := [.ref 264]) (st' := [.int (h.1 264 2), .ref 265]) (h' := h) rfl).trans ?_
          refine (mm_gd (c := (h.1 264 2) < 0 ∨ 1600 ≤ (h.1 264 2).toNatClampNeg) (p1 := 72) (l1 := [.ref 264]) (s1 := [.int (h.1 265 (h.1 264 2).toNatClampNeg)]) (h1 := h) rfl (q_iald (n := 1600) rfl)).trans (mm_ite rfl ?_)
          exact mm_by_end 2 rfl
      · exact mm_by 7 rfl
set_option maxRecDepth 100000 in
set_option maxHeartbeats 4000000 in
theorem U_X12_look_0 {d : Nat} {h : mm_H} : mm_D (mm_M mm_T0 d) cd_X12_look 0 [.ref 264] [] h = (if (h.1 264 3) ≤ (h.1 264 2) then (if (h.1 264 3) ≤ (h.1 264 2) then (some (some (.int ((-1))), h)) else (if (h.1 264 2) < 0 ∨ 1600 ≤ (h.1 264 2).toNatClampNeg then none else (some (some (.int (h.1 265 (h.1 264 2).toNatClampNeg)), h)))) else (if (h.1 264 2) < 0 ∨ 1600 ≤ (h.1 264 2).toNatClampNeg then none else (if (h.1 265 (h.1 264 2).toNatClampNeg) = 10 then (mm_D (mm_M mm_T0 d) cd_X12_look 0 [.ref 264] [] (wI h 264 2 ((h.1 264 2) + 1))) else (if (h.1 264 2) < 0 ∨ 1600 ≤ (h.1 264 2).toNatClampNeg then none else (if ¬ (h.1 265 (h.1 264 2).toNatClampNeg) = 32 then (if (h.1 264 3) ≤ (h.1 264 2) then (some (some (.int ((-1))), h)) else (if (h.1 264 2) < 0 ∨ 1600 ≤ (h.1 264 2).toNatClampNeg then none else (some (some (.int (h.1 265 (h.1 264 2).toNatClampNeg)), h)))) else (mm_D (mm_M mm_T0 d) cd_X12_look 0 [.ref 264] [] (wI h 264 2 ((h.1 264 2) + 1)))))))) := by
  refine (mm_by 4 (pc' := 8) (ls' := [.ref 264]) (st' := [.int (h.1 264 3), .int (h.1 264 2)]) (h' := h) rfl).trans ?_
  refine (mm_br (c := (h.1 264 3) ≤ (h.1 264 2)) (p1 := 52) (p2 := 11) (l1 := [.ref 264]) (l2 := [.ref 264]) (s1 := []) (s2 := []) (h1 := h) (h2 := h) rfl rfl).trans (mm_ite ?_ ?_)
  · refine (mm_by 4 (pc' := 60) (ls' := [.ref 264]) (st' := [.int (h.1 264 3), .int (h.1 264 2)]) (h' := h) rfl).trans ?_
    refine (mm_br (c := (h.1 264 3) ≤ (h.1 264 2)) (p1 := 75) (p2 := 63) (l1 := [.ref 264]) (l2 := [.ref 264]) (s1 := []) (s2 := []) (h1 := h) (h2 := h) rfl rfl).trans (mm_ite ?_ ?_)
    · exact mm_by_end 2 rfl
    · refine (mm_by 4 (pc' := 71) (ls' := [.ref 264]) (st' := [.int (h.1 264 2), .ref 265]) (h' := h) rfl).trans ?_
      refine (mm_gd (c := (h.1 264 2) < 0 ∨ 1600 ≤ (h.1 264 2).toNatClampNeg) (p1 := 72) (l1 := [.ref 264]) (s1 := [.int (h.1 265 (h.1 264 2).toNatClampNeg)]) (h1 := h) rfl (q_iald (n := 1600) rfl)).trans (mm_ite rfl ?_)
      exact mm_by_end 2 rfl
  · refine (mm_by 4 (pc' := 19) (ls' := [.ref 264]) (st' := [.int (h.1 264 2), .ref 265]) (h' := h) rfl).trans ?_
    refine (mm_gd (c := (h.1 264 2) < 0 ∨ 1600 ≤ (h.1 264 2).toNatClampNeg) (p1 := 20) (l1 := [.ref 264]) (s1 := [.int (h.1 265 (h.1 264 2).toNatClampNeg)]) (h1 := h) rfl (q_iald (n := 1600) rfl)).trans (mm_ite rfl ?_)
    refine (mm_by 1 (pc' := 22) (ls' := [.ref 264]) (st' := [.int 10, .int (h.1 265 (h.1 264 2).toNatClampNeg)]) (h' := h) rfl).trans ?_
    refine (mm_br (c := (h.1 265 (h.1 264 2).toNatClampNeg) = 10) (p1 := 39) (p2 := 25) (l1 := [.ref 264]) (l2 := [.ref 264]) (s1 := []) (s2 := []) (h1 := h) (h2 := h) rfl rfl).trans (mm_ite ?_ ?_)
    · exact mm_by 7 rfl
    · refine (mm_by 4 (pc' := 33) (ls' := [.ref 264]) (st' := [.int (h.1 264 2), .ref 265]) (h' := h) rfl).trans ?_
      refine (mm_gd (c := (h.1 264 2) < 0 ∨ 1600 ≤ (h.1 264 2).toNatClampNeg) (p1 := 34) (l1 := [.ref 264]) (s1 := [.int (h.1 265 (h.1 264 2).toNatClampNeg)]) (h1 := h) rfl (q_iald (n := 1600) rfl)).trans (mm_ite rfl ?_)
      refine (mm_by 1 (pc' := 36) (ls' := [.ref 264]) (st' := [.int 32, .int (h.1 265 (h.1 264 2).toNatClampNeg)]) (h' := h) rfl).trans ?_
      refine (mm_br (c := ¬ (h.1 265 (h.1 264 2).toNatClampNeg) = 32) (p1 := 52) (p2 := 39) (l1 := [.ref 264]) (l2 := [.ref 264]) (s1 := []) (s2 := []) (h1 := h) (h2 := h) rfl rfl).trans (mm_ite ?_ ?_)
      · refine (mm_by 4 (pc' := 60) (ls' := [.ref 264]) (st' := [.int (h.1 264 3), .int (h.1 264 2)]) (h' := h) rfl).trans ?_
        refine (mm_br (c := (h.1 264 3) ≤ (h.1 264 2)) (p1 := 75) (p2 := 63) (l1 := [.ref 264]) (l2 := [.ref 264]) (s1 := []) (s2 := []) (h1 := h) (h2 := h) rfl rfl).trans (mm_ite ?_ ?_)
        · exact mm_by_end 2 rfl
        · refine (mm_by 4 (pc' := 71) (ls' := [.ref 264]) (st' := [.int (h.1 264 2), .ref 265]) (h' := h) rfl).trans ?_
          refine (mm_gd (c := (h.1 264 2) < 0 ∨ 1600 ≤ (h.1 264 2).toNatClampNeg) (p1 := 72) (l1 := [.ref 264]) (s1 := [.int (h.1 265 (h.1 264 2).toNatClampNeg)]) (h1 := h) rfl (q_iald (n := 1600) rfl)).trans (mm_ite rfl ?_)
          exact mm_by_end 2 rfl
      · exact mm_by 7 rfl
