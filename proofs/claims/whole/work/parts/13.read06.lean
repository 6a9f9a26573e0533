set_option maxRecDepth 100000 in
set_option maxHeartbeats 4000000 in
theorem U_X12_right {d : Nat} {x1 : Int32} {h : mm_H} : mm_M mm_T0 (d + 1) 279 [.ref 264, .int x1] h = (mm_bI (mm_M mm_T0 d 214 [.ref 264, .long x1.toInt64] h) (fun v2 h1 => if v2 = 0 then (mm_bI (mm_M mm_T0 d 277 [.ref 264] h1) (fun v4 h3 => mm_zr v4 h3)) else (mm_bI (mm_M mm_T0 d 219 [.ref 264, .int x1] h1) (fun v6 h5 => mm_bI (mm_M mm_T0 d 221 [.ref 264, .int x1] h5) (fun v8 h7 => if ¬ v6 = (10 * v8) then (mm_bV (mm_M mm_T0 d 275 [.ref 264] h7) (fun h9 => mm_bI (mm_M mm_T0 d 221 [.ref 264, .int x1] h9) (fun v11 h10 => if (2 + (3 * x1)) < 0 ∨ 210 ≤ (2 + (3 * x1)).toNatClampNeg then none else (some (some (.int 1), wI h10 300 ((2 + (3 * x1)).toNatClampNeg) (10 * v11)))))) else (mm_bI (mm_M mm_T0 d 277 [.ref 264] h7) (fun v13 h12 => mm_zr v13 h12))))))) := by
  refine (mm_M_eq (ls := [.ref 264, .int x1]) rfl (Nat.le_of_ble_eq_true rfl) rfl h).trans ?_
  refine (mm_by 3 (pc' := 3) (ls' := [.ref 264, .int x1]) (st' := [.long x1.toInt64, .ref 264]) (h' := h) rfl).trans ?_
  refine (mm_c1 (y := 214) (as := [.ref 264, .long x1.toInt64]) (nx := 6) (rest := []) rfl rfl).trans (mm_congI fun v2 h1 => ?_)
  refine (mm_br (c := v2 = 0) (p1 := 25) (p2 := 9) (l1 := [.ref 264, .int x1]) (l2 := [.ref 264, .int x1]) (s1 := []) (s2 := []) (h1 := h1) (h2 := h1) rfl rfl).trans (mm_ite ?_ ?_)
  · refine (mm_by 1 (pc' := 26) (ls' := [.ref 264, .int x1]) (st' := [.ref 264]) (h' := h1) rfl).trans ?_
    refine (mm_c1 (y := 277) (as := [.ref 264]) (nx := 29) (rest := []) rfl rfl).trans (mm_congI fun v4 h3 => ?_)
    exact mm_zend rfl
  · refine (mm_by 2 (pc' := 11) (ls' := [.ref 264, .int x1]) (st' := [.int x1, .ref 264]) (h' := h1) rfl).trans ?_
    refine (mm_c1 (y := 219) (as := [.ref 264, .int x1]) (nx := 14) (rest := []) rfl rfl).trans (mm_congI fun v6 h5 => ?_)
    refine (mm_by 3 (pc' := 18) (ls' := [.ref 264, .int x1]) (st' := [.int x1, .ref 264, .int 10, .int v6]) (h' := h5) rfl).trans ?_
    refine (mm_c1 (y := 221) (as := [.ref 264, .int x1]) (nx := 21) (rest := [.int 10, .int v6]) rfl rfl).trans (mm_congI fun v8 h7 => ?_)
    refine (mm_by 1 (pc' := 22) (ls' := [.ref 264, .int x1]) (st' := [.int (10 * v8), .int v6]) (h' := h7) rfl).trans ?_
    refine (mm_br (c := ¬ v6 = (10 * v8)) (p1 := 30) (p2 := 25) (l1 := [.ref 264, .int x1]) (l2 := [.ref 264, .int x1]) (s1 := []) (s2 := []) (h1 := h7) (h2 := h7) rfl rfl).trans (mm_ite ?_ ?_)
    · refine (mm_by 1 (pc' := 31) (ls' := [.ref 264, .int x1]) (st' := [.ref 264]) (h' := h7) rfl).trans ?_
      refine (mm_c0 (y := 275) (as := [.ref 264]) (nx := 34) (rest := []) rfl rfl).trans (mm_congV fun h9 => ?_)
      refine (mm_by 10 (pc' := 47) (ls' := [.ref 264, .int x1]) (st' := [.int x1, .ref 264, .int 10, .int (2 + (3 * x1)), .ref 300]) (h' := h9) rfl).trans ?_
      refine (mm_c1 (y := 221) (as := [.ref 264, .int x1]) (nx := 50) (rest := [.int 10, .int (2 + (3 * x1)), .ref 300]) rfl rfl).trans (mm_congI fun v11 h10 => ?_)
      refine (mm_by 1 (pc' := 51) (ls' := [.ref 264, .int x1]) (st' := [.int (10 * v11), .int (2 + (3 * x1)), .ref 300]) (h' := h10) rfl).trans ?_
      refine (mm_gd (c := (2 + (3 * x1)) < 0 ∨ 210 ≤ (2 + (3 * x1)).toNatClampNeg) (p1 := 52) (l1 := [.ref 264, .int x1]) (s1 := []) (h1 := wI h10 300 ((2 + (3 * x1)).toNatClampNeg) (10 * v11)) rfl (q_iast (n := 210) rfl)).trans (mm_ite rfl ?_)
      exact mm_by_end 2 rfl
    · refine (mm_by 1 (pc' := 26) (ls' := [.ref 264, .int x1]) (st' := [.ref 264]) (h' := h7) rfl).trans ?_
      refine (mm_c1 (y := 277) (as := [.ref 264]) (nx := 29) (rest := []) rfl rfl).trans (mm_congI fun v13 h12 => ?_)
      exact mm_zend rfl
set_option maxRecDepth 100000 in
set_option maxHeartbeats 4000000 in
theorem U_X12_spare {d : Nat} {x1 : Int32} {x2 : Int32} {h : mm_H} : mm_M mm_T0 (d + 1) 280 [.ref 264, .int x1, .int x2] h = (mm_bI (mm_M mm_T0 d 214 [.ref 264, .long x1.toInt64] h) (fun v2 h1 => if v2 = 0 then (mm_bI (mm_M mm_T0 d 277 [.ref 264] h1) (fun v4 h3 => mm_zr v4 h3)) else (mm_bI (mm_M mm_T0 d 188 [.long x2.toInt64, .long 0, .long 1] h1) (fun v6 h5 => if v6 = 0 then (mm_bI (mm_M mm_T0 d 277 [.ref 264] h5) (fun v8 h7 => mm_zr v8 h7)) else (if (3 + (3 * x1)) < 0 ∨ 210 ≤ (3 + (3 * x1)).toNatClampNeg then none else (if ¬ (h5.1 300 (3 + (3 * x1)).toNatClampNeg) = x2 then (mm_bV (mm_M mm_T0 d 275 [.ref 264] h5) (fun h9 => if (3 + (3 * x1)) < 0 ∨ 210 ≤ (3 + (3 * x1)).toNatClampNeg then none else (some (some (.int 1), wI h9 300 ((3 + (3 * x1)).toNatClampNeg) x2)))) else (mm_bI (mm_M mm_T0 d 277 [.ref 264] h5) (fun v11 h10 => mm_zr v11 h10)))))))) := by
  refine (mm_M_eq (ls := [.ref 264, .int x1, .int x2]) rfl (Nat.le_of_ble_eq_true rfl) rfl h).trans ?_
  refine (mm_by 3 (pc' := 3) (ls' := [.ref 264, .int x1, .int x2]) (st' := [.long x1.toInt64, .ref 264]) (h' := h) rfl).trans ?_
  refine (mm_c1 (y := 214) (as := [.ref 264, .long x1.toInt64]) (nx := 6) (rest := []) rfl rfl).trans (mm_congI fun v2 h1 => ?_)
  refine (mm_br (c := v2 = 0) (p1 := 33) (p2 := 9) (l1 := [.ref 264, .int x1, .int x2]) (l2 := [.ref 264, .int x1, .int x2]) (s1 := []) (s2 := []) (h1 := h1) (h2 := h1) rfl rfl).trans (mm_ite ?_ ?_)
  · refine (mm_by 1 (pc' := 34) (ls' := [.ref 264, .int x1, .int x2]) (st' := [.ref 264]) (h' := h1) rfl).trans ?_
    refine (mm_c1 (y := 277) (as := [.ref 264]) (nx := 37) (rest := []) rfl rfl).trans (mm_congI fun v4 h3 => ?_)
    exact mm_zend rfl
  · refine (mm_by 4 (pc' := 13) (ls' := [.ref 264, .int x1, .int x2]) (st' := [.long 1, .long 0, .long x2.toInt64]) (h' := h1) rfl).trans ?_
    refine (mm_c1 (y := 188) (as := [.long x2.toInt64, .long 0, .long 1]) (nx := 16) (rest := []) rfl rfl).trans (mm_congI fun v6 h5 => ?_)
    refine (mm_br (c := v6 = 0) (p1 := 33) (p2 := 19) (l1 := [.ref 264, .int x1, .int x2]) (l2 := [.ref 264, .int x1, .int x2]) (s1 := []) (s2 := []) (h1 := h5) (h2 := h5) rfl rfl).trans (mm_ite ?_ ?_)
    · refine (mm_by 1 (pc' := 34) (ls' := [.ref 264, .int x1, .int x2]) (st' := [.ref 264]) (h' := h5) rfl).trans ?_
      refine (mm_c1 (y := 277) (as := [.ref 264]) (nx := 37) (rest := []) rfl rfl).trans (mm_congI fun v8 h7 => ?_)
      exact mm_zend rfl
    · refine (mm_by 7 (pc' := 28) (ls' := [.ref 264, .int x1, .int x2]) (st' := [.int (3 + (3 * x1)), .ref 300]) (h' := h5) rfl).trans ?_
      refine (mm_gd (c := (3 + (3 * x1)) < 0 ∨ 210 ≤ (3 + (3 * x1)).toNatClampNeg) (p1 := 29) (l1 := [.ref 264, .int x1, .int x2]) (s1 := [.int (h5.1 300 (3 + (3 * x1)).toNatClampNeg)]) (h1 := h5) rfl (q_iald (n := 210) rfl)).trans (mm_ite rfl ?_)
      refine (mm_by 1 (pc' := 30) (ls' := [.ref 264, .int x1, .int x2]) (st' := [.int x2, .int (h5.1 300 (3 + (3 * x1)).toNatClampNeg)]) (h' := h5) rfl).trans ?_
      refine (mm_br (c := ¬ (h5.1 300 (3 + (3 * x1)).toNatClampNeg) = x2) (p1 := 38) (p2 := 33) (l1 := [.ref 264, .int x1, .int x2]) (l2 := [.ref 264, .int x1, .int x2]) (s1 := []) (s2 := []) (h1 := h5) (h2 := h5) rfl rfl).trans (mm_ite ?_ ?_)
      · refine (mm_by 1 (pc' := 39) (ls' := [.ref 264, .int x1, .int x2]) (st' := [.ref 264]) (h' := h5) rfl).trans ?_
        refine (mm_c0 (y := 275) (as := [.ref 264]) (nx := 42) (rest := []) rfl rfl).trans (mm_congV fun h9 => ?_)
        refine (mm_by 8 (pc' := 52) (ls' := [.ref 264, .int x1, .int x2]) (st' := [.int x2, .int (3 + (3 * x1)), .ref 300]) (h' := h9) rfl).trans ?_
        refine (mm_gd (c := (3 + (3 * x1)) < 0 ∨ 210 ≤ (3 + (3 * x1)).toNatClampNeg) (p1 := 53) (l1 := [.ref 264, .int x1, .int x2]) (s1 := []) (h1 := wI h9 300 ((3 + (3 * x1)).toNatClampNeg) x2) rfl (q_iast (n := 210) rfl)).trans (mm_ite rfl ?_)
        exact mm_by_end 2 rfl
      · refine (mm_by 1 (pc' := 34) (ls' := [.ref 264, .int x1, .int x2]) (st' := [.ref 264]) (h' := h5) rfl).trans ?_
        refine (mm_c1 (y := 277) (as := [.ref 264]) (nx := 37) (rest := []) rfl rfl).trans (mm_congI fun v11 h10 => ?_)
        exact mm_zend rfl
set_option maxRecDepth 100000 in
set_option maxHeartbeats 4000000 in
theorem U_X12_years {d : Nat} {x1 : Int32} {h : mm_H} : mm_M mm_T0 (d + 1) 281 [.ref 264, .int x1] h = (if (h.1 264 53) = 0 then (mm_bI (mm_M mm_T0 d 265 [.ref 264, .int 3] h) (fun v2 h1 => some (some (.int v2), h1))) else (mm_bI (mm_M mm_T0 d 238 [.ref 264, .int x1, .int 1, .int 100] h) (fun v4 h3 => if ¬ v4 = 0 then (mm_bV (mm_M mm_T0 d 275 [.ref 264] h3) (fun h5 => mm_bV (mm_M mm_T0 d 234 [.ref 264, .int x1] (wI h5 264 65 0)) (fun h6 => some (some (.int (h6.1 264 65)), h6)))) else (mm_bI (mm_M mm_T0 d 265 [.ref 264, .int 3] h3) (fun v8 h7 => some (some (.int v8), h7)))))) := by
  refine (mm_M_eq (ls := [.ref 264, .int x1]) rfl (Nat.le_of_ble_eq_true rfl) rfl h).trans ?_
  refine (mm_by 2 (pc' := 4) (ls' := [.ref 264, .int x1]) (st' := [.int (h.1 264 53)]) (h' := h) rfl).trans ?_
  refine (mm_br (c := (h.1 264 53) = 0) (p1 := 18) (p2 := 7) (l1 := [.ref 264, .int x1]) (l2 := [.ref 264, .int x1]) (s1 := []) (s2 := []) (h1 := h) (h2 := h) rfl rfl).trans (mm_ite ?_ ?_)
  · refine (mm_by 2 (pc' := 20) (ls' := [.ref 264, .int x1]) (st' := [.int 3, .ref 264]) (h' := h) rfl).trans ?_
    refine (mm_c1 (y := 265) (as := [.ref 264, .int 3]) (nx := 23) (rest := []) rfl rfl).trans (mm_congI fun v2 h1 => ?_)
    exact mm_by_end 1 rfl
  · refine (mm_by 4 (pc' := 12) (ls' := [.ref 264, .int x1]) (st' := [.int 100, .int 1, .int x1, .ref 264]) (h' := h) rfl).trans ?_
    refine (mm_c1 (y := 238) (as := [.ref 264, .int x1, .int 1, .int 100]) (nx := 15) (rest := []) rfl rfl).trans (mm_congI fun v4 h3 => ?_)
    refine (mm_br (c := ¬ v4 = 0) (p1 := 24) (p2 := 18) (l1 := [.ref 264, .int x1]) (l2 := [.ref 264, .int x1]) (s1 := []) (s2 := []) (h1 := h3) (h2 := h3) rfl rfl).trans (mm_ite ?_ ?_)
    · refine (mm_by 1 (pc' := 25) (ls' := [.ref 264, .int x1]) (st' := [.ref 264]) (h' := h3) rfl).trans ?_
      refine (mm_c0 (y := 275) (as := [.ref 264]) (nx := 28) (rest := []) rfl rfl).trans (mm_congV fun h5 => ?_)
      refine (mm_by 5 (pc' := 35) (ls' := [.ref 264, .int x1]) (st' := [.int x1, .ref 264]) (h' := wI h5 264 65 0) rfl).trans ?_
      refine (mm_c0 (y := 234) (as := [.ref 264, .int x1]) (nx := 38) (rest := []) rfl rfl).trans (mm_congV fun h6 => ?_)
      exact mm_by_end 3 rfl
    · refine (mm_by 2 (pc' := 20) (ls' := [.ref 264, .int x1]) (st' := [.int 3, .ref 264]) (h' := h3) rfl).trans ?_
      refine (mm_c1 (y := 265) (as := [.ref 264, .int 3]) (nx := 23) (rest := []) rfl rfl).trans (mm_congI fun v8 h7 => ?_)
      exact mm_by_end 1 rfl
set_option maxRecDepth 100000 in
set_option maxHeartbeats 4000000 in
theorem U_X12_seed {d : Nat} {x1 : Int32} {h : mm_H} : mm_M mm_T0 (d + 1) 282 [.ref 264, .int x1] h = (if 0 ≤ x1 then (some (some (.int 1), wL h 264 75 x1.toInt64)) else (some (some (.int 0), wI h 266 5 ((h.1 266 5) + 1)))) := by
  refine (mm_M_eq (ls := [.ref 264, .int x1]) rfl (Nat.le_of_ble_eq_true rfl) rfl h).trans ?_
  refine (mm_by 1 (pc' := 1) (ls' := [.ref 264, .int x1]) (st' := [.int x1]) (h' := h) rfl).trans ?_
  refine (mm_br (c := 0 ≤ x1) (p1 := 16) (p2 := 4) (l1 := [.ref 264, .int x1]) (l2 := [.ref 264, .int x1]) (s1 := []) (s2 := []) (h1 := h) (h2 := h) rfl rfl).trans (mm_ite ?_ ?_)
  · exact mm_by_end 6 rfl
  · exact mm_by_end 10 rfl
set_option maxRecDepth 100000 in
set_option maxHeartbeats 4000000 in
theorem U_X12_drawOf {d : Nat} {x1 : Int32} {h : mm_H} : mm_M mm_T0 (d + 1) 283 [.ref 264, .int x1] h = (if x1.toInt64 = 0 then none else (some (some (.int (((((wL h 264 75 (((1103515245 * (h.2.1 264 75)) + 12345) - ((1103515245 * (h.2.1 264 75)) + 12345) / 2147483648 * 2147483648)).2.1 264 75) / 64) - (((wL h 264 75 (((1103515245 * (h.2.1 264 75)) + 12345) - ((1103515245 * (h.2.1 264 75)) + 12345) / 2147483648 * 2147483648)).2.1 264 75) / 64) / x1.toInt64 * x1.toInt64).toInt32)), wL h 264 75 (((1103515245 * (h.2.1 264 75)) + 12345) - ((1103515245 * (h.2.1 264 75)) + 12345) / 2147483648 * 2147483648)))) := by
  refine (mm_M_eq (ls := [.ref 264, .int x1]) rfl (Nat.le_of_ble_eq_true rfl) rfl h).trans ?_
  refine (mm_by 16 (pc' := 30) (ls' := [.ref 264, .int x1]) (st' := [.long x1.toInt64, .long (((wL h 264 75 (((1103515245 * (h.2.1 264 75)) + 12345) - ((1103515245 * (h.2.1 264 75)) + 12345) / 2147483648 * 2147483648)).2.1 264 75) / 64)]) (h' := wL h 264 75 (((1103515245 * (h.2.1 264 75)) + 12345) - ((1103515245 * (h.2.1 264 75)) + 12345) / 2147483648 * 2147483648)) rfl).trans ?_
  refine (mm_gd (c := x1.toInt64 = 0) (p1 := 31) (l1 := [.ref 264, .int x1]) (s1 := [.long ((((wL h 264 75 (((1103515245 * (h.2.1 264 75)) + 12345) - ((1103515245 * (h.2.1 264 75)) + 12345) / 2147483648 * 2147483648)).2.1 264 75) / 64) - (((wL h 264 75 (((1103515245 * (h.2.1 264 75)) + 12345) - ((1103515245 * (h.2.1 264 75)) + 12345) / 2147483648 * 2147483648)).2.1 264 75) / 64) / x1.toInt64 * x1.toInt64)]) (h1 := wL h 264 75 (((1103515245 * (h.2.1 264 75)) + 12345) - ((1103515245 * (h.2.1 264 75)) + 12345) / 2147483648 * 2147483648)) rfl rfl).trans (mm_ite rfl ?_)
  exact mm_by_end 2 rfl
set_option maxRecDepth 100000 in
set_option maxHeartbeats 4000000 in
theorem U_X12_chance {d : Nat} {x1 : Int32} {h : mm_H} : mm_M mm_T0 (d + 1) 284 [.ref 264, .int x1] h = (if (h.1 264 53) = 0 then (mm_bI (mm_M mm_T0 d 265 [.ref 264, .int 3] h) (fun v2 h1 => some (some (.int v2), h1))) else (mm_bI (mm_M mm_T0 d 238 [.ref 264, .int x1, .int 1, .int 100] h) (fun v4 h3 => if ¬ v4 = 0 then (mm_bV (mm_M mm_T0 d 275 [.ref 264] h3) (fun h5 => mm_D (mm_M mm_T0 d) cd_X12_chance 32 [.ref 264, .int x1, .int 0, .int 0, .null] [] h5)) else (mm_bI (mm_M mm_T0 d 265 [.ref 264, .int 3] h3) (fun v7 h6 => some (some (.int v7), h6)))))) := by
  refine (mm_M_eq (ls := [.ref 264, .int x1, .null, .null, .null]) rfl (Nat.le_of_ble_eq_true rfl) rfl h).trans ?_
  refine (mm_by 2 (pc' := 4) (ls' := [.ref 264, .int x1, .null, .null, .null]) (st' := [.int (h.1 264 53)]) (h' := h) rfl).trans ?_
  refine (mm_br (c := (h.1 264 53) = 0) (p1 := 18) (p2 := 7) (l1 := [.ref 264, .int x1, .null, .null, .null]) (l2 := [.ref 264, .int x1, .null, .null, .null]) (s1 := []) (s2 := []) (h1 := h) (h2 := h) rfl rfl).trans (mm_ite ?_ ?_)
  · refine (mm_by 2 (pc' := 20) (ls' := [.ref 264, .int x1, .null, .null, .null]) (st' := [.int 3, .ref 264]) (h' := h) rfl).trans ?_
    refine (mm_c1 (y := 265) (as := [.ref 264, .int 3]) (nx := 23) (rest := []) rfl rfl).trans (mm_congI fun v2 h1 => ?_)
    exact mm_by_end 1 rfl
  · refine (mm_by 4 (pc' := 12) (ls' := [.ref 264, .int x1, .null, .null, .null]) (st' := [.int 100, .int 1, .int x1, .ref 264]) (h' := h) rfl).trans ?_
    refine (mm_c1 (y := 238) (as := [.ref 264, .int x1, .int 1, .int 100]) (nx := 15) (rest := []) rfl rfl).trans (mm_congI fun v4 h3 => ?_)
    refine (mm_br (c := ¬ v4 = 0) (p1 := 24) (p2 := 18) (l1 := [.ref 264, .int x1, .null, .null, .null]) (l2 := [.ref 264, .int x1, .null, .null, .null]) (s1 := []) (s2 := []) (h1 := h3) (h2 := h3) rfl rfl).trans (mm_ite ?_ ?_)
    · refine (mm_by 1 (pc' := 25) (ls' := [.ref 264, .int x1, .null, .null, .null]) (st' := [.ref 264]) (h' := h3) rfl).trans ?_
      refine (mm_c0 (y := 275) (as := [.ref 264]) (nx := 28) (rest := []) rfl rfl).trans (mm_congV fun h5 => ?_)
      exact mm_by 4 rfl
    · refine (mm_by 2 (pc' := 20) (ls' := [.ref 264, .int x1, .null, .null, .null]) (st' := [.int 3, .ref 264]) (h' := h3) rfl).trans ?_
      refine (mm_c1 (y := 265) (as := [.ref 264, .int 3]) (nx := 23) (rest := []) rfl rfl).trans (mm_congI fun v7 h6 => ?_)
      exact mm_by_end 1 rfl
set_option maxRecDepth 100000 in
set_option maxHeartbeats 4000000 in
theorem U_X12_chance_32 {d : Nat} {x1 : Int32} {x2 : Int32} {x3 : Int32} {h : mm_H} : mm_D (mm_M mm_T0 d) cd_X12_chance 32 [.ref 264, .int x1, .int x2, .int x3, .null] [] h = (if x1 ≤ x3 then (some (some (.int x2), h)) else (mm_bI (mm_M mm_T0 d 283 [.ref 264, .int 100] h) (fun v2 h1 => if (h1.1 264 47) ≤ v2 then (mm_bV (mm_M mm_T0 d 233 [.ref 264] h1) (fun h3 => mm_D (mm_M mm_T0 d) cd_X12_chance 32 [.ref 264, .int x1, .int x2, .int (x3 + 1), .null] [] h3)) else (if (h1.1 264 40) ≤ 0 then (mm_bV (mm_M mm_T0 d 233 [.ref 264] h1) (fun h4 => mm_D (mm_M mm_T0 d) cd_X12_chance 32 [.ref 264, .int x1, .int x2, .int (x3 + 1), .null] [] h4)) else (mm_bI (mm_M mm_T0 d 283 [.ref 264, .int (h1.1 264 40)] h1) (fun v6 h5 => mm_bI (mm_M mm_T0 d 283 [.ref 264, .int 100] h5) (fun v8 h7 => if (2 + (3 * v6)) < 0 ∨ 210 ≤ (2 + (3 * v6)).toNatClampNeg then none else (mm_bV (mm_M mm_T0 d 233 [.ref 264] (wI h7 300 ((2 + (3 * v6)).toNatClampNeg) v8)) (fun h9 => mm_D (mm_M mm_T0 d) cd_X12_chance 32 [.ref 264, .int x1, .int (x2 + 1), .int (x3 + 1), .null] [] h9))))))))) := by
  refine (mm_by 2 (pc' := 34) (ls' := [.ref 264, .int x1, .int x2, .int x3, .null]) (st' := [.int x1, .int x3]) (h' := h) rfl).trans ?_
  refine (mm_br (c := x1 ≤ x3) (p1 := 97) (p2 := 37) (l1 := [.ref 264, .int x1, .int x2, .int x3, .null]) (l2 := [.ref 264, .int x1, .int x2, .int x3, .null]) (s1 := []) (s2 := []) (h1 := h) (h2 := h) rfl rfl).trans (mm_ite ?_ ?_)
  · exact mm_by_end 2 rfl
  · refine (mm_by 2 (pc' := 40) (ls' := [.ref 264, .int x1, .int x2, .int x3, .null]) (st' := [.int 100, .ref 264]) (h' := h) rfl).trans ?_
    refine (mm_c1 (y := 283) (as := [.ref 264, .int 100]) (nx := 43) (rest := []) rfl rfl).trans (mm_congI fun v2 h1 => ?_)
    refine (mm_by 2 (pc' := 47) (ls' := [.ref 264, .int x1, .int x2, .int x3, .null]) (st' := [.int (h1.1 264 47), .int v2]) (h' := h1) rfl).trans ?_
    refine (mm_br (c := (h1.1 264 47) ≤ v2) (p1 := 87) (p2 := 50) (l1 := [.ref 264, .int x1, .int x2, .int x3, .null]) (l2 := [.ref 264, .int x1, .int x2, .int x3, .null]) (s1 := []) (s2 := []) (h1 := h1) (h2 := h1) rfl rfl).trans (mm_ite ?_ ?_)
    · refine (mm_by 1 (pc' := 88) (ls' := [.ref 264, .int x1, .int x2, .int x3, .null]) (st' := [.ref 264]) (h' := h1) rfl).trans ?_
      refine (mm_c0 (y := 233) (as := [.ref 264]) (nx := 91) (rest := []) rfl rfl).trans (mm_congV fun h3 => ?_)
      exact mm_by 2 rfl
    · refine (mm_by 2 (pc' := 54) (ls' := [.ref 264, .int x1, .int x2, .int x3, .null]) (st' := [.int (h1.1 264 40)]) (h' := h1) rfl).trans ?_
      refine (mm_br (c := (h1.1 264 40) ≤ 0) (p1 := 87) (p2 := 57) (l1 := [.ref 264, .int x1, .int x2, .int x3, .null]) (l2 := [.ref 264, .int x1, .int x2, .int x3, .null]) (s1 := []) (s2 := []) (h1 := h1) (h2 := h1) rfl rfl).trans (mm_ite ?_ ?_)
      · refine (mm_by 1 (pc' := 88) (ls' := [.ref 264, .int x1, .int x2, .int x3, .null]) (st' := [.ref 264]) (h' := h1) rfl).trans ?_
        refine (mm_c0 (y := 233) (as := [.ref 264]) (nx := 91) (rest := []) rfl rfl).trans (mm_congV fun h4 => ?_)
        exact mm_by 2 rfl
      · refine (mm_by 3 (pc' := 62) (ls' := [.ref 264, .int x1, .int x2, .int x3, .null]) (st' := [.int (h1.1 264 40), .ref 264]) (h' := h1) rfl).trans ?_
        refine (mm_c1 (y := 283) (as := [.ref 264, .int (h1.1 264 40)]) (nx := 65) (rest := []) rfl rfl).trans (mm_congI fun v6 h5 => ?_)
        refine (mm_by 10 (pc' := 80) (ls' := [.ref 264, .int x1, .int x2, .int x3, .int v6]) (st' := [.int 100, .ref 264, .int (2 + (3 * v6)), .ref 300]) (h' := h5) rfl).trans ?_
        refine (mm_c1 (y := 283) (as := [.ref 264, .int 100]) (nx := 83) (rest := [.int (2 + (3 * v6)), .ref 300]) rfl rfl).trans (mm_congI fun v8 h7 => ?_)
        refine (mm_gd (c := (2 + (3 * v6)) < 0 ∨ 210 ≤ (2 + (3 * v6)).toNatClampNeg) (p1 := 84) (l1 := [.ref 264, .int x1, .int x2, .int x3, .int v6]) (s1 := []) (h1 := wI h7 300 ((2 + (3 * v6)).toNatClampNeg) v8) rfl (q_iast (n := 210) rfl)).trans (mm_ite rfl ?_)
        refine (mm_by 2 (pc' := 88) (ls' := [.ref 264, .int x1, .int (x2 + 1), .int x3, .int v6]) (st' := [.ref 264]) (h' := wI h7 300 ((2 + (3 * v6)).toNatClampNeg) v8) rfl).trans ?_
        refine (mm_c0 (y := 233) (as := [.ref 264]) (nx := 91) (rest := []) rfl rfl).trans (mm_congV fun h9 => ?_)
        exact mm_by 2 rfl
set_option maxRecDepth 100000 in
set_option maxHeartbeats 4000000 in
theorem U_X12_qCode {d : Nat} {x1 : Int32} {h : mm_H} : mm_M mm_T0 (d + 1) 285 [.ref 264, .int x1] h = (if (h.1 264 102) < 0 ∨ 1700 ≤ (h.1 264 102).toNatClampNeg then none else (some (none, wI (wI h 332 ((h.1 264 102).toNatClampNeg) x1) 264 102 (((wI h 332 ((h.1 264 102).toNatClampNeg) x1).1 264 102) + 1)))) := by
  refine (mm_M_eq (ls := [.ref 264, .int x1]) rfl (Nat.le_of_ble_eq_true rfl) rfl h).trans ?_
  refine (mm_by 5 (pc' := 9) (ls' := [.ref 264, .int x1]) (st' := [.int x1, .int (h.1 264 102), .ref 332]) (h' := h) rfl).trans ?_
  refine (mm_gd (c := (h.1 264 102) < 0 ∨ 1700 ≤ (h.1 264 102).toNatClampNeg) (p1 := 10) (l1 := [.ref 264, .int x1]) (s1 := []) (h1 := wI h 332 ((h.1 264 102).toNatClampNeg) x1) rfl (q_iast (n := 1700) rfl)).trans (mm_ite rfl ?_)
  exact mm_by_end 7 rfl
set_option maxRecDepth 100000 in
set_option maxHeartbeats 4000000 in
theorem U_X12_qOpens {d : Nat} {x1 : Int32} {x2 : Int32} {h : mm_H} : mm_M mm_T0 (d + 1) 286 [.ref 264, .int x1, .int x2] h = (if (h.1 264 5) = 0 then (if ¬ (h.1 264 105) = 6 then (if ((wI h 264 105 ((h.1 264 105) + 1)).1 264 104) < 0 ∨ 1700 ≤ ((wI h 264 105 ((h.1 264 105) + 1)).1 264 104).toNatClampNeg then none else (some (none, wI (wI (wI h 264 105 ((h.1 264 105) + 1)) 333 (((wI h 264 105 ((h.1 264 105) + 1)).1 264 104).toNatClampNeg) x1) 264 104 (((wI (wI h 264 105 ((h.1 264 105) + 1)) 333 (((wI h 264 105 ((h.1 264 105) + 1)).1 264 104).toNatClampNeg) x1).1 264 104) + 1)))) else (mm_bV (mm_M mm_T0 d 191 [.ref 264, .int 4, .int x2] h) (fun h1 => some (none, h1)))) else (some (none, h))) := by
  refine (mm_M_eq (ls := [.ref 264, .int x1, .int x2]) rfl (Nat.le_of_ble_eq_true rfl) rfl h).trans ?_
  refine (mm_by 2 (pc' := 4) (ls' := [.ref 264, .int x1, .int x2]) (st' := [.int (h.1 264 5)]) (h' := h) rfl).trans ?_
  refine (mm_br (c := (h.1 264 5) = 0) (p1 := 8) (p2 := 7) (l1 := [.ref 264, .int x1, .int x2]) (l2 := [.ref 264, .int x1, .int x2]) (s1 := []) (s2 := []) (h1 := h) (h2 := h) rfl rfl).trans (mm_ite ?_ ?_)
  · refine (mm_by 3 (pc' := 14) (ls' := [.ref 264, .int x1, .int x2]) (st' := [.int 6, .int (h.1 264 105)]) (h' := h) rfl).trans ?_
    refine (mm_br (c := ¬ (h.1 264 105) = 6) (p1 := 24) (p2 := 17) (l1 := [.ref 264, .int x1, .int x2]) (l2 := [.ref 264, .int x1, .int x2]) (s1 := []) (s2 := []) (h1 := h) (h2 := h) rfl rfl).trans (mm_ite ?_ ?_)
    · refine (mm_by 11 (pc' := 43) (ls' := [.ref 264, .int x1, .int x2]) (st' := [.int x1, .int ((wI h 264 105 ((h.1 264 105) + 1)).1 264 104), .ref 333]) (h' := wI h 264 105 ((h.1 264 105) + 1)) rfl).trans ?_
      refine (mm_gd (c := ((wI h 264 105 ((h.1 264 105) + 1)).1 264 104) < 0 ∨ 1700 ≤ ((wI h 264 105 ((h.1 264 105) + 1)).1 264 104).toNatClampNeg) (p1 := 44) (l1 := [.ref 264, .int x1, .int x2]) (s1 := []) (h1 := wI (wI h 264 105 ((h.1 264 105) + 1)) 333 (((wI h 264 105 ((h.1 264 105) + 1)).1 264 104).toNatClampNeg) x1) rfl (q_iast (n := 1700) rfl)).trans (mm_ite rfl ?_)
      exact mm_by_end 7 rfl
    · refine (mm_by 3 (pc' := 20) (ls' := [.ref 264, .int x1, .int x2]) (st' := [.int x2, .int 4, .ref 264]) (h' := h) rfl).trans ?_
      refine (mm_c0 (y := 191) (as := [.ref 264, .int 4, .int x2]) (nx := 23) (rest := []) rfl rfl).trans (mm_congV fun h1 => ?_)
      exact mm_by_end 1 rfl
  · exact mm_by_end 1 rfl
set_option maxRecDepth 100000 in
set_option maxHeartbeats 4000000 in
theorem U_X12_qIsOn {d : Nat} {x1 : Int32} {h : mm_H} : mm_M mm_T0 (d + 1) 287 [.ref 264, .int x1] h = (if (h.1 264 104) ≤ 0 then (some (some (.int 0), h)) else (if ((h.1 264 104) - 1) < 0 ∨ 1700 ≤ ((h.1 264 104) - 1).toNatClampNeg then none else (if ¬ (h.1 333 ((h.1 264 104) - 1).toNatClampNeg) = x1 then (some (some (.int 0), h)) else (some (some (.int 1), h))))) := by
  refine (mm_M_eq (ls := [.ref 264, .int x1]) rfl (Nat.le_of_ble_eq_true rfl) rfl h).trans ?_
  refine (mm_by 2 (pc' := 4) (ls' := [.ref 264, .int x1]) (st' := [.int (h.1 264 104)]) (h' := h) rfl).trans ?_
  refine (mm_br (c := (h.1 264 104) ≤ 0) (p1 := 26) (p2 := 7) (l1 := [.ref 264, .int x1]) (l2 := [.ref 264, .int x1]) (s1 := []) (s2 := []) (h1 := h) (h2 := h) rfl rfl).trans (mm_ite ?_ ?_)
  · exact mm_by_end 2 rfl
  · refine (mm_by 6 (pc' := 17) (ls' := [.ref 264, .int x1]) (st' := [.int ((h.1 264 104) - 1), .ref 333]) (h' := h) rfl).trans ?_
    refine (mm_gd (c := ((h.1 264 104) - 1) < 0 ∨ 1700 ≤ ((h.1 264 104) - 1).toNatClampNeg) (p1 := 18) (l1 := [.ref 264, .int x1]) (s1 := [.int (h.1 333 ((h.1 264 104) - 1).toNatClampNeg)]) (h1 := h) rfl (q_iald (n := 1700) rfl)).trans (mm_ite rfl ?_)
    refine (mm_by 1 (pc' := 19) (ls' := [.ref 264, .int x1]) (st' := [.int x1, .int (h.1 333 ((h.1 264 104) - 1).toNatClampNeg)]) (h' := h) rfl).trans ?_
    refine (mm_br (c := ¬ (h.1 333 ((h.1 264 104) - 1).toNatClampNeg) = x1) (p1 := 26) (p2 := 22) (l1 := [.ref 264, .int x1]) (l2 := [.ref 264, .int x1]) (s1 := []) (s2 := []) (h1 := h) (h2 := h) rfl rfl).trans (mm_ite ?_ ?_)
    · exact mm_by_end 2 rfl
    · exact mm_by_end 3 rfl
set_option maxRecDepth 100000 in
set_option maxHeartbeats 4000000 in
theorem U_X12_qDrops {d : Nat} {h : mm_H} : mm_M mm_T0 (d + 1) 288 [.ref 264] h = (if ((wI h 264 104 ((h.1 264 104) - 1)).1 264 104) < 0 ∨ 1700 ≤ ((wI h 264 104 ((h.1 264 104) - 1)).1 264 104).toNatClampNeg then none else (mm_bV (mm_M mm_T0 d 285 [.ref 264, .int ((wI h 264 104 ((h.1 264 104) - 1)).1 333 ((wI h 264 104 ((h.1 264 104) - 1)).1 264 104).toNatClampNeg)] (wI h 264 104 ((h.1 264 104) - 1))) (fun h1 => some (none, h1)))) := by
  refine (mm_M_eq (ls := [.ref 264]) rfl (Nat.le_of_ble_eq_true rfl) rfl h).trans ?_
  refine (mm_by 11 (pc' := 19) (ls' := [.ref 264]) (st' := [.int ((wI h 264 104 ((h.1 264 104) - 1)).1 264 104), .ref 333, .ref 264]) (h' := wI h 264 104 ((h.1 264 104) - 1)) rfl).trans ?_
  refine (mm_gd (c := ((wI h 264 104 ((h.1 264 104) - 1)).1 264 104) < 0 ∨ 1700 ≤ ((wI h 264 104 ((h.1 264 104) - 1)).1 264 104).toNatClampNeg) (p1 := 20) (l1 := [.ref 264]) (s1 := [.int ((wI h 264 104 ((h.1 264 104) - 1)).1 333 ((wI h 264 104 ((h.1 264 104) - 1)).1 264 104).toNatClampNeg), .ref 264]) (h1 := wI h 264 104 ((h.1 264 104) - 1)) rfl (q_iald (n := 1700) rfl)).trans (mm_ite rfl ?_)
  refine (mm_c0 (y := 285) (as := [.ref 264, .int ((wI h 264 104 ((h.1 264 104) - 1)).1 333 ((wI h 264 104 ((h.1 264 104) - 1)).1 264 104).toNatClampNeg)]) (nx := 23) (rest := []) rfl rfl).trans (mm_congV fun h1 => ?_)
  exact mm_by_end 1 rfl
set_option maxRecDepth 100000 in
set_option maxHeartbeats 4000000 in
theorem U_X12_qIsBracket {d : Nat} {x0 : Int32} {h : mm_H} : mm_M mm_T0 (d + 1) 289 [.int x0] h = (if x0 < 20 then (some (some (.int 0), h)) else (if 24 < x0 then (some (some (.int 0), h)) else (some (some (.int 1), h)))) := by
  refine (mm_M_eq (ls := [.int x0]) rfl (Nat.le_of_ble_eq_true rfl) rfl h).trans ?_
  refine (mm_by 2 (pc' := 3) (ls' := [.int x0]) (st' := [.int 20, .int x0]) (h' := h) rfl).trans ?_
  refine (mm_br (c := x0 < 20) (p1 := 16) (p2 := 6) (l1 := [.int x0]) (l2 := [.int x0]) (s1 := []) (s2 := []) (h1 := h) (h2 := h) rfl rfl).trans (mm_ite ?_ ?_)
  · exact mm_by_end 2 rfl
  · refine (mm_by 2 (pc' := 9) (ls' := [.int x0]) (st' := [.int 24, .int x0]) (h' := h) rfl).trans ?_
    refine (mm_br (c := 24 < x0) (p1 := 16) (p2 := 12) (l1 := [.int x0]) (l2 := [.int x0]) (s1 := []) (s2 := []) (h1 := h) (h2 := h) rfl rfl).trans (mm_ite ?_ ?_)
    · exact mm_by_end 2 rfl
    · exact mm_by_end 3 rfl
set_option maxRecDepth 100000 in
set_option maxHeartbeats 4000000 in
theorem U_X12_qBracket {d : Nat} {h : mm_H} : mm_M mm_T0 (d + 1) 290 [.ref 264] h = (mm_D (mm_M mm_T0 d) cd_X12_qBracket 7 [.ref 264, .int ((h.1 264 104) - 1)] [] h) := by
  refine (mm_M_eq (ls := [.ref 264, .null]) rfl (Nat.le_of_ble_eq_true rfl) rfl h).trans ?_
  exact mm_by 5 rfl
set_option maxRecDepth 100000 in
set_option maxHeartbeats 4000000 in
theorem U_X12_qBracket_7 {d : Nat} {x1 : Int32} {h : mm_H} : mm_D (mm_M mm_T0 d) cd_X12_qBracket 7 [.ref 264, .int x1] [] h = (if x1 < (h.1 264 106) then (if x1 < (h.1 264 106) then (some (some (.int ((-1))), h)) else (if x1 < 0 ∨ 1700 ≤ x1.toNatClampNeg then none else (some (some (.int (h.1 333 x1.toNatClampNeg)), h)))) else (if x1 < 0 ∨ 1700 ≤ x1.toNatClampNeg then none else (mm_bI (mm_M mm_T0 d 289 [.int (h.1 333 x1.toNatClampNeg)] h) (fun v2 h1 => if ¬ v2 = 0 then (if x1 < (h1.1 264 106) then (some (some (.int ((-1))), h1)) else (if x1 < 0 ∨ 1700 ≤ x1.toNatClampNeg then none else (some (some (.int (h1.1 333 x1.toNatClampNeg)), h1)))) else (mm_D (mm_M mm_T0 d) cd_X12_qBracket 7 [.ref 264, .int (x1 + (-1))] [] h1))))) := by
  refine (mm_by 3 (pc' := 12) (ls' := [.ref 264, .int x1]) (st' := [.int (h.1 264 106), .int x1]) (h' := h) rfl).trans ?_
  refine (mm_br (c := x1 < (h.1 264 106)) (p1 := 33) (p2 := 15) (l1 := [.ref 264, .int x1]) (l2 := [.ref 264, .int x1]) (s1 := []) (s2 := []) (h1 := h) (h2 := h) rfl rfl).trans (mm_ite ?_ ?_)
  · refine (mm_by 3 (pc' := 38) (ls' := [.ref 264, .int x1]) (st' := [.int (h.1 264 106), .int x1]) (h' := h) rfl).trans ?_
    refine (mm_br (c := x1 < (h.1 264 106)) (p1 := 50) (p2 := 41) (l1 := [.ref 264, .int x1]) (l2 := [.ref 264, .int x1]) (s1 := []) (s2 := []) (h1 := h) (h2 := h) rfl rfl).trans (mm_ite ?_ ?_)
    · exact mm_by_end 2 rfl
    · refine (mm_by 3 (pc' := 46) (ls' := [.ref 264, .int x1]) (st' := [.int x1, .ref 333]) (h' := h) rfl).trans ?_
      refine (mm_gd (c := x1 < 0 ∨ 1700 ≤ x1.toNatClampNeg) (p1 := 47) (l1 := [.ref 264, .int x1]) (s1 := [.int (h.1 333 x1.toNatClampNeg)]) (h1 := h) rfl (q_iald (n := 1700) rfl)).trans (mm_ite rfl ?_)
      exact mm_by_end 2 rfl
  · refine (mm_by 3 (pc' := 20) (ls' := [.ref 264, .int x1]) (st' := [.int x1, .ref 333]) (h' := h) rfl).trans ?_
    refine (mm_gd (c := x1 < 0 ∨ 1700 ≤ x1.toNatClampNeg) (p1 := 21) (l1 := [.ref 264, .int x1]) (s1 := [.int (h.1 333 x1.toNatClampNeg)]) (h1 := h) rfl (q_iald (n := 1700) rfl)).trans (mm_ite rfl ?_)
    refine (mm_c1 (y := 289) (as := [.int (h.1 333 x1.toNatClampNeg)]) (nx := 24) (rest := []) rfl rfl).trans (mm_congI fun v2 h1 => ?_)
    refine (mm_br (c := ¬ v2 = 0) (p1 := 33) (p2 := 27) (l1 := [.ref 264, .int x1]) (l2 := [.ref 264, .int x1]) (s1 := []) (s2 := []) (h1 := h1) (h2 := h1) rfl rfl).trans (mm_ite ?_ ?_)
    · refine (mm_by 3 (pc' := 38) (ls' := [.ref 264, .int x1]) (st' := [.int (h1.1 264 106), .int x1]) (h' := h1) rfl).trans ?_
      refine (mm_br (c := x1 < (h1.1 264 106)) (p1 := 50) (p2 := 41) (l1 := [.ref 264, .int x1]) (l2 := [.ref 264, .int x1]) (s1 := []) (s2 := []) (h1 := h1) (h2 := h1) rfl rfl).trans (mm_ite ?_ ?_)
      · exact mm_by_end 2 rfl
      · refine (mm_by 3 (pc' := 46) (ls' := [.ref 264, .int x1]) (st' := [.int x1, .ref 333]) (h' := h1) rfl).trans ?_
        refine (mm_gd (c := x1 < 0 ∨ 1700 ≤ x1.toNatClampNeg) (p1 := 47) (l1 := [.ref 264, .int x1]) (s1 := [.int (h1.1 333 x1.toNatClampNeg)]) (h1 := h1) rfl (q_iald (n := 1700) rfl)).trans (mm_ite rfl ?_)
        exact mm_by_end 2 rfl
    · exact mm_by 2 rfl
set_option maxRecDepth 100000 in
set_option maxHeartbeats 4000000 in
theorem U_X12_qDropsToBracket {d : Nat} {h : mm_H} : mm_M mm_T0 (d + 1) 291 [.ref 264] h = (if (h.1 264 104) ≤ (h.1 264 106) then (some (none, h)) else (if ((h.1 264 104) - 1) < 0 ∨ 1700 ≤ ((h.1 264 104) - 1).toNatClampNeg then none else (mm_bI (mm_M mm_T0 d 289 [.int (h.1 333 ((h.1 264 104) - 1).toNatClampNeg)] h) (fun v2 h1 => if ¬ v2 = 0 then (some (none, h1)) else (mm_bV (mm_M mm_T0 d 288 [.ref 264] h1) (fun h3 => mm_D (mm_M mm_T0 d) cd_X12_qDropsToBracket 0 [.ref 264] [] h3)))))) := by
  refine (mm_M_eq (ls := [.ref 264]) rfl (Nat.le_of_ble_eq_true rfl) rfl h).trans ?_
  refine (mm_by 4 (pc' := 8) (ls' := [.ref 264]) (st' := [.int (h.1 264 106), .int (h.1 264 104)]) (h' := h) rfl).trans ?_
  refine (mm_br (c := (h.1 264 104) ≤ (h.1 264 106)) (p1 := 35) (p2 := 11) (l1 := [.ref 264]) (l2 := [.ref 264]) (s1 := []) (s2 := []) (h1 := h) (h2 := h) rfl rfl).trans (mm_ite ?_ ?_)
  · exact mm_by_end 1 rfl
  · refine (mm_by 6 (pc' := 21) (ls' := [.ref 264]) (st' := [.int ((h.1 264 104) - 1), .ref 333]) (h' := h) rfl).trans ?_
    refine (mm_gd (c := ((h.1 264 104) - 1) < 0 ∨ 1700 ≤ ((h.1 264 104) - 1).toNatClampNeg) (p1 := 22) (l1 := [.ref 264]) (s1 := [.int (h.1 333 ((h.1 264 104) - 1).toNatClampNeg)]) (h1 := h) rfl (q_iald (n := 1700) rfl)).trans (mm_ite rfl ?_)
    refine (mm_c1 (y := 289) (as := [.int (h.1 333 ((h.1 264 104) - 1).toNatClampNeg)]) (nx := 25) (rest := []) rfl rfl).trans (mm_congI fun v2 h1 => ?_)
    refine (mm_br (c := ¬ v2 = 0) (p1 := 35) (p2 := 28) (l1 := [.ref 264]) (l2 := [.ref 264]) (s1 := []) (s2 := []) (h1 := h1) (h2 := h1) rfl rfl).trans (mm_ite ?_ ?_)
    · exact mm_by_end 1 rfl
    · refine (mm_by 1 (pc' := 29) (ls' := [.ref 264]) (st' := [.ref 264]) (h' := h1) rfl).trans ?_
      refine (mm_c0 (y := 288) (as := [.ref 264]) (nx := 32) (rest := []) rfl rfl).trans (mm_congV fun h3 => ?_)
      exact mm_by 1 rfl
set_option maxRecDepth 100000 in
set_option maxHeartbeats 4000000 in
theorem U_X12_qDropsToBracket_0 {d : Nat} {h : mm_H} : mm_D (mm_M mm_T0 d) cd_X12_qDropsToBracket 0 [.ref 264] [] h = (if (h.1 264 104) ≤ (h.1 264 106) then (some (none, h)) else (if ((h.1 264 104) - 1) < 0 ∨ 1700 ≤ ((h.1 264 104) - 1).toNatClampNeg then none else (mm_bI (mm_M mm_T0 d 289 [.int (h.1 333 ((h.1 264 104) - 1).toNatClampNeg)] h) (fun v2 h1 => if ¬ v2 = 0 then (some (none, h1)) else (mm_bV (mm_M mm_T0 d 288 [.ref 264] h1) (fun h3 => mm_D (mm_M mm_T0 d) cd_X12_qDropsToBracket 0 [.ref 264] [] h3)))))) := by
  refine (mm_by 4 (pc' := 8) (ls' := [.ref 264]) (st' := [.int (h.1 264 106), .int (h.1 264 104)]) (h' := h) rfl).trans ?_
  refine (mm_br (c := (h.1 264 104) ≤ (h.1 264 106)) (p1 := 35) (p2 := 11) (l1 := [.ref 264]) (l2 := [.ref 264]) (s1 := []) (s2 := []) (h1 := h) (h2 := h) rfl rfl).trans (mm_ite ?_ ?_)
  · exact mm_by_end 1 rfl
  · refine (mm_by 6 (pc' := 21) (ls' := [.ref 264]) (st' := [.int ((h.1 264 104) - 1), .ref 333]) (h' := h) rfl).trans ?_
    refine (mm_gd (c := ((h.1 264 104) - 1) < 0 ∨ 1700 ≤ ((h.1 264 104) - 1).toNatClampNeg) (p1 := 22) (l1 := [.ref 264]) (s1 := [.int (h.1 333 ((h.1 264 104) - 1).toNatClampNeg)]) (h1 := h) rfl (q_iald (n := 1700) rfl)).trans (mm_ite rfl ?_)
    refine (mm_c1 (y := 289) (as := [.int (h.1 333 ((h.1 264 104) - 1).toNatClampNeg)]) (nx := 25) (rest := []) rfl rfl).trans (mm_congI fun v2 h1 => ?_)
    refine (mm_br (c := ¬ v2 = 0) (p1 := 35) (p2 := 28) (l1 := [.ref 264]) (l2 := [.ref 264]) (s1 := []) (s2 := []) (h1 := h1) (h2 := h1) rfl rfl).trans (mm_ite ?_ ?_)
    · exact mm_by_end 1 rfl
    · refine (mm_by 1 (pc' := 29) (ls' := [.ref 264]) (st' := [.ref 264]) (h' := h1) rfl).trans ?_
      refine (mm_c0 (y := 288) (as := [.ref 264]) (nx := 32) (rest := []) rfl rfl).trans (mm_congV fun h3 => ?_)
      exact mm_by 1 rfl
set_option maxRecDepth 100000 in
set_option maxHeartbeats 4000000 in
theorem U_X12_qWordHere {d : Nat} {h : mm_H} : mm_M mm_T0 (d + 1) 292 [.ref 264] h = (mm_bI (mm_M mm_T0 d 195 [.ref 264, .ref 319] h) (fun v2 h1 => if v2 = 0 then (mm_bI (mm_M mm_T0 d 195 [.ref 264, .ref 320] h1) (fun v4 h3 => if v4 = 0 then (if 3 ≤ (h3.1 264 54) then (mm_bI (mm_M mm_T0 d 195 [.ref 264, .ref 322] h3) (fun v6 h5 => if v6 = 0 then (mm_bI (mm_M mm_T0 d 195 [.ref 264, .ref 323] h5) (fun v8 h7 => if v8 = 0 then (mm_bI (mm_M mm_T0 d 195 [.ref 264, .ref 324] h7) (fun v10 h9 => if v10 = 0 then (mm_bI (mm_M mm_T0 d 195 [.ref 264, .ref 325] h9) (fun v12 h11 => if v12 = 0 then (if 3 ≤ (h11.1 264 54) then (mm_bI (mm_M mm_T0 d 195 [.ref 264, .ref 327] h11) (fun v14 h13 => if v14 = 0 then (mm_bI (mm_M mm_T0 d 195 [.ref 264, .ref 328] h13) (fun v16 h15 => if v16 = 0 then (mm_bI (mm_M mm_T0 d 195 [.ref 264, .ref 329] h15) (fun v18 h17 => if v18 = 0 then (mm_bI (mm_M mm_T0 d 195 [.ref 264, .ref 330] h17) (fun v20 h19 => if v20 = 0 then (mm_bI (mm_M mm_T0 d 195 [.ref 264, .ref 331] h19) (fun v22 h21 => if v22 = 0 then (some (some (.int ((-1))), h21)) else (some (some (.int 12), h21)))) else (some (some (.int 11), h19)))) else (some (some (.int 10), h17)))) else (some (some (.int 9), h15)))) else (some (some (.int 8), h13)))) else (mm_bI (mm_M mm_T0 d 195 [.ref 264, .ref 326] h11) (fun v24 h23 => if v24 = 0 then (mm_bI (mm_M mm_T0 d 195 [.ref 264, .ref 327] h23) (fun v26 h25 => if v26 = 0 then (mm_bI (mm_M mm_T0 d 195 [.ref 264, .ref 328] h25) (fun v28 h27 => if v28 = 0 then (mm_bI (mm_M mm_T0 d 195 [.ref 264, .ref 329] h27) (fun v30 h29 => if v30 = 0 then (mm_bI (mm_M mm_T0 d 195 [.ref 264, .ref 330] h29) (fun v32 h31 => if v32 = 0 then (mm_bI (mm_M mm_T0 d 195 [.ref 264, .ref 331] h31) (fun v34 h33 => if v34 = 0 then (some (some (.int ((-1))), h33)) else (some (some (.int 12), h33)))) else (some (some (.int 11), h31)))) else (some (some (.int 10), h29)))) else (some (some (.int 9), h27)))) else (some (some (.int 8), h25)))) else (some (some (.int 7), h23))))) else (some (some (.int 6), h11)))) else (some (some (.int 5), h9)))) else (some (some (.int 4), h7)))) else (some (some (.int 3), h5)))) else (mm_bI (mm_M mm_T0 d 195 [.ref 264, .ref 321] h3) (fun v36 h35 => if v36 = 0 then (mm_bI (mm_M mm_T0 d 195 [.ref 264, .ref 322] h35) (fun v38 h37 => if v38 = 0 then (mm_bI (mm_M mm_T0 d 195 [.ref 264, .ref 323] h37) (fun v40 h39 => if v40 = 0 then (mm_bI (mm_M mm_T0 d 195 [.ref 264, .ref 324] h39) (fun v42 h41 => if v42 = 0 then (mm_bI (mm_M mm_T0 d 195 [.ref 264, .ref 325] h41) (fun v44 h43 => if v44 = 0 then (if 3 ≤ (h43.1 264 54) then (mm_bI (mm_M mm_T0 d 195 [.ref 264, .ref 327] h43) (fun v46 h45 => if v46 = 0 then (mm_bI (mm_M mm_T0 d 195 [.ref 264, .ref 328] h45) (fun v48 h47 => if v48 = 0 then (mm_bI (mm_M mm_T0 d 195 [.ref 264, .ref 329] h47) (fun v50 h49 => if v50 = 0 then (mm_bI (mm_M mm_T0 d 195 [.ref 264, .ref 330] h49) (fun v52 h51 => if v52 = 0 then (mm_bI (mm_M mm_T0 d 195 [.ref 264, .ref 331] h51) (fun v54 h53 => if v54 = 0 then (some (some (.int ((-1))), h53)) else (some (some (.int 12), h53)))) else (some (some (.int 11), h51)))) else (some (some (.int 10), h49)))) else (some (some (.int 9), h47)))) else (some (some (.int 8), h45)))) else (mm_bI (mm_M mm_T0 d 195 [.ref 264, .ref 326] h43) (fun v56 h55 => if v56 = 0 then (mm_bI (mm_M mm_T0 d 195 [.ref 264, .ref 327] h55) (fun v58 h57 => if v58 = 0 then (mm_bI (mm_M mm_T0 d 195 [.ref 264, .ref 328] h57) (fun v60 h59 => if v60 = 0 then (mm_bI (mm_M mm_T0 d 195 [.ref 264, .ref 329] h59) (fun v62 h61 => if v62 = 0 then (mm_bI (mm_M mm_T0 d 195 [.ref 264, .ref 330] h61) (fun v64 h63 => if v64 = 0 then (mm_bI (mm_M mm_T0 d 195 [.ref 264, .ref 331] h63) (fun v66 h65 => if v66 = 0 then (some (some (.int ((-1))), h65)) else (some (some (.int 12), h65)))) else (some (some (.int 11), h63)))) else (some (some (.int 10), h61)))) else (some (some (.int 9), h59)))) else (some (some (.int 8), h57)))) else (some (some (.int 7), h55))))) else (some (some (.int 6), h43)))) else (some (some (.int 5), h41)))) else (some (some (.int 4), h39)))) else (some (some (.int 3), h37)))) else (some (some (.int 2), h35))))) else (some (some (.int 1), h3)))) else (some (some (.int 0), h1)))) := by
  refine (mm_M_eq (ls := [.ref 264]) rfl (Nat.le_of_ble_eq_true rfl) rfl h).trans ?_
  refine (mm_by 3 (pc' := 5) (ls' := [.ref 264]) (st' := [.ref 319, .ref 264]) (h' := h) rfl).trans ?_
  refine (mm_c1 (y := 195) (as := [.ref 264, .ref 319]) (nx := 8) (rest := []) rfl rfl).trans (mm_congI fun v2 h1 => ?_)
  refine (mm_br (c := v2 = 0) (p1 := 13) (p2 := 11) (l1 := [.ref 264]) (l2 := [.ref 264]) (s1 := []) (s2 := []) (h1 := h1) (h2 := h1) rfl rfl).trans (mm_ite ?_ ?_)
  · refine (mm_by 3 (pc' := 18) (ls' := [.ref 264]) (st' := [.ref 320, .ref 264]) (h' := h1) rfl).trans ?_
    refine (mm_c1 (y := 195) (as := [.ref 264, .ref 320]) (nx := 21) (rest := []) rfl rfl).trans (mm_congI fun v4 h3 => ?_)
    refine (mm_br (c := v4 = 0) (p1 := 26) (p2 := 24) (l1 := [.ref 264]) (l2 := [.ref 264]) (s1 := []) (s2 := []) (h1 := h3) (h2 := h3) rfl rfl).trans (mm_ite ?_ ?_)
    · refine (mm_by 3 (pc' := 31) (ls' := [.ref 264]) (st' := [.int 3, .int (h3.1 264 54)]) (h' := h3) rfl).trans ?_
      refine (mm_br (c := 3 ≤ (h3.1 264 54)) (p1 := 47) (p2 := 34) (l1 := [.ref 264]) (l2 := [.ref 264]) (s1 := []) (s2 := []) (h1 := h3) (h2 := h3) rfl rfl).trans (mm_ite ?_ ?_)
      · refine (mm_by 3 (pc' := 52) (ls' := [.ref 264]) (st' := [.ref 322, .ref 264]) (h' := h3) rfl).trans ?_
        refine (mm_c1 (y := 195) (as := [.ref 264, .ref 322]) (nx := 55) (rest := []) rfl rfl).trans (mm_congI fun v6 h5 => ?_)
        refine (mm_br (c := v6 = 0) (p1 := 60) (p2 := 58) (l1 := [.ref 264]) (l2 := [.ref 264]) (s1 := []) (s2 := []) (h1 := h5) (h2 := h5) rfl rfl).trans (mm_ite ?_ ?_)
        · refine (mm_by 3 (pc' := 65) (ls' := [.ref 264]) (st' := [.ref 323, .ref 264]) (h' := h5) rfl).trans ?_
          refine (mm_c1 (y := 195) (as := [.ref 264, .ref 323]) (nx := 68) (rest := []) rfl rfl).trans (mm_congI fun v8 h7 => ?_)
          refine (mm_br (c := v8 = 0) (p1 := 73) (p2 := 71) (l1 := [.ref 264]) (l2 := [.ref 264]) (s1 := []) (s2 := []) (h1 := h7) (h2 := h7) rfl rfl).trans (mm_ite ?_ ?_)
          · refine (mm_by 3 (pc' := 78) (ls' := [.ref 264]) (st' := [.ref 324, .ref 264]) (h' := h7) rfl).trans ?_
            refine (mm_c1 (y := 195) (as := [.ref 264, .ref 324]) (nx := 81) (rest := []) rfl rfl).trans (mm_congI fun v10 h9 => ?_)
            refine (mm_br (c := v10 = 0) (p1 := 86) (p2 := 84) (l1 := [.ref 264]) (l2 := [.ref 264]) (s1 := []) (s2 := []) (h1 := h9) (h2 := h9) rfl rfl).trans (mm_ite ?_ ?_)
            · refine (mm_by 3 (pc' := 91) (ls' := [.ref 264]) (st' := [.ref 325, .ref 264]) (h' := h9) rfl).trans ?_
              refine (mm_c1 (y := 195) (as := [.ref 264, .ref 325]) (nx := 94) (rest := []) rfl rfl).trans (mm_congI fun v12 h11 => ?_)
              refine (mm_br (c := v12 = 0) (p1 := 100) (p2 := 97) (l1 := [.ref 264]) (l2 := [.ref 264]) (s1 := []) (s2 := []) (h1 := h11) (h2 := h11) rfl rfl).trans (mm_ite ?_ ?_)
              · refine (mm_by 3 (pc' := 105) (ls' := [.ref 264]) (st' := [.int 3, .int (h11.1 264 54)]) (h' := h11) rfl).trans ?_
                refine (mm_br (c := 3 ≤ (h11.1 264 54)) (p1 := 122) (p2 := 108) (l1 := [.ref 264]) (l2 := [.ref 264]) (s1 := []) (s2 := []) (h1 := h11) (h2 := h11) rfl rfl).trans (mm_ite ?_ ?_)
                · refine (mm_by 3 (pc' := 127) (ls' := [.ref 264]) (st' := [.ref 327, .ref 264]) (h' := h11) rfl).trans ?_
                  refine (mm_c1 (y := 195) (as := [.ref 264, .ref 327]) (nx := 130) (rest := []) rfl rfl).trans (mm_congI fun v14 h13 => ?_)
                  refine (mm_br (c := v14 = 0) (p1 := 136) (p2 := 133) (l1 := [.ref 264]) (l2 := [.ref 264]) (s1 := []) (s2 := []) (h1 := h13) (h2 := h13) rfl rfl).trans (mm_ite ?_ ?_)
                  · refine (mm_by 3 (pc' := 141) (ls' := [.ref 264]) (st' := [.ref 328, .ref 264]) (h' := h13) rfl).trans ?_
                    refine (mm_c1 (y := 195) (as := [.ref 264, .ref 328]) (nx := 144) (rest := []) rfl rfl).trans (mm_congI fun v16 h15 => ?_)
                    refine (mm_br (c := v16 = 0) (p1 := 150) (p2 := 147) (l1 := [.ref 264]) (l2 := [.ref 264]) (s1 := []) (s2 := []) (h1 := h15) (h2 := h15) rfl rfl).trans (mm_ite ?_ ?_)
                    · refine (mm_by 3 (pc' := 155) (ls' := [.ref 264]) (st' := [.ref 329, .ref 264]) (h' := h15) rfl).trans ?_
                      refine (mm_c1 (y := 195) (as := [.ref 264, .ref 329]) (nx := 158) (rest := []) rfl rfl).trans (mm_congI fun v18 h17 => ?_)
                      refine (mm_br (c := v18 = 0) (p1 := 164) (p2 := 161) (l1 := [.ref 264]) (l2 := [.ref 264]) (s1 := []) (s2 := []) (h1 := h17) (h2 := h17) rfl rfl).trans (mm_ite ?_ ?_)
                      · refine (mm_by 3 (pc' := 169) (ls' := [.ref 264]) (st' := [.ref 330, .ref 264]) (h' := h17) rfl).trans ?_
                        refine (mm_c1 (y := 195) (as := [.ref 264, .ref 330]) (nx := 172) (rest := []) rfl rfl).trans (mm_congI fun v20 h19 => ?_)
                        refine (mm_br (c := v20 = 0) (p1 := 178) (p2 := 175) (l1 := [.ref 264]) (l2 := [.ref 264]) (s1 := []) (s2 := []) (h1 := h19) (h2 := h19) rfl rfl).trans (mm_ite ?_ ?_)
                        · refine (mm_by 3 (pc' := 183) (ls' := [.ref 264]) (st' := [.ref 331, .ref 264]) (h' := h19) rfl).trans ?_
                          refine (mm_c1 (y := 195) (as := [.ref 264, .ref 331]) (nx := 186) (rest := []) rfl rfl).trans (mm_congI fun v22 h21 => ?_)
                          refine (mm_br (c := v22 = 0) (p1 := 192) (p2 := 189) (l1 := [.ref 264]) (l2 := [.ref 264]) (s1 := []) (s2 := []) (h1 := h21) (h2 := h21) rfl rfl).trans (mm_ite ?_ ?_)
                          · exact mm_by_end 2 rfl
                          · exact mm_by_end 2 rfl
                        · exact mm_by_end 2 rfl
                      · exact mm_by_end 2 rfl
                    · exact mm_by_end 2 rfl
                  · exact mm_by_end 2 rfl
                · refine (mm_by 3 (pc' := 113) (ls' := [.ref 264]) (st' := [.ref 326, .ref 264]) (h' := h11) rfl).trans ?_
                  refine (mm_c1 (y := 195) (as := [.ref 264, .ref 326]) (nx := 116) (rest := []) rfl rfl).trans (mm_congI fun v24 h23 => ?_)
                  refine (mm_br (c := v24 = 0) (p1 := 122) (p2 := 119) (l1 := [.ref 264]) (l2 := [.ref 264]) (s1 := []) (s2 := []) (h1 := h23) (h2 := h23) rfl rfl).trans (mm_ite ?_ ?_)
                  · refine (mm_by 3 (pc' := 127) (ls' := [.ref 264]) (st' := [.ref 327, .ref 264]) (h' := h23) rfl).trans ?_
                    refine (mm_c1 (y := 195) (as := [.ref 264, .ref 327]) (nx := 130) (rest := []) rfl rfl).trans (mm_congI fun v26 h25 => ?_)
                    refine (mm_br (c := v26 = 0) (p1 := 136) (p2 := 133) (l1 := [.ref 264]) (l2 := [.ref 264]) (s1 := []) (s2 := []) (h1 := h25) (h2 := h25) rfl rfl).trans (mm_ite ?_ ?_)
                    · refine (mm_by 3 (pc' := 141) (ls' := [.ref 264]) (st' := [.ref 328, .ref 264]) (h' := h25) rfl).trans ?_
                      refine (mm_c1 (y := 195) (as := [.ref 264, .ref 328]) (nx := 144) (rest := []) rfl rfl).trans (mm_congI fun v28 h27 => ?_)
                      refine (mm_br (c := v28 = 0) (p1 := 150) (p2 := 147) (l1 := [.ref 264]) (l2 := [.ref 264]) (s1 := []) (s2 := []) (h1 := h27) (h2 := h27) rfl rfl).trans (mm_ite ?_ ?_)
                      · refine (mm_by 3 (pc' := 155) (ls' := [.ref 264]) (st' := [.ref 329, .ref 264]) (h' := h27) rfl).trans ?_
                        refine (mm_c1 (y := 195) (as := [.ref 264, .ref 329]) (nx := 158) (rest := []) rfl rfl).trans (mm_congI fun v30 h29 => ?_)
                        refine (mm_br (c := v30 = 0) (p1 := 164) (p2 := 161) (l1 := [.ref 264]) (l2 := [.ref 264]) (s1 := []) (s2 := []) (h1 := h29) (h2 := h29) rfl rfl).trans (mm_ite ?_ ?_)
                        · refine (mm_by 3 (pc' := 169) (ls' := [.ref 264]) (st' := [.ref 330, .ref 264]) (h' := h29) rfl).trans ?_
                          refine (mm_c1 (y := 195) (as := [.ref 264, .ref 330]) (nx := 172) (rest := []) rfl rfl).trans (mm_congI fun v32 h31 => ?_)
                          refine (mm_br (c := v32 = 0) (p1 := 178) (p2 := 175) (l1 := [.ref 264]) (l2 := [.ref 264]) (s1 := []) (s2 := []) (h1 := h31) (h2 := h31) rfl rfl).trans (mm_ite ?_ ?_)
                          · refine (mm_by 3 (pc' := 183) (ls' := [.ref 264]) (st' := [.ref 331, .ref 264]) (h' := h31) rfl).trans ?_
                            refine (mm_c1 (y := 195) (as := [.ref 264, .ref 331]) (nx := 186) (rest := []) rfl rfl).trans (mm_congI fun v34 h33 => ?_)
                            refine (mm_br (c := v34 = 0) (p1 := 192) (p2 := 189) (l1 := [.ref 264]) (l2 := [.ref 264]) (s1 := []) (s2 := []) (h1 := h33) (h2 := h33) rfl rfl).trans (mm_ite ?_ ?_)
                            · exact mm_by_end 2 rfl
                            · exact mm_by_end 2 rfl
                          · exact mm_by_end 2 rfl
                        · exact mm_by_end 2 rfl
                      · exact mm_by_end 2 rfl
                    · exact mm_by_end 2 rfl
                  · exact mm_by_end 2 rfl
              · exact mm_by_end 2 rfl
            · exact mm_by_end 2 rfl
          · exact mm_by_end 2 rfl
        · exact mm_by_end 2 rfl
      · refine (mm_by 3 (pc' := 39) (ls' := [.ref 264]) (st' := [.ref 321, .ref 264]) (h' := h3) rfl).trans ?_
        refine (mm_c1 (y := 195) (as := [.ref 264, .ref 321]) (nx := 42) (rest := []) rfl rfl).trans (mm_congI fun v36 h35 => ?_)
        refine (mm_br (c := v36 = 0) (p1 := 47) (p2 := 45) (l1 := [.ref 264]) (l2 := [.ref 264]) (s1 := []) (s2 := []) (h1 := h35) (h2 := h35) rfl rfl).trans (mm_ite ?_ ?_)
        · refine (mm_by 3 (pc' := 52) (ls' := [.ref 264]) (st' := [.ref 322, .ref 264]) (h' := h35) rfl).trans ?_
          refine (mm_c1 (y := 195) (as := [.ref 264, .ref 322]) (nx := 55) (rest := []) rfl rfl).trans (mm_congI fun v38 h37 => ?_)
          refine (mm_br (c := v38 = 0) (p1 := 60) (p2 := 58) (l1 := [.ref 264]) (l2 := [.ref 264]) (s1 := []) (s2 := []) (h1 := h37) (h2 := h37) rfl rfl).trans (mm_ite ?_ ?_)
          · refine (mm_by 3 (pc' := 65) (ls' := [.ref 264]) (st' := [.ref 323, .ref 264]) (h' := h37) rfl).trans ?_
            refine (mm_c1 (y := 195) (as := [.ref 264, .ref 323]) (nx := 68) (rest := []) rfl rfl).trans (mm_congI fun v40 h39 => ?_)
            refine (mm_br (c := v40 = 0) (p1 := 73) (p2 := 71) (l1 := [.ref 264]) (l2 := [.ref 264]) (s1 := []) (s2 := []) (h1 := h39) (h2 := h39) rfl rfl).trans (mm_ite ?_ ?_)
            · refine (mm_by 3 (pc' := 78) (ls' := [.ref 264]) (st' := [.ref 324, .ref 264]) (h' := h39) rfl).trans ?_
              refine (mm_c1 (y := 195) (as := [.ref 264, .ref 324]) (nx := 81) (rest := []) rfl rfl).trans (mm_congI fun v42 h41 => ?_)
              refine (mm_br (c := v42 = 0) (p1 := 86) (p2 := 84) (l1 := [.ref 264]) (l2 := [.ref 264]) (s1 := []) (s2 := []) (h1 := h41) (h2 := h41) rfl rfl).trans (mm_ite ?_ ?_)
              · refine (mm_by 3 (pc' := 91) (ls' := [.ref 264]) (st' := [.ref 325, .ref 264]) (h' := h41) rfl).trans ?_
                refine (mm_c1 (y := 195) (as := [.ref 264, .ref 325]) (nx := 94) (rest := []) rfl rfl).trans (mm_congI fun v44 h43 => ?_)
                refine (mm_br (c := v44 = 0) (p1 := 100) (p2 := 97) (l1 := [.ref 264]) (l2 := [.ref 264]) (s1 := []) (s2 := []) (h1 := h43) (h2 := h43) rfl rfl).trans (mm_ite ?_ ?_)
                · refine (mm_by 3 (pc' := 105) (ls' := [.ref 264]) (st' := [.int 3, .int (h43.1 264 54)]) (h' := h43) rfl).trans ?_
                  refine (mm_br (c := 3 ≤ (h43.1 264 54)) (p1 := 122) (p2 := 108) (l1 := [.ref 264]) (l2 := [.ref 264]) (s1 := []) (s2 := []) (h1 := h43) (h2 := h43) rfl rfl).trans (mm_ite ?_ ?_)
                  · refine (mm_by 3 (pc' := 127) (ls' := [.ref 264]) (st' := [.ref 327, .ref 264]) (h' := h43) rfl).trans ?_
                    refine (mm_c1 (y := 195) (as := [.ref 264, .ref 327]) (nx := 130) (rest := []) rfl rfl).trans (mm_congI fun v46 h45 => ?_)
                    refine (mm_br (c := v46 = 0) (p1 := 136) (p2 := 133) (l1 := [.ref 264]) (l2 := [.ref 264]) (s1 := []) (s2 := []) (h1 := h45) (h2 := h45) rfl rfl).trans (mm_ite ?_ ?_)
                    · refine (mm_by 3 (pc' := 141) (ls' := [.ref 264]) (st' := [.ref 328, .ref 264]) (h' := h45) rfl).trans ?_
                      refine (mm_c1 (y := 195) (as := [.ref 264, .ref 328]) (nx := 144) (rest := []) rfl rfl).trans (mm_congI fun v48 h47 => ?_)
                      refine (mm_br (c := v48 = 0) (p1 := 150) (p2 := 147) (l1 := [.ref 264]) (l2 := [.ref 264]) (s1 := []) (s2 := []) (h1 := h47) (h2 := h47) rfl rfl).trans (mm_ite ?_ ?_)
                      · refine (mm_by 3 (pc' := 155) (ls' := [.ref 264]) (st' := [.ref 329, .ref 264]) (h' := h47) rfl).trans ?_
                        refine (mm_c1 (y := 195) (as := [.ref 264, .ref 329]) (nx := 158) (rest := []) rfl rfl).trans (mm_congI fun v50 h49 => ?_)
                        refine (mm_br (c := v50 = 0) (p1 := 164) (p2 := 161) (l1 := [.ref 264]) (l2 := [.ref 264]) (s1 := []) (s2 := []) (h1 := h49) (h2 := h49) rfl rfl).trans (mm_ite ?_ ?_)
                        · refine (mm_by 3 (pc' := 169) (ls' := [.ref 264]) (st' := [.ref 330, .ref 264]) (h' := h49) rfl).trans ?_
                          refine (mm_c1 (y := 195) (as := [.ref 264, .ref 330]) (nx := 172) (rest := []) rfl rfl).trans (mm_congI fun v52 h51 => ?_)
                          refine (mm_br (c := v52 = 0) (p1 := 178) (p2 := 175) (l1 := [.ref 264]) (l2 := [.ref 264]) (s1 := []) (s2 := []) (h1 := h51) (h2 := h51) rfl rfl).trans (mm_ite ?_ ?_)
                          · refine (mm_by 3 (pc' := 183) (ls' := [.ref 264]) (st' := [.ref 331, .ref 264]) (h' := h51) rfl).trans ?_
                            refine (mm_c1 (y := 195) (as := [.ref 264, .ref 331]) (nx := 186) (rest := []) rfl rfl).trans (mm_congI fun v54 h53 => ?_)
                            refine (mm_br (c := v54 = 0) (p1 := 192) (p2 := 189) (l1 := [.ref 264]) (l2 := [.ref 264]) (s1 := []) (s2 := []) (h1 := h53) (h2 := h53) rfl rfl).trans (mm_ite ?_ ?_)
                            · exact mm_by_end 2 rfl
                            · exact mm_by_end 2 rfl
                          · exact mm_by_end 2 rfl
                        · exact mm_by_end 2 rfl
                      · exact mm_by_end 2 rfl
                    · exact mm_by_end 2 rfl
                  · refine (mm_by 3 (pc' := 113) (ls' := [.ref 264]) (st' := [.ref 326, .ref 264]) (h' := h43) rfl).trans ?_
                    refine (mm_c1 (y := 195) (as := [.ref 264, .ref 326]) (nx := 116) (rest := []) rfl rfl).trans (mm_congI fun v56 h55 => ?_)
                    refine (mm_br (c := v56 = 0) (p1 := 122) (p2 := 119) (l1 := [.ref 264]) (l2 := [.ref 264]) (s1 := []) (s2 := []) (h1 := h55) (h2 := h55) rfl rfl).trans (mm_ite ?_ ?_)
                    · refine (mm_by 3 (pc' := 127) (ls' := [.ref 264]) (st' := [.ref 327, .ref 264]) (h' := h55) rfl).trans ?_
                      refine (mm_c1 (y := 195) (as := [.ref 264, .ref 327]) (nx := 130) (rest := []) rfl rfl).trans (mm_congI fun v58 h57 => ?_)
                      refine (mm_br (c := v58 = 0) (p1 := 136) (p2 := 133) (l1 := [.ref 264]) (l2 := [.ref 264]) (s1 := []) (s2 := []) (h1 := h57) (h2 := h57) rfl rfl).trans (mm_ite ?_ ?_)
                      · refine (mm_by 3 (pc' := 141) (ls' := [.ref 264]) (st' := [.ref 328, .ref 264]) (h' := h57) rfl).trans ?_
                        refine (mm_c1 (y := 195) (as := [.ref 264, .ref 328]) (nx := 144) (rest := []) rfl rfl).trans (mm_congI fun v60 h59 => ?_)
                        refine (mm_br (c := v60 = 0) (p1 := 150) (p2 := 147) (l1 := [.ref 264]) (l2 := [.ref 264]) (s1 := []) (s2 := []) (h1 := h59) (h2 := h59) rfl rfl).trans (mm_ite ?_ ?_)
                        · refine (mm_by 3 (pc' := 155) (ls' := [.ref 264]) (st' := [.ref 329, .ref 264]) (h' := h59) rfl).trans ?_
                          refine (mm_c1 (y := 195) (as := [.ref 264, .ref 329]) (nx := 158) (rest := []) rfl rfl).trans (mm_congI fun v62 h61 => ?_)
                          refine (mm_br (c := v62 = 0) (p1 := 164) (p2 := 161) (l1 := [.ref 264]) (l2 := [.ref 264]) (s1 := []) (s2 := []) (h1 := h61) (h2 := h61) rfl rfl).trans (mm_ite ?_ ?_)
                          · refine (mm_by 3 (pc' := 169) (ls' := [.ref 264]) (st' := [.ref 330, .ref 264]) (h' := h61) rfl).trans ?_
                            refine (mm_c1 (y := 195) (as := [.ref 264, .ref 330]) (nx := 172) (rest := []) rfl rfl).trans (mm_congI fun v64 h63 => ?_)
                            refine (mm_br (c := v64 = 0) (p1 := 178) (p2 := 175) (l1 := [.ref 264]) (l2 := [.ref 264]) (s1 := []) (s2 := []) (h1 := h63) (h2 := h63) rfl rfl).trans (mm_ite ?_ ?_)
                            · refine (mm_by 3 (pc' := 183) (ls' := [.ref 264]) (st' := [.ref 331, .ref 264]) (h' := h63) rfl).trans ?_
                              refine (mm_c1 (y := 195) (as := [.ref 264, .ref 331]) (nx := 186) (rest := []) rfl rfl).trans (mm_congI fun v66 h65 => ?_)
                              refine (mm_br (c := v66 = 0) (p1 := 192) (p2 := 189) (l1 := [.ref 264]) (l2 := [.ref 264]) (s1 := []) (s2 := []) (h1 := h65) (h2 := h65) rfl rfl).trans (mm_ite ?_ ?_)
                              · exact mm_by_end 2 rfl
                              · exact mm_by_end 2 rfl
                            · exact mm_by_end 2 rfl
                          · exact mm_by_end 2 rfl
                        · exact mm_by_end 2 rfl
                      · exact mm_by_end 2 rfl
                    · exact mm_by_end 2 rfl
                · exact mm_by_end 2 rfl
              · exact mm_by_end 2 rfl
            · exact mm_by_end 2 rfl
          · exact mm_by_end 2 rfl
        · exact mm_by_end 2 rfl
    · exact mm_by_end 2 rfl
  · exact mm_by_end 2 rfl
set_option maxRecDepth 100000 in
set_option maxHeartbeats 4000000 in
theorem U_X12_qWordOf {d : Nat} {x1 : Int32} {x2 : Int32} {h : mm_H} : mm_M mm_T0 (d + 1) 293 [.ref 264, .int x1, .int x2] h = (mm_bI (mm_M mm_T0 d 292 [.ref 264] h) (fun v2 h1 => if v2 < x1 then (some (some (.int ((-1))), h1)) else (if x2 ≤ v2 then (some (some (.int ((-1))), h1)) else (mm_bI (mm_M mm_T0 d 203 [.ref 264, .int v2] h1) (fun v4 h3 => if v4 = 0 then (some (some (.int ((-1))), h3)) else (some (some (.int v2), h3))))))) := by
  refine (mm_M_eq (ls := [.ref 264, .int x1, .int x2, .null]) rfl (Nat.le_of_ble_eq_true rfl) rfl h).trans ?_
  refine (mm_by 1 (pc' := 1) (ls' := [.ref 264, .int x1, .int x2, .null]) (st' := [.ref 264]) (h' := h) rfl).trans ?_
  refine (mm_c1 (y := 292) (as := [.ref 264]) (nx := 4) (rest := []) rfl rfl).trans (mm_congI fun v2 h1 => ?_)
  refine (mm_by 3 (pc' := 7) (ls' := [.ref 264, .int x1, .int x2, .int v2]) (st' := [.int x1, .int v2]) (h' := h1) rfl).trans ?_
  refine (mm_br (c := v2 < x1) (p1 := 27) (p2 := 10) (l1 := [.ref 264, .int x1, .int x2, .int v2]) (l2 := [.ref 264, .int x1, .int x2, .int v2]) (s1 := []) (s2 := []) (h1 := h1) (h2 := h1) rfl rfl).trans (mm_ite ?_ ?_)
  · exact mm_by_end 2 rfl
  · refine (mm_by 2 (pc' := 12) (ls' := [.ref 264, .int x1, .int x2, .int v2]) (st' := [.int x2, .int v2]) (h' := h1) rfl).trans ?_
    refine (mm_br (c := x2 ≤ v2) (p1 := 27) (p2 := 15) (l1 := [.ref 264, .int x1, .int x2, .int v2]) (l2 := [.ref 264, .int x1, .int x2, .int v2]) (s1 := []) (s2 := []) (h1 := h1) (h2 := h1) rfl rfl).trans (mm_ite ?_ ?_)
    · exact mm_by_end 2 rfl
    · refine (mm_by 2 (pc' := 17) (ls' := [.ref 264, .int x1, .int x2, .int v2]) (st' := [.int v2, .ref 264]) (h' := h1) rfl).trans ?_
      refine (mm_c1 (y := 203) (as := [.ref 264, .int v2]) (nx := 20) (rest := []) rfl rfl).trans (mm_congI fun v4 h3 => ?_)
      refine (mm_br (c := v4 = 0) (p1 := 27) (p2 := 23) (l1 := [.ref 264, .int x1, .int x2, .int v2]) (l2 := [.ref 264, .int x1, .int x2, .int v2]) (s1 := []) (s2 := []) (h1 := h3) (h2 := h3) rfl rfl).trans (mm_ite ?_ ?_)
      · exact mm_by_end 2 rfl
      · exact mm_by_end 3 rfl
set_option maxRecDepth 100000 in
set_option maxHeartbeats 4000000 in
theorem U_X12_qAsksWord {d : Nat} {x1 : Int32} {h : mm_H} : mm_M mm_T0 (d + 1) 294 [.ref 264, .int x1] h = (if x1 = 0 then (mm_bV (mm_M mm_T0 d 197 [.ref 264, .ref 319] h) (fun h1 => some (none, h1))) else (if x1 = 1 then (mm_bV (mm_M mm_T0 d 197 [.ref 264, .ref 320] h) (fun h2 => some (none, h2))) else (if x1 = 2 then (mm_bV (mm_M mm_T0 d 197 [.ref 264, .ref 321] h) (fun h3 => some (none, h3))) else (if x1 = 3 then (mm_bV (mm_M mm_T0 d 197 [.ref 264, .ref 322] h) (fun h4 => some (none, h4))) else (if x1 = 4 then (mm_bV (mm_M mm_T0 d 197 [.ref 264, .ref 323] h) (fun h5 => some (none, h5))) else (if x1 = 5 then (mm_bV (mm_M mm_T0 d 197 [.ref 264, .ref 324] h) (fun h6 => some (none, h6))) else (if x1 = 6 then (mm_bV (mm_M mm_T0 d 197 [.ref 264, .ref 325] h) (fun h7 => some (none, h7))) else (if x1 = 7 then (mm_bV (mm_M mm_T0 d 197 [.ref 264, .ref 326] h) (fun h8 => some (none, h8))) else (if x1 = 8 then (mm_bV (mm_M mm_T0 d 197 [.ref 264, .ref 327] h) (fun h9 => some (none, h9))) else (if x1 = 9 then (mm_bV (mm_M mm_T0 d 197 [.ref 264, .ref 328] h) (fun h10 => some (none, h10))) else (if x1 = 10 then (mm_bV (mm_M mm_T0 d 197 [.ref 264, .ref 329] h) (fun h11 => some (none, h11))) else (if x1 = 11 then (mm_bV (mm_M mm_T0 d 197 [.ref 264, .ref 330] h) (fun h12 => some (none, h12))) else (mm_bV (mm_M mm_T0 d 197 [.ref 264, .ref 331] h) (fun h13 => some (none, h13))))))))))))))) := by
  refine (mm_M_eq (ls := [.ref 264, .int x1]) rfl (Nat.le_of_ble_eq_true rfl) rfl h).trans ?_
  refine (mm_by 1 (pc' := 1) (ls' := [.ref 264, .int x1]) (st' := [.int x1]) (h' := h) rfl).trans ?_
  refine (mm_go (pc' := mm_sw [(0, 64), (1, 75), (2, 86), (3, 97), (4, 108), (5, 119), (6, 130), (7, 141), (8, 152), (9, 163), (10, 174), (11, 185)] 196 x1) (ls' := [.ref 264, .int x1]) (st' := []) (h' := h) rfl rfl).trans ?_
  refine mm_sw_c.trans (mm_ite ?_ ?_)
  · refine (mm_by 3 (pc' := 69) (ls' := [.ref 264, .int x1]) (st' := [.ref 319, .ref 264]) (h' := h) rfl).trans ?_
    refine (mm_c0 (y := 197) (as := [.ref 264, .ref 319]) (nx := 72) (rest := []) rfl rfl).trans (mm_congV fun h1 => ?_)
    exact mm_by_end 2 rfl
  · refine mm_sw_c.trans (mm_ite ?_ ?_)
    · refine (mm_by 3 (pc' := 80) (ls' := [.ref 264, .int x1]) (st' := [.ref 320, .ref 264]) (h' := h) rfl).trans ?_
      refine (mm_c0 (y := 197) (as := [.ref 264, .ref 320]) (nx := 83) (rest := []) rfl rfl).trans (mm_congV fun h2 => ?_)
      exact mm_by_end 2 rfl
    · refine mm_sw_c.trans (mm_ite ?_ ?_)
      · refine (mm_by 3 (pc' := 91) (ls' := [.ref 264, .int x1]) (st' := [.ref 321, .ref 264]) (h' := h) rfl).trans ?_
        refine (mm_c0 (y := 197) (as := [.ref 264, .ref 321]) (nx := 94) (rest := []) rfl rfl).trans (mm_congV fun h3 => ?_)
        exact mm_by_end 2 rfl
      · refine mm_sw_c.trans (mm_ite ?_ ?_)
        · refine (mm_by 3 (pc' := 102) (ls' := [.ref 264, .int x1]) (st' := [.ref 322, .ref 264]) (h' := h) rfl).trans ?_
          refine (mm_c0 (y := 197) (as := [.ref 264, .ref 322]) (nx := 105) (rest := []) rfl rfl).trans (mm_congV fun h4 => ?_)
          exact mm_by_end 2 rfl
        · refine mm_sw_c.trans (mm_ite ?_ ?_)
          · refine (mm_by 3 (pc' := 113) (ls' := [.ref 264, .int x1]) (st' := [.ref 323, .ref 264]) (h' := h) rfl).trans ?_
            refine (mm_c0 (y := 197) (as := [.ref 264, .ref 323]) (nx := 116) (rest := []) rfl rfl).trans (mm_congV fun h5 => ?_)
            exact mm_by_end 2 rfl
          · refine mm_sw_c.trans (mm_ite ?_ ?_)
            · refine (mm_by 3 (pc' := 124) (ls' := [.ref 264, .int x1]) (st' := [.ref 324, .ref 264]) (h' := h) rfl).trans ?_
              refine (mm_c0 (y := 197) (as := [.ref 264, .ref 324]) (nx := 127) (rest := []) rfl rfl).trans (mm_congV fun h6 => ?_)
              exact mm_by_end 2 rfl
            · refine mm_sw_c.trans (mm_ite ?_ ?_)
              · refine (mm_by 3 (pc' := 135) (ls' := [.ref 264, .int x1]) (st' := [.ref 325, .ref 264]) (h' := h) rfl).trans ?_
                refine (mm_c0 (y := 197) (as := [.ref 264, .ref 325]) (nx := 138) (rest := []) rfl rfl).trans (mm_congV fun h7 => ?_)
                exact mm_by_end 2 rfl
              · refine mm_sw_c.trans (mm_ite ?_ ?_)
                · refine (mm_by 3 (pc' := 146) (ls' := [.ref 264, .int x1]) (st' := [.ref 326, .ref 264]) (h' := h) rfl).trans ?_
                  refine (mm_c0 (y := 197) (as := [.ref 264, .ref 326]) (nx := 149) (rest := []) rfl rfl).trans (mm_congV fun h8 => ?_)
                  exact mm_by_end 2 rfl
                · refine mm_sw_c.trans (mm_ite ?_ ?_)
                  · refine (mm_by 3 (pc' := 157) (ls' := [.ref 264, .int x1]) (st' := [.ref 327, .ref 264]) (h' := h) rfl).trans ?_
                    refine (mm_c0 (y := 197) (as := [.ref 264, .ref 327]) (nx := 160) (rest := []) rfl rfl).trans (mm_congV fun h9 => ?_)
                    exact mm_by_end 2 rfl
                  · refine mm_sw_c.trans (mm_ite ?_ ?_)
                    · refine (mm_by 3 (pc' := 168) (ls' := [.ref 264, .int x1]) (st' := [.ref 328, .ref 264]) (h' := h) rfl).trans ?_
                      refine (mm_c0 (y := 197) (as := [.ref 264, .ref 328]) (nx := 171) (rest := []) rfl rfl).trans (mm_congV fun h10 => ?_)
                      exact mm_by_end 2 rfl
                    · refine mm_sw_c.trans (mm_ite ?_ ?_)
                      · refine (mm_by 3 (pc' := 179) (ls' := [.ref 264, .int x1]) (st' := [.ref 329, .ref 264]) (h' := h) rfl).trans ?_
                        refine (mm_c0 (y := 197) (as := [.ref 264, .ref 329]) (nx := 182) (rest := []) rfl rfl).trans (mm_congV fun h11 => ?_)
                        exact mm_by_end 2 rfl
                      · refine mm_sw_c.trans (mm_ite ?_ ?_)
                        · refine (mm_by 3 (pc' := 190) (ls' := [.ref 264, .int x1]) (st' := [.ref 330, .ref 264]) (h' := h) rfl).trans ?_
                          refine (mm_c0 (y := 197) (as := [.ref 264, .ref 330]) (nx := 193) (rest := []) rfl rfl).trans (mm_congV fun h12 => ?_)
                          exact mm_by_end 2 rfl
                        · refine Eq.trans (show mm_D _ _ (mm_sw [] 196 x1) _ _ _ = mm_D _ _ 196 _ _ _ from rfl) ?_
                          refine (mm_by 3 (pc' := 201) (ls' := [.ref 264, .int x1]) (st' := [.ref 331, .ref 264]) (h' := h) rfl).trans ?_
                          refine (mm_c0 (y := 197) (as := [.ref 264, .ref 331]) (nx := 204) (rest := []) rfl rfl).trans (mm_congV fun h13 => ?_)
                          exact mm_by_end 1 rfl
set_option maxRecDepth 100000 in
set_option maxHeartbeats 4000000 in
theorem U_X12_qEndsPart {d : Nat} {h : mm_H} : mm_M mm_T0 (d + 1) 295 [.ref 264] h = (if ¬ (h.1 264 5) = 0 then (some (none, h)) else (if (h.1 264 104) ≤ (h.1 264 106) then (some (none, h)) else (if ((h.1 264 104) - 1) < 0 ∨ 1700 ≤ ((h.1 264 104) - 1).toNatClampNeg then none else (if (h.1 333 ((h.1 264 104) - 1).toNatClampNeg) < 60 then (some (none, h)) else (mm_bV (mm_M mm_T0 d 288 [.ref 264] (wI h 264 105 ((h.1 264 105) - 1))) (fun h1 => mm_D (mm_M mm_T0 d) cd_X12_qEndsPart 0 [.ref 264] [] h1)))))) := by
  refine (mm_M_eq (ls := [.ref 264]) rfl (Nat.le_of_ble_eq_true rfl) rfl h).trans ?_
  refine (mm_by 2 (pc' := 4) (ls' := [.ref 264]) (st' := [.int (h.1 264 5)]) (h' := h) rfl).trans ?_
  refine (mm_br (c := ¬ (h.1 264 5) = 0) (p1 := 51) (p2 := 7) (l1 := [.ref 264]) (l2 := [.ref 264]) (s1 := []) (s2 := []) (h1 := h) (h2 := h) rfl rfl).trans (mm_ite ?_ ?_)
  · exact mm_by_end 1 rfl
  · refine (mm_by 4 (pc' := 15) (ls' := [.ref 264]) (st' := [.int (h.1 264 106), .int (h.1 264 104)]) (h' := h) rfl).trans ?_
    refine (mm_br (c := (h.1 264 104) ≤ (h.1 264 106)) (p1 := 51) (p2 := 18) (l1 := [.ref 264]) (l2 := [.ref 264]) (s1 := []) (s2 := []) (h1 := h) (h2 := h) rfl rfl).trans (mm_ite ?_ ?_)
    · exact mm_by_end 1 rfl
    · refine (mm_by 6 (pc' := 28) (ls' := [.ref 264]) (st' := [.int ((h.1 264 104) - 1), .ref 333]) (h' := h) rfl).trans ?_
      refine (mm_gd (c := ((h.1 264 104) - 1) < 0 ∨ 1700 ≤ ((h.1 264 104) - 1).toNatClampNeg) (p1 := 29) (l1 := [.ref 264]) (s1 := [.int (h.1 333 ((h.1 264 104) - 1).toNatClampNeg)]) (h1 := h) rfl (q_iald (n := 1700) rfl)).trans (mm_ite rfl ?_)
      refine (mm_by 1 (pc' := 31) (ls' := [.ref 264]) (st' := [.int 60, .int (h.1 333 ((h.1 264 104) - 1).toNatClampNeg)]) (h' := h) rfl).trans ?_
      refine (mm_br (c := (h.1 333 ((h.1 264 104) - 1).toNatClampNeg) < 60) (p1 := 51) (p2 := 34) (l1 := [.ref 264]) (l2 := [.ref 264]) (s1 := []) (s2 := []) (h1 := h) (h2 := h) rfl rfl).trans (mm_ite ?_ ?_)
      · exact mm_by_end 1 rfl
      · refine (mm_by 7 (pc' := 45) (ls' := [.ref 264]) (st' := [.ref 264]) (h' := wI h 264 105 ((h.1 264 105) - 1)) rfl).trans ?_
        refine (mm_c0 (y := 288) (as := [.ref 264]) (nx := 48) (rest := []) rfl rfl).trans (mm_congV fun h1 => ?_)
        exact mm_by 1 rfl
set_option maxRecDepth 100000 in
set_option maxHeartbeats 4000000 in
theorem U_X12_qEndsPart_0 {d : Nat} {h : mm_H} : mm_D (mm_M mm_T0 d) cd_X12_qEndsPart 0 [.ref 264] [] h = (if ¬ (h.1 264 5) = 0 then (some (none, h)) else (if (h.1 264 104) ≤ (h.1 264 106) then (some (none, h)) else (if ((h.1 264 104) - 1) < 0 ∨ 1700 ≤ ((h.1 264 104) - 1).toNatClampNeg then none else (if (h.1 333 ((h.1 264 104) - 1).toNatClampNeg) < 60 then (some (none, h)) else (mm_bV (mm_M mm_T0 d 288 [.ref 264] (wI h 264 105 ((h.1 264 105) - 1))) (fun h1 => mm_D (mm_M mm_T0 d) cd_X12_qEndsPart 0 [.ref 264] [] h1)))))) := by
  refine (mm_by 2 (pc' := 4) (ls' := [.ref 264]) (st' := [.int (h.1 264 5)]) (h' := h) rfl).trans ?_
  refine (mm_br (c := ¬ (h.1 264 5) = 0) (p1 := 51) (p2 := 7) (l1 := [.ref 264]) (l2 := [.ref 264]) (s1 := []) (s2 := []) (h1 := h) (h2 := h) rfl rfl).trans (mm_ite ?_ ?_)
  · exact mm_by_end 1 rfl
  · refine (mm_by 4 (pc' := 15) (ls' := [.ref 264]) (st' := [.int (h.1 264 106), .int (h.1 264 104)]) (h' := h) rfl).trans ?_
    refine (mm_br (c := (h.1 264 104) ≤ (h.1 264 106)) (p1 := 51) (p2 := 18) (l1 := [.ref 264]) (l2 := [.ref 264]) (s1 := []) (s2 := []) (h1 := h) (h2 := h) rfl rfl).trans (mm_ite ?_ ?_)
    · exact mm_by_end 1 rfl
    · refine (mm_by 6 (pc' := 28) (ls' := [.ref 264]) (st' := [.int ((h.1 264 104) - 1), .ref 333]) (h' := h) rfl).trans ?_
      refine (mm_gd (c := ((h.1 264 104) - 1) < 0 ∨ 1700 ≤ ((h.1 264 104) - 1).toNatClampNeg) (p1 := 29) (l1 := [.ref 264]) (s1 := [.int (h.1 333 ((h.1 264 104) - 1).toNatClampNeg)]) (h1 := h) rfl (q_iald (n := 1700) rfl)).trans (mm_ite rfl ?_)
      refine (mm_by 1 (pc' := 31) (ls' := [.ref 264]) (st' := [.int 60, .int (h.1 333 ((h.1 264 104) - 1).toNatClampNeg)]) (h' := h) rfl).trans ?_
      refine (mm_br (c := (h.1 333 ((h.1 264 104) - 1).toNatClampNeg) < 60) (p1 := 51) (p2 := 34) (l1 := [.ref 264]) (l2 := [.ref 264]) (s1 := []) (s2 := []) (h1 := h) (h2 := h) rfl rfl).trans (mm_ite ?_ ?_)
      · exact mm_by_end 1 rfl
      · refine (mm_by 7 (pc' := 45) (ls' := [.ref 264]) (st' := [.ref 264]) (h' := wI h 264 105 ((h.1 264 105) - 1)) rfl).trans ?_
        refine (mm_c0 (y := 288) (as := [.ref 264]) (nx := 48) (rest := []) rfl rfl).trans (mm_congV fun h1 => ?_)
        exact mm_by 1 rfl
set_option maxRecDepth 100000 in
set_option maxHeartbeats 4000000 in
theorem U_X12_qPartTold {d : Nat} {h : mm_H} : mm_M mm_T0 (d + 1) 296 [.ref 264] h = (mm_D (mm_M mm_T0 d) cd_X12_qPartTold 2 [.ref 264, .int 1, .null, .null, .null, .null] [] h) := by
  refine (mm_M_eq (ls := [.ref 264, .null, .null, .null, .null, .null]) rfl (Nat.le_of_ble_eq_true rfl) rfl h).trans ?_
  exact mm_by 2 rfl
set_option maxRecDepth 100000 in
set_option maxHeartbeats 4000000 in
theorem U_X12_qPartTold_2 {d : Nat} {x1 : Int32} {h : mm_H} : mm_D (mm_M mm_T0 d) cd_X12_qPartTold 2 [.ref 264, .int x1, .null, .null, .null, .null] [] h = (if x1 = 0 then (if (h.1 264 5) = 0 then (mm_bI (mm_M mm_T0 d 293 [.ref 264, .int 0, .int 11] h) (fun v2 h1 => if v2 = ((-1)) then (if v2 = ((-1)) then (mm_bI (mm_M mm_T0 d 200 [.ref 264, .int 0, .int 9999] h1) (fun v4 h3 => mm_bV (mm_M mm_T0 d 285 [.ref 264, .int (1000 + v4)] h3) (fun h5 => mm_bV (mm_M mm_T0 d 295 [.ref 264] h5) (fun h6 => some (none, h6))))) else (mm_bV (mm_M mm_T0 d 285 [.ref 264, .int (40 + v2)] h1) (fun h7 => mm_bV (mm_M mm_T0 d 295 [.ref 264] h7) (fun h8 => some (none, h8))))) else (mm_bV (mm_M mm_T0 d 294 [.ref 264, .int v2] h1) (fun h9 => if v2 = ((-1)) then (mm_bI (mm_M mm_T0 d 200 [.ref 264, .int 0, .int 9999] h9) (fun v11 h10 => mm_bV (mm_M mm_T0 d 285 [.ref 264, .int (1000 + v11)] h10) (fun h12 => mm_bV (mm_M mm_T0 d 295 [.ref 264] h12) (fun h13 => some (none, h13))))) else (mm_bV (mm_M mm_T0 d 285 [.ref 264, .int (40 + v2)] h9) (fun h14 => mm_bV (mm_M mm_T0 d 295 [.ref 264] h14) (fun h15 => some (none, h15)))))))) else (some (none, h))) else (if ¬ (h.1 264 5) = 0 then (if (h.1 264 5) = 0 then (mm_bI (mm_M mm_T0 d 293 [.ref 264, .int 0, .int 11] h) (fun v17 h16 => if v17 = ((-1)) then (if v17 = ((-1)) then (mm_bI (mm_M mm_T0 d 200 [.ref 264, .int 0, .int 9999] h16) (fun v19 h18 => mm_bV (mm_M mm_T0 d 285 [.ref 264, .int (1000 + v19)] h18) (fun h20 => mm_bV (mm_M mm_T0 d 295 [.ref 264] h20) (fun h21 => some (none, h21))))) else (mm_bV (mm_M mm_T0 d 285 [.ref 264, .int (40 + v17)] h16) (fun h22 => mm_bV (mm_M mm_T0 d 295 [.ref 264] h22) (fun h23 => some (none, h23))))) else (mm_bV (mm_M mm_T0 d 294 [.ref 264, .int v17] h16) (fun h24 => if v17 = ((-1)) then (mm_bI (mm_M mm_T0 d 200 [.ref 264, .int 0, .int 9999] h24) (fun v26 h25 => mm_bV (mm_M mm_T0 d 285 [.ref 264, .int (1000 + v26)] h25) (fun h27 => mm_bV (mm_M mm_T0 d 295 [.ref 264] h27) (fun h28 => some (none, h28))))) else (mm_bV (mm_M mm_T0 d 285 [.ref 264, .int (40 + v17)] h24) (fun h29 => mm_bV (mm_M mm_T0 d 295 [.ref 264] h29) (fun h30 => some (none, h30)))))))) else (some (none, h))) else (mm_bI (mm_M mm_T0 d 194 [.ref 264] h) (fun v32 h31 => mm_bI (mm_M mm_T0 d 293 [.ref 264, .int 11, .int 13] h31) (fun v34 h33 => if ¬ v32 = 40 then (mm_bI (mm_M mm_T0 d 195 [.ref 264, .ref 317] h33) (fun v36 h35 => if ¬ v36 = 0 then (mm_bI (mm_M mm_T0 d 196 [.ref 264, .ref 317] h35) (fun v38 h37 => if ¬ v38 = 0 then (mm_bI (mm_M mm_T0 d 194 [.ref 264] h37) (fun v40 h39 => if ¬ v40 = 40 then (mm_bV (mm_M mm_T0 d 199 [.ref 264, .int 40] h39) (fun h41 => mm_D (mm_M mm_T0 d) cd_X12_qPartTold 2 [.ref 264, .int x1, .null, .null, .null, .null] [] h41)) else (if (h39.1 264 2) = ((-1)) then (mm_bV (mm_M mm_T0 d 199 [.ref 264, .int 40] h39) (fun h42 => mm_D (mm_M mm_T0 d) cd_X12_qPartTold 2 [.ref 264, .int x1, .null, .null, .null, .null] [] h42)) else (if v38 = 0 then (mm_bV (mm_M mm_T0 d 286 [.ref 264, .int 22, .int (h39.1 264 2)] h39) (fun h43 => mm_bV (mm_M mm_T0 d 199 [.ref 264, .int 40] h43) (fun h44 => mm_D (mm_M mm_T0 d) cd_X12_qPartTold 2 [.ref 264, .int x1, .null, .null, .null, .null] [] h44))) else (mm_bV (mm_M mm_T0 d 286 [.ref 264, .int 21, .int (h39.1 264 2)] h39) (fun h45 => mm_bV (mm_M mm_T0 d 199 [.ref 264, .int 40] h45) (fun h46 => mm_D (mm_M mm_T0 d) cd_X12_qPartTold 2 [.ref 264, .int x1, .null, .null, .null, .null] [] h46))))))) else (mm_bV (mm_M mm_T0 d 197 [.ref 264, .ref 318] h37) (fun h47 => mm_bI (mm_M mm_T0 d 194 [.ref 264] h47) (fun v49 h48 => if ¬ v49 = 40 then (mm_bV (mm_M mm_T0 d 199 [.ref 264, .int 40] h48) (fun h50 => mm_D (mm_M mm_T0 d) cd_X12_qPartTold 2 [.ref 264, .int x1, .null, .null, .null, .null] [] h50)) else (if (h48.1 264 2) = ((-1)) then (mm_bV (mm_M mm_T0 d 199 [.ref 264, .int 40] h48) (fun h51 => mm_D (mm_M mm_T0 d) cd_X12_qPartTold 2 [.ref 264, .int x1, .null, .null, .null, .null] [] h51)) else (if v38 = 0 then (mm_bV (mm_M mm_T0 d 286 [.ref 264, .int 22, .int (h48.1 264 2)] h48) (fun h52 => mm_bV (mm_M mm_T0 d 199 [.ref 264, .int 40] h52) (fun h53 => mm_D (mm_M mm_T0 d) cd_X12_qPartTold 2 [.ref 264, .int x1, .null, .null, .null, .null] [] h53))) else (mm_bV (mm_M mm_T0 d 286 [.ref 264, .int 21, .int (h48.1 264 2)] h48) (fun h54 => mm_bV (mm_M mm_T0 d 199 [.ref 264, .int 40] h54) (fun h55 => mm_D (mm_M mm_T0 d) cd_X12_qPartTold 2 [.ref 264, .int x1, .null, .null, .null, .null] [] h55)))))))))) else (mm_bI (mm_M mm_T0 d 195 [.ref 264, .ref 318] h35) (fun v57 h56 => if v57 = 0 then (if v34 = ((-1)) then (mm_D (mm_M mm_T0 d) cd_X12_qPartTold 2 [.ref 264, .int 0, .null, .null, .null, .null] [] h56) else (mm_bV (mm_M mm_T0 d 286 [.ref 264, .int ((60 + v34) - 11), .int (h56.1 264 2)] h56) (fun h58 => mm_bV (mm_M mm_T0 d 294 [.ref 264, .int v34] h58) (fun h59 => mm_D (mm_M mm_T0 d) cd_X12_qPartTold 2 [.ref 264, .int x1, .null, .null, .null, .null] [] h59)))) else (mm_bI (mm_M mm_T0 d 196 [.ref 264, .ref 317] h56) (fun v61 h60 => if ¬ v61 = 0 then (mm_bI (mm_M mm_T0 d 194 [.ref 264] h60) (fun v63 h62 => if ¬ v63 = 40 then (mm_bV (mm_M mm_T0 d 199 [.ref 264, .int 40] h62) (fun h64 => mm_D (mm_M mm_T0 d) cd_X12_qPartTold 2 [.ref 264, .int x1, .null, .null, .null, .null] [] h64)) else (if (h62.1 264 2) = ((-1)) then (mm_bV (mm_M mm_T0 d 199 [.ref 264, .int 40] h62) (fun h65 => mm_D (mm_M mm_T0 d) cd_X12_qPartTold 2 [.ref 264, .int x1, .null, .null, .null, .null] [] h65)) else (if v61 = 0 then (mm_bV (mm_M mm_T0 d 286 [.ref 264, .int 22, .int (h62.1 264 2)] h62) (fun h66 => mm_bV (mm_M mm_T0 d 199 [.ref 264, .int 40] h66) (fun h67 => mm_D (mm_M mm_T0 d) cd_X12_qPartTold 2 [.ref 264, .int x1, .null, .null, .null, .null] [] h67))) else (mm_bV (mm_M mm_T0 d 286 [.ref 264, .int 21, .int (h62.1 264 2)] h62) (fun h68 => mm_bV (mm_M mm_T0 d 199 [.ref 264, .int 40] h68) (fun h69 => mm_D (mm_M mm_T0 d) cd_X12_qPartTold 2 [.ref 264, .int x1, .null, .null, .null, .null] [] h69))))))) else (mm_bV (mm_M mm_T0 d 197 [.ref 264, .ref 318] h60) (fun h70 => mm_bI (mm_M mm_T0 d 194 [.ref 264] h70) (fun v72 h71 => if ¬ v72 = 40 then (mm_bV (mm_M mm_T0 d 199 [.ref 264, .int 40] h71) (fun h73 => mm_D (mm_M mm_T0 d) cd_X12_qPartTold 2 [.ref 264, .int x1, .null, .null, .null, .null] [] h73)) else (if (h71.1 264 2) = ((-1)) then (mm_bV (mm_M mm_T0 d 199 [.ref 264, .int 40] h71) (fun h74 => mm_D (mm_M mm_T0 d) cd_X12_qPartTold 2 [.ref 264, .int x1, .null, .null, .null, .null] [] h74)) else (if v61 = 0 then (mm_bV (mm_M mm_T0 d 286 [.ref 264, .int 22, .int (h71.1 264 2)] h71) (fun h75 => mm_bV (mm_M mm_T0 d 199 [.ref 264, .int 40] h75) (fun h76 => mm_D (mm_M mm_T0 d) cd_X12_qPartTold 2 [.ref 264, .int x1, .null, .null, .null, .null] [] h76))) else (mm_bV (mm_M mm_T0 d 286 [.ref 264, .int 21, .int (h71.1 264 2)] h71) (fun h77 => mm_bV (mm_M mm_T0 d 199 [.ref 264, .int 40] h77) (fun h78 => mm_D (mm_M mm_T0 d) cd_X12_qPartTold 2 [.ref 264, .int x1, .null, .null, .null, .null] [] h78)))))))))))))) else (mm_bV (mm_M mm_T0 d 286 [.ref 264, .int 20, .int (h33.1 264 2)] h33) (fun h79 => mm_D (mm_M mm_T0 d) cd_X12_qPartTold 2 [.ref 264, .int x1, .null, .null, .null, .null] [] (wI h79 264 2 ((h79.1 264 2) + 1))))))))) := by
  refine (mm_by 1 (pc' := 3) (ls' := [.ref 264, .int x1, .null, .null, .null, .null]) (st' := [.int x1]) (h' := h) rfl).trans ?_
  refine (mm_br (c := x1 = 0) (p1 := 186) (p2 := 6) (l1 := [.ref 264, .int x1, .null, .null, .null, .null]) (l2 := [.ref 264, .int x1, .null, .null, .null, .null]) (s1 := []) (s2 := []) (h1 := h) (h2 := h) rfl rfl).trans (mm_ite ?_ ?_)
  · refine (mm_by 2 (pc' := 190) (ls' := [.ref 264, .int x1, .null, .null, .null, .null]) (st' := [.int (h.1 264 5)]) (h' := h) rfl).trans ?_
    refine (mm_br (c := (h.1 264 5) = 0) (p1 := 194) (p2 := 193) (l1 := [.ref 264, .int x1, .null, .null, .null, .null]) (l2 := [.ref 264, .int x1, .null, .null, .null, .null]) (s1 := []) (s2 := []) (h1 := h) (h2 := h) rfl rfl).trans (mm_ite ?_ ?_)
    · refine (mm_by 3 (pc' := 198) (ls' := [.ref 264, .int x1, .null, .null, .null, .null]) (st' := [.int 11, .int 0, .ref 264]) (h' := h) rfl).trans ?_
      refine (mm_c1 (y := 293) (as := [.ref 264, .int 0, .int 11]) (nx := 201) (rest := []) rfl rfl).trans (mm_congI fun v2 h1 => ?_)
      refine (mm_by 3 (pc' := 204) (ls' := [.ref 264, .int x1, .int v2, .null, .null, .null]) (st' := [.int ((-1)), .int v2]) (h' := h1) rfl).trans ?_
      refine (mm_br (c := v2 = ((-1))) (p1 := 212) (p2 := 207) (l1 := [.ref 264, .int x1, .int v2, .null, .null, .null]) (l2 := [.ref 264, .int x1, .int v2, .null, .null, .null]) (s1 := []) (s2 := []) (h1 := h1) (h2 := h1) rfl rfl).trans (mm_ite ?_ ?_)
      · refine (mm_by 3 (pc' := 215) (ls' := [.ref 264, .int x1, .int v2, .null, .null, .null]) (st' := [.int ((-1)), .int v2, .ref 264]) (h' := h1) rfl).trans ?_
        refine (mm_br (c := v2 = ((-1))) (p1 := 225) (p2 := 218) (l1 := [.ref 264, .int x1, .int v2, .null, .null, .null]) (l2 := [.ref 264, .int x1, .int v2, .null, .null, .null]) (s1 := [.ref 264]) (s2 := [.ref 264]) (h1 := h1) (h2 := h1) rfl rfl).trans (mm_ite ?_ ?_)
        · refine (mm_by 4 (pc' := 233) (ls' := [.ref 264, .int x1, .int v2, .null, .null, .null]) (st' := [.int 9999, .int 0, .ref 264, .int 1000, .ref 264]) (h' := h1) rfl).trans ?_
          refine (mm_c1 (y := 200) (as := [.ref 264, .int 0, .int 9999]) (nx := 236) (rest := [.int 1000, .ref 264]) rfl rfl).trans (mm_congI fun v4 h3 => ?_)
          refine (mm_by 1 (pc' := 237) (ls' := [.ref 264, .int x1, .int v2, .null, .null, .null]) (st' := [.int (1000 + v4), .ref 264]) (h' := h3) rfl).trans ?_
          refine (mm_c0 (y := 285) (as := [.ref 264, .int (1000 + v4)]) (nx := 240) (rest := []) rfl rfl).trans (mm_congV fun h5 => ?_)
          refine (mm_by 1 (pc' := 241) (ls' := [.ref 264, .int x1, .int v2, .null, .null, .null]) (st' := [.ref 264]) (h' := h5) rfl).trans ?_
          refine (mm_c0 (y := 295) (as := [.ref 264]) (nx := 244) (rest := []) rfl rfl).trans (mm_congV fun h6 => ?_)
          exact mm_by_end 1 rfl
        · refine (mm_by 4 (pc' := 237) (ls' := [.ref 264, .int x1, .int v2, .null, .null, .null]) (st' := [.int (40 + v2), .ref 264]) (h' := h1) rfl).trans ?_
          refine (mm_c0 (y := 285) (as := [.ref 264, .int (40 + v2)]) (nx := 240) (rest := []) rfl rfl).trans (mm_congV fun h7 => ?_)
          refine (mm_by 1 (pc' := 241) (ls' := [.ref 264, .int x1, .int v2, .null, .null, .null]) (st' := [.ref 264]) (h' := h7) rfl).trans ?_
          refine (mm_c0 (y := 295) (as := [.ref 264]) (nx := 244) (rest := []) rfl rfl).trans (mm_congV fun h8 => ?_)
          exact mm_by_end 1 rfl
      · refine (mm_by 2 (pc' := 209) (ls' := [.ref 264, .int x1, .int v2, .null, .null, .null]) (st' := [.int v2, .ref 264]) (h' := h1) rfl).trans ?_
        refine (mm_c0 (y := 294) (as := [.ref 264, .int v2]) (nx := 212) (rest := []) rfl rfl).trans (mm_congV fun h9 => ?_)
        refine (mm_by 3 (pc' := 215) (ls' := [.ref 264, .int x1, .int v2, .null, .null, .null]) (st' := [.int ((-1)), .int v2, .ref 264]) (h' := h9) rfl).trans ?_
        refine (mm_br (c := v2 = ((-1))) (p1 := 225) (p2 := 218) (l1 := [.ref 264, .int x1, .int v2, .null, .null, .null]) (l2 := [.ref 264, .int x1, .int v2, .null, .null, .null]) (s1 := [.ref 264]) (s2 := [.ref 264]) (h1 := h9) (h2 := h9) rfl rfl).trans (mm_ite ?_ ?_)
        · refine (mm_by 4 (pc' := 233) (ls' := [.ref 264, .int x1, .int v2, .null, .null, .null]) (st' := [.int 9999, .int 0, .ref 264, .int 1000, .ref 264]) (h' := h9) rfl).trans ?_
          refine (mm_c1 (y := 200) (as := [.ref 264, .int 0, .int 9999]) (nx := 236) (rest := [.int 1000, .ref 264]) rfl rfl).trans (mm_congI fun v11 h10 => ?_)
          refine (mm_by 1 (pc' := 237) (ls' := [.ref 264, .int x1, .int v2, .null, .null, .null]) (st' := [.int (1000 + v11), .ref 264]) (h' := h10) rfl).trans ?_
          refine (mm_c0 (y := 285) (as := [.ref 264, .int (1000 + v11)]) (nx := 240) (rest := []) rfl rfl).trans (mm_congV fun h12 => ?_)
          refine (mm_by 1 (pc' := 241) (ls' := [.ref 264, .int x1, .int v2, .null, .null, .null]) (st' := [.ref 264]) (h' := h12) rfl).trans ?_
          refine (mm_c0 (y := 295) (as := [.ref 264]) (nx := 244) (rest := []) rfl rfl).trans (mm_congV fun h13 => ?_)
          exact mm_by_end 1 rfl
        · refine (mm_by 4 (pc' := 237) (ls' := [.ref 264, .int x1, .int v2, .null, .null, .null]) (st' := [.int (40 + v2), .ref 264]) (h' := h9) rfl).trans ?_
          refine (mm_c0 (y := 285) (as := [.ref 264, .int (40 + v2)]) (nx := 240) (rest := []) rfl rfl).trans (mm_congV fun h14 => ?_)
          refine (mm_by 1 (pc' := 241) (ls' := [.ref 264, .int x1, .int v2, .null, .null, .null]) (st' := [.ref 264]) (h' := h14) rfl).trans ?_
          refine (mm_c0 (y := 295) (as := [.ref 264]) (nx := 244) (rest := []) rfl rfl).trans (mm_congV fun h15 => ?_)
          exact mm_by_end 1 rfl
    · exact mm_by_end 1 rfl
  · refine (mm_by 2 (pc' := 10) (ls' := [.ref 264, .int x1, .null, .null, .null, .null]) (st' := [.int (h.1 264 5)]) (h' := h) rfl).trans ?_
    refine (mm_br (c := ¬ (h.1 264 5) = 0) (p1 := 186) (p2 := 13) (l1 := [.ref 264, .int x1, .null, .null, .null, .null]) (l2 := [.ref 264, .int x1, .null, .null, .null, .null]) (s1 := []) (s2 := []) (h1 := h) (h2 := h) rfl rfl).trans (mm_ite ?_ ?_)
    · refine (mm_by 2 (pc' := 190) (ls' := [.ref 264, .int x1, .null, .null, .null, .null]) (st' := [.int (h.1 264 5)]) (h' := h) rfl).trans ?_
      refine (mm_br (c := (h.1 264 5) = 0) (p1 := 194) (p2 := 193) (l1 := [.ref 264, .int x1, .null, .null, .null, .null]) (l2 := [.ref 264, .int x1, .null, .null, .null, .null]) (s1 := []) (s2 := []) (h1 := h) (h2 := h) rfl rfl).trans (mm_ite ?_ ?_)
      · refine (mm_by 3 (pc' := 198) (ls' := [.ref 264, .int x1, .null, .null, .null, .null]) (st' := [.int 11, .int 0, .ref 264]) (h' := h) rfl).trans ?_
        refine (mm_c1 (y := 293) (as := [.ref 264, .int 0, .int 11]) (nx := 201) (rest := []) rfl rfl).trans (mm_congI fun v17 h16 => ?_)
        refine (mm_by 3 (pc' := 204) (ls' := [.ref 264, .int x1, .int v17, .null, .null, .null]) (st' := [.int ((-1)), .int v17]) (h' := h16) rfl).trans ?_
        refine (mm_br (c := v17 = ((-1))) (p1 := 212) (p2 := 207) (l1 := [.ref 264, .int x1, .int v17, .null, .null, .null]) (l2 := [.ref 264, .int x1, .int v17, .null, .null, .null]) (s1 := []) (s2 := []) (h1 := h16) (h2 := h16) rfl rfl).trans (mm_ite ?_ ?_)
        · refine (mm_by 3 (pc' := 215) (ls' := [.ref 264, .int x1, .int v17, .null, .null, .null]) (st' := [.int ((-1)), .int v17, .ref 264]) (h' := h16) rfl).trans ?_
          refine (mm_br (c := v17 = ((-1))) (p1 := 225) (p2 := 218) (l1 := [.ref 264, .int x1, .int v17, .null, .null, .null]) (l2 := [.ref 264, .int x1, .int v17, .null, .null, .null]) (s1 := [.ref 264]) (s2 := [.ref 264]) (h1 := h16) (h2 := h16) rfl rfl).trans (mm_ite ?_ ?_)
          · refine (mm_by 4 (pc' := 233) (ls' := [.ref 264, .int x1, .int v17, .null, .null, .null]) (st' := [.int 9999, .int 0, .ref 264, .int 1000, .ref 264]) (h' := h16) rfl).trans ?_
            refine (mm_c1 (y := 200) (as := [.ref 264, .int 0, .int 9999]) (nx := 236) (rest := [.int 1000, .ref 264]) rfl rfl).trans (mm_congI fun v19 h18 => ?_)
            refine (mm_by 1 (pc' := 237) (ls' := [.ref 264, .int x1, .int v17, .null, .null, .null]) (st' := [.int (1000 + v19), .ref 264]) (h' := h18) rfl).trans ?_
            refine (mm_c0 (y := 285) (as := [.ref 264, .int (1000 + v19)]) (nx := 240) (rest := []) rfl rfl).trans (mm_congV fun h20 => ?_)
            refine (mm_by 1 (pc' := 241) (ls' := [.ref 264, .int x1, .int v17, .null, .null, .null]) (st' := [.ref 264]) (h' := h20) rfl).trans ?_
            refine (mm_c0 (y := 295) (as := [.ref 264]) (nx := 244) (rest := []) rfl rfl).trans (mm_congV fun h21 => ?_)
            exact mm_by_end 1 rfl
          · refine (mm_by 4 (pc' := 237) (ls' := [.ref 264, .int x1, .int v17, .null, .null, .null]) (st' := [.int (40 + v17), .ref 264]) (h' := h16) rfl).trans ?_
            refine (mm_c0 (y := 285) (as := [.ref 264, .int (40 + v17)]) (nx := 240) (rest := []) rfl rfl).trans (mm_congV fun h22 => ?_)
            refine (mm_by 1 (pc' := 241) (ls' := [.ref 264, .int x1, .int v17, .null, .null, .null]) (st' := [.ref 264]) (h' := h22) rfl).trans ?_
            refine (mm_c0 (y := 295) (as := [.ref 264]) (nx := 244) (rest := []) rfl rfl).trans (mm_congV fun h23 => ?_)
            exact mm_by_end 1 rfl
        · refine (mm_by 2 (pc' := 209) (ls' := [.ref 264, .int x1, .int v17, .null, .null, .null]) (st' := [.int v17, .ref 264]) (h' := h16) rfl).trans ?_
          refine (mm_c0 (y := 294) (as := [.ref 264, .int v17]) (nx := 212) (rest := []) rfl rfl).trans (mm_congV fun h24 => ?_)
          refine (mm_by 3 (pc' := 215) (ls' := [.ref 264, .int x1, .int v17, .null, .null, .null]) (st' := [.int ((-1)), .int v17, .ref 264]) (h' := h24) rfl).trans ?_
          refine (mm_br (c := v17 = ((-1))) (p1 := 225) (p2 := 218) (l1 := [.ref 264, .int x1, .int v17, .null, .null, .null]) (l2 := [.ref 264, .int x1, .int v17, .null, .null, .null]) (s1 := [.ref 264]) (s2 := [.ref 264]) (h1 := h24) (h2 := h24) rfl rfl).trans (mm_ite ?_ ?_)
          · refine (mm_by 4 (pc' := 233) (ls' := [.ref 264, .int x1, .int v17, .null, .null, .null]) (st' := [.int 9999, .int 0, .ref 264, .int 1000, .ref 264]) (h' := h24) rfl).trans ?_
            refine (mm_c1 (y := 200) (as := [.ref 264, .int 0, .int 9999]) (nx := 236) (rest := [.int 1000, .ref 264]) rfl rfl).trans (mm_congI fun v26 h25 => ?_)
            refine (mm_by 1 (pc' := 237) (ls' := [.ref 264, .int x1, .int v17, .null, .null, .null]) (st' := [.int (1000 + v26), .ref 264]) (h' := h25) rfl).trans ?_
            refine (mm_c0 (y := 285) (as := [.ref 264, .int (1000 + v26)]) (nx := 240) (rest := []) rfl rfl).trans (mm_congV fun h27 => ?_)
            refine (mm_by 1 (pc' := 241) (ls' := [.ref 264, .int x1, .int v17, .null, .null, .null]) (st' := [.ref 264]) (h' := h27) rfl).trans ?_
            refine (mm_c0 (y := 295) (as := [.ref 264]) (nx := 244) (rest := []) rfl rfl).trans (mm_congV fun h28 => ?_)
            exact mm_by_end 1 rfl
          · refine (mm_by 4 (pc' := 237) (ls' := [.ref 264, .int x1, .int v17, .null, .null, .null]) (st' := [.int (40 + v17), .ref 264]) (h' := h24) rfl).trans ?_
            refine (mm_c0 (y := 285) (as := [.ref 264, .int (40 + v17)]) (nx := 240) (rest := []) rfl rfl).trans (mm_congV fun h29 => ?_)
            refine (mm_by 1 (pc' := 241) (ls' := [.ref 264, .int x1, .int v17, .null, .null, .null]) (st' := [.ref 264]) (h' := h29) rfl).trans ?_
            refine (mm_c0 (y := 295) (as := [.ref 264]) (nx := 244) (rest := []) rfl rfl).trans (mm_congV fun h30 => ?_)
            exact mm_by_end 1 rfl
      · exact mm_by_end 1 rfl
    · refine (mm_by 1 (pc' := 14) (ls' := [.ref 264, .int x1, .null, .null, .null, .null]) (st' := [.ref 264]) (h' := h) rfl).trans ?_
      refine (mm_c1 (y := 194) (as := [.ref 264]) (nx := 17) (rest := []) rfl rfl).trans (mm_congI fun v32 h31 => ?_)
      refine (mm_by 4 (pc' := 23) (ls' := [.ref 264, .int x1, .int v32, .null, .null, .null]) (st' := [.int 13, .int 11, .ref 264]) (h' := h31) rfl).trans ?_
      refine (mm_c1 (y := 293) (as := [.ref 264, .int 11, .int 13]) (nx := 26) (rest := []) rfl rfl).trans (mm_congI fun v34 h33 => ?_)
      refine (mm_by 3 (pc' := 30) (ls' := [.ref 264, .int x1, .int v32, .int v34, .null, .null]) (st' := [.int 40, .int v32]) (h' := h33) rfl).trans ?_
      refine (mm_br (c := ¬ v32 = 40) (p1 := 56) (p2 := 33) (l1 := [.ref 264, .int x1, .int v32, .int v34, .null, .null]) (l2 := [.ref 264, .int x1, .int v32, .int v34, .null, .null]) (s1 := []) (s2 := []) (h1 := h33) (h2 := h33) rfl rfl).trans (mm_ite ?_ ?_)
      · refine (mm_by 3 (pc' := 61) (ls' := [.ref 264, .int x1, .int v32, .int v34, .null, .null]) (st' := [.ref 317, .ref 264]) (h' := h33) rfl).trans ?_
        refine (mm_c1 (y := 195) (as := [.ref 264, .ref 317]) (nx := 64) (rest := []) rfl rfl).trans (mm_congI fun v36 h35 => ?_)
        refine (mm_br (c := ¬ v36 = 0) (p1 := 78) (p2 := 67) (l1 := [.ref 264, .int x1, .int v32, .int v34, .null, .null]) (l2 := [.ref 264, .int x1, .int v32, .int v34, .null, .null]) (s1 := []) (s2 := []) (h1 := h35) (h2 := h35) rfl rfl).trans (mm_ite ?_ ?_)
        · refine (mm_by 3 (pc' := 83) (ls' := [.ref 264, .int x1, .int v32, .int v34, .null, .null]) (st' := [.ref 317, .ref 264]) (h' := h35) rfl).trans ?_
          refine (mm_c1 (y := 196) (as := [.ref 264, .ref 317]) (nx := 86) (rest := []) rfl rfl).trans (mm_congI fun v38 h37 => ?_)
          refine (mm_by 2 (pc' := 90) (ls' := [.ref 264, .int x1, .int v32, .int v34, .int v38, .null]) (st' := [.int v38]) (h' := h37) rfl).trans ?_
          refine (mm_br (c := ¬ v38 = 0) (p1 := 101) (p2 := 93) (l1 := [.ref 264, .int x1, .int v32, .int v34, .int v38, .null]) (l2 := [.ref 264, .int x1, .int v32, .int v34, .int v38, .null]) (s1 := []) (s2 := []) (h1 := h37) (h2 := h37) rfl rfl).trans (mm_ite ?_ ?_)
          · refine (mm_by 1 (pc' := 102) (ls' := [.ref 264, .int x1, .int v32, .int v34, .int v38, .null]) (st' := [.ref 264]) (h' := h37) rfl).trans ?_
            refine (mm_c1 (y := 194) (as := [.ref 264]) (nx := 105) (rest := []) rfl rfl).trans (mm_congI fun v40 h39 => ?_)
            refine (mm_by 1 (pc' := 107) (ls' := [.ref 264, .int x1, .int v32, .int v34, .int v38, .null]) (st' := [.int 40, .int v40]) (h' := h39) rfl).trans ?_
            refine (mm_br (c := ¬ v40 = 40) (p1 := 117) (p2 := 110) (l1 := [.ref 264, .int x1, .int v32, .int v34, .int v38, .null]) (l2 := [.ref 264, .int x1, .int v32, .int v34, .int v38, .null]) (s1 := []) (s2 := []) (h1 := h39) (h2 := h39) rfl rfl).trans (mm_ite ?_ ?_)
            · refine (mm_by 7 (pc' := 147) (ls' := [.ref 264, .int x1, .int v32, .int v34, .int v38, .int ((-1))]) (st' := [.int 40, .ref 264]) (h' := h39) rfl).trans ?_
              refine (mm_c0 (y := 199) (as := [.ref 264, .int 40]) (nx := 150) (rest := []) rfl rfl).trans (mm_congV fun h41 => ?_)
              exact mm_by 2 rfl
            · refine (mm_by 6 (pc' := 123) (ls' := [.ref 264, .int x1, .int v32, .int v34, .int v38, .int (h39.1 264 2)]) (st' := [.int ((-1)), .int (h39.1 264 2)]) (h' := h39) rfl).trans ?_
              refine (mm_br (c := (h39.1 264 2) = ((-1))) (p1 := 144) (p2 := 126) (l1 := [.ref 264, .int x1, .int v32, .int v34, .int v38, .int (h39.1 264 2)]) (l2 := [.ref 264, .int x1, .int v32, .int v34, .int v38, .int (h39.1 264 2)]) (s1 := []) (s2 := []) (h1 := h39) (h2 := h39) rfl rfl).trans (mm_ite ?_ ?_)
              · refine (mm_by 2 (pc' := 147) (ls' := [.ref 264, .int x1, .int v32, .int v34, .int v38, .int (h39.1 264 2)]) (st' := [.int 40, .ref 264]) (h' := h39) rfl).trans ?_
                refine (mm_c0 (y := 199) (as := [.ref 264, .int 40]) (nx := 150) (rest := []) rfl rfl).trans (mm_congV fun h42 => ?_)
                exact mm_by 2 rfl
              · refine (mm_by 2 (pc' := 129) (ls' := [.ref 264, .int x1, .int v32, .int v34, .int v38, .int (h39.1 264 2)]) (st' := [.int v38, .ref 264]) (h' := h39) rfl).trans ?_
                refine (mm_br (c := v38 = 0) (p1 := 137) (p2 := 132) (l1 := [.ref 264, .int x1, .int v32, .int v34, .int v38, .int (h39.1 264 2)]) (l2 := [.ref 264, .int x1, .int v32, .int v34, .int v38, .int (h39.1 264 2)]) (s1 := [.ref 264]) (s2 := [.ref 264]) (h1 := h39) (h2 := h39) rfl rfl).trans (mm_ite ?_ ?_)
                · refine (mm_by 2 (pc' := 141) (ls' := [.ref 264, .int x1, .int v32, .int v34, .int v38, .int (h39.1 264 2)]) (st' := [.int (h39.1 264 2), .int 22, .ref 264]) (h' := h39) rfl).trans ?_
                  refine (mm_c0 (y := 286) (as := [.ref 264, .int 22, .int (h39.1 264 2)]) (nx := 144) (rest := []) rfl rfl).trans (mm_congV fun h43 => ?_)
                  refine (mm_by 2 (pc' := 147) (ls' := [.ref 264, .int x1, .int v32, .int v34, .int v38, .int (h39.1 264 2)]) (st' := [.int 40, .ref 264]) (h' := h43) rfl).trans ?_
                  refine (mm_c0 (y := 199) (as := [.ref 264, .int 40]) (nx := 150) (rest := []) rfl rfl).trans (mm_congV fun h44 => ?_)
                  exact mm_by 2 rfl
                · refine (mm_by 3 (pc' := 141) (ls' := [.ref 264, .int x1, .int v32, .int v34, .int v38, .int (h39.1 264 2)]) (st' := [.int (h39.1 264 2), .int 21, .ref 264]) (h' := h39) rfl).trans ?_
                  refine (mm_c0 (y := 286) (as := [.ref 264, .int 21, .int (h39.1 264 2)]) (nx := 144) (rest := []) rfl rfl).trans (mm_congV fun h45 => ?_)
                  refine (mm_by 2 (pc' := 147) (ls' := [.ref 264, .int x1, .int v32, .int v34, .int v38, .int (h39.1 264 2)]) (st' := [.int 40, .ref 264]) (h' := h45) rfl).trans ?_
                  refine (mm_c0 (y := 199) (as := [.ref 264, .int 40]) (nx := 150) (rest := []) rfl rfl).trans (mm_congV fun h46 => ?_)
                  exact mm_by 2 rfl
          · refine (mm_by 3 (pc' := 98) (ls' := [.ref 264, .int x1, .int v32, .int v34, .int v38, .null]) (st' := [.ref 318, .ref 264]) (h' := h37) rfl).trans ?_
            refine (mm_c0 (y := 197) (as := [.ref 264, .ref 318]) (nx := 101) (rest := []) rfl rfl).trans (mm_congV fun h47 => ?_)
            refine (mm_by 1 (pc' := 102) (ls' := [.ref 264, .int x1, .int v32, .int v34, .int v38, .null]) (st' := [.ref 264]) (h' := h47) rfl).trans ?_
            refine (mm_c1 (y := 194) (as := [.ref 264]) (nx := 105) (rest := []) rfl rfl).trans (mm_congI fun v49 h48 => ?_)
            refine (mm_by 1 (pc' := 107) (ls' := [.ref 264, .int x1, .int v32, .int v34, .int v38, .null]) (st' := [.int 40, .int v49]) (h' := h48) rfl).trans ?_
            refine (mm_br (c := ¬ v49 = 40) (p1 := 117) (p2 := 110) (l1 := [.ref 264, .int x1, .int v32, .int v34, .int v38, .null]) (l2 := [.ref 264, .int x1, .int v32, .int v34, .int v38, .null]) (s1 := []) (s2 := []) (h1 := h48) (h2 := h48) rfl rfl).trans (mm_ite ?_ ?_)
            · refine (mm_by 7 (pc' := 147) (ls' := [.ref 264, .int x1, .int v32, .int v34, .int v38, .int ((-1))]) (st' := [.int 40, .ref 264]) (h' := h48) rfl).trans ?_
              refine (mm_c0 (y := 199) (as := [.ref 264, .int 40]) (nx := 150) (rest := []) rfl rfl).trans (mm_congV fun h50 => ?_)
              exact mm_by 2 rfl
            · refine (mm_by 6 (pc' := 123) (ls' := [.ref 264, .int x1, .int v32, .int v34, .int v38, .int (h48.1 264 2)]) (st' := [.int ((-1)), .int (h48.1 264 2)]) (h' := h48) rfl).trans ?_
              refine (mm_br (c := (h48.1 264 2) = ((-1))) (p1 := 144) (p2 := 126) (l1 := [.ref 264, .int x1, .int v32, .int v34, .int v38, .int (h48.1 264 2)]) (l2 := [.ref 264, .int x1, .int v32, .int v34, .int v38, .int (h48.1 264 2)]) (s1 := []) (s2 := []) (h1 := h48) (h2 := h48) rfl rfl).trans (mm_ite ?_ ?_)
              · refine (mm_by 2 (pc' := 147) (ls' := [.ref 264, .int x1, .int v32, .int v34, .int v38, .int (h48.1 264 2)]) (st' := [.int 40, .ref 264]) (h' := h48) rfl).trans ?_
                refine (mm_c0 (y := 199) (as := [.ref 264, .int 40]) (nx := 150) (rest := []) rfl rfl).trans (mm_congV fun h51 => ?_)
                exact mm_by 2 rfl
              · refine (mm_by 2 (pc' := 129) (ls' := [.ref 264, .int x1, .int v32, .int v34, .int v38, .int (h48.1 264 2)]) (st' := [.int v38, .ref 264]) (h' := h48) rfl).trans ?_
                refine (mm_br (c := v38 = 0) (p1 := 137) (p2 := 132) (l1 := [.ref 264, .int x1, .int v32, .int v34, .int v38, .int (h48.1 264 2)]) (l2 := [.ref 264, .int x1, .int v32, .int v34, .int v38, .int (h48.1 264 2)]) (s1 := [.ref 264]) (s2 := [.ref 264]) (h1 := h48) (h2 := h48) rfl rfl).trans (mm_ite ?_ ?_)
                · refine (mm_by 2 (pc' := 141) (ls' := [.ref 264, .int x1, .int v32, .int v34, .int v38, .int (h48.1 264 2)]) (st' := [.int (h48.1 264 2), .int 22, .ref 264]) (h' := h48) rfl).trans ?_
                  refine (mm_c0 (y := 286) (as := [.ref 264, .int 22, .int (h48.1 264 2)]) (nx := 144) (rest := []) rfl rfl).trans (mm_congV fun h52 => ?_)
                  refine (mm_by 2 (pc' := 147) (ls' := [.ref 264, .int x1, .int v32, .int v34, .int v38, .int (h48.1 264 2)]) (st' := [.int 40, .ref 264]) (h' := h52) rfl).trans ?_
                  refine (mm_c0 (y := 199) (as := [.ref 264, .int 40]) (nx := 150) (rest := []) rfl rfl).trans (mm_congV fun h53 => ?_)
                  exact mm_by 2 rfl
                · refine (mm_by 3 (pc' := 141) (ls' := [.ref 264, .int x1, .int v32, .int v34, .int v38, .int (h48.1 264 2)]) (st' := [.int (h48.1 264 2), .int 21, .ref 264]) (h' := h48) rfl).trans ?_
                  refine (mm_c0 (y := 286) (as := [.ref 264, .int 21, .int (h48.1 264 2)]) (nx := 144) (rest := []) rfl rfl).trans (mm_congV fun h54 => ?_)
                  refine (mm_by 2 (pc' := 147) (ls' := [.ref 264, .int x1, .int v32, .int v34, .int v38, .int (h48.1 264 2)]) (st' := [.int 40, .ref 264]) (h' := h54) rfl).trans ?_
                  refine (mm_c0 (y := 199) (as := [.ref 264, .int 40]) (nx := 150) (rest := []) rfl rfl).trans (mm_congV fun h55 => ?_)
                  exact mm_by 2 rfl
        · refine (mm_by 3 (pc' := 72) (ls' := [.ref 264, .int x1, .int v32, .int v34, .null, .null]) (st' := [.ref 318, .ref 264]) (h' := h35) rfl).trans ?_
          refine (mm_c1 (y := 195) (as := [.ref 264, .ref 318]) (nx := 75) (rest := []) rfl rfl).trans (mm_congI fun v57 h56 => ?_)
          refine (mm_br (c := v57 = 0) (p1 := 153) (p2 := 78) (l1 := [.ref 264, .int x1, .int v32, .int v34, .null, .null]) (l2 := [.ref 264, .int x1, .int v32, .int v34, .null, .null]) (s1 := []) (s2 := []) (h1 := h56) (h2 := h56) rfl rfl).trans (mm_ite ?_ ?_)
          · refine (mm_by 2 (pc' := 155) (ls' := [.ref 264, .int x1, .int v32, .int v34, .null, .null]) (st' := [.int ((-1)), .int v34]) (h' := h56) rfl).trans ?_
            refine (mm_br (c := v34 = ((-1))) (p1 := 181) (p2 := 158) (l1 := [.ref 264, .int x1, .int v32, .int v34, .null, .null]) (l2 := [.ref 264, .int x1, .int v32, .int v34, .null, .null]) (s1 := []) (s2 := []) (h1 := h56) (h2 := h56) rfl rfl).trans (mm_ite ?_ ?_)
            · exact mm_by 3 rfl
            · refine (mm_by 8 (pc' := 170) (ls' := [.ref 264, .int x1, .int v32, .int v34, .null, .null]) (st' := [.int (h56.1 264 2), .int ((60 + v34) - 11), .ref 264]) (h' := h56) rfl).trans ?_
              refine (mm_c0 (y := 286) (as := [.ref 264, .int ((60 + v34) - 11), .int (h56.1 264 2)]) (nx := 173) (rest := []) rfl rfl).trans (mm_congV fun h58 => ?_)
              refine (mm_by 2 (pc' := 175) (ls' := [.ref 264, .int x1, .int v32, .int v34, .null, .null]) (st' := [.int v34, .ref 264]) (h' := h58) rfl).trans ?_
              refine (mm_c0 (y := 294) (as := [.ref 264, .int v34]) (nx := 178) (rest := []) rfl rfl).trans (mm_congV fun h59 => ?_)
              exact mm_by 2 rfl
          · refine (mm_by 3 (pc' := 83) (ls' := [.ref 264, .int x1, .int v32, .int v34, .null, .null]) (st' := [.ref 317, .ref 264]) (h' := h56) rfl).trans ?_
            refine (mm_c1 (y := 196) (as := [.ref 264, .ref 317]) (nx := 86) (rest := []) rfl rfl).trans (mm_congI fun v61 h60 => ?_)
            refine (mm_by 2 (pc' := 90) (ls' := [.ref 264, .int x1, .int v32, .int v34, .int v61, .null]) (st' := [.int v61]) (h' := h60) rfl).trans ?_
            refine (mm_br (c := ¬ v61 = 0) (p1 := 101) (p2 := 93) (l1 := [.ref 264, .int x1, .int v32, .int v34, .int v61, .null]) (l2 := [.ref 264, .int x1, .int v32, .int v34, .int v61, .null]) (s1 := []) (s2 := []) (h1 := h60) (h2 := h60) rfl rfl).trans (mm_ite ?_ ?_)
            · refine (mm_by 1 (pc' := 102) (ls' := [.ref 264, .int x1, .int v32, .int v34, .int v61, .null]) (st' := [.ref 264]) (h' := h60) rfl).trans ?_
              refine (mm_c1 (y := 194) (as := [.ref 264]) (nx := 105) (rest := []) rfl rfl).trans (mm_congI fun v63 h62 => ?_)
              refine (mm_by 1 (pc' := 107) (ls' := [.ref 264, .int x1, .int v32, .int v34, .int v61, .null]) (st' := [.int 40, .int v63]) (h' := h62) rfl).trans ?_
              refine (mm_br (c := ¬ v63 = 40) (p1 := 117) (p2 := 110) (l1 := [.ref 264, .int x1, .int v32, .int v34, .int v61, .null]) (l2 := [.ref 264, .int x1, .int v32, .int v34, .int v61, .null]) (s1 := []) (s2 := []) (h1 := h62) (h2 := h62) rfl rfl).trans (mm_ite ?_ ?_)
              · refine (mm_by 7 (pc' := 147) (ls' := [.ref 264, .int x1, .int v32, .int v34, .int v61, .int ((-1))]) (st' := [.int 40, .ref 264]) (h' := h62) rfl).trans ?_
                refine (mm_c0 (y := 199) (as := [.ref 264, .int 40]) (nx := 150) (rest := []) rfl rfl).trans (mm_congV fun h64 => ?_)
                exact mm_by 2 rfl
              · refine (mm_by 6 (pc' := 123) (ls' := [.ref 264, .int x1, .int v32, .int v34, .int v61, .int (h62.1 264 2)]) (st' := [.int ((-1)), .int (h62.1 264 2)]) (h' := h62) rfl).trans ?_
                refine (mm_br (c := (h62.1 264 2) = ((-1))) (p1 := 144) (p2 := 126) (l1 := [.ref 264, .int x1, .int v32, .int v34, .int v61, .int (h62.1 264 2)]) (l2 := [.ref 264, .int x1, .int v32, .int v34, .int v61, .int (h62.1 264 2)]) (s1 := []) (s2 := []) (h1 := h62) (h2 := h62) rfl rfl).trans (mm_ite ?_ ?_)
                · refine (mm_by 2 (pc' := 147) (ls' := [.ref 264, .int x1, .int v32, .int v34, .int v61, .int (h62.1 264 2)]) (st' := [.int 40, .ref 264]) (h' := h62) rfl).trans ?_
                  refine (mm_c0 (y := 199) (as := [.ref 264, .int 40]) (nx := 150) (rest := []) rfl rfl).trans (mm_congV fun h65 => ?_)
                  exact mm_by 2 rfl
                · refine (mm_by 2 (pc' := 129) (ls' := [.ref 264, .int x1, .int v32, .int v34, .int v61, .int (h62.1 264 2)]) (st' := [.int v61, .ref 264]) (h' := h62) rfl).trans ?_
                  refine (mm_br (c := v61 = 0) (p1 := 137) (p2 := 132) (l1 := [.ref 264, .int x1, .int v32, .int v34, .int v61, .int (h62.1 264 2)]) (l2 := [.ref 264, .int x1, .int v32, .int v34, .int v61, .int (h62.1 264 2)]) (s1 := [.ref 264]) (s2 := [.ref 264]) (h1 := h62) (h2 := h62) rfl rfl).trans (mm_ite ?_ ?_)
                  · refine (mm_by 2 (pc' := 141) (ls' := [.ref 264, .int x1, .int v32, .int v34, .int v61, .int (h62.1 264 2)]) (st' := [.int (h62.1 264 2), .int 22, .ref 264]) (h' := h62) rfl).trans ?_
                    refine (mm_c0 (y := 286) (as := [.ref 264, .int 22, .int (h62.1 264 2)]) (nx := 144) (rest := []) rfl rfl).trans (mm_congV fun h66 => ?_)
                    refine (mm_by 2 (pc' := 147) (ls' := [.ref 264, .int x1, .int v32, .int v34, .int v61, .int (h62.1 264 2)]) (st' := [.int 40, .ref 264]) (h' := h66) rfl).trans ?_
                    refine (mm_c0 (y := 199) (as := [.ref 264, .int 40]) (nx := 150) (rest := []) rfl rfl).trans (mm_congV fun h67 => ?_)
                    exact mm_by 2 rfl
                  · refine (mm_by 3 (pc' := 141) (ls' := [.ref 264, .int x1, .int v32, .int v34, .int v61, .int (h62.1 264 2)]) (st' := [.int (h62.1 264 2), .int 21, .ref 264]) (h' := h62) rfl).trans ?_
                    refine (mm_c0 (y := 286) (as := [.ref 264, .int 21, .int (h62.1 264 2)]) (nx := 144) (rest := []) rfl rfl).trans (mm_congV fun h68 => ?_)
                    refine (mm_by 2 (pc' := 147) (ls' := [.ref 264, .int x1, .int v32, .int v34, .int v61, .int (h62.1 264 2)]) (st' := [.int 40, .ref 264]) (h' := h68) rfl).trans ?_
                    refine (mm_c0 (y := 199) (as := [.ref 264, .int 40]) (nx := 150) (rest := []) rfl rfl).trans (mm_congV fun h69 => ?_)
                    exact mm_by 2 rfl
            · refine (mm_by 3 (pc' := 98) (ls' := [.ref 264, .int x1, .int v32, .int v34, .int v61, .null]) (st' := [.ref 318, .ref 264]) (h' := h60) rfl).trans ?_
              refine (mm_c0 (y := 197) (as := [.ref 264, .ref 318]) (nx := 101) (rest := []) rfl rfl).trans (mm_congV fun h70 => ?_)
              refine (mm_by 1 (pc' := 102) (ls' := [.ref 264, .int x1, .int v32, .int v34, .int v61, .null]) (st' := [.ref 264]) (h' := h70) rfl).trans ?_
              refine (mm_c1 (y := 194) (as := [.ref 264]) (nx := 105) (rest := []) rfl rfl).trans (mm_congI fun v72 h71 => ?_)
              refine (mm_by 1 (pc' := 107) (ls' := [.ref 264, .int x1, .int v32, .int v34, .int v61, .null]) (st' := [.int 40, .int v72]) (h' := h71) rfl).trans ?_
              refine (mm_br (c := ¬ v72 = 40) (p1 := 117) (p2 := 110) (l1 := [.ref 264, .int x1, .int v32, .int v34, .int v61, .null]) (l2 := [.ref 264, .int x1, .int v32, .int v34, .int v61, .null]) (s1 := []) (s2 := []) (h1 := h71) (h2 := h71) rfl rfl).trans (mm_ite ?_ ?_)
              · refine (mm_by 7 (pc' := 147) (ls' := [.ref 264, .int x1, .int v32, .int v34, .int v61, .int ((-1))]) (st' := [.int 40, .ref 264]) (h' := h71) rfl).trans ?_
                refine (mm_c0 (y := 199) (as := [.ref 264, .int 40]) (nx := 150) (rest := []) rfl rfl).trans (mm_congV fun h73 => ?_)
                exact mm_by 2 rfl
              · refine (mm_by 6 (pc' := 123) (ls' := [.ref 264, .int x1, .int v32, .int v34, .int v61, .int (h71.1 264 2)]) (st' := [.int ((-1)), .int (h71.1 264 2)]) (h' := h71) rfl).trans ?_
                refine (mm_br (c := (h71.1 264 2) = ((-1))) (p1 := 144) (p2 := 126) (l1 := [.ref 264, .int x1, .int v32, .int v34, .int v61, .int (h71.1 264 2)]) (l2 := [.ref 264, .int x1, .int v32, .int v34, .int v61, .int (h71.1 264 2)]) (s1 := []) (s2 := []) (h1 := h71) (h2 := h71) rfl rfl).trans (mm_ite ?_ ?_)
                · refine (mm_by 2 (pc' := 147) (ls' := [.ref 264, .int x1, .int v32, .int v34, .int v61, .int (h71.1 264 2)]) (st' := [.int 40, .ref 264]) (h' := h71) rfl).trans ?_
                  refine (mm_c0 (y := 199) (as := [.ref 264, .int 40]) (nx := 150) (rest := []) rfl rfl).trans (mm_congV fun h74 => ?_)
                  exact mm_by 2 rfl
                · refine (mm_by 2 (pc' := 129) (ls' := [.ref 264, .int x1, .int v32, .int v34, .int v61, .int (h71.1 264 2)]) (st' := [.int v61, .ref 264]) (h' := h71) rfl).trans ?_
                  refine (mm_br (c := v61 = 0) (p1 := 137) (p2 := 132) (l1 := [.ref 264, .int x1, .int v32, .int v34, .int v61, .int (h71.1 264 2)]) (l2 := [.ref 264, .int x1, .int v32, .int v34, .int v61, .int (h71.1 264 2)]) (s1 := [.ref 264]) (s2 := [.ref 264]) (h1 := h71) (h2 := h71) rfl rfl).trans (mm_ite ?_ ?_)
                  · refine (mm_by 2 (pc' := 141) (ls' := [.ref 264, .int x1, .int v32, .int v34, .int v61, .int (h71.1 264 2)]) (st' := [.int (h71.1 264 2), .int 22, .ref 264]) (h' := h71) rfl).trans ?_
                    refine (mm_c0 (y := 286) (as := [.ref 264, .int 22, .int (h71.1 264 2)]) (nx := 144) (rest := []) rfl rfl).trans (mm_congV fun h75 => ?_)
                    refine (mm_by 2 (pc' := 147) (ls' := [.ref 264, .int x1, .int v32, .int v34, .int v61, .int (h71.1 264 2)]) (st' := [.int 40, .ref 264]) (h' := h75) rfl).trans ?_
                    refine (mm_c0 (y := 199) (as := [.ref 264, .int 40]) (nx := 150) (rest := []) rfl rfl).trans (mm_congV fun h76 => ?_)
                    exact mm_by 2 rfl
                  · refine (mm_by 3 (pc' := 141) (ls' := [.ref 264, .int x1, .int v32, .int v34, .int v61, .int (h71.1 264 2)]) (st' := [.int (h71.1 264 2), .int 21, .ref 264]) (h' := h71) rfl).trans ?_
                    refine (mm_c0 (y := 286) (as := [.ref 264, .int 21, .int (h71.1 264 2)]) (nx := 144) (rest := []) rfl rfl).trans (mm_congV fun h77 => ?_)
                    refine (mm_by 2 (pc' := 147) (ls' := [.ref 264, .int x1, .int v32, .int v34, .int v61, .int (h71.1 264 2)]) (st' := [.int 40, .ref 264]) (h' := h77) rfl).trans ?_
                    refine (mm_c0 (y := 199) (as := [.ref 264, .int 40]) (nx := 150) (rest := []) rfl rfl).trans (mm_congV fun h78 => ?_)
                    exact mm_by 2 rfl
      · refine (mm_by 4 (pc' := 40) (ls' := [.ref 264, .int x1, .int v32, .int v34, .null, .null]) (st' := [.int (h33.1 264 2), .int 20, .ref 264]) (h' := h33) rfl).trans ?_
        refine (mm_c0 (y := 286) (as := [.ref 264, .int 20, .int (h33.1 264 2)]) (nx := 43) (rest := []) rfl rfl).trans (mm_congV fun h79 => ?_)
        exact mm_by 8 rfl
set_option maxRecDepth 100000 in
set_option maxHeartbeats 4000000 in
theorem U_X12_qGoesOn {d : Nat} {h : mm_H} : mm_M mm_T0 (d + 1) 297 [.ref 264] h = (if ¬ (h.1 264 5) = 0 then (mm_bI (mm_M mm_T0 d 198 [.ref 264, .int 42] h) (fun v2 h1 => if ¬ v2 = 0 then (if ((h1.1 264 2) - 1) < 0 ∨ 1600 ≤ ((h1.1 264 2) - 1).toNatClampNeg then none else (if ¬ (h1.1 265 ((h1.1 264 2) - 1).toNatClampNeg) = 42 then (mm_D (mm_M mm_T0 d) cd_X12_qGoesOn 162 [.ref 264, .int 4] [] h1) else (mm_D (mm_M mm_T0 d) cd_X12_qGoesOn 162 [.ref 264, .int 3] [] h1))) else (mm_bI (mm_M mm_T0 d 198 [.ref 264, .int 47] h1) (fun v4 h3 => if v4 = 0 then (mm_bI (mm_M mm_T0 d 198 [.ref 264, .int 43] h3) (fun v6 h5 => if ¬ v6 = 0 then (if ((h5.1 264 2) - 1) < 0 ∨ 1600 ≤ ((h5.1 264 2) - 1).toNatClampNeg then none else (if ¬ (h5.1 265 ((h5.1 264 2) - 1).toNatClampNeg) = 43 then (mm_D (mm_M mm_T0 d) cd_X12_qGoesOn 247 [.ref 264, .int 2] [] h5) else (mm_D (mm_M mm_T0 d) cd_X12_qGoesOn 247 [.ref 264, .int 1] [] h5))) else (mm_bI (mm_M mm_T0 d 198 [.ref 264, .int 45] h5) (fun v8 h7 => if v8 = 0 then (mm_bI (mm_M mm_T0 d 290 [.ref 264] h7) (fun v10 h9 => if v10 = 21 then (mm_bV (mm_M mm_T0 d 199 [.ref 264, .int 44] h9) (fun h11 => if (h11.1 264 5) = 0 then (mm_bV (mm_M mm_T0 d 291 [.ref 264] h11) (fun h12 => if ((h12.1 264 104) - 1) < 0 ∨ 1700 ≤ ((h12.1 264 104) - 1).toNatClampNeg then none else (if ((h12.1 264 104) - 1) < 0 ∨ 1700 ≤ ((h12.1 264 104) - 1).toNatClampNeg then none else (some (some (.int 1), wI h12 333 (((h12.1 264 104) - 1).toNatClampNeg) ((h12.1 333 ((h12.1 264 104) - 1).toNatClampNeg) + 2)))))) else (some (some (.int 0), h11)))) else (mm_bI (mm_M mm_T0 d 290 [.ref 264] h9) (fun v14 h13 => if ¬ v14 = 22 then (mm_bI (mm_M mm_T0 d 290 [.ref 264] h13) (fun v16 h15 => if v16 = ((-1)) then (some (some (.int 0), h15)) else (if ¬ (h15.1 264 5) = 0 then (some (some (.int 0), h15)) else (mm_bV (mm_M mm_T0 d 191 [.ref 264, .int 1, .int (h15.1 264 2)] h15) (fun h17 => some (some (.int 0), h17)))))) else (mm_bV (mm_M mm_T0 d 199 [.ref 264, .int 44] h13) (fun h18 => if (h18.1 264 5) = 0 then (mm_bV (mm_M mm_T0 d 291 [.ref 264] h18) (fun h19 => if ((h19.1 264 104) - 1) < 0 ∨ 1700 ≤ ((h19.1 264 104) - 1).toNatClampNeg then none else (if ((h19.1 264 104) - 1) < 0 ∨ 1700 ≤ ((h19.1 264 104) - 1).toNatClampNeg then none else (some (some (.int 1), wI h19 333 (((h19.1 264 104) - 1).toNatClampNeg) ((h19.1 333 ((h19.1 264 104) - 1).toNatClampNeg) + 2)))))) else (some (some (.int 0), h18)))))))) else (if ((h7.1 264 2) - 1) < 0 ∨ 1600 ≤ ((h7.1 264 2) - 1).toNatClampNeg then none else (if ¬ (h7.1 265 ((h7.1 264 2) - 1).toNatClampNeg) = 43 then (mm_D (mm_M mm_T0 d) cd_X12_qGoesOn 247 [.ref 264, .int 2] [] h7) else (mm_D (mm_M mm_T0 d) cd_X12_qGoesOn 247 [.ref 264, .int 1] [] h7))))))) else (if ((h3.1 264 2) - 1) < 0 ∨ 1600 ≤ ((h3.1 264 2) - 1).toNatClampNeg then none else (if ¬ (h3.1 265 ((h3.1 264 2) - 1).toNatClampNeg) = 42 then (mm_D (mm_M mm_T0 d) cd_X12_qGoesOn 162 [.ref 264, .int 4] [] h3) else (mm_D (mm_M mm_T0 d) cd_X12_qGoesOn 162 [.ref 264, .int 3] [] h3))))))) else (mm_bI (mm_M mm_T0 d 194 [.ref 264] h) (fun v21 h20 => if ¬ v21 = 41 then (mm_bI (mm_M mm_T0 d 198 [.ref 264, .int 42] h20) (fun v23 h22 => if ¬ v23 = 0 then (if ((h22.1 264 2) - 1) < 0 ∨ 1600 ≤ ((h22.1 264 2) - 1).toNatClampNeg then none else (if ¬ (h22.1 265 ((h22.1 264 2) - 1).toNatClampNeg) = 42 then (mm_D (mm_M mm_T0 d) cd_X12_qGoesOn 162 [.ref 264, .int 4] [] h22) else (mm_D (mm_M mm_T0 d) cd_X12_qGoesOn 162 [.ref 264, .int 3] [] h22))) else (mm_bI (mm_M mm_T0 d 198 [.ref 264, .int 47] h22) (fun v25 h24 => if v25 = 0 then (mm_bI (mm_M mm_T0 d 198 [.ref 264, .int 43] h24) (fun v27 h26 => if ¬ v27 = 0 then (if ((h26.1 264 2) - 1) < 0 ∨ 1600 ≤ ((h26.1 264 2) - 1).toNatClampNeg then none else (if ¬ (h26.1 265 ((h26.1 264 2) - 1).toNatClampNeg) = 43 then (mm_D (mm_M mm_T0 d) cd_X12_qGoesOn 247 [.ref 264, .int 2] [] h26) else (mm_D (mm_M mm_T0 d) cd_X12_qGoesOn 247 [.ref 264, .int 1] [] h26))) else (mm_bI (mm_M mm_T0 d 198 [.ref 264, .int 45] h26) (fun v29 h28 => if v29 = 0 then (mm_bI (mm_M mm_T0 d 290 [.ref 264] h28) (fun v31 h30 => if v31 = 21 then (mm_bV (mm_M mm_T0 d 199 [.ref 264, .int 44] h30) (fun h32 => if (h32.1 264 5) = 0 then (mm_bV (mm_M mm_T0 d 291 [.ref 264] h32) (fun h33 => if ((h33.1 264 104) - 1) < 0 ∨ 1700 ≤ ((h33.1 264 104) - 1).toNatClampNeg then none else (if ((h33.1 264 104) - 1) < 0 ∨ 1700 ≤ ((h33.1 264 104) - 1).toNatClampNeg then none else (some (some (.int 1), wI h33 333 (((h33.1 264 104) - 1).toNatClampNeg) ((h33.1 333 ((h33.1 264 104) - 1).toNatClampNeg) + 2)))))) else (some (some (.int 0), h32)))) else (mm_bI (mm_M mm_T0 d 290 [.ref 264] h30) (fun v35 h34 => if ¬ v35 = 22 then (mm_bI (mm_M mm_T0 d 290 [.ref 264] h34) (fun v37 h36 => if v37 = ((-1)) then (some (some (.int 0), h36)) else (if ¬ (h36.1 264 5) = 0 then (some (some (.int 0), h36)) else (mm_bV (mm_M mm_T0 d 191 [.ref 264, .int 1, .int (h36.1 264 2)] h36) (fun h38 => some (some (.int 0), h38)))))) else (mm_bV (mm_M mm_T0 d 199 [.ref 264, .int 44] h34) (fun h39 => if (h39.1 264 5) = 0 then (mm_bV (mm_M mm_T0 d 291 [.ref 264] h39) (fun h40 => if ((h40.1 264 104) - 1) < 0 ∨ 1700 ≤ ((h40.1 264 104) - 1).toNatClampNeg then none else (if ((h40.1 264 104) - 1) < 0 ∨ 1700 ≤ ((h40.1 264 104) - 1).toNatClampNeg then none else (some (some (.int 1), wI h40 333 (((h40.1 264 104) - 1).toNatClampNeg) ((h40.1 333 ((h40.1 264 104) - 1).toNatClampNeg) + 2)))))) else (some (some (.int 0), h39)))))))) else (if ((h28.1 264 2) - 1) < 0 ∨ 1600 ≤ ((h28.1 264 2) - 1).toNatClampNeg then none else (if ¬ (h28.1 265 ((h28.1 264 2) - 1).toNatClampNeg) = 43 then (mm_D (mm_M mm_T0 d) cd_X12_qGoesOn 247 [.ref 264, .int 2] [] h28) else (mm_D (mm_M mm_T0 d) cd_X12_qGoesOn 247 [.ref 264, .int 1] [] h28))))))) else (if ((h24.1 264 2) - 1) < 0 ∨ 1600 ≤ ((h24.1 264 2) - 1).toNatClampNeg then none else (if ¬ (h24.1 265 ((h24.1 264 2) - 1).toNatClampNeg) = 42 then (mm_D (mm_M mm_T0 d) cd_X12_qGoesOn 162 [.ref 264, .int 4] [] h24) else (mm_D (mm_M mm_T0 d) cd_X12_qGoesOn 162 [.ref 264, .int 3] [] h24))))))) else (mm_bI (mm_M mm_T0 d 290 [.ref 264] h20) (fun v42 h41 => if v42 = 20 then (mm_bV (mm_M mm_T0 d 291 [.ref 264] (wI h41 264 2 ((h41.1 264 2) + 1))) (fun h43 => if ((wI (wI h43 264 104 ((h43.1 264 104) - 1)) 264 105 (((wI h43 264 104 ((h43.1 264 104) - 1)).1 264 105) - 1)).1 264 104) < 0 ∨ 1700 ≤ ((wI (wI h43 264 104 ((h43.1 264 104) - 1)) 264 105 (((wI h43 264 104 ((h43.1 264 104) - 1)).1 264 105) - 1)).1 264 104).toNatClampNeg then none else (if ((wI (wI h43 264 104 ((h43.1 264 104) - 1)) 264 105 (((wI h43 264 104 ((h43.1 264 104) - 1)).1 264 105) - 1)).1 333 ((wI (wI h43 264 104 ((h43.1 264 104) - 1)) 264 105 (((wI h43 264 104 ((h43.1 264 104) - 1)).1 264 105) - 1)).1 264 104).toNatClampNeg) = 20 then (mm_bV (mm_M mm_T0 d 295 [.ref 264] (wI (wI h43 264 104 ((h43.1 264 104) - 1)) 264 105 (((wI h43 264 104 ((h43.1 264 104) - 1)).1 264 105) - 1))) (fun h44 => mm_D (mm_M mm_T0 d) cd_X12_qGoesOn 0 [.ref 264, .null] [] h44)) else (if ((wI (wI h43 264 104 ((h43.1 264 104) - 1)) 264 105 (((wI h43 264 104 ((h43.1 264 104) - 1)).1 264 105) - 1)).1 264 104) < 0 ∨ 1700 ≤ ((wI (wI h43 264 104 ((h43.1 264 104) - 1)) 264 105 (((wI h43 264 104 ((h43.1 264 104) - 1)).1 264 105) - 1)).1 264 104).toNatClampNeg then none else (if ¬ ((wI (wI h43 264 104 ((h43.1 264 104) - 1)) 264 105 (((wI h43 264 104 ((h43.1 264 104) - 1)).1 264 105) - 1)).1 333 ((wI (wI h43 264 104 ((h43.1 264 104) - 1)) 264 105 (((wI h43 264 104 ((h43.1 264 104) - 1)).1 264 105) - 1)).1 264 104).toNatClampNeg) = 23 then (mm_bV (mm_M mm_T0 d 285 [.ref 264, .int 6] (wI (wI h43 264 104 ((h43.1 264 104) - 1)) 264 105 (((wI h43 264 104 ((h43.1 264 104) - 1)).1 264 105) - 1))) (fun h45 => mm_bV (mm_M mm_T0 d 295 [.ref 264] h45) (fun h46 => mm_D (mm_M mm_T0 d) cd_X12_qGoesOn 0 [.ref 264, .null] [] h46))) else (mm_bV (mm_M mm_T0 d 285 [.ref 264, .int 5] (wI (wI h43 264 104 ((h43.1 264 104) - 1)) 264 105 (((wI h43 264 104 ((h43.1 264 104) - 1)).1 264 105) - 1))) (fun h47 => mm_bV (mm_M mm_T0 d 295 [.ref 264] h47) (fun h48 => mm_D (mm_M mm_T0 d) cd_X12_qGoesOn 0 [.ref 264, .null] [] h48)))))))) else (mm_bI (mm_M mm_T0 d 290 [.ref 264] h41) (fun v50 h49 => if v50 = 23 then (mm_bV (mm_M mm_T0 d 291 [.ref 264] (wI h49 264 2 ((h49.1 264 2) + 1))) (fun h51 => if ((wI (wI h51 264 104 ((h51.1 264 104) - 1)) 264 105 (((wI h51 264 104 ((h51.1 264 104) - 1)).1 264 105) - 1)).1 264 104) < 0 ∨ 1700 ≤ ((wI (wI h51 264 104 ((h51.1 264 104) - 1)) 264 105 (((wI h51 264 104 ((h51.1 264 104) - 1)).1 264 105) - 1)).1 264 104).toNatClampNeg then none else (if ((wI (wI h51 264 104 ((h51.1 264 104) - 1)) 264 105 (((wI h51 264 104 ((h51.1 264 104) - 1)).1 264 105) - 1)).1 333 ((wI (wI h51 264 104 ((h51.1 264 104) - 1)) 264 105 (((wI h51 264 104 ((h51.1 264 104) - 1)).1 264 105) - 1)).1 264 104).toNatClampNeg) = 20 then (mm_bV (mm_M mm_T0 d 295 [.ref 264] (wI (wI h51 264 104 ((h51.1 264 104) - 1)) 264 105 (((wI h51 264 104 ((h51.1 264 104) - 1)).1 264 105) - 1))) (fun h52 => mm_D (mm_M mm_T0 d) cd_X12_qGoesOn 0 [.ref 264, .null] [] h52)) else (if ((wI (wI h51 264 104 ((h51.1 264 104) - 1)) 264 105 (((wI h51 264 104 ((h51.1 264 104) - 1)).1 264 105) - 1)).1 264 104) < 0 ∨ 1700 ≤ ((wI (wI h51 264 104 ((h51.1 264 104) - 1)) 264 105 (((wI h51 264 104 ((h51.1 264 104) - 1)).1 264 105) - 1)).1 264 104).toNatClampNeg then none else (if ¬ ((wI (wI h51 264 104 ((h51.1 264 104) - 1)) 264 105 (((wI h51 264 104 ((h51.1 264 104) - 1)).1 264 105) - 1)).1 333 ((wI (wI h51 264 104 ((h51.1 264 104) - 1)) 264 105 (((wI h51 264 104 ((h51.1 264 104) - 1)).1 264 105) - 1)).1 264 104).toNatClampNeg) = 23 then (mm_bV (mm_M mm_T0 d 285 [.ref 264, .int 6] (wI (wI h51 264 104 ((h51.1 264 104) - 1)) 264 105 (((wI h51 264 104 ((h51.1 264 104) - 1)).1 264 105) - 1))) (fun h53 => mm_bV (mm_M mm_T0 d 295 [.ref 264] h53) (fun h54 => mm_D (mm_M mm_T0 d) cd_X12_qGoesOn 0 [.ref 264, .null] [] h54))) else (mm_bV (mm_M mm_T0 d 285 [.ref 264, .int 5] (wI (wI h51 264 104 ((h51.1 264 104) - 1)) 264 105 (((wI h51 264 104 ((h51.1 264 104) - 1)).1 264 105) - 1))) (fun h55 => mm_bV (mm_M mm_T0 d 295 [.ref 264] h55) (fun h56 => mm_D (mm_M mm_T0 d) cd_X12_qGoesOn 0 [.ref 264, .null] [] h56)))))))) else (mm_bI (mm_M mm_T0 d 290 [.ref 264] h49) (fun v58 h57 => if ¬ v58 = 24 then (mm_bI (mm_M mm_T0 d 198 [.ref 264, .int 42] h57) (fun v60 h59 => if ¬ v60 = 0 then (if ((h59.1 264 2) - 1) < 0 ∨ 1600 ≤ ((h59.1 264 2) - 1).toNatClampNeg then none else (if ¬ (h59.1 265 ((h59.1 264 2) - 1).toNatClampNeg) = 42 then (mm_D (mm_M mm_T0 d) cd_X12_qGoesOn 162 [.ref 264, .int 4] [] h59) else (mm_D (mm_M mm_T0 d) cd_X12_qGoesOn 162 [.ref 264, .int 3] [] h59))) else (mm_bI (mm_M mm_T0 d 198 [.ref 264, .int 47] h59) (fun v62 h61 => if v62 = 0 then (mm_bI (mm_M mm_T0 d 198 [.ref 264, .int 43] h61) (fun v64 h63 => if ¬ v64 = 0 then (if ((h63.1 264 2) - 1) < 0 ∨ 1600 ≤ ((h63.1 264 2) - 1).toNatClampNeg then none else (if ¬ (h63.1 265 ((h63.1 264 2) - 1).toNatClampNeg) = 43 then (mm_D (mm_M mm_T0 d) cd_X12_qGoesOn 247 [.ref 264, .int 2] [] h63) else (mm_D (mm_M mm_T0 d) cd_X12_qGoesOn 247 [.ref 264, .int 1] [] h63))) else (mm_bI (mm_M mm_T0 d 198 [.ref 264, .int 45] h63) (fun v66 h65 => if v66 = 0 then (mm_bI (mm_M mm_T0 d 290 [.ref 264] h65) (fun v68 h67 => if v68 = 21 then (mm_bV (mm_M mm_T0 d 199 [.ref 264, .int 44] h67) (fun h69 => if (h69.1 264 5) = 0 then (mm_bV (mm_M mm_T0 d 291 [.ref 264] h69) (fun h70 => if ((h70.1 264 104) - 1) < 0 ∨ 1700 ≤ ((h70.1 264 104) - 1).toNatClampNeg then none else (if ((h70.1 264 104) - 1) < 0 ∨ 1700 ≤ ((h70.1 264 104) - 1).toNatClampNeg then none else (some (some (.int 1), wI h70 333 (((h70.1 264 104) - 1).toNatClampNeg) ((h70.1 333 ((h70.1 264 104) - 1).toNatClampNeg) + 2)))))) else (some (some (.int 0), h69)))) else (mm_bI (mm_M mm_T0 d 290 [.ref 264] h67) (fun v72 h71 => if ¬ v72 = 22 then (mm_bI (mm_M mm_T0 d 290 [.ref 264] h71) (fun v74 h73 => if v74 = ((-1)) then (some (some (.int 0), h73)) else (if ¬ (h73.1 264 5) = 0 then (some (some (.int 0), h73)) else (mm_bV (mm_M mm_T0 d 191 [.ref 264, .int 1, .int (h73.1 264 2)] h73) (fun h75 => some (some (.int 0), h75)))))) else (mm_bV (mm_M mm_T0 d 199 [.ref 264, .int 44] h71) (fun h76 => if (h76.1 264 5) = 0 then (mm_bV (mm_M mm_T0 d 291 [.ref 264] h76) (fun h77 => if ((h77.1 264 104) - 1) < 0 ∨ 1700 ≤ ((h77.1 264 104) - 1).toNatClampNeg then none else (if ((h77.1 264 104) - 1) < 0 ∨ 1700 ≤ ((h77.1 264 104) - 1).toNatClampNeg then none else (some (some (.int 1), wI h77 333 (((h77.1 264 104) - 1).toNatClampNeg) ((h77.1 333 ((h77.1 264 104) - 1).toNatClampNeg) + 2)))))) else (some (some (.int 0), h76)))))))) else (if ((h65.1 264 2) - 1) < 0 ∨ 1600 ≤ ((h65.1 264 2) - 1).toNatClampNeg then none else (if ¬ (h65.1 265 ((h65.1 264 2) - 1).toNatClampNeg) = 43 then (mm_D (mm_M mm_T0 d) cd_X12_qGoesOn 247 [.ref 264, .int 2] [] h65) else (mm_D (mm_M mm_T0 d) cd_X12_qGoesOn 247 [.ref 264, .int 1] [] h65))))))) else (if ((h61.1 264 2) - 1) < 0 ∨ 1600 ≤ ((h61.1 264 2) - 1).toNatClampNeg then none else (if ¬ (h61.1 265 ((h61.1 264 2) - 1).toNatClampNeg) = 42 then (mm_D (mm_M mm_T0 d) cd_X12_qGoesOn 162 [.ref 264, .int 4] [] h61) else (mm_D (mm_M mm_T0 d) cd_X12_qGoesOn 162 [.ref 264, .int 3] [] h61))))))) else (mm_bV (mm_M mm_T0 d 291 [.ref 264] (wI h57 264 2 ((h57.1 264 2) + 1))) (fun h78 => if ((wI (wI h78 264 104 ((h78.1 264 104) - 1)) 264 105 (((wI h78 264 104 ((h78.1 264 104) - 1)).1 264 105) - 1)).1 264 104) < 0 ∨ 1700 ≤ ((wI (wI h78 264 104 ((h78.1 264 104) - 1)) 264 105 (((wI h78 264 104 ((h78.1 264 104) - 1)).1 264 105) - 1)).1 264 104).toNatClampNeg then none else (if ((wI (wI h78 264 104 ((h78.1 264 104) - 1)) 264 105 (((wI h78 264 104 ((h78.1 264 104) - 1)).1 264 105) - 1)).1 333 ((wI (wI h78 264 104 ((h78.1 264 104) - 1)) 264 105 (((wI h78 264 104 ((h78.1 264 104) - 1)).1 264 105) - 1)).1 264 104).toNatClampNeg) = 20 then (mm_bV (mm_M mm_T0 d 295 [.ref 264] (wI (wI h78 264 104 ((h78.1 264 104) - 1)) 264 105 (((wI h78 264 104 ((h78.1 264 104) - 1)).1 264 105) - 1))) (fun h79 => mm_D (mm_M mm_T0 d) cd_X12_qGoesOn 0 [.ref 264, .null] [] h79)) else (if ((wI (wI h78 264 104 ((h78.1 264 104) - 1)) 264 105 (((wI h78 264 104 ((h78.1 264 104) - 1)).1 264 105) - 1)).1 264 104) < 0 ∨ 1700 ≤ ((wI (wI h78 264 104 ((h78.1 264 104) - 1)) 264 105 (((wI h78 264 104 ((h78.1 264 104) - 1)).1 264 105) - 1)).1 264 104).toNatClampNeg then none else (if ¬ ((wI (wI h78 264 104 ((h78.1 264 104) - 1)) 264 105 (((wI h78 264 104 ((h78.1 264 104) - 1)).1 264 105) - 1)).1 333 ((wI (wI h78 264 104 ((h78.1 264 104) - 1)) 264 105 (((wI h78 264 104 ((h78.1 264 104) - 1)).1 264 105) - 1)).1 264 104).toNatClampNeg) = 23 then (mm_bV (mm_M mm_T0 d 285 [.ref 264, .int 6] (wI (wI h78 264 104 ((h78.1 264 104) - 1)) 264 105 (((wI h78 264 104 ((h78.1 264 104) - 1)).1 264 105) - 1))) (fun h80 => mm_bV (mm_M mm_T0 d 295 [.ref 264] h80) (fun h81 => mm_D (mm_M mm_T0 d) cd_X12_qGoesOn 0 [.ref 264, .null] [] h81))) else (mm_bV (mm_M mm_T0 d 285 [.ref 264, .int 5] (wI (wI h78 264 104 ((h78.1 264 104) - 1)) 264 105 (((wI h78 264 104 ((h78.1 264 104) - 1)).1 264 105) - 1))) (fun h82 => mm_bV (mm_M mm_T0 d 295 [.ref 264] h82) (fun h83 => mm_D (mm_M mm_T0 d) cd_X12_qGoesOn 0 [.ref 264, .null] [] h83))))))))))))))))) := by
  refine (mm_M_eq (ls := [.ref 264, .null]) rfl (Nat.le_of_ble_eq_true rfl) rfl h).trans ?_
  refine (mm_by 2 (pc' := 4) (ls' := [.ref 264, .null]) (st' := [.int (h.1 264 5)]) (h' := h) rfl).trans ?_
  refine (mm_br (c := ¬ (h.1 264 5) = 0) (p1 := 122) (p2 := 7) (l1 := [.ref 264, .null]) (l2 := [.ref 264, .null]) (s1 := []) (s2 := []) (h1 := h) (h2 := h) rfl rfl).trans (mm_ite ?_ ?_)
  · refine (mm_by 2 (pc' := 125) (ls' := [.ref 264, .null]) (st' := [.int 42, .ref 264]) (h' := h) rfl).trans ?_
    refine (mm_c1 (y := 198) (as := [.ref 264, .int 42]) (nx := 128) (rest := []) rfl rfl).trans (mm_congI fun v2 h1 => ?_)
    refine (mm_br (c := ¬ v2 = 0) (p1 := 140) (p2 := 131) (l1 := [.ref 264, .null]) (l2 := [.ref 264, .null]) (s1 := []) (s2 := []) (h1 := h1) (h2 := h1) rfl rfl).trans (mm_ite ?_ ?_)
    · refine (mm_by 6 (pc' := 150) (ls' := [.ref 264, .null]) (st' := [.int ((h1.1 264 2) - 1), .ref 265]) (h' := h1) rfl).trans ?_
      refine (mm_gd (c := ((h1.1 264 2) - 1) < 0 ∨ 1600 ≤ ((h1.1 264 2) - 1).toNatClampNeg) (p1 := 151) (l1 := [.ref 264, .null]) (s1 := [.int (h1.1 265 ((h1.1 264 2) - 1).toNatClampNeg)]) (h1 := h1) rfl (q_iald (n := 1600) rfl)).trans (mm_ite rfl ?_)
      refine (mm_by 1 (pc' := 153) (ls' := [.ref 264, .null]) (st' := [.int 42, .int (h1.1 265 ((h1.1 264 2) - 1).toNatClampNeg)]) (h' := h1) rfl).trans ?_
      refine (mm_br (c := ¬ (h1.1 265 ((h1.1 264 2) - 1).toNatClampNeg) = 42) (p1 := 160) (p2 := 156) (l1 := [.ref 264, .null]) (l2 := [.ref 264, .null]) (s1 := []) (s2 := []) (h1 := h1) (h2 := h1) rfl rfl).trans (mm_ite ?_ ?_)
      · exact mm_by 2 rfl
      · exact mm_by 3 rfl
    · refine (mm_by 2 (pc' := 134) (ls' := [.ref 264, .null]) (st' := [.int 47, .ref 264]) (h' := h1) rfl).trans ?_
      refine (mm_c1 (y := 198) (as := [.ref 264, .int 47]) (nx := 137) (rest := []) rfl rfl).trans (mm_congI fun v4 h3 => ?_)
      refine (mm_br (c := v4 = 0) (p1 := 207) (p2 := 140) (l1 := [.ref 264, .null]) (l2 := [.ref 264, .null]) (s1 := []) (s2 := []) (h1 := h3) (h2 := h3) rfl rfl).trans (mm_ite ?_ ?_)
      · refine (mm_by 2 (pc' := 210) (ls' := [.ref 264, .null]) (st' := [.int 43, .ref 264]) (h' := h3) rfl).trans ?_
        refine (mm_c1 (y := 198) (as := [.ref 264, .int 43]) (nx := 213) (rest := []) rfl rfl).trans (mm_congI fun v6 h5 => ?_)
        refine (mm_br (c := ¬ v6 = 0) (p1 := 225) (p2 := 216) (l1 := [.ref 264, .null]) (l2 := [.ref 264, .null]) (s1 := []) (s2 := []) (h1 := h5) (h2 := h5) rfl rfl).trans (mm_ite ?_ ?_)
        · refine (mm_by 6 (pc' := 235) (ls' := [.ref 264, .null]) (st' := [.int ((h5.1 264 2) - 1), .ref 265]) (h' := h5) rfl).trans ?_
          refine (mm_gd (c := ((h5.1 264 2) - 1) < 0 ∨ 1600 ≤ ((h5.1 264 2) - 1).toNatClampNeg) (p1 := 236) (l1 := [.ref 264, .null]) (s1 := [.int (h5.1 265 ((h5.1 264 2) - 1).toNatClampNeg)]) (h1 := h5) rfl (q_iald (n := 1600) rfl)).trans (mm_ite rfl ?_)
          refine (mm_by 1 (pc' := 238) (ls' := [.ref 264, .null]) (st' := [.int 43, .int (h5.1 265 ((h5.1 264 2) - 1).toNatClampNeg)]) (h' := h5) rfl).trans ?_
          refine (mm_br (c := ¬ (h5.1 265 ((h5.1 264 2) - 1).toNatClampNeg) = 43) (p1 := 245) (p2 := 241) (l1 := [.ref 264, .null]) (l2 := [.ref 264, .null]) (s1 := []) (s2 := []) (h1 := h5) (h2 := h5) rfl rfl).trans (mm_ite ?_ ?_)
          · exact mm_by 2 rfl
          · exact mm_by 3 rfl
        · refine (mm_by 2 (pc' := 219) (ls' := [.ref 264, .null]) (st' := [.int 45, .ref 264]) (h' := h5) rfl).trans ?_
          refine (mm_c1 (y := 198) (as := [.ref 264, .int 45]) (nx := 222) (rest := []) rfl rfl).trans (mm_congI fun v8 h7 => ?_)
          refine (mm_br (c := v8 = 0) (p1 := 308) (p2 := 225) (l1 := [.ref 264, .null]) (l2 := [.ref 264, .null]) (s1 := []) (s2 := []) (h1 := h7) (h2 := h7) rfl rfl).trans (mm_ite ?_ ?_)
          · refine (mm_by 1 (pc' := 309) (ls' := [.ref 264, .null]) (st' := [.ref 264]) (h' := h7) rfl).trans ?_
            refine (mm_c1 (y := 290) (as := [.ref 264]) (nx := 312) (rest := []) rfl rfl).trans (mm_congI fun v10 h9 => ?_)
            refine (mm_by 1 (pc' := 314) (ls' := [.ref 264, .null]) (st' := [.int 21, .int v10]) (h' := h9) rfl).trans ?_
            refine (mm_br (c := v10 = 21) (p1 := 326) (p2 := 317) (l1 := [.ref 264, .null]) (l2 := [.ref 264, .null]) (s1 := []) (s2 := []) (h1 := h9) (h2 := h9) rfl rfl).trans (mm_ite ?_ ?_)
            · refine (mm_by 2 (pc' := 329) (ls' := [.ref 264, .null]) (st' := [.int 44, .ref 264]) (h' := h9) rfl).trans ?_
              refine (mm_c0 (y := 199) (as := [.ref 264, .int 44]) (nx := 332) (rest := []) rfl rfl).trans (mm_congV fun h11 => ?_)
              refine (mm_by 2 (pc' := 336) (ls' := [.ref 264, .null]) (st' := [.int (h11.1 264 5)]) (h' := h11) rfl).trans ?_
              refine (mm_br (c := (h11.1 264 5) = 0) (p1 := 341) (p2 := 339) (l1 := [.ref 264, .null]) (l2 := [.ref 264, .null]) (s1 := []) (s2 := []) (h1 := h11) (h2 := h11) rfl rfl).trans (mm_ite ?_ ?_)
              · refine (mm_by 1 (pc' := 342) (ls' := [.ref 264, .null]) (st' := [.ref 264]) (h' := h11) rfl).trans ?_
                refine (mm_c0 (y := 291) (as := [.ref 264]) (nx := 345) (rest := []) rfl rfl).trans (mm_congV fun h12 => ?_)
                refine (mm_by 7 (pc' := 356) (ls' := [.ref 264, .null]) (st' := [.int ((h12.1 264 104) - 1), .ref 333, .int ((h12.1 264 104) - 1), .ref 333]) (h' := h12) rfl).trans ?_
                refine (mm_gd (c := ((h12.1 264 104) - 1) < 0 ∨ 1700 ≤ ((h12.1 264 104) - 1).toNatClampNeg) (p1 := 357) (l1 := [.ref 264, .null]) (s1 := [.int (h12.1 333 ((h12.1 264 104) - 1).toNatClampNeg), .int ((h12.1 264 104) - 1), .ref 333]) (h1 := h12) rfl (q_iald (n := 1700) rfl)).trans (mm_ite rfl ?_)
                refine (mm_by 2 (pc' := 359) (ls' := [.ref 264, .null]) (st' := [.int ((h12.1 333 ((h12.1 264 104) - 1).toNatClampNeg) + 2), .int ((h12.1 264 104) - 1), .ref 333]) (h' := h12) rfl).trans ?_
                refine (mm_gd (c := ((h12.1 264 104) - 1) < 0 ∨ 1700 ≤ ((h12.1 264 104) - 1).toNatClampNeg) (p1 := 360) (l1 := [.ref 264, .null]) (s1 := []) (h1 := wI h12 333 (((h12.1 264 104) - 1).toNatClampNeg) ((h12.1 333 ((h12.1 264 104) - 1).toNatClampNeg) + 2)) rfl (q_iast (n := 1700) rfl)).trans (mm_ite rfl ?_)
                exact mm_by_end 2 rfl
              · exact mm_by_end 2 rfl
            · refine (mm_by 1 (pc' := 318) (ls' := [.ref 264, .null]) (st' := [.ref 264]) (h' := h9) rfl).trans ?_
              refine (mm_c1 (y := 290) (as := [.ref 264]) (nx := 321) (rest := []) rfl rfl).trans (mm_congI fun v14 h13 => ?_)
              refine (mm_by 1 (pc' := 323) (ls' := [.ref 264, .null]) (st' := [.int 22, .int v14]) (h' := h13) rfl).trans ?_
              refine (mm_br (c := ¬ v14 = 22) (p1 := 362) (p2 := 326) (l1 := [.ref 264, .null]) (l2 := [.ref 264, .null]) (s1 := []) (s2 := []) (h1 := h13) (h2 := h13) rfl rfl).trans (mm_ite ?_ ?_)
              · refine (mm_by 1 (pc' := 363) (ls' := [.ref 264, .null]) (st' := [.ref 264]) (h' := h13) rfl).trans ?_
                refine (mm_c1 (y := 290) (as := [.ref 264]) (nx := 366) (rest := []) rfl rfl).trans (mm_congI fun v16 h15 => ?_)
                refine (mm_by 1 (pc' := 367) (ls' := [.ref 264, .null]) (st' := [.int ((-1)), .int v16]) (h' := h15) rfl).trans ?_
                refine (mm_br (c := v16 = ((-1))) (p1 := 386) (p2 := 370) (l1 := [.ref 264, .null]) (l2 := [.ref 264, .null]) (s1 := []) (s2 := []) (h1 := h15) (h2 := h15) rfl rfl).trans (mm_ite ?_ ?_)
                · exact mm_by_end 2 rfl
                · refine (mm_by 2 (pc' := 374) (ls' := [.ref 264, .null]) (st' := [.int (h15.1 264 5)]) (h' := h15) rfl).trans ?_
                  refine (mm_br (c := ¬ (h15.1 264 5) = 0) (p1 := 386) (p2 := 377) (l1 := [.ref 264, .null]) (l2 := [.ref 264, .null]) (s1 := []) (s2 := []) (h1 := h15) (h2 := h15) rfl rfl).trans (mm_ite ?_ ?_)
                  · exact mm_by_end 2 rfl
                  · refine (mm_by 4 (pc' := 383) (ls' := [.ref 264, .null]) (st' := [.int (h15.1 264 2), .int 1, .ref 264]) (h' := h15) rfl).trans ?_
                    refine (mm_c0 (y := 191) (as := [.ref 264, .int 1, .int (h15.1 264 2)]) (nx := 386) (rest := []) rfl rfl).trans (mm_congV fun h17 => ?_)
                    exact mm_by_end 2 rfl
              · refine (mm_by 2 (pc' := 329) (ls' := [.ref 264, .null]) (st' := [.int 44, .ref 264]) (h' := h13) rfl).trans ?_
                refine (mm_c0 (y := 199) (as := [.ref 264, .int 44]) (nx := 332) (rest := []) rfl rfl).trans (mm_congV fun h18 => ?_)
                refine (mm_by 2 (pc' := 336) (ls' := [.ref 264, .null]) (st' := [.int (h18.1 264 5)]) (h' := h18) rfl).trans ?_
                refine (mm_br (c := (h18.1 264 5) = 0) (p1 := 341) (p2 := 339) (l1 := [.ref 264, .null]) (l2 := [.ref 264, .null]) (s1 := []) (s2 := []) (h1 := h18) (h2 := h18) rfl rfl).trans (mm_ite ?_ ?_)
                · refine (mm_by 1 (pc' := 342) (ls' := [.ref 264, .null]) (st' := [.ref 264]) (h' := h18) rfl).trans ?_
                  refine (mm_c0 (y := 291) (as := [.ref 264]) (nx := 345) (rest := []) rfl rfl).trans (mm_congV fun h19 => ?_)
                  refine (mm_by 7 (pc' := 356) (ls' := [.ref 264, .null]) (st' := [.int ((h19.1 264 104) - 1), .ref 333, .int ((h19.1 264 104) - 1), .ref 333]) (h' := h19) rfl).trans ?_
                  refine (mm_gd (c := ((h19.1 264 104) - 1) < 0 ∨ 1700 ≤ ((h19.1 264 104) - 1).toNatClampNeg) (p1 := 357) (l1 := [.ref 264, .null]) (s1 := [.int (h19.1 333 ((h19.1 264 104) - 1).toNatClampNeg), .int ((h19.1 264 104) - 1), .ref 333]) (h1 := h19) rfl (q_iald (n := 1700) rfl)).trans (mm_ite rfl ?_)
                  refine (mm_by 2 (pc' := 359) (ls' := [.ref 264, .null]) (st' := [.int ((h19.1 333 ((h19.1 264 104) - 1).toNatClampNeg) + 2), .int ((h19.1 264 104) - 1), .ref 333]) (h' := h19) rfl).trans ?_
                  refine (mm_gd (c := ((h19.1 264 104) - 1) < 0 ∨ 1700 ≤ ((h19.1 264 104) - 1).toNatClampNeg) (p1 := 360) (l1 := [.ref 264, .null]) (s1 := []) (h1 := wI h19 333 (((h19.1 264 104) - 1).toNatClampNeg) ((h19.1 333 ((h19.1 264 104) - 1).toNatClampNeg) + 2)) rfl (q_iast (n := 1700) rfl)).trans (mm_ite rfl ?_)
                  exact mm_by_end 2 rfl
                · exact mm_by_end 2 rfl
          · refine (mm_by 6 (pc' := 235) (ls' := [.ref 264, .null]) (st' := [.int ((h7.1 264 2) - 1), .ref 265]) (h' := h7) rfl).trans ?_
            refine (mm_gd (c := ((h7.1 264 2) - 1) < 0 ∨ 1600 ≤ ((h7.1 264 2) - 1).toNatClampNeg) (p1 := 236) (l1 := [.ref 264, .null]) (s1 := [.int (h7.1 265 ((h7.1 264 2) - 1).toNatClampNeg)]) (h1 := h7) rfl (q_iald (n := 1600) rfl)).trans (mm_ite rfl ?_)
            refine (mm_by 1 (pc' := 238) (ls' := [.ref 264, .null]) (st' := [.int 43, .int (h7.1 265 ((h7.1 264 2) - 1).toNatClampNeg)]) (h' := h7) rfl).trans ?_
            refine (mm_br (c := ¬ (h7.1 265 ((h7.1 264 2) - 1).toNatClampNeg) = 43) (p1 := 245) (p2 := 241) (l1 := [.ref 264, .null]) (l2 := [.ref 264, .null]) (s1 := []) (s2 := []) (h1 := h7) (h2 := h7) rfl rfl).trans (mm_ite ?_ ?_)
            · exact mm_by 2 rfl
            · exact mm_by 3 rfl
      · refine (mm_by 6 (pc' := 150) (ls' := [.ref 264, .null]) (st' := [.int ((h3.1 264 2) - 1), .ref 265]) (h' := h3) rfl).trans ?_
        refine (mm_gd (c := ((h3.1 264 2) - 1) < 0 ∨ 1600 ≤ ((h3.1 264 2) - 1).toNatClampNeg) (p1 := 151) (l1 := [.ref 264, .null]) (s1 := [.int (h3.1 265 ((h3.1 264 2) - 1).toNatClampNeg)]) (h1 := h3) rfl (q_iald (n := 1600) rfl)).trans (mm_ite rfl ?_)
        refine (mm_by 1 (pc' := 153) (ls' := [.ref 264, .null]) (st' := [.int 42, .int (h3.1 265 ((h3.1 264 2) - 1).toNatClampNeg)]) (h' := h3) rfl).trans ?_
        refine (mm_br (c := ¬ (h3.1 265 ((h3.1 264 2) - 1).toNatClampNeg) = 42) (p1 := 160) (p2 := 156) (l1 := [.ref 264, .null]) (l2 := [.ref 264, .null]) (s1 := []) (s2 := []) (h1 := h3) (h2 := h3) rfl rfl).trans (mm_ite ?_ ?_)
        · exact mm_by 2 rfl
        · exact mm_by 3 rfl
  · refine (mm_by 1 (pc' := 8) (ls' := [.ref 264, .null]) (st' := [.ref 264]) (h' := h) rfl).trans ?_
    refine (mm_c1 (y := 194) (as := [.ref 264]) (nx := 11) (rest := []) rfl rfl).trans (mm_congI fun v21 h20 => ?_)
    refine (mm_by 1 (pc' := 13) (ls' := [.ref 264, .null]) (st' := [.int 41, .int v21]) (h' := h20) rfl).trans ?_
    refine (mm_br (c := ¬ v21 = 41) (p1 := 122) (p2 := 16) (l1 := [.ref 264, .null]) (l2 := [.ref 264, .null]) (s1 := []) (s2 := []) (h1 := h20) (h2 := h20) rfl rfl).trans (mm_ite ?_ ?_)
    · refine (mm_by 2 (pc' := 125) (ls' := [.ref 264, .null]) (st' := [.int 42, .ref 264]) (h' := h20) rfl).trans ?_
      refine (mm_c1 (y := 198) (as := [.ref 264, .int 42]) (nx := 128) (rest := []) rfl rfl).trans (mm_congI fun v23 h22 => ?_)
      refine (mm_br (c := ¬ v23 = 0) (p1 := 140) (p2 := 131) (l1 := [.ref 264, .null]) (l2 := [.ref 264, .null]) (s1 := []) (s2 := []) (h1 := h22) (h2 := h22) rfl rfl).trans (mm_ite ?_ ?_)
      · refine (mm_by 6 (pc' := 150) (ls' := [.ref 264, .null]) (st' := [.int ((h22.1 264 2) - 1), .ref 265]) (h' := h22) rfl).trans ?_
        refine (mm_gd (c := ((h22.1 264 2) - 1) < 0 ∨ 1600 ≤ ((h22.1 264 2) - 1).toNatClampNeg) (p1 := 151) (l1 := [.ref 264, .null]) (s1 := [.int (h22.1 265 ((h22.1 264 2) - 1).toNatClampNeg)]) (h1 := h22) rfl (q_iald (n := 1600) rfl)).trans (mm_ite rfl ?_)
        refine (mm_by 1 (pc' := 153) (ls' := [.ref 264, .null]) (st' := [.int 42, .int (h22.1 265 ((h22.1 264 2) - 1).toNatClampNeg)]) (h' := h22) rfl).trans ?_
        refine (mm_br (c := ¬ (h22.1 265 ((h22.1 264 2) - 1).toNatClampNeg) = 42) (p1 := 160) (p2 := 156) (l1 := [.ref 264, .null]) (l2 := [.ref 264, .null]) (s1 := []) (s2 := []) (h1 := h22) (h2 := h22) rfl rfl).trans (mm_ite ?_ ?_)
        · exact mm_by 2 rfl
        · exact mm_by 3 rfl
      · refine (mm_by 2 (pc' := 134) (ls' := [.ref 264, .null]) (st' := [.int 47, .ref 264]) (h' := h22) rfl).trans ?_
        refine (mm_c1 (y := 198) (as := [.ref 264, .int 47]) (nx := 137) (rest := []) rfl rfl).trans (mm_congI fun v25 h24 => ?_)
        refine (mm_br (c := v25 = 0) (p1 := 207) (p2 := 140) (l1 := [.ref 264, .null]) (l2 := [.ref 264, .null]) (s1 := []) (s2 := []) (h1 := h24) (h2 := h24) rfl rfl).trans (mm_ite ?_ ?_)
        · refine (mm_by 2 (pc' := 210) (ls' := [.ref 264, .null]) (st' := [.int 43, .ref 264]) (h' := h24) rfl).trans ?_
          refine (mm_c1 (y := 198) (as := [.ref 264, .int 43]) (nx := 213) (rest := []) rfl rfl).trans (mm_congI fun v27 h26 => ?_)
          refine (mm_br (c := ¬ v27 = 0) (p1 := 225) (p2 := 216) (l1 := [.ref 264, .null]) (l2 := [.ref 264, .null]) (s1 := []) (s2 := []) (h1 := h26) (h2 := h26) rfl rfl).trans (mm_ite ?_ ?_)
          · refine (mm_by 6 (pc' := 235) (ls' := [.ref 264, .null]) (st' := [.int ((h26.1 264 2) - 1), .ref 265]) (h' := h26) rfl).trans ?_
            refine (mm_gd (c := ((h26.1 264 2) - 1) < 0 ∨ 1600 ≤ ((h26.1 264 2) - 1).toNatClampNeg) (p1 := 236) (l1 := [.ref 264, .null]) (s1 := [.int (h26.1 265 ((h26.1 264 2) - 1).toNatClampNeg)]) (h1 := h26) rfl (q_iald (n := 1600) rfl)).trans (mm_ite rfl ?_)
            refine (mm_by 1 (pc' := 238) (ls' := [.ref 264, .null]) (st' := [.int 43, .int (h26.1 265 ((h26.1 264 2) - 1).toNatClampNeg)]) (h' := h26) rfl).trans ?_
            refine (mm_br (c := ¬ (h26.1 265 ((h26.1 264 2) - 1).toNatClampNeg) = 43) (p1 := 245) (p2 := 241) (l1 := [.ref 264, .null]) (l2 := [.ref 264, .null]) (s1 := []) (s2 := []) (h1 := h26) (h2 := h26) rfl rfl).trans (mm_ite ?_ ?_)
            · exact mm_by 2 rfl
            · exact mm_by 3 rfl
          · refine (mm_by 2 (pc' := 219) (ls' := [.ref 264, .null]) (st' := [.int 45, .ref 264]) (h' := h26) rfl).trans ?_
            refine (mm_c1 (y := 198) (as := [.ref 264, .int 45]) (nx := 222) (rest := []) rfl rfl).trans (mm_congI fun v29 h28 => ?_)
            refine (mm_br (c := v29 = 0) (p1 := 308) (p2 := 225) (l1 := [.ref 264, .null]) (l2 := [.ref 264, .null]) (s1 := []) (s2 := []) (h1 := h28) (h2 := h28) rfl rfl).trans (mm_ite ?_ ?_)
            · refine (mm_by 1 (pc' := 309) (ls' := [.ref 264, .null]) (st' := [.ref 264]) (h' := h28) rfl).trans ?_
              refine (mm_c1 (y := 290) (as := [.ref 264]) (nx := 312) (rest := []) rfl rfl).trans (mm_congI fun v31 h30 => ?_)
              refine (mm_by 1 (pc' := 314) (ls' := [.ref 264, .null]) (st' := [.int 21, .int v31]) (h' := h30) rfl).trans ?_
              refine (mm_br (c := v31 = 21) (p1 := 326) (p2 := 317) (l1 := [.ref 264, .null]) (l2 := [.ref 264, .null]) (s1 := []) (s2 := []) (h1 := h30) (h2 := h30) rfl rfl).trans (mm_ite ?_ ?_)
              · refine (mm_by 2 (pc' := 329) (ls' := [.ref 264, .null]) (st' := [.int 44, .ref 264]) (h' := h30) rfl).trans ?_
                refine (mm_c0 (y := 199) (as := [.ref 264, .int 44]) (nx := 332) (rest := []) rfl rfl).trans (mm_congV fun h32 => ?_)
                refine (mm_by 2 (pc' := 336) (ls' := [.ref 264, .null]) (st' := [.int (h32.1 264 5)]) (h' := h32) rfl).trans ?_
                refine (mm_br (c := (h32.1 264 5) = 0) (p1 := 341) (p2 := 339) (l1 := [.ref 264, .null]) (l2 := [.ref 264, .null]) (s1 := []) (s2 := []) (h1 := h32) (h2 := h32) rfl rfl).trans (mm_ite ?_ ?_)
                · refine (mm_by 1 (pc' := 342) (ls' := [.ref 264, .null]) (st' := [.ref 264]) (h' := h32) rfl).trans ?_
                  refine (mm_c0 (y := 291) (as := [.ref 264]) (nx := 345) (rest := []) rfl rfl).trans (mm_congV fun h33 => ?_)
                  refine (mm_by 7 (pc' := 356) (ls' := [.ref 264, .null]) (st' := [.int ((h33.1 264 104) - 1), .ref 333, .int ((h33.1 264 104) - 1), .ref 333]) (h' := h33) rfl).trans ?_
                  refine (mm_gd (c := ((h33.1 264 104) - 1) < 0 ∨ 1700 ≤ ((h33.1 264 104) - 1).toNatClampNeg) (p1 := 357) (l1 := [.ref 264, .null]) (s1 := [.int (h33.1 333 ((h33.1 264 104) - 1).toNatClampNeg), .int ((h33.1 264 104) - 1), .ref 333]) (h1 := h33) rfl (q_iald (n := 1700) rfl)).trans (mm_ite rfl ?_)
                  refine (mm_by 2 (pc' := 359) (ls' := [.ref 264, .null]) (st' := [.int ((h33.1 333 ((h33.1 264 104) - 1).toNatClampNeg) + 2), .int ((h33.1 264 104) - 1), .ref 333]) (h' := h33) rfl).trans ?_
                  refine (mm_gd (c := ((h33.1 264 104) - 1) < 0 ∨ 1700 ≤ ((h33.1 264 104) - 1).toNatClampNeg) (p1 := 360) (l1 := [.ref 264, .null]) (s1 := []) (h1 := wI h33 333 (((h33.1 264 104) - 1).toNatClampNeg) ((h33.1 333 ((h33.1 264 104) - 1).toNatClampNeg) + 2)) rfl (q_iast (n := 1700) rfl)).trans (mm_ite rfl ?_)
                  exact mm_by_end 2 rfl
                · exact mm_by_end 2 rfl
              · refine (mm_by 1 (pc' := 318) (ls' := [.ref 264, .null]) (st' := [.ref 264]) (h' := h30) rfl).trans ?_
                refine (mm_c1 (y := 290) (as := [.ref 264]) (nx := 321) (rest := []) rfl rfl).trans (mm_congI fun v35 h34 => ?_)
                refine (mm_by 1 (pc' := 323) (ls' := [.ref 264, .null]) (st' := [.int 22, .int v35]) (h' := h34) rfl).trans ?_
                refine (mm_br (c := ¬ v35 = 22) (p1 := 362) (p2 := 326) (l1 := [.ref 264, .null]) (l2 := [.ref 264, .null]) (s1 := []) (s2 := []) (h1 := h34) (h2 := h34) rfl rfl).trans (mm_ite ?_ ?_)
                · refine (mm_by 1 (pc' := 363) (ls' := [.ref 264, .null]) (st' := [.ref 264]) (h' := h34) rfl).trans ?_
                  refine (mm_c1 (y := 290) (as := [.ref 264]) (nx := 366) (rest := []) rfl rfl).trans (mm_congI fun v37 h36 => ?_)
                  refine (mm_by 1 (pc' := 367) (ls' := [.ref 264, .null]) (st' := [.int ((-1)), .int v37]) (h' := h36) rfl).trans ?_
                  refine (mm_br (c := v37 = ((-1))) (p1 := 386) (p2 := 370) (l1 := [.ref 264, .null]) (l2 := [.ref 264, .null]) (s1 := []) (s2 := []) (h1 := h36) (h2 := h36) rfl rfl).trans (mm_ite ?_ ?_)
                  · exact mm_by_end 2 rfl
                  · refine (mm_by 2 (pc' := 374) (ls' := [.ref 264, .null]) (st' := [.int (h36.1 264 5)]) (h' := h36) rfl).trans ?_
                    refine (mm_br (c := ¬ (h36.1 264 5) = 0) (p1 := 386) (p2 := 377) (l1 := [.ref 264, .null]) (l2 := [.ref 264, .null]) (s1 := []) (s2 := []) (h1 := h36) (h2 := h36) rfl rfl).trans (mm_ite ?_ ?_)
                    · exact mm_by_end 2 rfl
                    · refine (mm_by 4 (pc' := 383) (ls' := [.ref 264, .null]) (st' := [.int (h36.1 264 2), .int 1, .ref 264]) (h' := h36) rfl).trans ?_
                      refine (mm_c0 (y := 191) (as := [.ref 264, .int 1, .int (h36.1 264 2)]) (nx := 386) (rest := []) rfl rfl).trans (mm_congV fun h38 => ?_)
                      exact mm_by_end 2 rfl
                · refine (mm_by 2 (pc' := 329) (ls' := [.ref 264, .null]) (st' := [.int 44, .ref 264]) (h' := h34) rfl).trans ?_
                  refine (mm_c0 (y := 199) (as := [.ref 264, .int 44]) (nx := 332) (rest := []) rfl rfl).trans (mm_congV fun h39 => ?_)
                  refine (mm_by 2 (pc' := 336) (ls' := [.ref 264, .null]) (st' := [.int (h39.1 264 5)]) (h' := h39) rfl).trans ?_
                  refine (mm_br (c := (h39.1 264 5) = 0) (p1 := 341) (p2 := 339) (l1 := [.ref 264, .null]) (l2 := [.ref 264, .null]) (s1 := []) (s2 := []) (h1 := h39) (h2 := h39) rfl rfl).trans (mm_ite ?_ ?_)
                  · refine (mm_by 1 (pc' := 342) (ls' := [.ref 264, .null]) (st' := [.ref 264]) (h' := h39) rfl).trans ?_
                    refine (mm_c0 (y := 291) (as := [.ref 264]) (nx := 345) (rest := []) rfl rfl).trans (mm_congV fun h40 => ?_)
                    refine (mm_by 7 (pc' := 356) (ls' := [.ref 264, .null]) (st' := [.int ((h40.1 264 104) - 1), .ref 333, .int ((h40.1 264 104) - 1), .ref 333]) (h' := h40) rfl).trans ?_
                    refine (mm_gd (c := ((h40.1 264 104) - 1) < 0 ∨ 1700 ≤ ((h40.1 264 104) - 1).toNatClampNeg) (p1 := 357) (l1 := [.ref 264, .null]) (s1 := [.int (h40.1 333 ((h40.1 264 104) - 1).toNatClampNeg), .int ((h40.1 264 104) - 1), .ref 333]) (h1 := h40) rfl (q_iald (n := 1700) rfl)).trans (mm_ite rfl ?_)
                    refine (mm_by 2 (pc' := 359) (ls' := [.ref 264, .null]) (st' := [.int ((h40.1 333 ((h40.1 264 104) - 1).toNatClampNeg) + 2), .int ((h40.1 264 104) - 1), .ref 333]) (h' := h40) rfl).trans ?_
                    refine (mm_gd (c := ((h40.1 264 104) - 1) < 0 ∨ 1700 ≤ ((h40.1 264 104) - 1).toNatClampNeg) (p1 := 360) (l1 := [.ref 264, .null]) (s1 := []) (h1 := wI h40 333 (((h40.1 264 104) - 1).toNatClampNeg) ((h40.1 333 ((h40.1 264 104) - 1).toNatClampNeg) + 2)) rfl (q_iast (n := 1700) rfl)).trans (mm_ite rfl ?_)
                    exact mm_by_end 2 rfl
                  · exact mm_by_end 2 rfl
            · refine (mm_by 6 (pc' := 235) (ls' := [.ref 264, .null]) (st' := [.int ((h28.1 264 2) - 1), .ref 265]) (h' := h28) rfl).trans ?_
              refine (mm_gd (c := ((h28.1 264 2) - 1) < 0 ∨ 1600 ≤ ((h28.1 264 2) - 1).toNatClampNeg) (p1 := 236) (l1 := [.ref 264, .null]) (s1 := [.int (h28.1 265 ((h28.1 264 2) - 1).toNatClampNeg)]) (h1 := h28) rfl (q_iald (n := 1600) rfl)).trans (mm_ite rfl ?_)
              refine (mm_by 1 (pc' := 238) (ls' := [.ref 264, .null]) (st' := [.int 43, .int (h28.1 265 ((h28.1 264 2) - 1).toNatClampNeg)]) (h' := h28) rfl).trans ?_
              refine (mm_br (c := ¬ (h28.1 265 ((h28.1 264 2) - 1).toNatClampNeg) = 43) (p1 := 245) (p2 := 241) (l1 := [.ref 264, .null]) (l2 := [.ref 264, .null]) (s1 := []) (s2 := []) (h1 := h28) (h2 := h28) rfl rfl).trans (mm_ite ?_ ?_)
              · exact mm_by 2 rfl
              · exact mm_by 3 rfl
        · refine (mm_by 6 (pc' := 150) (ls' := [.ref 264, .null]) (st' := [.int ((h24.1 264 2) - 1), .ref 265]) (h' := h24) rfl).trans ?_
          refine (mm_gd (c := ((h24.1 264 2) - 1) < 0 ∨ 1600 ≤ ((h24.1 264 2) - 1).toNatClampNeg) (p1 := 151) (l1 := [.ref 264, .null]) (s1 := [.int (h24.1 265 ((h24.1 264 2) - 1).toNatClampNeg)]) (h1 := h24) rfl (q_iald (n := 1600) rfl)).trans (mm_ite rfl ?_)
          refine (mm_by 1 (pc' := 153) (ls' := [.ref 264, .null]) (st' := [.int 42, .int (h24.1 265 ((h24.1 264 2) - 1).toNatClampNeg)]) (h' := h24) rfl).trans ?_
          refine (mm_br (c := ¬ (h24.1 265 ((h24.1 264 2) - 1).toNatClampNeg) = 42) (p1 := 160) (p2 := 156) (l1 := [.ref 264, .null]) (l2 := [.ref 264, .null]) (s1 := []) (s2 := []) (h1 := h24) (h2 := h24) rfl rfl).trans (mm_ite ?_ ?_)
          · exact mm_by 2 rfl
          · exact mm_by 3 rfl
    · refine (mm_by 1 (pc' := 17) (ls' := [.ref 264, .null]) (st' := [.ref 264]) (h' := h20) rfl).trans ?_
      refine (mm_c1 (y := 290) (as := [.ref 264]) (nx := 20) (rest := []) rfl rfl).trans (mm_congI fun v42 h41 => ?_)
      refine (mm_by 1 (pc' := 22) (ls' := [.ref 264, .null]) (st' := [.int 20, .int v42]) (h' := h41) rfl).trans ?_
      refine (mm_br (c := v42 = 20) (p1 := 43) (p2 := 25) (l1 := [.ref 264, .null]) (l2 := [.ref 264, .null]) (s1 := []) (s2 := []) (h1 := h41) (h2 := h41) rfl rfl).trans (mm_ite ?_ ?_)
      · refine (mm_by 7 (pc' := 54) (ls' := [.ref 264, .null]) (st' := [.ref 264]) (h' := wI h41 264 2 ((h41.1 264 2) + 1)) rfl).trans ?_
        refine (mm_c0 (y := 291) (as := [.ref 264]) (nx := 57) (rest := []) rfl rfl).trans (mm_congV fun h43 => ?_)
        refine (mm_by 16 (pc' := 85) (ls' := [.ref 264, .null]) (st' := [.int ((wI (wI h43 264 104 ((h43.1 264 104) - 1)) 264 105 (((wI h43 264 104 ((h43.1 264 104) - 1)).1 264 105) - 1)).1 264 104), .ref 333]) (h' := wI (wI h43 264 104 ((h43.1 264 104) - 1)) 264 105 (((wI h43 264 104 ((h43.1 264 104) - 1)).1 264 105) - 1)) rfl).trans ?_
        refine (mm_gd (c := ((wI (wI h43 264 104 ((h43.1 264 104) - 1)) 264 105 (((wI h43 264 104 ((h43.1 264 104) - 1)).1 264 105) - 1)).1 264 104) < 0 ∨ 1700 ≤ ((wI (wI h43 264 104 ((h43.1 264 104) - 1)) 264 105 (((wI h43 264 104 ((h43.1 264 104) - 1)).1 264 105) - 1)).1 264 104).toNatClampNeg) (p1 := 86) (l1 := [.ref 264, .null]) (s1 := [.int ((wI (wI h43 264 104 ((h43.1 264 104) - 1)) 264 105 (((wI h43 264 104 ((h43.1 264 104) - 1)).1 264 105) - 1)).1 333 ((wI (wI h43 264 104 ((h43.1 264 104) - 1)) 264 105 (((wI h43 264 104 ((h43.1 264 104) - 1)).1 264 105) - 1)).1 264 104).toNatClampNeg)]) (h1 := wI (wI h43 264 104 ((h43.1 264 104) - 1)) 264 105 (((wI h43 264 104 ((h43.1 264 104) - 1)).1 264 105) - 1)) rfl (q_iald (n := 1700) rfl)).trans (mm_ite rfl ?_)
        refine (mm_by 1 (pc' := 88) (ls' := [.ref 264, .null]) (st' := [.int 20, .int ((wI (wI h43 264 104 ((h43.1 264 104) - 1)) 264 105 (((wI h43 264 104 ((h43.1 264 104) - 1)).1 264 105) - 1)).1 333 ((wI (wI h43 264 104 ((h43.1 264 104) - 1)) 264 105 (((wI h43 264 104 ((h43.1 264 104) - 1)).1 264 105) - 1)).1 264 104).toNatClampNeg)]) (h' := wI (wI h43 264 104 ((h43.1 264 104) - 1)) 264 105 (((wI h43 264 104 ((h43.1 264 104) - 1)).1 264 105) - 1)) rfl).trans ?_
        refine (mm_br (c := ((wI (wI h43 264 104 ((h43.1 264 104) - 1)) 264 105 (((wI h43 264 104 ((h43.1 264 104) - 1)).1 264 105) - 1)).1 333 ((wI (wI h43 264 104 ((h43.1 264 104) - 1)) 264 105 (((wI h43 264 104 ((h43.1 264 104) - 1)).1 264 105) - 1)).1 264 104).toNatClampNeg) = 20) (p1 := 115) (p2 := 91) (l1 := [.ref 264, .null]) (l2 := [.ref 264, .null]) (s1 := []) (s2 := []) (h1 := wI (wI h43 264 104 ((h43.1 264 104) - 1)) 264 105 (((wI h43 264 104 ((h43.1 264 104) - 1)).1 264 105) - 1)) (h2 := wI (wI h43 264 104 ((h43.1 264 104) - 1)) 264 105 (((wI h43 264 104 ((h43.1 264 104) - 1)).1 264 105) - 1)) rfl rfl).trans (mm_ite ?_ ?_)
        · refine (mm_by 1 (pc' := 116) (ls' := [.ref 264, .null]) (st' := [.ref 264]) (h' := wI (wI h43 264 104 ((h43.1 264 104) - 1)) 264 105 (((wI h43 264 104 ((h43.1 264 104) - 1)).1 264 105) - 1)) rfl).trans ?_
          refine (mm_c0 (y := 295) (as := [.ref 264]) (nx := 119) (rest := []) rfl rfl).trans (mm_congV fun h44 => ?_)
          exact mm_by 1 rfl
        · refine (mm_by 5 (pc' := 100) (ls' := [.ref 264, .null]) (st' := [.int ((wI (wI h43 264 104 ((h43.1 264 104) - 1)) 264 105 (((wI h43 264 104 ((h43.1 264 104) - 1)).1 264 105) - 1)).1 264 104), .ref 333, .ref 264]) (h' := wI (wI h43 264 104 ((h43.1 264 104) - 1)) 264 105 (((wI h43 264 104 ((h43.1 264 104) - 1)).1 264 105) - 1)) rfl).trans ?_
          refine (mm_gd (c := ((wI (wI h43 264 104 ((h43.1 264 104) - 1)) 264 105 (((wI h43 264 104 ((h43.1 264 104) - 1)).1 264 105) - 1)).1 264 104) < 0 ∨ 1700 ≤ ((wI (wI h43 264 104 ((h43.1 264 104) - 1)) 264 105 (((wI h43 264 104 ((h43.1 264 104) - 1)).1 264 105) - 1)).1 264 104).toNatClampNeg) (p1 := 101) (l1 := [.ref 264, .null]) (s1 := [.int ((wI (wI h43 264 104 ((h43.1 264 104) - 1)) 264 105 (((wI h43 264 104 ((h43.1 264 104) - 1)).1 264 105) - 1)).1 333 ((wI (wI h43 264 104 ((h43.1 264 104) - 1)) 264 105 (((wI h43 264 104 ((h43.1 264 104) - 1)).1 264 105) - 1)).1 264 104).toNatClampNeg), .ref 264]) (h1 := wI (wI h43 264 104 ((h43.1 264 104) - 1)) 264 105 (((wI h43 264 104 ((h43.1 264 104) - 1)).1 264 105) - 1)) rfl (q_iald (n := 1700) rfl)).trans (mm_ite rfl ?_)
          refine (mm_by 1 (pc' := 103) (ls' := [.ref 264, .null]) (st' := [.int 23, .int ((wI (wI h43 264 104 ((h43.1 264 104) - 1)) 264 105 (((wI h43 264 104 ((h43.1 264 104) - 1)).1 264 105) - 1)).1 333 ((wI (wI h43 264 104 ((h43.1 264 104) - 1)) 264 105 (((wI h43 264 104 ((h43.1 264 104) - 1)).1 264 105) - 1)).1 264 104).toNatClampNeg), .ref 264]) (h' := wI (wI h43 264 104 ((h43.1 264 104) - 1)) 264 105 (((wI h43 264 104 ((h43.1 264 104) - 1)).1 264 105) - 1)) rfl).trans ?_
          refine (mm_br (c := ¬ ((wI (wI h43 264 104 ((h43.1 264 104) - 1)) 264 105 (((wI h43 264 104 ((h43.1 264 104) - 1)).1 264 105) - 1)).1 333 ((wI (wI h43 264 104 ((h43.1 264 104) - 1)) 264 105 (((wI h43 264 104 ((h43.1 264 104) - 1)).1 264 105) - 1)).1 264 104).toNatClampNeg) = 23) (p1 := 110) (p2 := 106) (l1 := [.ref 264, .null]) (l2 := [.ref 264, .null]) (s1 := [.ref 264]) (s2 := [.ref 264]) (h1 := wI (wI h43 264 104 ((h43.1 264 104) - 1)) 264 105 (((wI h43 264 104 ((h43.1 264 104) - 1)).1 264 105) - 1)) (h2 := wI (wI h43 264 104 ((h43.1 264 104) - 1)) 264 105 (((wI h43 264 104 ((h43.1 264 104) - 1)).1 264 105) - 1)) rfl rfl).trans (mm_ite ?_ ?_)
          · refine (mm_by 1 (pc' := 112) (ls' := [.ref 264, .null]) (st' := [.int 6, .ref 264]) (h' := wI (wI h43 264 104 ((h43.1 264 104) - 1)) 264 105 (((wI h43 264 104 ((h43.1 264 104) - 1)).1 264 105) - 1)) rfl).trans ?_
            refine (mm_c0 (y := 285) (as := [.ref 264, .int 6]) (nx := 115) (rest := []) rfl rfl).trans (mm_congV fun h45 => ?_)
            refine (mm_by 1 (pc' := 116) (ls' := [.ref 264, .null]) (st' := [.ref 264]) (h' := h45) rfl).trans ?_
            refine (mm_c0 (y := 295) (as := [.ref 264]) (nx := 119) (rest := []) rfl rfl).trans (mm_congV fun h46 => ?_)
            exact mm_by 1 rfl
          · refine (mm_by 2 (pc' := 112) (ls' := [.ref 264, .null]) (st' := [.int 5, .ref 264]) (h' := wI (wI h43 264 104 ((h43.1 264 104) - 1)) 264 105 (((wI h43 264 104 ((h43.1 264 104) - 1)).1 264 105) - 1)) rfl).trans ?_
            refine (mm_c0 (y := 285) (as := [.ref 264, .int 5]) (nx := 115) (rest := []) rfl rfl).trans (mm_congV fun h47 => ?_)
            refine (mm_by 1 (pc' := 116) (ls' := [.ref 264, .null]) (st' := [.ref 264]) (h' := h47) rfl).trans ?_
            refine (mm_c0 (y := 295) (as := [.ref 264]) (nx := 119) (rest := []) rfl rfl).trans (mm_congV fun h48 => ?_)
            exact mm_by 1 rfl
      · refine (mm_by 1 (pc' := 26) (ls' := [.ref 264, .null]) (st' := [.ref 264]) (h' := h41) rfl).trans ?_
        refine (mm_c1 (y := 290) (as := [.ref 264]) (nx := 29) (rest := []) rfl rfl).trans (mm_congI fun v50 h49 => ?_)
        refine (mm_by 1 (pc' := 31) (ls' := [.ref 264, .null]) (st' := [.int 23, .int v50]) (h' := h49) rfl).trans ?_
        refine (mm_br (c := v50 = 23) (p1 := 43) (p2 := 34) (l1 := [.ref 264, .null]) (l2 := [.ref 264, .null]) (s1 := []) (s2 := []) (h1 := h49) (h2 := h49) rfl rfl).trans (mm_ite ?_ ?_)
        · refine (mm_by 7 (pc' := 54) (ls' := [.ref 264, .null]) (st' := [.ref 264]) (h' := wI h49 264 2 ((h49.1 264 2) + 1)) rfl).trans ?_
          refine (mm_c0 (y := 291) (as := [.ref 264]) (nx := 57) (rest := []) rfl rfl).trans (mm_congV fun h51 => ?_)
          refine (mm_by 16 (pc' := 85) (ls' := [.ref 264, .null]) (st' := [.int ((wI (wI h51 264 104 ((h51.1 264 104) - 1)) 264 105 (((wI h51 264 104 ((h51.1 264 104) - 1)).1 264 105) - 1)).1 264 104), .ref 333]) (h' := wI (wI h51 264 104 ((h51.1 264 104) - 1)) 264 105 (((wI h51 264 104 ((h51.1 264 104) - 1)).1 264 105) - 1)) rfl).trans ?_
          refine (mm_gd (c := ((wI (wI h51 264 104 ((h51.1 264 104) - 1)) 264 105 (((wI h51 264 104 ((h51.1 264 104) - 1)).1 264 105) - 1)).1 264 104) < 0 ∨ 1700 ≤ ((wI (wI h51 264 104 ((h51.1 264 104) - 1)) 264 105 (((wI h51 264 104 ((h51.1 264 104) - 1)).1 264 105) - 1)).1 264 104).toNatClampNeg) (p1 := 86) (l1 := [.ref 264, .null]) (s1 := [.int ((wI (wI h51 264 104 ((h51.1 264 104) - 1)) 264 105 (((wI h51 264 104 ((h51.1 264 104) - 1)).1 264 105) - 1)).1 333 ((wI (wI h51 264 104 ((h51.1 264 104) - 1)) 264 105 (((wI h51 264 104 ((h51.1 264 104) - 1)).1 264 105) - 1)).1 264 104).toNatClampNeg)]) (h1 := wI (wI h51 264 104 ((h51.1 264 104) - 1)) 264 105 (((wI h51 264 104 ((h51.1 264 104) - 1)).1 264 105) - 1)) rfl (q_iald (n := 1700) rfl)).trans (mm_ite rfl ?_)
          refine (mm_by 1 (pc' := 88) (ls' := [.ref 264, .null]) (st' := [.int 20, .int ((wI (wI h51 264 104 ((h51.1 264 104) - 1)) 264 105 (((wI h51 264 104 ((h51.1 264 104) - 1)).1 264 105) - 1)).1 333 ((wI (wI h51 264 104 ((h51.1 264 104) - 1)) 264 105 (((wI h51 264 104 ((h51.1 264 104) - 1)).1 264 105) - 1)).1 264 104).toNatClampNeg)]) (h' := wI (wI h51 264 104 ((h51.1 264 104) - 1)) 264 105 (((wI h51 264 104 ((h51.1 264 104) - 1)).1 264 105) - 1)) rfl).trans ?_
          refine (mm_br (c := ((wI (wI h51 264 104 ((h51.1 264 104) - 1)) 264 105 (((wI h51 264 104 ((h51.1 264 104) - 1)).1 264 105) - 1)).1 333 ((wI (wI h51 264 104 ((h51.1 264 104) - 1)) 264 105 (((wI h51 264 104 ((h51.1 264 104) - 1)).1 264 105) - 1)).1 264 104).toNatClampNeg) = 20) (p1 := 115) (p2 := 91) (l1 := [.ref 264, .null]) (l2 := [.ref 264, .null]) (s1 := []) (s2 := []) (h1 := wI (wI h51 264 104 ((h51.1 264 104) - 1)) 264 105 (((wI h51 264 104 ((h51.1 264 104) - 1)).1 264 105) - 1)) (h2 := wI (wI h51 264 104 ((h51.1 264 104) - 1)) 264 105 (((wI h51 264 104 ((h51.1 264 104) - 1)).1 264 105) - 1)) rfl rfl).trans (mm_ite ?_ ?_)
          · refine (mm_by 1 (pc' := 116) (ls' := [.ref 264, .null]) (st' := [.ref 264]) (h' := wI (wI h51 264 104 ((h51.1 264 104) - 1)) 264 105 (((wI h51 264 104 ((h51.1 264 104) - 1)).1 264 105) - 1)) rfl).trans ?_
            refine (mm_c0 (y := 295) (as := [.ref 264]) (nx := 119) (rest := []) rfl rfl).trans (mm_congV fun h52 => ?_)
            exact mm_by 1 rfl
          · refine (mm_by 5 (pc' := 100) (ls' := [.ref 264, .null]) (st' := [.int ((wI (wI h51 264 104 ((h51.1 264 104) - 1)) 264 105 (((wI h51 264 104 ((h51.1 264 104) - 1)).1 264 105) - 1)).1 264 104), .ref 333, .ref 264]) (h' := wI (wI h51 264 104 ((h51.1 264 104) - 1)) 264 105 (((wI h51 264 104 ((h51.1 264 104) - 1)).1 264 105) - 1)) rfl).trans ?_
            refine (mm_gd (c := ((wI (wI h51 264 104 ((h51.1 264 104) - 1)) 264 105 (((wI h51 264 104 ((h51.1 264 104) - 1)).1 264 105) - 1)).1 264 104) < 0 ∨ 1700 ≤ ((wI (wI h51 264 104 ((h51.1 264 104) - 1)) 264 105 (((wI h51 264 104 ((h51.1 264 104) - 1)).1 264 105) - 1)).1 264 104).toNatClampNeg) (p1 := 101) (l1 := [.ref 264, .null]) (s1 := [.int ((wI (wI h51 264 104 ((h51.1 264 104) - 1)) 264 105 (((wI h51 264 104 ((h51.1 264 104) - 1)).1 264 105) - 1)).1 333 ((wI (wI h51 264 104 ((h51.1 264 104) - 1)) 264 105 (((wI h51 264 104 ((h51.1 264 104) - 1)).1 264 105) - 1)).1 264 104).toNatClampNeg), .ref 264]) (h1 := wI (wI h51 264 104 ((h51.1 264 104) - 1)) 264 105 (((wI h51 264 104 ((h51.1 264 104) - 1)).1 264 105) - 1)) rfl (q_iald (n := 1700) rfl)).trans (mm_ite rfl ?_)
            refine (mm_by 1 (pc' := 103) (ls' := [.ref 264, .null]) (st' := [.int 23, .int ((wI (wI h51 264 104 ((h51.1 264 104) - 1)) 264 105 (((wI h51 264 104 ((h51.1 264 104) - 1)).1 264 105) - 1)).1 333 ((wI (wI h51 264 104 ((h51.1 264 104) - 1)) 264 105 (((wI h51 264 104 ((h51.1 264 104) - 1)).1 264 105) - 1)).1 264 104).toNatClampNeg), .ref 264]) (h' := wI (wI h51 264 104 ((h51.1 264 104) - 1)) 264 105 (((wI h51 264 104 ((h51.1 264 104) - 1)).1 264 105) - 1)) rfl).trans ?_
            refine (mm_br (c := ¬ ((wI (wI h51 264 104 ((h51.1 264 104) - 1)) 264 105 (((wI h51 264 104 ((h51.1 264 104) - 1)).1 264 105) - 1)).1 333 ((wI (wI h51 264 104 ((h51.1 264 104) - 1)) 264 105 (((wI h51 264 104 ((h51.1 264 104) - 1)).1 264 105) - 1)).1 264 104).toNatClampNeg) = 23) (p1 := 110) (p2 := 106) (l1 := [.ref 264, .null]) (l2 := [.ref 264, .null]) (s1 := [.ref 264]) (s2 := [.ref 264]) (h1 := wI (wI h51 264 104 ((h51.1 264 104) - 1)) 264 105 (((wI h51 264 104 ((h51.1 264 104) - 1)).1 264 105) - 1)) (h2 := wI (wI h51 264 104 ((h51.1 264 104) - 1)) 264 105 (((wI h51 264 104 ((h51.1 264 104) - 1)).1 264 105) - 1)) rfl rfl).trans (mm_ite ?_ ?_)
            · refine (mm_by 1 (pc' := 112) (ls' := [.ref 264, .null]) (st' := [.int 6, .ref 264]) (h' := wI (wI h51 264 104 ((h51.1 264 104) - 1)) 264 105 (((wI h51 264 104 ((h51.1 264 104) - 1)).1 264 105) - 1)) rfl).trans ?_
              refine (mm_c0 (y := 285) (as := [.ref 264, .int 6]) (nx := 115) (rest := []) rfl rfl).trans (mm_congV fun h53 => ?_)
              refine (mm_by 1 (pc' := 116) (ls' := [.ref 264, .null]) (st' := [.ref 264]) (h' := h53) rfl).trans ?_
              refine (mm_c0 (y := 295) (as := [.ref 264]) (nx := 119) (rest := []) rfl rfl).trans (mm_congV fun h54 => ?_)
              exact mm_by 1 rfl
            · refine (mm_by 2 (pc' := 112) (ls' := [.ref 264, .null]) (st' := [.int 5, .ref 264]) (h' := wI (wI h51 264 104 ((h51.1 264 104) - 1)) 264 105 (((wI h51 264 104 ((h51.1 264 104) - 1)).1 264 105) - 1)) rfl).trans ?_
              refine (mm_c0 (y := 285) (as := [.ref 264, .int 5]) (nx := 115) (rest := []) rfl rfl).trans (mm_congV fun h55 => ?_)
              refine (mm_by 1 (pc' := 116) (ls' := [.ref 264, .null]) (st' := [.ref 264]) (h' := h55) rfl).trans ?_
              refine (mm_c0 (y := 295) (as := [.ref 264]) (nx := 119) (rest := []) rfl rfl).trans (mm_congV fun h56 => ?_)
              exact mm_by 1 rfl
        · refine (mm_by 1 (pc' := 35) (ls' := [.ref 264, .null]) (st' := [.ref 264]) (h' := h49) rfl).trans ?_
          refine (mm_c1 (y := 290) (as := [.ref 264]) (nx := 38) (rest := []) rfl rfl).trans (mm_congI fun v58 h57 => ?_)
          refine (mm_by 1 (pc' := 40) (ls' := [.ref 264, .null]) (st' := [.int 24, .int v58]) (h' := h57) rfl).trans ?_
          refine (mm_br (c := ¬ v58 = 24) (p1 := 122) (p2 := 43) (l1 := [.ref 264, .null]) (l2 := [.ref 264, .null]) (s1 := []) (s2 := []) (h1 := h57) (h2 := h57) rfl rfl).trans (mm_ite ?_ ?_)
          · refine (mm_by 2 (pc' := 125) (ls' := [.ref 264, .null]) (st' := [.int 42, .ref 264]) (h' := h57) rfl).trans ?_
            refine (mm_c1 (y := 198) (as := [.ref 264, .int 42]) (nx := 128) (rest := []) rfl rfl).trans (mm_congI fun v60 h59 => ?_)
            refine (mm_br (c := ¬ v60 = 0) (p1 := 140) (p2 := 131) (l1 := [.ref 264, .null]) (l2 := [.ref 264, .null]) (s1 := []) (s2 := []) (h1 := h59) (h2 := h59) rfl rfl).trans (mm_ite ?_ ?_)
            · refine (mm_by 6 (pc' := 150) (ls' := [.ref 264, .null]) (st' := [.int ((h59.1 264 2) - 1), .ref 265]) (h' := h59) rfl).trans ?_
              refine (mm_gd (c := ((h59.1 264 2) - 1) < 0 ∨ 1600 ≤ ((h59.1 264 2) - 1).toNatClampNeg) (p1 := 151) (l1 := [.ref 264, .null]) (s1 := [.int (h59.1 265 ((h59.1 264 2) - 1).toNatClampNeg)]) (h1 := h59) rfl (q_iald (n := 1600) rfl)).trans (mm_ite rfl ?_)
              refine (mm_by 1 (pc' := 153) (ls' := [.ref 264, .null]) (st' := [.int 42, .int (h59.1 265 ((h59.1 264 2) - 1).toNatClampNeg)]) (h' := h59) rfl).trans ?_
              refine (mm_br (c := ¬ (h59.1 265 ((h59.1 264 2) - 1).toNatClampNeg) = 42) (p1 := 160) (p2 := 156) (l1 := [.ref 264, .null]) (l2 := [.ref 264, .null]) (s1 := []) (s2 := []) (h1 := h59) (h2 := h59) rfl rfl).trans (mm_ite ?_ ?_)
              · exact mm_by 2 rfl
              · exact mm_by 3 rfl
            · refine (mm_by 2 (pc' := 134) (ls' := [.ref 264, .null]) (st' := [.int 47, .ref 264]) (h' := h59) rfl).trans ?_
              refine (mm_c1 (y := 198) (as := [.ref 264, .int 47]) (nx := 137) (rest := []) rfl rfl).trans (mm_congI fun v62 h61 => ?_)
              refine (mm_br (c := v62 = 0) (p1 := 207) (p2 := 140) (l1 := [.ref 264, .null]) (l2 := [.ref 264, .null]) (s1 := []) (s2 := []) (h1 := h61) (h2 := h61) rfl rfl).trans (mm_ite ?_ ?_)
              · refine (mm_by 2 (pc' := 210) (ls' := [.ref 264, .null]) (st' := [.int 43, .ref 264]) (h' := h61) rfl).trans ?_
                refine (mm_c1 (y := 198) (as := [.ref 264, .int 43]) (nx := 213) (rest := []) rfl rfl).trans (mm_congI fun v64 h63 => ?_)
                refine (mm_br (c := ¬ v64 = 0) (p1 := 225) (p2 := 216) (l1 := [.ref 264, .null]) (l2 := [.ref 264, .null]) (s1 := []) (s2 := []) (h1 := h63) (h2 := h63) rfl rfl).trans (mm_ite ?_ ?_)
                · refine (mm_by 6 (pc' := 235) (ls' := [.ref 264, .null]) (st' := [.int ((h63.1 264 2) - 1), .ref 265]) (h' := h63) rfl).trans ?_
                  refine (mm_gd (c := ((h63.1 264 2) - 1) < 0 ∨ 1600 ≤ ((h63.1 264 2) - 1).toNatClampNeg) (p1 := 236) (l1 := [.ref 264, .null]) (s1 := [.int (h63.1 265 ((h63.1 264 2) - 1).toNatClampNeg)]) (h1 := h63) rfl (q_iald (n := 1600) rfl)).trans (mm_ite rfl ?_)
                  refine (mm_by 1 (pc' := 238) (ls' := [.ref 264, .null]) (st' := [.int 43, .int (h63.1 265 ((h63.1 264 2) - 1).toNatClampNeg)]) (h' := h63) rfl).trans ?_
                  refine (mm_br (c := ¬ (h63.1 265 ((h63.1 264 2) - 1).toNatClampNeg) = 43) (p1 := 245) (p2 := 241) (l1 := [.ref 264, .null]) (l2 := [.ref 264, .null]) (s1 := []) (s2 := []) (h1 := h63) (h2 := h63) rfl rfl).trans (mm_ite ?_ ?_)
                  · exact mm_by 2 rfl
                  · exact mm_by 3 rfl
                · refine (mm_by 2 (pc' := 219) (ls' := [.ref 264, .null]) (st' := [.int 45, .ref 264]) (h' := h63) rfl).trans ?_
                  refine (mm_c1 (y := 198) (as := [.ref 264, .int 45]) (nx := 222) (rest := []) rfl rfl).trans (mm_congI fun v66 h65 => ?_)
                  refine (mm_br (c := v66 = 0) (p1 := 308) (p2 := 225) (l1 := [.ref 264, .null]) (l2 := [.ref 264, .null]) (s1 := []) (s2 := []) (h1 := h65) (h2 := h65) rfl rfl).trans (mm_ite ?_ ?_)
                  · refine (mm_by 1 (pc' := 309) (ls' := [.ref 264, .null]) (st' := [.ref 264]) (h' := h65) rfl).trans ?_
                    refine (mm_c1 (y := 290) (as := [.ref 264]) (nx := 312) (rest := []) rfl rfl).trans (mm_congI fun v68 h67 => ?_)
                    refine (mm_by 1 (pc' := 314) (ls' := [.ref 264, .null]) (st' := [.int 21, .int v68]) (h' := h67) rfl).trans ?_
                    refine (mm_br (c := v68 = 21) (p1 := 326) (p2 := 317) (l1 := [.ref 264, .null]) (l2 := [.ref 264, .null]) (s1 := []) (s2 := []) (h1 := h67) (h2 := h67) rfl rfl).trans (mm_ite ?_ ?_)
                    · refine (mm_by 2 (pc' := 329) (ls' := [.ref 264, .null]) (st' := [.int 44, .ref 264]) (h' := h67) rfl).trans ?_
                      refine (mm_c0 (y := 199) (as := [.ref 264, .int 44]) (nx := 332) (rest := []) rfl rfl).trans (mm_congV fun h69 => ?_)
                      refine (mm_by 2 (pc' := 336) (ls' := [.ref 264, .null]) (st' := [.int (h69.1 264 5)]) (h' := h69) rfl).trans ?_
                      refine (mm_br (c := (h69.1 264 5) = 0) (p1 := 341) (p2 := 339) (l1 := [.ref 264, .null]) (l2 := [.ref 264, .null]) (s1 := []) (s2 := []) (h1 := h69) (h2 := h69) rfl rfl).trans (mm_ite ?_ ?_)
                      · refine (mm_by 1 (pc' := 342) (ls' := [.ref 264, .null]) (st' := [.ref 264]) (h' := h69) rfl).trans ?_
                        refine (mm_c0 (y := 291) (as := [.ref 264]) (nx := 345) (rest := []) rfl rfl).trans (mm_congV fun h70 => ?_)
                        refine (mm_by 7 (pc' := 356) (ls' := [.ref 264, .null]) (st' := [.int ((h70.1 264 104) - 1), .ref 333, .int ((h70.1 264 104) - 1), .ref 333]) (h' := h70) rfl).trans ?_
                        refine (mm_gd (c := ((h70.1 264 104) - 1) < 0 ∨ 1700 ≤ ((h70.1 264 104) - 1).toNatClampNeg) (p1 := 357) (l1 := [.ref 264, .null]) (s1 := [.int (h70.1 333 ((h70.1 264 104) - 1).toNatClampNeg), .int ((h70.1 264 104) - 1), .ref 333]) (h1 := h70) rfl (q_iald (n := 1700) rfl)).trans (mm_ite rfl ?_)
                        refine (mm_by 2 (pc' := 359) (ls' := [.ref 264, .null]) (st' := [.int ((h70.1 333 ((h70.1 264 104) - 1).toNatClampNeg) + 2), .int ((h70.1 264 104) - 1), .ref 333]) (h' := h70) rfl).trans ?_
                        refine (mm_gd (c := ((h70.1 264 104) - 1) < 0 ∨ 1700 ≤ ((h70.1 264 104) - 1).toNatClampNeg) (p1 := 360) (l1 := [.ref 264, .null]) (s1 := []) (h1 := wI h70 333 (((h70.1 264 104) - 1).toNatClampNeg) ((h70.1 333 ((h70.1 264 104) - 1).toNatClampNeg) + 2)) rfl (q_iast (n := 1700) rfl)).trans (mm_ite rfl ?_)
                        exact mm_by_end 2 rfl
                      · exact mm_by_end 2 rfl
                    · refine (mm_by 1 (pc' := 318) (ls' := [.ref 264, .null]) (st' := [.ref 264]) (h' := h67) rfl).trans ?_
                      refine (mm_c1 (y := 290) (as := [.ref 264]) (nx := 321) (rest := []) rfl rfl).trans (mm_congI fun v72 h71 => ?_)
                      refine (mm_by 1 (pc' := 323) (ls' := [.ref 264, .null]) (st' := [.int 22, .int v72]) (h' := h71) rfl).trans ?_
                      refine (mm_br (c := ¬ v72 = 22) (p1 := 362) (p2 := 326) (l1 := [.ref 264, .null]) (l2 := [.ref 264, .null]) (s1 := []) (s2 := []) (h1 := h71) (h2 := h71) rfl rfl).trans (mm_ite ?_ ?_)
                      · refine (mm_by 1 (pc' := 363) (ls' := [.ref 264, .null]) (st' := [.ref 264]) (h' := h71) rfl).trans ?_
                        refine (mm_c1 (y := 290) (as := [.ref 264]) (nx := 366) (rest := []) rfl rfl).trans (mm_congI fun v74 h73 => ?_)
                        refine (mm_by 1 (pc' := 367) (ls' := [.ref 264, .null]) (st' := [.int ((-1)), .int v74]) (h' := h73) rfl).trans ?_
                        refine (mm_br (c := v74 = ((-1))) (p1 := 386) (p2 := 370) (l1 := [.ref 264, .null]) (l2 := [.ref 264, .null]) (s1 := []) (s2 := []) (h1 := h73) (h2 := h73) rfl rfl).trans (mm_ite ?_ ?_)
                        · exact mm_by_end 2 rfl
                        · refine (mm_by 2 (pc' := 374) (ls' := [.ref 264, .null]) (st' := [.int (h73.1 264 5)]) (h' := h73) rfl).trans ?_
                          refine (mm_br (c := ¬ (h73.1 264 5) = 0) (p1 := 386) (p2 := 377) (l1 := [.ref 264, .null]) (l2 := [.ref 264, .null]) (s1 := []) (s2 := []) (h1 := h73) (h2 := h73) rfl rfl).trans (mm_ite ?_ ?_)
                          · exact mm_by_end 2 rfl
                          · refine (mm_by 4 (pc' := 383) (ls' := [.ref 264, .null]) (st' := [.int (h73.1 264 2), .int 1, .ref 264]) (h' := h73) rfl).trans ?_
                            refine (mm_c0 (y := 191) (as := [.ref 264, .int 1, .int (h73.1 264 2)]) (nx := 386) (rest := []) rfl rfl).trans (mm_congV fun h75 => ?_)
                            exact mm_by_end 2 rfl
                      · refine (mm_by 2 (pc' := 329) (ls' := [.ref 264, .null]) (st' := [.int 44, .ref 264]) (h' := h71) rfl).trans ?_
                        refine (mm_c0 (y := 199) (as := [.ref 264, .int 44]) (nx := 332) (rest := []) rfl rfl).trans (mm_congV fun h76 => ?_)
                        refine (mm_by 2 (pc' := 336) (ls' := [.ref 264, .null]) (st' := [.int (h76.1 264 5)]) (h' := h76) rfl).trans ?_
                        refine (mm_br (c := (h76.1 264 5) = 0) (p1 := 341) (p2 := 339) (l1 := [.ref 264, .null]) (l2 := [.ref 264, .null]) (s1 := []) (s2 := []) (h1 := h76) (h2 := h76) rfl rfl).trans (mm_ite ?_ ?_)
                        · refine (mm_by 1 (pc' := 342) (ls' := [.ref 264, .null]) (st' := [.ref 264]) (h' := h76) rfl).trans ?_
                          refine (mm_c0 (y := 291) (as := [.ref 264]) (nx := 345) (rest := []) rfl rfl).trans (mm_congV fun h77 => ?_)
                          refine (mm_by 7 (pc' := 356) (ls' := [.ref 264, .null]) (st' := [.int ((h77.1 264 104) - 1), .ref 333, .int ((h77.1 264 104) - 1), .ref 333]) (h' := h77) rfl).trans ?_
                          refine (mm_gd (c := ((h77.1 264 104) - 1) < 0 ∨ 1700 ≤ ((h77.1 264 104) - 1).toNatClampNeg) (p1 := 357) (l1 := [.ref 264, .null]) (s1 := [.int (h77.1 333 ((h77.1 264 104) - 1).toNatClampNeg), .int ((h77.1 264 104) - 1), .ref 333]) (h1 := h77) rfl (q_iald (n := 1700) rfl)).trans (mm_ite rfl ?_)
                          refine (mm_by 2 (pc' := 359) (ls' := [.ref 264, .null]) (st' := [.int ((h77.1 333 ((h77.1 264 104) - 1).toNatClampNeg) + 2), .int ((h77.1 264 104) - 1), .ref 333]) (h' := h77) rfl).trans ?_
                          refine (mm_gd (c := ((h77.1 264 104) - 1) < 0 ∨ 1700 ≤ ((h77.1 264 104) - 1).toNatClampNeg) (p1 := 360) (l1 := [.ref 264, .null]) (s1 := []) (h1 := wI h77 333 (((h77.1 264 104) - 1).toNatClampNeg) ((h77.1 333 ((h77.1 264 104) - 1).toNatClampNeg) + 2)) rfl (q_iast (n := 1700) rfl)).trans (mm_ite rfl ?_)
                          exact mm_by_end 2 rfl
                        · exact mm_by_end 2 rfl
                  · refine (mm_by 6 (pc' := 235) (ls' := [.ref 264, .null]) (st' := [.int ((h65.1 264 2) - 1), .ref 265]) (h' := h65) rfl).trans ?_
                    refine (mm_gd (c := ((h65.1 264 2) - 1) < 0 ∨ 1600 ≤ ((h65.1 264 2) - 1).toNatClampNeg) (p1 := 236) (l1 := [.ref 264, .null]) (s1 := [.int (h65.1 265 ((h65.1 264 2) - 1).toNatClampNeg)]) (h1 := h65) rfl (q_iald (n := 1600) rfl)).trans (mm_ite rfl ?_)
                    refine (mm_by 1 (pc' := 238) (ls' := [.ref 264, .null]) (st' := [.int 43, .int (h65.1 265 ((h65.1 264 2) - 1).toNatClampNeg)]) (h' := h65) rfl).trans ?_
                    refine (mm_br (c := ¬ (h65.1 265 ((h65.1 264 2) - 1).toNatClampNeg) = 43) (p1 := 245) (p2 := 241) (l1 := [.ref 264, .null]) (l2 := [.ref 264, .null]) (s1 := []) (s2 := []) (h1 := h65) (h2 := h65) rfl rfl).trans (mm_ite ?_ ?_)
                    · exact mm_by 2 rfl
                    · exact mm_by 3 rfl
              · refine (mm_by 6 (pc' := 150) (ls' := [.ref 264, .null]) (st' := [.int ((h61.1 264 2) - 1), .ref 265]) (h' := h61) rfl).trans ?_
                refine (mm_gd (c := ((h61.1 264 2) - 1) < 0 ∨ 1600 ≤ ((h61.1 264 2) - 1).toNatClampNeg) (p1 := 151) (l1 := [.ref 264, .null]) (s1 := [.int (h61.1 265 ((h61.1 264 2) - 1).toNatClampNeg)]) (h1 := h61) rfl (q_iald (n := 1600) rfl)).trans (mm_ite rfl ?_)
                refine (mm_by 1 (pc' := 153) (ls' := [.ref 264, .null]) (st' := [.int 42, .int (h61.1 265 ((h61.1 264 2) - 1).toNatClampNeg)]) (h' := h61) rfl).trans ?_
                refine (mm_br (c := ¬ (h61.1 265 ((h61.1 264 2) - 1).toNatClampNeg) = 42) (p1 := 160) (p2 := 156) (l1 := [.ref 264, .null]) (l2 := [.ref 264, .null]) (s1 := []) (s2 := []) (h1 := h61) (h2 := h61) rfl rfl).trans (mm_ite ?_ ?_)
                · exact mm_by 2 rfl
                · exact mm_by 3 rfl
          · refine (mm_by 7 (pc' := 54) (ls' := [.ref 264, .null]) (st' := [.ref 264]) (h' := wI h57 264 2 ((h57.1 264 2) + 1)) rfl).trans ?_
            refine (mm_c0 (y := 291) (as := [.ref 264]) (nx := 57) (rest := []) rfl rfl).trans (mm_congV fun h78 => ?_)
            refine (mm_by 16 (pc' := 85) (ls' := [.ref 264, .null]) (st' := [.int ((wI (wI h78 264 104 ((h78.1 264 104) - 1)) 264 105 (((wI h78 264 104 ((h78.1 264 104) - 1)).1 264 105) - 1)).1 264 104), .ref 333]) (h' := wI (wI h78 264 104 ((h78.1 264 104) - 1)) 264 105 (((wI h78 264 104 ((h78.1 264 104) - 1)).1 264 105) - 1)) rfl).trans ?_
            refine (mm_gd (c := ((wI (wI h78 264 104 ((h78.1 264 104) - 1)) 264 105 (((wI h78 264 104 ((h78.1 264 104) - 1)).1 264 105) - 1)).1 264 104) < 0 ∨ 1700 ≤ ((wI (wI h78 264 104 ((h78.1 264 104) - 1)) 264 105 (((wI h78 264 104 ((h78.1 264 104) - 1)).1 264 105) - 1)).1 264 104).toNatClampNeg) (p1 := 86) (l1 := [.ref 264, .null]) (s1 := [.int ((wI (wI h78 264 104 ((h78.1 264 104) - 1)) 264 105 (((wI h78 264 104 ((h78.1 264 104) - 1)).1 264 105) - 1)).1 333 ((wI (wI h78 264 104 ((h78.1 264 104) - 1)) 264 105 (((wI h78 264 104 ((h78.1 264 104) - 1)).1 264 105) - 1)).1 264 104).toNatClampNeg)]) (h1 := wI (wI h78 264 104 ((h78.1 264 104) - 1)) 264 105 (((wI h78 264 104 ((h78.1 264 104) - 1)).1 264 105) - 1)) rfl (q_iald (n := 1700) rfl)).trans (mm_ite rfl ?_)
            refine (mm_by 1 (pc' := 88) (ls' := [.ref 264, .null]) (st' := [.int 20, .int ((wI (wI h78 264 104 ((h78.1 264 104) - 1)) 264 105 (((wI h78 264 104 ((h78.1 264 104) - 1)).1 264 105) - 1)).1 333 ((wI (wI h78 264 104 ((h78.1 264 104) - 1)) 264 105 (((wI h78 264 104 ((h78.1 264 104) - 1)).1 264 105) - 1)).1 264 104).toNatClampNeg)]) (h' := wI (wI h78 264 104 ((h78.1 264 104) - 1)) 264 105 (((wI h78 264 104 ((h78.1 264 104) - 1)).1 264 105) - 1)) rfl).trans ?_
            refine (mm_br (c := ((wI (wI h78 264 104 ((h78.1 264 104) - 1)) 264 105 (((wI h78 264 104 ((h78.1 264 104) - 1)).1 264 105) - 1)).1 333 ((wI (wI h78 264 104 ((h78.1 264 104) - 1)) 264 105 (((wI h78 264 104 ((h78.1 264 104) - 1)).1 264 105) - 1)).1 264 104).toNatClampNeg) = 20) (p1 := 115) (p2 := 91) (l1 := [.ref 264, .null]) (l2 := [.ref 264, .null]) (s1 := []) (s2 := []) (h1 := wI (wI h78 264 104 ((h78.1 264 104) - 1)) 264 105 (((wI h78 264 104 ((h78.1 264 104) - 1)).1 264 105) - 1)) (h2 := wI (wI h78 264 104 ((h78.1 264 104) - 1)) 264 105 (((wI h78 264 104 ((h78.1 264 104) - 1)).1 264 105) - 1)) rfl rfl).trans (mm_ite ?_ ?_)
            · refine (mm_by 1 (pc' := 116) (ls' := [.ref 264, .null]) (st' := [.ref 264]) (h' := wI (wI h78 264 104 ((h78.1 264 104) - 1)) 264 105 (((wI h78 264 104 ((h78.1 264 104) - 1)).1 264 105) - 1)) rfl).trans ?_
              refine (mm_c0 (y := 295) (as := [.ref 264]) (nx := 119) (rest := []) rfl rfl).trans (mm_congV fun h79 => ?_)
              exact mm_by 1 rfl
            · refine (mm_by 5 (pc' := 100) (ls' := [.ref 264, .null]) (st' := [.int ((wI (wI h78 264 104 ((h78.1 264 104) - 1)) 264 105 (((wI h78 264 104 ((h78.1 264 104) - 1)).1 264 105) - 1)).1 264 104), .ref 333, .ref 264]) (h' := wI (wI h78 264 104 ((h78.1 264 104) - 1)) 264 105 (((wI h78 264 104 ((h78.1 264 104) - 1)).1 264 105) - 1)) rfl).trans ?_
              refine (mm_gd (c := ((wI (wI h78 264 104 ((h78.1 264 104) - 1)) 264 105 (((wI h78 264 104 ((h78.1 264 104) - 1)).1 264 105) - 1)).1 264 104) < 0 ∨ 1700 ≤ ((wI (wI h78 264 104 ((h78.1 264 104) - 1)) 264 105 (((wI h78 264 104 ((h78.1 264 104) - 1)).1 264 105) - 1)).1 264 104).toNatClampNeg) (p1 := 101) (l1 := [.ref 264, .null]) (s1 := [.int ((wI (wI h78 264 104 ((h78.1 264 104) - 1)) 264 105 (((wI h78 264 104 ((h78.1 264 104) - 1)).1 264 105) - 1)).1 333 ((wI (wI h78 264 104 ((h78.1 264 104) - 1)) 264 105 (((wI h78 264 104 ((h78.1 264 104) - 1)).1 264 105) - 1)).1 264 104).toNatClampNeg), .ref 264]) (h1 := wI (wI h78 264 104 ((h78.1 264 104) - 1)) 264 105 (((wI h78 264 104 ((h78.1 264 104) - 1)).1 264 105) - 1)) rfl (q_iald (n := 1700) rfl)).trans (mm_ite rfl ?_)
              refine (mm_by 1 (pc' := 103) (ls' := [.ref 264, .null]) (st' := [.int 23, .int ((wI (wI h78 264 104 ((h78.1 264 104) - 1)) 264 105 (((wI h78 264 104 ((h78.1 264 104) - 1)).1 264 105) - 1)).1 333 ((wI (wI h78 264 104 ((h78.1 264 104) - 1)) 264 105 (((wI h78 264 104 ((h78.1 264 104) - 1)).1 264 105) - 1)).1 264 104).toNatClampNeg), .ref 264]) (h' := wI (wI h78 264 104 ((h78.1 264 104) - 1)) 264 105 (((wI h78 264 104 ((h78.1 264 104) - 1)).1 264 105) - 1)) rfl).trans ?_
              refine (mm_br (c := ¬ ((wI (wI h78 264 104 ((h78.1 264 104) - 1)) 264 105 (((wI h78 264 104 ((h78.1 264 104) - 1)).1 264 105) - 1)).1 333 ((wI (wI h78 264 104 ((h78.1 264 104) - 1)) 264 105 (((wI h78 264 104 ((h78.1 264 104) - 1)).1 264 105) - 1)).1 264 104).toNatClampNeg) = 23) (p1 := 110) (p2 := 106) (l1 := [.ref 264, .null]) (l2 := [.ref 264, .null]) (s1 := [.ref 264]) (s2 := [.ref 264]) (h1 := wI (wI h78 264 104 ((h78.1 264 104) - 1)) 264 105 (((wI h78 264 104 ((h78.1 264 104) - 1)).1 264 105) - 1)) (h2 := wI (wI h78 264 104 ((h78.1 264 104) - 1)) 264 105 (((wI h78 264 104 ((h78.1 264 104) - 1)).1 264 105) - 1)) rfl rfl).trans (mm_ite ?_ ?_)
              · refine (mm_by 1 (pc' := 112) (ls' := [.ref 264, .null]) (st' := [.int 6, .ref 264]) (h' := wI (wI h78 264 104 ((h78.1 264 104) - 1)) 264 105 (((wI h78 264 104 ((h78.1 264 104) - 1)).1 264 105) - 1)) rfl).trans ?_
                refine (mm_c0 (y := 285) (as := [.ref 264, .int 6]) (nx := 115) (rest := []) rfl rfl).trans (mm_congV fun h80 => ?_)
                refine (mm_by 1 (pc' := 116) (ls' := [.ref 264, .null]) (st' := [.ref 264]) (h' := h80) rfl).trans ?_
                refine (mm_c0 (y := 295) (as := [.ref 264]) (nx := 119) (rest := []) rfl rfl).trans (mm_congV fun h81 => ?_)
                exact mm_by 1 rfl
              · refine (mm_by 2 (pc' := 112) (ls' := [.ref 264, .null]) (st' := [.int 5, .ref 264]) (h' := wI (wI h78 264 104 ((h78.1 264 104) - 1)) 264 105 (((wI h78 264 104 ((h78.1 264 104) - 1)).1 264 105) - 1)) rfl).trans ?_
                refine (mm_c0 (y := 285) (as := [.ref 264, .int 5]) (nx := 115) (rest := []) rfl rfl).trans (mm_congV fun h82 => ?_)
                refine (mm_by 1 (pc' := 116) (ls' := [.ref 264, .null]) (st' := [.ref 264]) (h' := h82) rfl).trans ?_
                refine (mm_c0 (y := 295) (as := [.ref 264]) (nx := 119) (rest := []) rfl rfl).trans (mm_congV fun h83 => ?_)
                exact mm_by 1 rfl
set_option maxRecDepth 100000 in
set_option maxHeartbeats 4000000 in
theorem U_X12_qGoesOn_0 {d : Nat} {h : mm_H} : mm_D (mm_M mm_T0 d) cd_X12_qGoesOn 0 [.ref 264, .null] [] h = (if ¬ (h.1 264 5) = 0 then (mm_bI (mm_M mm_T0 d 198 [.ref 264, .int 42] h) (fun v2 h1 => if ¬ v2 = 0 then (if ((h1.1 264 2) - 1) < 0 ∨ 1600 ≤ ((h1.1 264 2) - 1).toNatClampNeg then none else (if ¬ (h1.1 265 ((h1.1 264 2) - 1).toNatClampNeg) = 42 then (mm_D (mm_M mm_T0 d) cd_X12_qGoesOn 162 [.ref 264, .int 4] [] h1) else (mm_D (mm_M mm_T0 d) cd_X12_qGoesOn 162 [.ref 264, .int 3] [] h1))) else (mm_bI (mm_M mm_T0 d 198 [.ref 264, .int 47] h1) (fun v4 h3 => if v4 = 0 then (mm_bI (mm_M mm_T0 d 198 [.ref 264, .int 43] h3) (fun v6 h5 => if ¬ v6 = 0 then (if ((h5.1 264 2) - 1) < 0 ∨ 1600 ≤ ((h5.1 264 2) - 1).toNatClampNeg then none else (if ¬ (h5.1 265 ((h5.1 264 2) - 1).toNatClampNeg) = 43 then (mm_D (mm_M mm_T0 d) cd_X12_qGoesOn 247 [.ref 264, .int 2] [] h5) else (mm_D (mm_M mm_T0 d) cd_X12_qGoesOn 247 [.ref 264, .int 1] [] h5))) else (mm_bI (mm_M mm_T0 d 198 [.ref 264, .int 45] h5) (fun v8 h7 => if v8 = 0 then (mm_bI (mm_M mm_T0 d 290 [.ref 264] h7) (fun v10 h9 => if v10 = 21 then (mm_bV (mm_M mm_T0 d 199 [.ref 264, .int 44] h9) (fun h11 => if (h11.1 264 5) = 0 then (mm_bV (mm_M mm_T0 d 291 [.ref 264] h11) (fun h12 => if ((h12.1 264 104) - 1) < 0 ∨ 1700 ≤ ((h12.1 264 104) - 1).toNatClampNeg then none else (if ((h12.1 264 104) - 1) < 0 ∨ 1700 ≤ ((h12.1 264 104) - 1).toNatClampNeg then none else (some (some (.int 1), wI h12 333 (((h12.1 264 104) - 1).toNatClampNeg) ((h12.1 333 ((h12.1 264 104) - 1).toNatClampNeg) + 2)))))) else (some (some (.int 0), h11)))) else (mm_bI (mm_M mm_T0 d 290 [.ref 264] h9) (fun v14 h13 => if ¬ v14 = 22 then (mm_bI (mm_M mm_T0 d 290 [.ref 264] h13) (fun v16 h15 => if v16 = ((-1)) then (some (some (.int 0), h15)) else (if ¬ (h15.1 264 5) = 0 then (some (some (.int 0), h15)) else (mm_bV (mm_M mm_T0 d 191 [.ref 264, .int 1, .int (h15.1 264 2)] h15) (fun h17 => some (some (.int 0), h17)))))) else (mm_bV (mm_M mm_T0 d 199 [.ref 264, .int 44] h13) (fun h18 => if (h18.1 264 5) = 0 then (mm_bV (mm_M mm_T0 d 291 [.ref 264] h18) (fun h19 => if ((h19.1 264 104) - 1) < 0 ∨ 1700 ≤ ((h19.1 264 104) - 1).toNatClampNeg then none else (if ((h19.1 264 104) - 1) < 0 ∨ 1700 ≤ ((h19.1 264 104) - 1).toNatClampNeg then none else (some (some (.int 1), wI h19 333 (((h19.1 264 104) - 1).toNatClampNeg) ((h19.1 333 ((h19.1 264 104) - 1).toNatClampNeg) + 2)))))) else (some (some (.int 0), h18)))))))) else (if ((h7.1 264 2) - 1) < 0 ∨ 1600 ≤ ((h7.1 264 2) - 1).toNatClampNeg then none else (if ¬ (h7.1 265 ((h7.1 264 2) - 1).toNatClampNeg) = 43 then (mm_D (mm_M mm_T0 d) cd_X12_qGoesOn 247 [.ref 264, .int 2] [] h7) else (mm_D (mm_M mm_T0 d) cd_X12_qGoesOn 247 [.ref 264, .int 1] [] h7))))))) else (if ((h3.1 264 2) - 1) < 0 ∨ 1600 ≤ ((h3.1 264 2) - 1).toNatClampNeg then none else (if ¬ (h3.1 265 ((h3.1 264 2) - 1).toNatClampNeg) = 42 then (mm_D (mm_M mm_T0 d) cd_X12_qGoesOn 162 [.ref 264, .int 4] [] h3) else (mm_D (mm_M mm_T0 d) cd_X12_qGoesOn 162 [.ref 264, .int 3] [] h3))))))) else (mm_bI (mm_M mm_T0 d 194 [.ref 264] h) (fun v21 h20 => if ¬ v21 = 41 then (mm_bI (mm_M mm_T0 d 198 [.ref 264, .int 42] h20) (fun v23 h22 => if ¬ v23 = 0 then (if ((h22.1 264 2) - 1) < 0 ∨ 1600 ≤ ((h22.1 264 2) - 1).toNatClampNeg then none else (if ¬ (h22.1 265 ((h22.1 264 2) - 1).toNatClampNeg) = 42 then (mm_D (mm_M mm_T0 d) cd_X12_qGoesOn 162 [.ref 264, .int 4] [] h22) else (mm_D (mm_M mm_T0 d) cd_X12_qGoesOn 162 [.ref 264, .int 3] [] h22))) else (mm_bI (mm_M mm_T0 d 198 [.ref 264, .int 47] h22) (fun v25 h24 => if v25 = 0 then (mm_bI (mm_M mm_T0 d 198 [.ref 264, .int 43] h24) (fun v27 h26 => if ¬ v27 = 0 then (if ((h26.1 264 2) - 1) < 0 ∨ 1600 ≤ ((h26.1 264 2) - 1).toNatClampNeg then none else (if ¬ (h26.1 265 ((h26.1 264 2) - 1).toNatClampNeg) = 43 then (mm_D (mm_M mm_T0 d) cd_X12_qGoesOn 247 [.ref 264, .int 2] [] h26) else (mm_D (mm_M mm_T0 d) cd_X12_qGoesOn 247 [.ref 264, .int 1] [] h26))) else (mm_bI (mm_M mm_T0 d 198 [.ref 264, .int 45] h26) (fun v29 h28 => if v29 = 0 then (mm_bI (mm_M mm_T0 d 290 [.ref 264] h28) (fun v31 h30 => if v31 = 21 then (mm_bV (mm_M mm_T0 d 199 [.ref 264, .int 44] h30) (fun h32 => if (h32.1 264 5) = 0 then (mm_bV (mm_M mm_T0 d 291 [.ref 264] h32) (fun h33 => if ((h33.1 264 104) - 1) < 0 ∨ 1700 ≤ ((h33.1 264 104) - 1).toNatClampNeg then none else (if ((h33.1 264 104) - 1) < 0 ∨ 1700 ≤ ((h33.1 264 104) - 1).toNatClampNeg then none else (some (some (.int 1), wI h33 333 (((h33.1 264 104) - 1).toNatClampNeg) ((h33.1 333 ((h33.1 264 104) - 1).toNatClampNeg) + 2)))))) else (some (some (.int 0), h32)))) else (mm_bI (mm_M mm_T0 d 290 [.ref 264] h30) (fun v35 h34 => if ¬ v35 = 22 then (mm_bI (mm_M mm_T0 d 290 [.ref 264] h34) (fun v37 h36 => if v37 = ((-1)) then (some (some (.int 0), h36)) else (if ¬ (h36.1 264 5) = 0 then (some (some (.int 0), h36)) else (mm_bV (mm_M mm_T0 d 191 [.ref 264, .int 1, .int (h36.1 264 2)] h36) (fun h38 => some (some (.int 0), h38)))))) else (mm_bV (mm_M mm_T0 d 199 [.ref 264, .int 44] h34) (fun h39 => if (h39.1 264 5) = 0 then (mm_bV (mm_M mm_T0 d 291 [.ref 264] h39) (fun h40 => if ((h40.1 264 104) - 1) < 0 ∨ 1700 ≤ ((h40.1 264 104) - 1).toNatClampNeg then none else (if ((h40.1 264 104) - 1) < 0 ∨ 1700 ≤ ((h40.1 264 104) - 1).toNatClampNeg then none else (some (some (.int 1), wI h40 333 (((h40.1 264 104) - 1).toNatClampNeg) ((h40.1 333 ((h40.1 264 104) - 1).toNatClampNeg) + 2)))))) else (some (some (.int 0), h39)))))))) else (if ((h28.1 264 2) - 1) < 0 ∨ 1600 ≤ ((h28.1 264 2) - 1).toNatClampNeg then none else (if ¬ (h28.1 265 ((h28.1 264 2) - 1).toNatClampNeg) = 43 then (mm_D (mm_M mm_T0 d) cd_X12_qGoesOn 247 [.ref 264, .int 2] [] h28) else (mm_D (mm_M mm_T0 d) cd_X12_qGoesOn 247 [.ref 264, .int 1] [] h28))))))) else (if ((h24.1 264 2) - 1) < 0 ∨ 1600 ≤ ((h24.1 264 2) - 1).toNatClampNeg then none else (if ¬ (h24.1 265 ((h24.1 264 2) - 1).toNatClampNeg) = 42 then (mm_D (mm_M mm_T0 d) cd_X12_qGoesOn 162 [.ref 264, .int 4] [] h24) else (mm_D (mm_M mm_T0 d) cd_X12_qGoesOn 162 [.ref 264, .int 3] [] h24))))))) else (mm_bI (mm_M mm_T0 d 290 [.ref 264] h20) (fun v42 h41 => if v42 = 20 then (mm_bV (mm_M mm_T0 d 291 [.ref 264] (wI h41 264 2 ((h41.1 264 2) + 1))) (fun h43 => if ((wI (wI h43 264 104 ((h43.1 264 104) - 1)) 264 105 (((wI h43 264 104 ((h43.1 264 104) - 1)).1 264 105) - 1)).1 264 104) < 0 ∨ 1700 ≤ ((wI (wI h43 264 104 ((h43.1 264 104) - 1)) 264 105 (((wI h43 264 104 ((h43.1 264 104) - 1)).1 264 105) - 1)).1 264 104).toNatClampNeg then none else (if ((wI (wI h43 264 104 ((h43.1 264 104) - 1)) 264 105 (((wI h43 264 104 ((h43.1 264 104) - 1)).1 264 105) - 1)).1 333 ((wI (wI h43 264 104 ((h43.1 264 104) - 1)) 264 105 (((wI h43 264 104 ((h43.1 264 104) - 1)).1 264 105) - 1)).1 264 104).toNatClampNeg) = 20 then (mm_bV (mm_M mm_T0 d 295 [.ref 264] (wI (wI h43 264 104 ((h43.1 264 104) - 1)) 264 105 (((wI h43 264 104 ((h43.1 264 104) - 1)).1 264 105) - 1))) (fun h44 => mm_D (mm_M mm_T0 d) cd_X12_qGoesOn 0 [.ref 264, .null] [] h44)) else (if ((wI (wI h43 264 104 ((h43.1 264 104) - 1)) 264 105 (((wI h43 264 104 ((h43.1 264 104) - 1)).1 264 105) - 1)).1 264 104) < 0 ∨ 1700 ≤ ((wI (wI h43 264 104 ((h43.1 264 104) - 1)) 264 105 (((wI h43 264 104 ((h43.1 264 104) - 1)).1 264 105) - 1)).1 264 104).toNatClampNeg then none else (if ¬ ((wI (wI h43 264 104 ((h43.1 264 104) - 1)) 264 105 (((wI h43 264 104 ((h43.1 264 104) - 1)).1 264 105) - 1)).1 333 ((wI (wI h43 264 104 ((h43.1 264 104) - 1)) 264 105 (((wI h43 264 104 ((h43.1 264 104) - 1)).1 264 105) - 1)).1 264 104).toNatClampNeg) = 23 then (mm_bV (mm_M mm_T0 d 285 [.ref 264, .int 6] (wI (wI h43 264 104 ((h43.1 264 104) - 1)) 264 105 (((wI h43 264 104 ((h43.1 264 104) - 1)).1 264 105) - 1))) (fun h45 => mm_bV (mm_M mm_T0 d 295 [.ref 264] h45) (fun h46 => mm_D (mm_M mm_T0 d) cd_X12_qGoesOn 0 [.ref 264, .null] [] h46))) else (mm_bV (mm_M mm_T0 d 285 [.ref 264, .int 5] (wI (wI h43 264 104 ((h43.1 264 104) - 1)) 264 105 (((wI h43 264 104 ((h43.1 264 104) - 1)).1 264 105) - 1))) (fun h47 => mm_bV (mm_M mm_T0 d 295 [.ref 264] h47) (fun h48 => mm_D (mm_M mm_T0 d) cd_X12_qGoesOn 0 [.ref 264, .null] [] h48)))))))) else (mm_bI (mm_M mm_T0 d 290 [.ref 264] h41) (fun v50 h49 => if v50 = 23 then (mm_bV (mm_M mm_T0 d 291 [.ref 264] (wI h49 264 2 ((h49.1 264 2) + 1))) (fun h51 => if ((wI (wI h51 264 104 ((h51.1 264 104) - 1)) 264 105 (((wI h51 264 104 ((h51.1 264 104) - 1)).1 264 105) - 1)).1 264 104) < 0 ∨ 1700 ≤ ((wI (wI h51 264 104 ((h51.1 264 104) - 1)) 264 105 (((wI h51 264 104 ((h51.1 264 104) - 1)).1 264 105) - 1)).1 264 104).toNatClampNeg then none else (if ((wI (wI h51 264 104 ((h51.1 264 104) - 1)) 264 105 (((wI h51 264 104 ((h51.1 264 104) - 1)).1 264 105) - 1)).1 333 ((wI (wI h51 264 104 ((h51.1 264 104) - 1)) 264 105 (((wI h51 264 104 ((h51.1 264 104) - 1)).1 264 105) - 1)).1 264 104).toNatClampNeg) = 20 then (mm_bV (mm_M mm_T0 d 295 [.ref 264] (wI (wI h51 264 104 ((h51.1 264 104) - 1)) 264 105 (((wI h51 264 104 ((h51.1 264 104) - 1)).1 264 105) - 1))) (fun h52 => mm_D (mm_M mm_T0 d) cd_X12_qGoesOn 0 [.ref 264, .null] [] h52)) else (if ((wI (wI h51 264 104 ((h51.1 264 104) - 1)) 264 105 (((wI h51 264 104 ((h51.1 264 104) - 1)).1 264 105) - 1)).1 264 104) < 0 ∨ 1700 ≤ ((wI (wI h51 264 104 ((h51.1 264 104) - 1)) 264 105 (((wI h51 264 104 ((h51.1 264 104) - 1)).1 264 105) - 1)).1 264 104).toNatClampNeg then none else (if ¬ ((wI (wI h51 264 104 ((h51.1 264 104) - 1)) 264 105 (((wI h51 264 104 ((h51.1 264 104) - 1)).1 264 105) - 1)).1 333 ((wI (wI h51 264 104 ((h51.1 264 104) - 1)) 264 105 (((wI h51 264 104 ((h51.1 264 104) - 1)).1 264 105) - 1)).1 264 104).toNatClampNeg) = 23 then (mm_bV (mm_M mm_T0 d 285 [.ref 264, .int 6] (wI (wI h51 264 104 ((h51.1 264 104) - 1)) 264 105 (((wI h51 264 104 ((h51.1 264 104) - 1)).1 264 105) - 1))) (fun h53 => mm_bV (mm_M mm_T0 d 295 [.ref 264] h53) (fun h54 => mm_D (mm_M mm_T0 d) cd_X12_qGoesOn 0 [.ref 264, .null] [] h54))) else (mm_bV (mm_M mm_T0 d 285 [.ref 264, .int 5] (wI (wI h51 264 104 ((h51.1 264 104) - 1)) 264 105 (((wI h51 264 104 ((h51.1 264 104) - 1)).1 264 105) - 1))) (fun h55 => mm_bV (mm_M mm_T0 d 295 [.ref 264] h55) (fun h56 => mm_D (mm_M mm_T0 d) cd_X12_qGoesOn 0 [.ref 264, .null] [] h56)))))))) else (mm_bI (mm_M mm_T0 d 290 [.ref 264] h49) (fun v58 h57 => if ¬ v58 = 24 then (mm_bI (mm_M mm_T0 d 198 [.ref 264, .int 42] h57) (fun v60 h59 => if ¬ v60 = 0 then (if ((h59.1 264 2) - 1) < 0 ∨ 1600 ≤ ((h59.1 264 2) - 1).toNatClampNeg then none else (if ¬ (h59.1 265 ((h59.1 264 2) - 1).toNatClampNeg) = 42 then (mm_D (mm_M mm_T0 d) cd_X12_qGoesOn 162 [.ref 264, .int 4] [] h59) else (mm_D (mm_M mm_T0 d) cd_X12_qGoesOn 162 [.ref 264, .int 3] [] h59))) else (mm_bI (mm_M mm_T0 d 198 [.ref 264, .int 47] h59) (fun v62 h61 => if v62 = 0 then (mm_bI (mm_M mm_T0 d 198 [.ref 264, .int 43] h61) (fun v64 h63 => if ¬ v64 = 0 then (if ((h63.1 264 2) - 1) < 0 ∨ 1600 ≤ ((h63.1 264 2) - 1).toNatClampNeg then none else (if ¬ (h63.1 265 ((h63.1 264 2) - 1).toNatClampNeg) = 43 then (mm_D (mm_M mm_T0 d) cd_X12_qGoesOn 247 [.ref 264, .int 2] [] h63) else (mm_D (mm_M mm_T0 d) cd_X12_qGoesOn 247 [.ref 264, .int 1] [] h63))) else (mm_bI (mm_M mm_T0 d 198 [.ref 264, .int 45] h63) (fun v66 h65 => if v66 = 0 then (mm_bI (mm_M mm_T0 d 290 [.ref 264] h65) (fun v68 h67 => if v68 = 21 then (mm_bV (mm_M mm_T0 d 199 [.ref 264, .int 44] h67) (fun h69 => if (h69.1 264 5) = 0 then (mm_bV (mm_M mm_T0 d 291 [.ref 264] h69) (fun h70 => if ((h70.1 264 104) - 1) < 0 ∨ 1700 ≤ ((h70.1 264 104) - 1).toNatClampNeg then none else (if ((h70.1 264 104) - 1) < 0 ∨ 1700 ≤ ((h70.1 264 104) - 1).toNatClampNeg then none else (some (some (.int 1), wI h70 333 (((h70.1 264 104) - 1).toNatClampNeg) ((h70.1 333 ((h70.1 264 104) - 1).toNatClampNeg) + 2)))))) else (some (some (.int 0), h69)))) else (mm_bI (mm_M mm_T0 d 290 [.ref 264] h67) (fun v72 h71 => if ¬ v72 = 22 then (mm_bI (mm_M mm_T0 d 290 [.ref 264] h71) (fun v74 h73 => if v74 = ((-1)) then (some (some (.int 0), h73)) else (if ¬ (h73.1 264 5) = 0 then (some (some (.int 0), h73)) else (mm_bV (mm_M mm_T0 d 191 [.ref 264, .int 1, .int (h73.1 264 2)] h73) (fun h75 => some (some (.int 0), h75)))))) else (mm_bV (mm_M mm_T0 d 199 [.ref 264, .int 44] h71) (fun h76 => if (h76.1 264 5) = 0 then (mm_bV (mm_M mm_T0 d 291 [.ref 264] h76) (fun h77 => if ((h77.1 264 104) - 1) < 0 ∨ 1700 ≤ ((h77.1 264 104) - 1).toNatClampNeg then none else (if ((h77.1 264 104) - 1) < 0 ∨ 1700 ≤ ((h77.1 264 104) - 1).toNatClampNeg then none else (some (some (.int 1), wI h77 333 (((h77.1 264 104) - 1).toNatClampNeg) ((h77.1 333 ((h77.1 264 104) - 1).toNatClampNeg) + 2)))))) else (some (some (.int 0), h76)))))))) else (if ((h65.1 264 2) - 1) < 0 ∨ 1600 ≤ ((h65.1 264 2) - 1).toNatClampNeg then none else (if ¬ (h65.1 265 ((h65.1 264 2) - 1).toNatClampNeg) = 43 then (mm_D (mm_M mm_T0 d) cd_X12_qGoesOn 247 [.ref 264, .int 2] [] h65) else (mm_D (mm_M mm_T0 d) cd_X12_qGoesOn 247 [.ref 264, .int 1] [] h65))))))) else (if ((h61.1 264 2) - 1) < 0 ∨ 1600 ≤ ((h61.1 264 2) - 1).toNatClampNeg then none else (if ¬ (h61.1 265 ((h61.1 264 2) - 1).toNatClampNeg) = 42 then (mm_D (mm_M mm_T0 d) cd_X12_qGoesOn 162 [.ref 264, .int 4] [] h61) else (mm_D (mm_M mm_T0 d) cd_X12_qGoesOn 162 [.ref 264, .int 3] [] h61))))))) else (mm_bV (mm_M mm_T0 d 291 [.ref 264] (wI h57 264 2 ((h57.1 264 2) + 1))) (fun h78 => if ((wI (wI h78 264 104 ((h78.1 264 104) - 1)) 264 105 (((wI h78 264 104 ((h78.1 264 104) - 1)).1 264 105) - 1)).1 264 104) < 0 ∨ 1700 ≤ ((wI (wI h78 264 104 ((h78.1 264 104) - 1)) 264 105 (((wI h78 264 104 ((h78.1 264 104) - 1)).1 264 105) - 1)).1 264 104).toNatClampNeg then none else (if ((wI (wI h78 264 104 ((h78.1 264 104) - 1)) 264 105 (((wI h78 264 104 ((h78.1 264 104) - 1)).1 264 105) - 1)).1 333 ((wI (wI h78 264 104 ((h78.1 264 104) - 1)) 264 105 (((wI h78 264 104 ((h78.1 264 104) - 1)).1 264 105) - 1)).1 264 104).toNatClampNeg) = 20 then (mm_bV (mm_M mm_T0 d 295 [.ref 264] (wI (wI h78 264 104 ((h78.1 264 104) - 1)) 264 105 (((wI h78 264 104 ((h78.1 264 104) - 1)).1 264 105) - 1))) (fun h79 => mm_D (mm_M mm_T0 d) cd_X12_qGoesOn 0 [.ref 264, .null] [] h79)) else (if ((wI (wI h78 264 104 ((h78.1 264 104) - 1)) 264 105 (((wI h78 264 104 ((h78.1 264 104) - 1)).1 264 105) - 1)).1 264 104) < 0 ∨ 1700 ≤ ((wI (wI h78 264 104 ((h78.1 264 104) - 1)) 264 105 (((wI h78 264 104 ((h78.1 264 104) - 1)).1 264 105) - 1)).1 264 104).toNatClampNeg then none else (if ¬ ((wI (wI h78 264 104 ((h78.1 264 104) - 1)) 264 105 (((wI h78 264 104 ((h78.1 264 104) - 1)).1 264 105) - 1)).1 333 ((wI (wI h78 264 104 ((h78.1 264 104) - 1)) 264 105 (((wI h78 264 104 ((h78.1 264 104) - 1)).1 264 105) - 1)).1 264 104).toNatClampNeg) = 23 then (mm_bV (mm_M mm_T0 d 285 [.ref 264, .int 6] (wI (wI h78 264 104 ((h78.1 264 104) - 1)) 264 105 (((wI h78 264 104 ((h78.1 264 104) - 1)).1 264 105) - 1))) (fun h80 => mm_bV (mm_M mm_T0 d 295 [.ref 264] h80) (fun h81 => mm_D (mm_M mm_T0 d) cd_X12_qGoesOn 0 [.ref 264, .null] [] h81))) else (mm_bV (mm_M mm_T0 d 285 [.ref 264, .int 5] (wI (wI h78 264 104 ((h78.1 264 104) - 1)) 264 105 (((wI h78 264 104 ((h78.1 264 104) - 1)).1 264 105) - 1))) (fun h82 => mm_bV (mm_M mm_T0 d 295 [.ref 264] h82) (fun h83 => mm_D (mm_M mm_T0 d) cd_X12_qGoesOn 0 [.ref 264, .null] [] h83))))))))))))))))) := by
  refine (mm_by 2 (pc' := 4) (ls' := [.ref 264, .null]) (st' := [.int (h.1 264 5)]) (h' := h) rfl).trans ?_
  refine (mm_br (c := ¬ (h.1 264 5) = 0) (p1 := 122) (p2 := 7) (l1 := [.ref 264, .null]) (l2 := [.ref 264, .null]) (s1 := []) (s2 := []) (h1 := h) (h2 := h) rfl rfl).trans (mm_ite ?_ ?_)
  · refine (mm_by 2 (pc' := 125) (ls' := [.ref 264, .null]) (st' := [.int 42, .ref 264]) (h' := h) rfl).trans ?_
    refine (mm_c1 (y := 198) (as := [.ref 264, .int 42]) (nx := 128) (rest := []) rfl rfl).trans (mm_congI fun v2 h1 => ?_)
    refine (mm_br (c := ¬ v2 = 0) (p1 := 140) (p2 := 131) (l1 := [.ref 264, .null]) (l2 := [.ref 264, .null]) (s1 := []) (s2 := []) (h1 := h1) (h2 := h1) rfl rfl).trans (mm_ite ?_ ?_)
    · refine (mm_by 6 (pc' := 150) (ls' := [.ref 264, .null]) (st' := [.int ((h1.1 264 2) - 1), .ref 265]) (h' := h1) rfl).trans ?_
      refine (mm_gd (c := ((h1.1 264 2) - 1) < 0 ∨ 1600 ≤ ((h1.1 264 2) - 1).toNatClampNeg) (p1 := 151) (l1 := [.ref 264, .null]) (s1 := [.int (h1.1 265 ((h1.1 264 2) - 1).toNatClampNeg)]) (h1 := h1) rfl (q_iald (n := 1600) rfl)).trans (mm_ite rfl ?_)
      refine (mm_by 1 (pc' := 153) (ls' := [.ref 264, .null]) (st' := [.int 42, .int (h1.1 265 ((h1.1 264 2) - 1).toNatClampNeg)]) (h' := h1) rfl).trans ?_
      refine (mm_br (c := ¬ (h1.1 265 ((h1.1 264 2) - 1).toNatClampNeg) = 42) (p1 := 160) (p2 := 156) (l1 := [.ref 264, .null]) (l2 := [.ref 264, .null]) (s1 := []) (s2 := []) (h1 := h1) (h2 := h1) rfl rfl).trans (mm_ite ?_ ?_)
      · exact mm_by 2 rfl
      · exact mm_by 3 rfl
    · refine (mm_by 2 (pc' := 134) (ls' := [.ref 264, .null]) (st' := [.int 47, .ref 264]) (h' := h1) rfl).trans ?_
      refine (mm_c1 (y := 198) (as := [.ref 264, .int 47]) (nx := 137) (rest := []) rfl rfl).trans (mm_congI fun v4 h3 => ?_)
      refine (mm_br (c := v4 = 0) (p1 := 207) (p2 := 140) (l1 := [.ref 264, .null]) (l2 := [.ref 264, .null]) (s1 := []) (s2 := []) (h1 := h3) (h2 := h3) rfl rfl).trans (mm_ite ?_ ?_)
      · refine (mm_by 2 (pc' := 210) (ls' := [.ref 264, .null]) (st' := [.int 43, .ref 264]) (h' := h3) rfl).trans ?_
        refine (mm_c1 (y := 198) (as := [.ref 264, .int 43]) (nx := 213) (rest := []) rfl rfl).trans (mm_congI fun v6 h5 => ?_)
        refine (mm_br (c := ¬ v6 = 0) (p1 := 225) (p2 := 216) (l1 := [.ref 264, .null]) (l2 := [.ref 264, .null]) (s1 := []) (s2 := []) (h1 := h5) (h2 := h5) rfl rfl).trans (mm_ite ?_ ?_)
        · refine (mm_by 6 (pc' := 235) (ls' := [.ref 264, .null]) (st' := [.int ((h5.1 264 2) - 1), .ref 265]) (h' := h5) rfl).trans ?_
          refine (mm_gd (c := ((h5.1 264 2) - 1) < 0 ∨ 1600 ≤ ((h5.1 264 2) - 1).toNatClampNeg) (p1 := 236) (l1 := [.ref 264, .null]) (s1 := [.int (h5.1 265 ((h5.1 264 2) - 1).toNatClampNeg)]) (h1 := h5) rfl (q_iald (n := 1600) rfl)).trans (mm_ite rfl ?_)
          refine (mm_by 1 (pc' := 238) (ls' := [.ref 264, .null]) (st' := [.int 43, .int (h5.1 265 ((h5.1 264 2) - 1).toNatClampNeg)]) (h' := h5) rfl).trans ?_
          refine (mm_br (c := ¬ (h5.1 265 ((h5.1 264 2) - 1).toNatClampNeg) = 43) (p1 := 245) (p2 := 241) (l1 := [.ref 264, .null]) (l2 := [.ref 264, .null]) (s1 := []) (s2 := []) (h1 := h5) (h2 := h5) rfl rfl).trans (mm_ite ?_ ?_)
          · exact mm_by 2 rfl
          · exact mm_by 3 rfl
        · refine (mm_by 2 (pc' := 219) (ls' := [.ref 264, .null]) (st' := [.int 45, .ref 264]) (h' := h5) rfl).trans ?_
          refine (mm_c1 (y := 198) (as := [.ref 264, .int 45]) (nx := 222) (rest := []) rfl rfl).trans (mm_congI fun v8 h7 => ?_)
          refine (mm_br (c := v8 = 0) (p1 := 308) (p2 := 225) (l1 := [.ref 264, .null]) (l2 := [.ref 264, .null]) (s1 := []) (s2 := []) (h1 := h7) (h2 := h7) rfl rfl).trans (mm_ite ?_ ?_)
          · refine (mm_by 1 (pc' := 309) (ls' := [.ref 264, .null]) (st' := [.ref 264]) (h' := h7) rfl).trans ?_
            refine (mm_c1 (y := 290) (as := [.ref 264]) (nx := 312) (rest := []) rfl rfl).trans (mm_congI fun v10 h9 => ?_)
            refine (mm_by 1 (pc' := 314) (ls' := [.ref 264, .null]) (st' := [.int 21, .int v10]) (h' := h9) rfl).trans ?_
            refine (mm_br (c := v10 = 21) (p1 := 326) (p2 := 317) (l1 := [.ref 264, .null]) (l2 := [.ref 264, .null]) (s1 := []) (s2 := []) (h1 := h9) (h2 := h9) rfl rfl).trans (mm_ite ?_ ?_)
            · refine (mm_by 2 (pc' := 329) (ls' := [.ref 264, .null]) (st' := [.int 44, .ref 264]) (h' := h9) rfl).trans ?_
              refine (mm_c0 (y := 199) (as := [.ref 264, .int 44]) (nx := 332) (rest := []) rfl rfl).trans (mm_congV fun h11 => ?_)
              refine (mm_by 2 (pc' := 336) (ls' := [.ref 264, .null]) (st' := [.int (h11.1 264 5)]) (h' := h11) rfl).trans ?_
              refine (mm_br (c := (h11.1 264 5) = 0) (p1 := 341) (p2 := 339) (l1 := [.ref 264, .null]) (l2 := [.ref 264, .null]) (s1 := []) (s2 := []) (h1 := h11) (h2 := h11) rfl rfl).trans (mm_ite ?_ ?_)
              · refine (mm_by 1 (pc' := 342) (ls' := [.ref 264, .null]) (st' := [.ref 264]) (h' := h11) rfl).trans ?_
                refine (mm_c0 (y := 291) (as := [.ref 264]) (nx := 345) (rest := []) rfl rfl).trans (mm_congV fun h12 => ?_)
                refine (mm_by 7 (pc' := 356) (ls' := [.ref 264, .null]) (st' := [.int ((h12.1 264 104) - 1), .ref 333, .int ((h12.1 264 104) - 1), .ref 333]) (h' := h12) rfl).trans ?_
                refine (mm_gd (c := ((h12.1 264 104) - 1) < 0 ∨ 1700 ≤ ((h12.1 264 104) - 1).toNatClampNeg) (p1 := 357) (l1 := [.ref 264, .null]) (s1 := [.int (h12.1 333 ((h12.1 264 104) - 1).toNatClampNeg), .int ((h12.1 264 104) - 1), .ref 333]) (h1 := h12) rfl (q_iald (n := 1700) rfl)).trans (mm_ite rfl ?_)
                refine (mm_by 2 (pc' := 359) (ls' := [.ref 264, .null]) (st' := [.int ((h12.1 333 ((h12.1 264 104) - 1).toNatClampNeg) + 2), .int ((h12.1 264 104) - 1), .ref 333]) (h' := h12) rfl).trans ?_
                refine (mm_gd (c := ((h12.1 264 104) - 1) < 0 ∨ 1700 ≤ ((h12.1 264 104) - 1).toNatClampNeg) (p1 := 360) (l1 := [.ref 264, .null]) (s1 := []) (h1 := wI h12 333 (((h12.1 264 104) - 1).toNatClampNeg) ((h12.1 333 ((h12.1 264 104) - 1).toNatClampNeg) + 2)) rfl (q_iast (n := 1700) rfl)).trans (mm_ite rfl ?_)
                exact mm_by_end 2 rfl
              · exact mm_by_end 2 rfl
            · refine (mm_by 1 (pc' := 318) (ls' := [.ref 264, .null]) (st' := [.ref 264]) (h' := h9) rfl).trans ?_
              refine (mm_c1 (y := 290) (as := [.ref 264]) (nx := 321) (rest := []) rfl rfl).trans (mm_congI fun v14 h13 => ?_)
              refine (mm_by 1 (pc' := 323) (ls' := [.ref 264, .null]) (st' := [.int 22, .int v14]) (h' := h13) rfl).trans ?_
              refine (mm_br (c := ¬ v14 = 22) (p1 := 362) (p2 := 326) (l1 := [.ref 264, .null]) (l2 := [.ref 264, .null]) (s1 := []) (s2 := []) (h1 := h13) (h2 := h13) rfl rfl).trans (mm_ite ?_ ?_)
              · refine (mm_by 1 (pc' := 363) (ls' := [.ref 264, .null]) (st' := [.ref 264]) (h' := h13) rfl).trans ?_
                refine (mm_c1 (y := 290) (as := [.ref 264]) (nx := 366) (rest := []) rfl rfl).trans (mm_congI fun v16 h15 => ?_)
                refine (mm_by 1 (pc' := 367) (ls' := [.ref 264, .null]) (st' := [.int ((-1)), .int v16]) (h' := h15) rfl).trans ?_
                refine (mm_br (c := v16 = ((-1))) (p1 := 386) (p2 := 370) (l1 := [.ref 264, .null]) (l2 := [.ref 264, .null]) (s1 := []) (s2 := []) (h1 := h15) (h2 := h15) rfl rfl).trans (mm_ite ?_ ?_)
                · exact mm_by_end 2 rfl
                · refine (mm_by 2 (pc' := 374) (ls' := [.ref 264, .null]) (st' := [.int (h15.1 264 5)]) (h' := h15) rfl).trans ?_
                  refine (mm_br (c := ¬ (h15.1 264 5) = 0) (p1 := 386) (p2 := 377) (l1 := [.ref 264, .null]) (l2 := [.ref 264, .null]) (s1 := []) (s2 := []) (h1 := h15) (h2 := h15) rfl rfl).trans (mm_ite ?_ ?_)
                  · exact mm_by_end 2 rfl
                  · refine (mm_by 4 (pc' := 383) (ls' := [.ref 264, .null]) (st' := [.int (h15.1 264 2), .int 1, .ref 264]) (h' := h15) rfl).trans ?_
                    refine (mm_c0 (y := 191) (as := [.ref 264, .int 1, .int (h15.1 264 2)]) (nx := 386) (rest := []) rfl rfl).trans (mm_congV fun h17 => ?_)
                    exact mm_by_end 2 rfl
              · refine (mm_by 2 (pc' := 329) (ls' := [.ref 264, .null]) (st' := [.int 44, .ref 264]) (h' := h13) rfl).trans ?_
                refine (mm_c0 (y := 199) (as := [.ref 264, .int 44]) (nx := 332) (rest := []) rfl rfl).trans (mm_congV fun h18 => ?_)
                refine (mm_by 2 (pc' := 336) (ls' := [.ref 264, .null]) (st' := [.int (h18.1 264 5)]) (h' := h18) rfl).trans ?_
                refine (mm_br (c := (h18.1 264 5) = 0) (p1 := 341) (p2 := 339) (l1 := [.ref 264, .null]) (l2 := [.ref 264, .null]) (s1 := []) (s2 := []) (h1 := h18) (h2 := h18) rfl rfl).trans (mm_ite ?_ ?_)
                · refine (mm_by 1 (pc' := 342) (ls' := [.ref 264, .null]) (st' := [.ref 264]) (h' := h18) rfl).trans ?_
                  refine (mm_c0 (y := 291) (as := [.ref 264]) (nx := 345) (rest := []) rfl rfl).trans (mm_congV fun h19 => ?_)
                  refine (mm_by 7 (pc' := 356) (ls' := [.ref 264, .null]) (st' := [.int ((h19.1 264 104) - 1), .ref 333, .int ((h19.1 264 104) - 1), .ref 333]) (h' := h19) rfl).trans ?_
                  refine (mm_gd (c := ((h19.1 264 104) - 1) < 0 ∨ 1700 ≤ ((h19.1 264 104) - 1).toNatClampNeg) (p1 := 357) (l1 := [.ref 264, .null]) (s1 := [.int (h19.1 333 ((h19.1 264 104) - 1).toNatClampNeg), .int ((h19.1 264 104) - 1), .ref 333]) (h1 := h19) rfl (q_iald (n := 1700) rfl)).trans (mm_ite rfl ?_)
                  refine (mm_by 2 (pc' := 359) (ls' := [.ref 264, .null]) (st' := [.int ((h19.1 333 ((h19.1 264 104) - 1).toNatClampNeg) + 2), .int ((h19.1 264 104) - 1), .ref 333]) (h' := h19) rfl).trans ?_
                  refine (mm_gd (c := ((h19.1 264 104) - 1) < 0 ∨ 1700 ≤ ((h19.1 264 104) - 1).toNatClampNeg) (p1 := 360) (l1 := [.ref 264, .null]) (s1 := []) (h1 := wI h19 333 (((h19.1 264 104) - 1).toNatClampNeg) ((h19.1 333 ((h19.1 264 104) - 1).toNatClampNeg) + 2)) rfl (q_iast (n := 1700) rfl)).trans (mm_ite rfl ?_)
                  exact mm_by_end 2 rfl
                · exact mm_by_end 2 rfl
          · refine (mm_by 6 (pc' := 235) (ls' := [.ref 264, .null]) (st' := [.int ((h7.1 264 2) - 1), .ref 265]) (h' := h7) rfl).trans ?_
            refine (mm_gd (c := ((h7.1 264 2) - 1) < 0 ∨ 1600 ≤ ((h7.1 264 2) - 1).toNatClampNeg) (p1 := 236) (l1 := [.ref 264, .null]) (s1 := [.int (h7.1 265 ((h7.1 264 2) - 1).toNatClampNeg)]) (h1 := h7) rfl (q_iald (n := 1600) rfl)).trans (mm_ite rfl ?_)
            refine (mm_by 1 (pc' := 238) (ls' := [.ref 264, .null]) (st' := [.int 43, .int (h7.1 265 ((h7.1 264 2) - 1).toNatClampNeg)]) (h' := h7) rfl).trans ?_
            refine (mm_br (c := ¬ (h7.1 265 ((h7.1 264 2) - 1).toNatClampNeg) = 43) (p1 := 245) (p2 := 241) (l1 := [.ref 264, .null]) (l2 := [.ref 264, .null]) (s1 := []) (s2 := []) (h1 := h7) (h2 := h7) rfl rfl).trans (mm_ite ?_ ?_)
            · exact mm_by 2 rfl
            · exact mm_by 3 rfl
      · refine (mm_by 6 (pc' := 150) (ls' := [.ref 264, .null]) (st' := [.int ((h3.1 264 2) - 1), .ref 265]) (h' := h3) rfl).trans ?_
        refine (mm_gd (c := ((h3.1 264 2) - 1) < 0 ∨ 1600 ≤ ((h3.1 264 2) - 1).toNatClampNeg) (p1 := 151) (l1 := [.ref 264, .null]) (s1 := [.int (h3.1 265 ((h3.1 264 2) - 1).toNatClampNeg)]) (h1 := h3) rfl (q_iald (n := 1600) rfl)).trans (mm_ite rfl ?_)
        refine (mm_by 1 (pc' := 153) (ls' := [.ref 264, .null]) (st' := [.int 42, .int (h3.1 265 ((h3.1 264 2) - 1).toNatClampNeg)]) (h' := h3) rfl).trans ?_
        refine (mm_br (c := ¬ (h3.1 265 ((h3.1 264 2) - 1).toNatClampNeg) = 42) (p1 := 160) (p2 := 156) (l1 := [.ref 264, .null]) (l2 := [.ref 264, .null]) (s1 := []) (s2 := []) (h1 := h3) (h2 := h3) rfl rfl).trans (mm_ite ?_ ?_)
        · exact mm_by 2 rfl
        · exact mm_by 3 rfl
  · refine (mm_by 1 (pc' := 8) (ls' := [.ref 264, .null]) (st' := [.ref 264]) (h' := h) rfl).trans ?_
    refine (mm_c1 (y := 194) (as := [.ref 264]) (nx := 11) (rest := []) rfl rfl).trans (mm_congI fun v21 h20 => ?_)
    refine (mm_by 1 (pc' := 13) (ls' := [.ref 264, .null]) (st' := [.int 41, .int v21]) (h' := h20) rfl).trans ?_
    refine (mm_br (c := ¬ v21 = 41) (p1 := 122) (p2 := 16) (l1 := [.ref 264, .null]) (l2 := [.ref 264, .null]) (s1 := []) (s2 := []) (h1 := h20) (h2 := h20) rfl rfl).trans (mm_ite ?_ ?_)
    · refine (mm_by 2 (pc' := 125) (ls' := [.ref 264, .null]) (st' := [.int 42, .ref 264]) (h' := h20) rfl).trans ?_
      refine (mm_c1 (y := 198) (as := [.ref 264, .int 42]) (nx := 128) (rest := []) rfl rfl).trans (mm_congI fun v23 h22 => ?_)
      refine (mm_br (c := ¬ v23 = 0) (p1 := 140) (p2 := 131) (l1 := [.ref 264, .null]) (l2 := [.ref 264, .null]) (s1 := []) (s2 := []) (h1 := h22) (h2 := h22) rfl rfl).trans (mm_ite ?_ ?_)
      · refine (mm_by 6 (pc' := 150) (ls' := [.ref 264, .null]) (st' := [.int ((h22.1 264 2) - 1), .ref 265]) (h' := h22) rfl).trans ?_
        refine (mm_gd (c := ((h22.1 264 2) - 1) < 0 ∨ 1600 ≤ ((h22.1 264 2) - 1).toNatClampNeg) (p1 := 151) (l1 := [.ref 264, .null]) (s1 := [.int (h22.1 265 ((h22.1 264 2) - 1).toNatClampNeg)]) (h1 := h22) rfl (q_iald (n := 1600) rfl)).trans (mm_ite rfl ?_)
        refine (mm_by 1 (pc' := 153) (ls' := [.ref 264, .null]) (st' := [.int 42, .int (h22.1 265 ((h22.1 264 2) - 1).toNatClampNeg)]) (h' := h22) rfl).trans ?_
        refine (mm_br (c := ¬ (h22.1 265 ((h22.1 264 2) - 1).toNatClampNeg) = 42) (p1 := 160) (p2 := 156) (l1 := [.ref 264, .null]) (l2 := [.ref 264, .null]) (s1 := []) (s2 := []) (h1 := h22) (h2 := h22) rfl rfl).trans (mm_ite ?_ ?_)
        · exact mm_by 2 rfl
        · exact mm_by 3 rfl
      · refine (mm_by 2 (pc' := 134) (ls' := [.ref 264, .null]) (st' := [.int 47, .ref 264]) (h' := h22) rfl).trans ?_
        refine (mm_c1 (y := 198) (as := [.ref 264, .int 47]) (nx := 137) (rest := []) rfl rfl).trans (mm_congI fun v25 h24 => ?_)
        refine (mm_br (c := v25 = 0) (p1 := 207) (p2 := 140) (l1 := [.ref 264, .null]) (l2 := [.ref 264, .null]) (s1 := []) (s2 := []) (h1 := h24) (h2 := h24) rfl rfl).trans (mm_ite ?_ ?_)
        · refine (mm_by 2 (pc' := 210) (ls' := [.ref 264, .null]) (st' := [.int 43, .ref 264]) (h' := h24) rfl).trans ?_
          refine (mm_c1 (y := 198) (as := [.ref 264, .int 43]) (nx := 213) (rest := []) rfl rfl).trans (mm_congI fun v27 h26 => ?_)
          refine (mm_br (c := ¬ v27 = 0) (p1 := 225) (p2 := 216) (l1 := [.ref 264, .null]) (l2 := [.ref 264, .null]) (s1 := []) (s2 := []) (h1 := h26) (h2 := h26) rfl rfl).trans (mm_ite ?_ ?_)
          · refine (mm_by 6 (pc' := 235) (ls' := [.ref 264, .null]) (st' := [.int ((h26.1 264 2) - 1), .ref 265]) (h' := h26) rfl).trans ?_
            refine (mm_gd (c := ((h26.1 264 2) - 1) < 0 ∨ 1600 ≤ ((h26.1 264 2) - 1).toNatClampNeg) (p1 := 236) (l1 := [.ref 264, .null]) (s1 := [.int (h26.1 265 ((h26.1 264 2) - 1).toNatClampNeg)]) (h1 := h26) rfl (q_iald (n := 1600) rfl)).trans (mm_ite rfl ?_)
            refine (mm_by 1 (pc' := 238) (ls' := [.ref 264, .null]) (st' := [.int 43, .int (h26.1 265 ((h26.1 264 2) - 1).toNatClampNeg)]) (h' := h26) rfl).trans ?_
            refine (mm_br (c := ¬ (h26.1 265 ((h26.1 264 2) - 1).toNatClampNeg) = 43) (p1 := 245) (p2 := 241) (l1 := [.ref 264, .null]) (l2 := [.ref 264, .null]) (s1 := []) (s2 := []) (h1 := h26) (h2 := h26) rfl rfl).trans (mm_ite ?_ ?_)
            · exact mm_by 2 rfl
            · exact mm_by 3 rfl
          · refine (mm_by 2 (pc' := 219) (ls' := [.ref 264, .null]) (st' := [.int 45, .ref 264]) (h' := h26) rfl).trans ?_
            refine (mm_c1 (y := 198) (as := [.ref 264, .int 45]) (nx := 222) (rest := []) rfl rfl).trans (mm_congI fun v29 h28 => ?_)
            refine (mm_br (c := v29 = 0) (p1 := 308) (p2 := 225) (l1 := [.ref 264, .null]) (l2 := [.ref 264, .null]) (s1 := []) (s2 := []) (h1 := h28) (h2 := h28) rfl rfl).trans (mm_ite ?_ ?_)
            · refine (mm_by 1 (pc' := 309) (ls' := [.ref 264, .null]) (st' := [.ref 264]) (h' := h28) rfl).trans ?_
              refine (mm_c1 (y := 290) (as := [.ref 264]) (nx := 312) (rest := []) rfl rfl).trans (mm_congI fun v31 h30 => ?_)
              refine (mm_by 1 (pc' := 314) (ls' := [.ref 264, .null]) (st' := [.int 21, .int v31]) (h' := h30) rfl).trans ?_
              refine (mm_br (c := v31 = 21) (p1 := 326) (p2 := 317) (l1 := [.ref 264, .null]) (l2 := [.ref 264, .null]) (s1 := []) (s2 := []) (h1 := h30) (h2 := h30) rfl rfl).trans (mm_ite ?_ ?_)
              · refine (mm_by 2 (pc' := 329) (ls' := [.ref 264, .null]) (st' := [.int 44, .ref 264]) (h' := h30) rfl).trans ?_
                refine (mm_c0 (y := 199) (as := [.ref 264, .int 44]) (nx := 332) (rest := []) rfl rfl).trans (mm_congV fun h32 => ?_)
                refine (mm_by 2 (pc' := 336) (ls' := [.ref 264, .null]) (st' := [.int (h32.1 264 5)]) (h' := h32) rfl).trans ?_
                refine (mm_br (c := (h32.1 264 5) = 0) (p1 := 341) (p2 := 339) (l1 := [.ref 264, .null]) (l2 := [.ref 264, .null]) (s1 := []) (s2 := []) (h1 := h32) (h2 := h32) rfl rfl).trans (mm_ite ?_ ?_)
                · refine (mm_by 1 (pc' := 342) (ls' := [.ref 264, .null]) (st' := [.ref 264]) (h' := h32) rfl).trans ?_
                  refine (mm_c0 (y := 291) (as := [.ref 264]) (nx := 345) (rest := []) rfl rfl).trans (mm_congV fun h33 => ?_)
                  refine (mm_by 7 (pc' := 356) (ls' := [.ref 264, .null]) (st' := [.int ((h33.1 264 104) - 1), .ref 333, .int ((h33.1 264 104) - 1), .ref 333]) (h' := h33) rfl).trans ?_
                  refine (mm_gd (c := ((h33.1 264 104) - 1) < 0 ∨ 1700 ≤ ((h33.1 264 104) - 1).toNatClampNeg) (p1 := 357) (l1 := [.ref 264, .null]) (s1 := [.int (h33.1 333 ((h33.1 264 104) - 1).toNatClampNeg), .int ((h33.1 264 104) - 1), .ref 333]) (h1 := h33) rfl (q_iald (n := 1700) rfl)).trans (mm_ite rfl ?_)
                  refine (mm_by 2 (pc' := 359) (ls' := [.ref 264, .null]) (st' := [.int ((h33.1 333 ((h33.1 264 104) - 1).toNatClampNeg) + 2), .int ((h33.1 264 104) - 1), .ref 333]) (h' := h33) rfl).trans ?_
                  refine (mm_gd (c := ((h33.1 264 104) - 1) < 0 ∨ 1700 ≤ ((h33.1 264 104) - 1).toNatClampNeg) (p1 := 360) (l1 := [.ref 264, .null]) (s1 := []) (h1 := wI h33 333 (((h33.1 264 104) - 1).toNatClampNeg) ((h33.1 333 ((h33.1 264 104) - 1).toNatClampNeg) + 2)) rfl (q_iast (n := 1700) rfl)).trans (mm_ite rfl ?_)
                  exact mm_by_end 2 rfl
                · exact mm_by_end 2 rfl
              · refine (mm_by 1 (pc' := 318) (ls' := [.ref 264, .null]) (st' := [.ref 264]) (h' := h30) rfl).trans ?_
                refine (mm_c1 (y := 290) (as := [.ref 264]) (nx := 321) (rest := []) rfl rfl).trans (mm_congI fun v35 h34 => ?_)
                refine (mm_by 1 (pc' := 323) (ls' := [.ref 264, .null]) (st' := [.int 22, .int v35]) (h' := h34) rfl).trans ?_
                refine (mm_br (c := ¬ v35 = 22) (p1 := 362) (p2 := 326) (l1 := [.ref 264, .null]) (l2 := [.ref 264, .null]) (s1 := []) (s2 := []) (h1 := h34) (h2 := h34) rfl rfl).trans (mm_ite ?_ ?_)
                · refine (mm_by 1 (pc' := 363) (ls' := [.ref 264, .null]) (st' := [.ref 264]) (h' := h34) rfl).trans ?_
                  refine (mm_c1 (y := 290) (as := [.ref 264]) (nx := 366) (rest := []) rfl rfl).trans (mm_congI fun v37 h36 => ?_)
                  refine (mm_by 1 (pc' := 367) (ls' := [.ref 264, .null]) (st' := [.int ((-1)), .int v37]) (h' := h36) rfl).trans ?_
                  refine (mm_br (c := v37 = ((-1))) (p1 := 386) (p2 := 370) (l1 := [.ref 264, .null]) (l2 := [.ref 264, .null]) (s1 := []) (s2 := []) (h1 := h36) (h2 := h36) rfl rfl).trans (mm_ite ?_ ?_)
                  · exact mm_by_end 2 rfl
                  · refine (mm_by 2 (pc' := 374) (ls' := [.ref 264, .null]) (st' := [.int (h36.1 264 5)]) (h' := h36) rfl).trans ?_
                    refine (mm_br (c := ¬ (h36.1 264 5) = 0) (p1 := 386) (p2 := 377) (l1 := [.ref 264, .null]) (l2 := [.ref 264, .null]) (s1 := []) (s2 := []) (h1 := h36) (h2 := h36) rfl rfl).trans (mm_ite ?_ ?_)
                    · exact mm_by_end 2 rfl
                    · refine (mm_by 4 (pc' := 383) (ls' := [.ref 264, .null]) (st' := [.int (h36.1 264 2), .int 1, .ref 264]) (h' := h36) rfl).trans ?_
                      refine (mm_c0 (y := 191) (as := [.ref 264, .int 1, .int (h36.1 264 2)]) (nx := 386) (rest := []) rfl rfl).trans (mm_congV fun h38 => ?_)
                      exact mm_by_end 2 rfl
                · refine (mm_by 2 (pc' := 329) (ls' := [.ref 264, .null]) (st' := [.int 44, .ref 264]) (h' := h34) rfl).trans ?_
                  refine (mm_c0 (y := 199) (as := [.ref 264, .int 44]) (nx := 332) (rest := []) rfl rfl).trans (mm_congV fun h39 => ?_)
                  refine (mm_by 2 (pc' := 336) (ls' := [.ref 264, .null]) (st' := [.int (h39.1 264 5)]) (h' := h39) rfl).trans ?_
                  refine (mm_br (c := (h39.1 264 5) = 0) (p1 := 341) (p2 := 339) (l1 := [.ref 264, .null]) (l2 := [.ref 264, .null]) (s1 := []) (s2 := []) (h1 := h39) (h2 := h39) rfl rfl).trans (mm_ite ?_ ?_)
                  · refine (mm_by 1 (pc' := 342) (ls' := [.ref 264, .null]) (st' := [.ref 264]) (h' := h39) rfl).trans ?_
                    refine (mm_c0 (y := 291) (as := [.ref 264]) (nx := 345) (rest := []) rfl rfl).trans (mm_congV fun h40 => ?_)
                    refine (mm_by 7 (pc' := 356) (ls' := [.ref 264, .null]) (st' := [.int ((h40.1 264 104) - 1), .ref 333, .int ((h40.1 264 104) - 1), .ref 333]) (h' := h40) rfl).trans ?_
                    refine (mm_gd (c := ((h40.1 264 104) - 1) < 0 ∨ 1700 ≤ ((h40.1 264 104) - 1).toNatClampNeg) (p1 := 357) (l1 := [.ref 264, .null]) (s1 := [.int (h40.1 333 ((h40.1 264 104) - 1).toNatClampNeg), .int ((h40.1 264 104) - 1), .ref 333]) (h1 := h40) rfl (q_iald (n := 1700) rfl)).trans (mm_ite rfl ?_)
                    refine (mm_by 2 (pc' := 359) (ls' := [.ref 264, .null]) (st' := [.int ((h40.1 333 ((h40.1 264 104) - 1).toNatClampNeg) + 2), .int ((h40.1 264 104) - 1), .ref 333]) (h' := h40) rfl).trans ?_
                    refine (mm_gd (c := ((h40.1 264 104) - 1) < 0 ∨ 1700 ≤ ((h40.1 264 104) - 1).toNatClampNeg) (p1 := 360) (l1 := [.ref 264, .null]) (s1 := []) (h1 := wI h40 333 (((h40.1 264 104) - 1).toNatClampNeg) ((h40.1 333 ((h40.1 264 104) - 1).toNatClampNeg) + 2)) rfl (q_iast (n := 1700) rfl)).trans (mm_ite rfl ?_)
                    exact mm_by_end 2 rfl
                  · exact mm_by_end 2 rfl
            · refine (mm_by 6 (pc' := 235) (ls' := [.ref 264, .null]) (st' := [.int ((h28.1 264 2) - 1), .ref 265]) (h' := h28) rfl).trans ?_
              refine (mm_gd (c := ((h28.1 264 2) - 1) < 0 ∨ 1600 ≤ ((h28.1 264 2) - 1).toNatClampNeg) (p1 := 236) (l1 := [.ref 264, .null]) (s1 := [.int (h28.1 265 ((h28.1 264 2) - 1).toNatClampNeg)]) (h1 := h28) rfl (q_iald (n := 1600) rfl)).trans (mm_ite rfl ?_)
              refine (mm_by 1 (pc' := 238) (ls' := [.ref 264, .null]) (st' := [.int 43, .int (h28.1 265 ((h28.1 264 2) - 1).toNatClampNeg)]) (h' := h28) rfl).trans ?_
              refine (mm_br (c := ¬ (h28.1 265 ((h28.1 264 2) - 1).toNatClampNeg) = 43) (p1 := 245) (p2 := 241) (l1 := [.ref 264, .null]) (l2 := [.ref 264, .null]) (s1 := []) (s2 := []) (h1 := h28) (h2 := h28) rfl rfl).trans (mm_ite ?_ ?_)
              · exact mm_by 2 rfl
              · exact mm_by 3 rfl
        · refine (mm_by 6 (pc' := 150) (ls' := [.ref 264, .null]) (st' := [.int ((h24.1 264 2) - 1), .ref 265]) (h' := h24) rfl).trans ?_
          refine (mm_gd (c := ((h24.1 264 2) - 1) < 0 ∨ 1600 ≤ ((h24.1 264 2) - 1).toNatClampNeg) (p1 := 151) (l1 := [.ref 264, .null]) (s1 := [.int (h24.1 265 ((h24.1 264 2) - 1).toNatClampNeg)]) (h1 := h24) rfl (q_iald (n := 1600) rfl)).trans (mm_ite rfl ?_)
          refine (mm_by 1 (pc' := 153) (ls' := [.ref 264, .null]) (st' := [.int 42, .int (h24.1 265 ((h24.1 264 2) - 1).toNatClampNeg)]) (h' := h24) rfl).trans ?_
          refine (mm_br (c := ¬ (h24.1 265 ((h24.1 264 2) - 1).toNatClampNeg) = 42) (p1 := 160) (p2 := 156) (l1 := [.ref 264, .null]) (l2 := [.ref 264, .null]) (s1 := []) (s2 := []) (h1 := h24) (h2 := h24) rfl rfl).trans (mm_ite ?_ ?_)
          · exact mm_by 2 rfl
          · exact mm_by 3 rfl
    · refine (mm_by 1 (pc' := 17) (ls' := [.ref 264, .null]) (st' := [.ref 264]) (h' := h20) rfl).trans ?_
      refine (mm_c1 (y := 290) (as := [.ref 264]) (nx := 20) (rest := []) rfl rfl).trans (mm_congI fun v42 h41 => ?_)
      refine (mm_by 1 (pc' := 22) (ls' := [.ref 264, .null]) (st' := [.int 20, .int v42]) (h' := h41) rfl).trans ?_
      refine (mm_br (c := v42 = 20) (p1 := 43) (p2 := 25) (l1 := [.ref 264, .null]) (l2 := [.ref 264, .null]) (s1 := []) (s2 := []) (h1 := h41) (h2 := h41) rfl rfl).trans (mm_ite ?_ ?_)
      · refine (mm_by 7 (pc' := 54) (ls' := [.ref 264, .null]) (st' := [.ref 264]) (h' := wI h41 264 2 ((h41.1 264 2) + 1)) rfl).trans ?_
        refine (mm_c0 (y := 291) (as := [.ref 264]) (nx := 57) (rest := []) rfl rfl).trans (mm_congV fun h43 => ?_)
        refine (mm_by 16 (pc' := 85) (ls' := [.ref 264, .null]) (st' := [.int ((wI (wI h43 264 104 ((h43.1 264 104) - 1)) 264 105 (((wI h43 264 104 ((h43.1 264 104) - 1)).1 264 105) - 1)).1 264 104), .ref 333]) (h' := wI (wI h43 264 104 ((h43.1 264 104) - 1)) 264 105 (((wI h43 264 104 ((h43.1 264 104) - 1)).1 264 105) - 1)) rfl).trans ?_
        refine (mm_gd (c := ((wI (wI h43 264 104 ((h43.1 264 104) - 1)) 264 105 (((wI h43 264 104 ((h43.1 264 104) - 1)).1 264 105) - 1)).1 264 104) < 0 ∨ 1700 ≤ ((wI (wI h43 264 104 ((h43.1 264 104) - 1)) 264 105 (((wI h43 264 104 ((h43.1 264 104) - 1)).1 264 105) - 1)).1 264 104).toNatClampNeg) (p1 := 86) (l1 := [.ref 264, .null]) (s1 := [.int ((wI (wI h43 264 104 ((h43.1 264 104) - 1)) 264 105 (((wI h43 264 104 ((h43.1 264 104) - 1)).1 264 105) - 1)).1 333 ((wI (wI h43 264 104 ((h43.1 264 104) - 1)) 264 105 (((wI h43 264 104 ((h43.1 264 104) - 1)).1 264 105) - 1)).1 264 104).toNatClampNeg)]) (h1 := wI (wI h43 264 104 ((h43.1 264 104) - 1)) 264 105 (((wI h43 264 104 ((h43.1 264 104) - 1)).1 264 105) - 1)) rfl (q_iald (n := 1700) rfl)).trans (mm_ite rfl ?_)
        refine (mm_by 1 (pc' := 88) (ls' := [.ref 264, .null]) (st' := [.int 20, .int ((wI (wI h43 264 104 ((h43.1 264 104) - 1)) 264 105 (((wI h43 264 104 ((h43.1 264 104) - 1)).1 264 105) - 1)).1 333 ((wI (wI h43 264 104 ((h43.1 264 104) - 1)) 264 105 (((wI h43 264 104 ((h43.1 264 104) - 1)).1 264 105) - 1)).1 264 104).toNatClampNeg)]) (h' := wI (wI h43 264 104 ((h43.1 264 104) - 1)) 264 105 (((wI h43 264 104 ((h43.1 264 104) - 1)).1 264 105) - 1)) rfl).trans ?_
        refine (mm_br (c := ((wI (wI h43 264 104 ((h43.1 264 104) - 1)) 264 105 (((wI h43 264 104 ((h43.1 264 104) - 1)).1 264 105) - 1)).1 333 ((wI (wI h43 264 104 ((h43.1 264 104) - 1)) 264 105 (((wI h43 264 104 ((h43.1 264 104) - 1)).1 264 105) - 1)).1 264 104).toNatClampNeg) = 20) (p1 := 115) (p2 := 91) (l1 := [.ref 264, .null]) (l2 := [.ref 264, .null]) (s1 := []) (s2 := []) (h1 := wI (wI h43 264 104 ((h43.1 264 104) - 1)) 264 105 (((wI h43 264 104 ((h43.1 264 104) - 1)).1 264 105) - 1)) (h2 := wI (wI h43 264 104 ((h43.1 264 104) - 1)) 264 105 (((wI h43 264 104 ((h43.1 264 104) - 1)).1 264 105) - 1)) rfl rfl).trans (mm_ite ?_ ?_)
        · refine (mm_by 1 (pc' := 116) (ls' := [.ref 264, .null]) (st' := [.ref 264]) (h' := wI (wI h43 264 104 ((h43.1 264 104) - 1)) 264 105 (((wI h43 264 104 ((h43.1 264 104) - 1)).1 264 105) - 1)) rfl).trans ?_
          refine (mm_c0 (y := 295) (as := [.ref 264]) (nx := 119) (rest := []) rfl rfl).trans (mm_congV fun h44 => ?_)
          exact mm_by 1 rfl
        · refine (mm_by 5 (pc' := 100) (ls' := [.ref 264, .null]) (st' := [.int ((wI (wI h43 264 104 ((h43.1 264 104) - 1)) 264 105 (((wI h43 264 104 ((h43.1 264 104) - 1)).1 264 105) - 1)).1 264 104), .ref 333, .ref 264]) (h' := wI (wI h43 264 104 ((h43.1 264 104) - 1)) 264 105 (((wI h43 264 104 ((h43.1 264 104) - 1)).1 264 105) - 1)) rfl).trans ?_
          refine (mm_gd (c := ((wI (wI h43 264 104 ((h43.1 264 104) - 1)) 264 105 (((wI h43 264 104 ((h43.1 264 104) - 1)).1 264 105) - 1)).1 264 104) < 0 ∨ 1700 ≤ ((wI (wI h43 264 104 ((h43.1 264 104) - 1)) 264 105 (((wI h43 264 104 ((h43.1 264 104) - 1)).1 264 105) - 1)).1 264 104).toNatClampNeg) (p1 := 101) (l1 := [.ref 264, .null]) (s1 := [.int ((wI (wI h43 264 104 ((h43.1 264 104) - 1)) 264 105 (((wI h43 264 104 ((h43.1 264 104) - 1)).1 264 105) - 1)).1 333 ((wI (wI h43 264 104 ((h43.1 264 104) - 1)) 264 105 (((wI h43 264 104 ((h43.1 264 104) - 1)).1 264 105) - 1)).1 264 104).toNatClampNeg), .ref 264]) (h1 := wI (wI h43 264 104 ((h43.1 264 104) - 1)) 264 105 (((wI h43 264 104 ((h43.1 264 104) - 1)).1 264 105) - 1)) rfl (q_iald (n := 1700) rfl)).trans (mm_ite rfl ?_)
          refine (mm_by 1 (pc' := 103) (ls' := [.ref 264, .null]) (st' := [.int 23, .int ((wI (wI h43 264 104 ((h43.1 264 104) - 1)) 264 105 (((wI h43 264 104 ((h43.1 264 104) - 1)).1 264 105) - 1)).1 333 ((wI (wI h43 264 104 ((h43.1 264 104) - 1)) 264 105 (((wI h43 264 104 ((h43.1 264 104) - 1)).1 264 105) - 1)).1 264 104).toNatClampNeg), .ref 264]) (h' := wI (wI h43 264 104 ((h43.1 264 104) - 1)) 264 105 (((wI h43 264 104 ((h43.1 264 104) - 1)).1 264 105) - 1)) rfl).trans ?_
          refine (mm_br (c := ¬ ((wI (wI h43 264 104 ((h43.1 264 104) - 1)) 264 105 (((wI h43 264 104 ((h43.1 264 104) - 1)).1 264 105) - 1)).1 333 ((wI (wI h43 264 104 ((h43.1 264 104) - 1)) 264 105 (((wI h43 264 104 ((h43.1 264 104) - 1)).1 264 105) - 1)).1 264 104).toNatClampNeg) = 23) (p1 := 110) (p2 := 106) (l1 := [.ref 264, .null]) (l2 := [.ref 264, .null]) (s1 := [.ref 264]) (s2 := [.ref 264]) (h1 := wI (wI h43 264 104 ((h43.1 264 104) - 1)) 264 105 (((wI h43 264 104 ((h43.1 264 104) - 1)).1 264 105) - 1)) (h2 := wI (wI h43 264 104 ((h43.1 264 104) - 1)) 264 105 (((wI h43 264 104 ((h43.1 264 104) - 1)).1 264 105) - 1)) rfl rfl).trans (mm_ite ?_ ?_)
          · refine (mm_by 1 (pc' := 112) (ls' := [.ref 264, .null]) (st' := [.int 6, .ref 264]) (h' := wI (wI h43 264 104 ((h43.1 264 104) - 1)) 264 105 (((wI h43 264 104 ((h43.1 264 104) - 1)).1 264 105) - 1)) rfl).trans ?_
            refine (mm_c0 (y := 285) (as := [.ref 264, .int 6]) (nx := 115) (rest := []) rfl rfl).trans (mm_congV fun h45 => ?_)
            refine (mm_by 1 (pc' := 116) (ls' := [.ref 264, .null]) (st' := [.ref 264]) (h' := h45) rfl).trans ?_
            refine (mm_c0 (y := 295) (as := [.ref 264]) (nx := 119) (rest := []) rfl rfl).trans (mm_congV fun h46 => ?_)
            exact mm_by 1 rfl
          · refine (mm_by 2 (pc' := 112) (ls' := [.ref 264, .null]) (st' := [.int 5, .ref 264]) (h' := wI (wI h43 264 104 ((h43.1 264 104) - 1)) 264 105 (((wI h43 264 104 ((h43.1 264 104) - 1)).1 264 105) - 1)) rfl).trans ?_
            refine (mm_c0 (y := 285) (as := [.ref 264, .int 5]) (nx := 115) (rest := []) rfl rfl).trans (mm_congV fun h47 => ?_)
            refine (mm_by 1 (pc' := 116) (ls' := [.ref 264, .null]) (st' := [.ref 264]) (h' := h47) rfl).trans ?_
            refine (mm_c0 (y := 295) (as := [.ref 264]) (nx := 119) (rest := []) rfl rfl).trans (mm_congV fun h48 => ?_)
            exact mm_by 1 rfl
      · refine (mm_by 1 (pc' := 26) (ls' := [.ref 264, .null]) (st' := [.ref 264]) (h' := h41) rfl).trans ?_
        refine (mm_c1 (y := 290) (as := [.ref 264]) (nx := 29) (rest := []) rfl rfl).trans (mm_congI fun v50 h49 => ?_)
        refine (mm_by 1 (pc' := 31) (ls' := [.ref 264, .null]) (st' := [.int 23, .int v50]) (h' := h49) rfl).trans ?_
        refine (mm_br (c := v50 = 23) (p1 := 43) (p2 := 34) (l1 := [.ref 264, .null]) (l2 := [.ref 264, .null]) (s1 := []) (s2 := []) (h1 := h49) (h2 := h49) rfl rfl).trans (mm_ite ?_ ?_)
        · refine (mm_by 7 (pc' := 54) (ls' := [.ref 264, .null]) (st' := [.ref 264]) (h' := wI h49 264 2 ((h49.1 264 2) + 1)) rfl).trans ?_
          refine (mm_c0 (y := 291) (as := [.ref 264]) (nx := 57) (rest := []) rfl rfl).trans (mm_congV fun h51 => ?_)
          refine (mm_by 16 (pc' := 85) (ls' := [.ref 264, .null]) (st' := [.int ((wI (wI h51 264 104 ((h51.1 264 104) - 1)) 264 105 (((wI h51 264 104 ((h51.1 264 104) - 1)).1 264 105) - 1)).1 264 104), .ref 333]) (h' := wI (wI h51 264 104 ((h51.1 264 104) - 1)) 264 105 (((wI h51 264 104 ((h51.1 264 104) - 1)).1 264 105) - 1)) rfl).trans ?_
          refine (mm_gd (c := ((wI (wI h51 264 104 ((h51.1 264 104) - 1)) 264 105 (((wI h51 264 104 ((h51.1 264 104) - 1)).1 264 105) - 1)).1 264 104) < 0 ∨ 1700 ≤ ((wI (wI h51 264 104 ((h51.1 264 104) - 1)) 264 105 (((wI h51 264 104 ((h51.1 264 104) - 1)).1 264 105) - 1)).1 264 104).toNatClampNeg) (p1 := 86) (l1 := [.ref 264, .null]) (s1 := [.int ((wI (wI h51 264 104 ((h51.1 264 104) - 1)) 264 105 (((wI h51 264 104 ((h51.1 264 104) - 1)).1 264 105) - 1)).1 333 ((wI (wI h51 264 104 ((h51.1 264 104) - 1)) 264 105 (((wI h51 264 104 ((h51.1 264 104) - 1)).1 264 105) - 1)).1 264 104).toNatClampNeg)]) (h1 := wI (wI h51 264 104 ((h51.1 264 104) - 1)) 264 105 (((wI h51 264 104 ((h51.1 264 104) - 1)).1 264 105) - 1)) rfl (q_iald (n := 1700) rfl)).trans (mm_ite rfl ?_)
          refine (mm_by 1 (pc' := 88) (ls' := [.ref 264, .null]) (st' := [.int 20, .int ((wI (wI h51 264 104 ((h51.1 264 104) - 1)) 264 105 (((wI h51 264 104 ((h51.1 264 104) - 1)).1 264 105) - 1)).1 333 ((wI (wI h51 264 104 ((h51.1 264 104) - 1)) 264 105 (((wI h51 264 104 ((h51.1 264 104) - 1)).1 264 105) - 1)).1 264 104).toNatClampNeg)]) (h' := wI (wI h51 264 104 ((h51.1 264 104) - 1)) 264 105 (((wI h51 264 104 ((h51.1 264 104) - 1)).1 264 105) - 1)) rfl).trans ?_
          refine (mm_br (c := ((wI (wI h51 264 104 ((h51.1 264 104) - 1)) 264 105 (((wI h51 264 104 ((h51.1 264 104) - 1)).1 264 105) - 1)).1 333 ((wI (wI h51 264 104 ((h51.1 264 104) - 1)) 264 105 (((wI h51 264 104 ((h51.1 264 104) - 1)).1 264 105) - 1)).1 264 104).toNatClampNeg) = 20) (p1 := 115) (p2 := 91) (l1 := [.ref 264, .null]) (l2 := [.ref 264, .null]) (s1 := []) (s2 := []) (h1 := wI (wI h51 264 104 ((h51.1 264 104) - 1)) 264 105 (((wI h51 264 104 ((h51.1 264 104) - 1)).1 264 105) - 1)) (h2 := wI (wI h51 264 104 ((h51.1 264 104) - 1)) 264 105 (((wI h51 264 104 ((h51.1 264 104) - 1)).1 264 105) - 1)) rfl rfl).trans (mm_ite ?_ ?_)
          · refine (mm_by 1 (pc' := 116) (ls' := [.ref 264, .null]) (st' := [.ref 264]) (h' := wI (wI h51 264 104 ((h51.1 264 104) - 1)) 264 105 (((wI h51 264 104 ((h51.1 264 104) - 1)).1 264 105) - 1)) rfl).trans ?_
            refine (mm_c0 (y := 295) (as := [.ref 264]) (nx := 119) (rest := []) rfl rfl).trans (mm_congV fun h52 => ?_)
            exact mm_by 1 rfl
          · refine (mm_by 5 (pc' := 100) (ls' := [.ref 264, .null]) (st' := [.int ((wI (wI h51 264 104 ((h51.1 264 104) - 1)) 264 105 (((wI h51 264 104 ((h51.1 264 104) - 1)).1 264 105) - 1)).1 264 104), .ref 333, .ref 264]) (h' := wI (wI h51 264 104 ((h51.1 264 104) - 1)) 264 105 (((wI h51 264 104 ((h51.1 264 104) - 1)).1 264 105) - 1)) rfl).trans ?_
            refine (mm_gd (c := ((wI (wI h51 264 104 ((h51.1 264 104) - 1)) 264 105 (((wI h51 264 104 ((h51.1 264 104) - 1)).1 264 105) - 1)).1 264 104) < 0 ∨ 1700 ≤ ((wI (wI h51 264 104 ((h51.1 264 104) - 1)) 264 105 (((wI h51 264 104 ((h51.1 264 104) - 1)).1 264 105) - 1)).1 264 104).toNatClampNeg) (p1 := 101) (l1 := [.ref 264, .null]) (s1 := [.int ((wI (wI h51 264 104 ((h51.1 264 104) - 1)) 264 105 (((wI h51 264 104 ((h51.1 264 104) - 1)).1 264 105) - 1)).1 333 ((wI (wI h51 264 104 ((h51.1 264 104) - 1)) 264 105 (((wI h51 264 104 ((h51.1 264 104) - 1)).1 264 105) - 1)).1 264 104).toNatClampNeg), .ref 264]) (h1 := wI (wI h51 264 104 ((h51.1 264 104) - 1)) 264 105 (((wI h51 264 104 ((h51.1 264 104) - 1)).1 264 105) - 1)) rfl (q_iald (n := 1700) rfl)).trans (mm_ite rfl ?_)
            refine (mm_by 1 (pc' := 103) (ls' := [.ref 264, .null]) (st' := [.int 23, .int ((wI (wI h51 264 104 ((h51.1 264 104) - 1)) 264 105 (((wI h51 264 104 ((h51.1 264 104) - 1)).1 264 105) - 1)).1 333 ((wI (wI h51 264 104 ((h51.1 264 104) - 1)) 264 105 (((wI h51 264 104 ((h51.1 264 104) - 1)).1 264 105) - 1)).1 264 104).toNatClampNeg), .ref 264]) (h' := wI (wI h51 264 104 ((h51.1 264 104) - 1)) 264 105 (((wI h51 264 104 ((h51.1 264 104) - 1)).1 264 105) - 1)) rfl).trans ?_
            refine (mm_br (c := ¬ ((wI (wI h51 264 104 ((h51.1 264 104) - 1)) 264 105 (((wI h51 264 104 ((h51.1 264 104) - 1)).1 264 105) - 1)).1 333 ((wI (wI h51 264 104 ((h51.1 264 104) - 1)) 264 105 (((wI h51 264 104 ((h51.1 264 104) - 1)).1 264 105) - 1)).1 264 104).toNatClampNeg) = 23) (p1 := 110) (p2 := 106) (l1 := [.ref 264, .null]) (l2 := [.ref 264, .null]) (s1 := [.ref 264]) (s2 := [.ref 264]) (h1 := wI (wI h51 264 104 ((h51.1 264 104) - 1)) 264 105 (((wI h51 264 104 ((h51.1 264 104) - 1)).1 264 105) - 1)) (h2 := wI (wI h51 264 104 ((h51.1 264 104) - 1)) 264 105 (((wI h51 264 104 ((h51.1 264 104) - 1)).1 264 105) - 1)) rfl rfl).trans (mm_ite ?_ ?_)
            · refine (mm_by 1 (pc' := 112) (ls' := [.ref 264, .null]) (st' := [.int 6, .ref 264]) (h' := wI (wI h51 264 104 ((h51.1 264 104) - 1)) 264 105 (((wI h51 264 104 ((h51.1 264 104) - 1)).1 264 105) - 1)) rfl).trans ?_
              refine (mm_c0 (y := 285) (as := [.ref 264, .int 6]) (nx := 115) (rest := []) rfl rfl).trans (mm_congV fun h53 => ?_)
              refine (mm_by 1 (pc' := 116) (ls' := [.ref 264, .null]) (st' := [.ref 264]) (h' := h53) rfl).trans ?_
              refine (mm_c0 (y := 295) (as := [.ref 264]) (nx := 119) (rest := []) rfl rfl).trans (mm_congV fun h54 => ?_)
              exact mm_by 1 rfl
            · refine (mm_by 2 (pc' := 112) (ls' := [.ref 264, .null]) (st' := [.int 5, .ref 264]) (h' := wI (wI h51 264 104 ((h51.1 264 104) - 1)) 264 105 (((wI h51 264 104 ((h51.1 264 104) - 1)).1 264 105) - 1)) rfl).trans ?_
              refine (mm_c0 (y := 285) (as := [.ref 264, .int 5]) (nx := 115) (rest := []) rfl rfl).trans (mm_congV fun h55 => ?_)
              refine (mm_by 1 (pc' := 116) (ls' := [.ref 264, .null]) (st' := [.ref 264]) (h' := h55) rfl).trans ?_
              refine (mm_c0 (y := 295) (as := [.ref 264]) (nx := 119) (rest := []) rfl rfl).trans (mm_congV fun h56 => ?_)
              exact mm_by 1 rfl
        · refine (mm_by 1 (pc' := 35) (ls' := [.ref 264, .null]) (st' := [.ref 264]) (h' := h49) rfl).trans ?_
          refine (mm_c1 (y := 290) (as := [.ref 264]) (nx := 38) (rest := []) rfl rfl).trans (mm_congI fun v58 h57 => ?_)
          refine (mm_by 1 (pc' := 40) (ls' := [.ref 264, .null]) (st' := [.int 24, .int v58]) (h' := h57) rfl).trans ?_
          refine (mm_br (c := ¬ v58 = 24) (p1 := 122) (p2 := 43) (l1 := [.ref 264, .null]) (l2 := [.ref 264, .null]) (s1 := []) (s2 := []) (h1 := h57) (h2 := h57) rfl rfl).trans (mm_ite ?_ ?_)
          · refine (mm_by 2 (pc' := 125) (ls' := [.ref 264, .null]) (st' := [.int 42, .ref 264]) (h' := h57) rfl).trans ?_
            refine (mm_c1 (y := 198) (as := [.ref 264, .int 42]) (nx := 128) (rest := []) rfl rfl).trans (mm_congI fun v60 h59 => ?_)
            refine (mm_br (c := ¬ v60 = 0) (p1 := 140) (p2 := 131) (l1 := [.ref 264, .null]) (l2 := [.ref 264, .null]) (s1 := []) (s2 := []) (h1 := h59) (h2 := h59) rfl rfl).trans (mm_ite ?_ ?_)
            · refine (mm_by 6 (pc' := 150) (ls' := [.ref 264, .null]) (st' := [.int ((h59.1 264 2) - 1), .ref 265]) (h' := h59) rfl).trans ?_
              refine (mm_gd (c := ((h59.1 264 2) - 1) < 0 ∨ 1600 ≤ ((h59.1 264 2) - 1).toNatClampNeg) (p1 := 151) (l1 := [.ref 264, .null]) (s1 := [.int (h59.1 265 ((h59.1 264 2) - 1).toNatClampNeg)]) (h1 := h59) rfl (q_iald (n := 1600) rfl)).trans (mm_ite rfl ?_)
              refine (mm_by 1 (pc' := 153) (ls' := [.ref 264, .null]) (st' := [.int 42, .int (h59.1 265 ((h59.1 264 2) - 1).toNatClampNeg)]) (h' := h59) rfl).trans ?_
              refine (mm_br (c := ¬ (h59.1 265 ((h59.1 264 2) - 1).toNatClampNeg) = 42) (p1 := 160) (p2 := 156) (l1 := [.ref 264, .null]) (l2 := [.ref 264, .null]) (s1 := []) (s2 := []) (h1 := h59) (h2 := h59) rfl rfl).trans (mm_ite ?_ ?_)
              · exact mm_by 2 rfl
              · exact mm_by 3 rfl
            · refine (mm_by 2 (pc' := 134) (ls' := [.ref 264, .null]) (st' := [.int 47, .ref 264]) (h' := h59) rfl).trans ?_
              refine (mm_c1 (y := 198) (as := [.ref 264, .int 47]) (nx := 137) (rest := []) rfl rfl).trans (mm_congI fun v62 h61 => ?_)
              refine (mm_br (c := v62 = 0) (p1 := 207) (p2 := 140) (l1 := [.ref 264, .null]) (l2 := [.ref 264, .null]) (s1 := []) (s2 := []) (h1 := h61) (h2 := h61) rfl rfl).trans (mm_ite ?_ ?_)
              · refine (mm_by 2 (pc' := 210) (ls' := [.ref 264, .null]) (st' := [.int 43, .ref 264]) (h' := h61) rfl).trans ?_
                refine (mm_c1 (y := 198) (as := [.ref 264, .int 43]) (nx := 213) (rest := []) rfl rfl).trans (mm_congI fun v64 h63 => ?_)
                refine (mm_br (c := ¬ v64 = 0) (p1 := 225) (p2 := 216) (l1 := [.ref 264, .null]) (l2 := [.ref 264, .null]) (s1 := []) (s2 := []) (h1 := h63) (h2 := h63) rfl rfl).trans (mm_ite ?_ ?_)
                · refine (mm_by 6 (pc' := 235) (ls' := [.ref 264, .null]) (st' := [.int ((h63.1 264 2) - 1), .ref 265]) (h' := h63) rfl).trans ?_
                  refine (mm_gd (c := ((h63.1 264 2) - 1) < 0 ∨ 1600 ≤ ((h63.1 264 2) - 1).toNatClampNeg) (p1 := 236) (l1 := [.ref 264, .null]) (s1 := [.int (h63.1 265 ((h63.1 264 2) - 1).toNatClampNeg)]) (h1 := h63) rfl (q_iald (n := 1600) rfl)).trans (mm_ite rfl ?_)
                  refine (mm_by 1 (pc' := 238) (ls' := [.ref 264, .null]) (st' := [.int 43, .int (h63.1 265 ((h63.1 264 2) - 1).toNatClampNeg)]) (h' := h63) rfl).trans ?_
                  refine (mm_br (c := ¬ (h63.1 265 ((h63.1 264 2) - 1).toNatClampNeg) = 43) (p1 := 245) (p2 := 241) (l1 := [.ref 264, .null]) (l2 := [.ref 264, .null]) (s1 := []) (s2 := []) (h1 := h63) (h2 := h63) rfl rfl).trans (mm_ite ?_ ?_)
                  · exact mm_by 2 rfl
                  · exact mm_by 3 rfl
                · refine (mm_by 2 (pc' := 219) (ls' := [.ref 264, .null]) (st' := [.int 45, .ref 264]) (h' := h63) rfl).trans ?_
                  refine (mm_c1 (y := 198) (as := [.ref 264, .int 45]) (nx := 222) (rest := []) rfl rfl).trans (mm_congI fun v66 h65 => ?_)
                  refine (mm_br (c := v66 = 0) (p1 := 308) (p2 := 225) (l1 := [.ref 264, .null]) (l2 := [.ref 264, .null]) (s1 := []) (s2 := []) (h1 := h65) (h2 := h65) rfl rfl).trans (mm_ite ?_ ?_)
                  · refine (mm_by 1 (pc' := 309) (ls' := [.ref 264, .null]) (st' := [.ref 264]) (h' := h65) rfl).trans ?_
                    refine (mm_c1 (y := 290) (as := [.ref 264]) (nx := 312) (rest := []) rfl rfl).trans (mm_congI fun v68 h67 => ?_)
                    refine (mm_by 1 (pc' := 314) (ls' := [.ref 264, .null]) (st' := [.int 21, .int v68]) (h' := h67) rfl).trans ?_
                    refine (mm_br (c := v68 = 21) (p1 := 326) (p2 := 317) (l1 := [.ref 264, .null]) (l2 := [.ref 264, .null]) (s1 := []) (s2 := []) (h1 := h67) (h2 := h67) rfl rfl).trans (mm_ite ?_ ?_)
                    · refine (mm_by 2 (pc' := 329) (ls' := [.ref 264, .null]) (st' := [.int 44, .ref 264]) (h' := h67) rfl).trans ?_
                      refine (mm_c0 (y := 199) (as := [.ref 264, .int 44]) (nx := 332) (rest := []) rfl rfl).trans (mm_congV fun h69 => ?_)
                      refine (mm_by 2 (pc' := 336) (ls' := [.ref 264, .null]) (st' := [.int (h69.1 264 5)]) (h' := h69) rfl).trans ?_
                      refine (mm_br (c := (h69.1 264 5) = 0) (p1 := 341) (p2 := 339) (l1 := [.ref 264, .null]) (l2 := [.ref 264, .null]) (s1 := []) (s2 := []) (h1 := h69) (h2 := h69) rfl rfl).trans (mm_ite ?_ ?_)
                      · refine (mm_by 1 (pc' := 342) (ls' := [.ref 264, .null]) (st' := [.ref 264]) (h' := h69) rfl).trans ?_
                        refine (mm_c0 (y := 291) (as := [.ref 264]) (nx := 345) (rest := []) rfl rfl).trans (mm_congV fun h70 => ?_)
                        refine (mm_by 7 (pc' := 356) (ls' := [.ref 264, .null]) (st' := [.int ((h70.1 264 104) - 1), .ref 333, .int ((h70.1 264 104) - 1), .ref 333]) (h' := h70) rfl).trans ?_
                        refine (mm_gd (c := ((h70.1 264 104) - 1) < 0 ∨ 1700 ≤ ((h70.1 264 104) - 1).toNatClampNeg) (p1 := 357) (l1 := [.ref 264, .null]) (s1 := [.int (h70.1 333 ((h70.1 264 104) - 1).toNatClampNeg), .int ((h70.1 264 104) - 1), .ref 333]) (h1 := h70) rfl (q_iald (n := 1700) rfl)).trans (mm_ite rfl ?_)
                        refine (mm_by 2 (pc' := 359) (ls' := [.ref 264, .null]) (st' := [.int ((h70.1 333 ((h70.1 264 104) - 1).toNatClampNeg) + 2), .int ((h70.1 264 104) - 1), .ref 333]) (h' := h70) rfl).trans ?_
                        refine (mm_gd (c := ((h70.1 264 104) - 1) < 0 ∨ 1700 ≤ ((h70.1 264 104) - 1).toNatClampNeg) (p1 := 360) (l1 := [.ref 264, .null]) (s1 := []) (h1 := wI h70 333 (((h70.1 264 104) - 1).toNatClampNeg) ((h70.1 333 ((h70.1 264 104) - 1).toNatClampNeg) + 2)) rfl (q_iast (n := 1700) rfl)).trans (mm_ite rfl ?_)
                        exact mm_by_end 2 rfl
                      · exact mm_by_end 2 rfl
                    · refine (mm_by 1 (pc' := 318) (ls' := [.ref 264, .null]) (st' := [.ref 264]) (h' := h67) rfl).trans ?_
                      refine (mm_c1 (y := 290) (as := [.ref 264]) (nx := 321) (rest := []) rfl rfl).trans (mm_congI fun v72 h71 => ?_)
                      refine (mm_by 1 (pc' := 323) (ls' := [.ref 264, .null]) (st' := [.int 22, .int v72]) (h' := h71) rfl).trans ?_
                      refine (mm_br (c := ¬ v72 = 22) (p1 := 362) (p2 := 326) (l1 := [.ref 264, .null]) (l2 := [.ref 264, .null]) (s1 := []) (s2 := []) (h1 := h71) (h2 := h71) rfl rfl).trans (mm_ite ?_ ?_)
                      · refine (mm_by 1 (pc' := 363) (ls' := [.ref 264, .null]) (st' := [.ref 264]) (h' := h71) rfl).trans ?_
                        refine (mm_c1 (y := 290) (as := [.ref 264]) (nx := 366) (rest := []) rfl rfl).trans (mm_congI fun v74 h73 => ?_)
                        refine (mm_by 1 (pc' := 367) (ls' := [.ref 264, .null]) (st' := [.int ((-1)), .int v74]) (h' := h73) rfl).trans ?_
                        refine (mm_br (c := v74 = ((-1))) (p1 := 386) (p2 := 370) (l1 := [.ref 264, .null]) (l2 := [.ref 264, .null]) (s1 := []) (s2 := []) (h1 := h73) (h2 := h73) rfl rfl).trans (mm_ite ?_ ?_)
                        · exact mm_by_end 2 rfl
                        · refine (mm_by 2 (pc' := 374) (ls' := [.ref 264, .null]) (st' := [.int (h73.1 264 5)]) (h' := h73) rfl).trans ?_
                          refine (mm_br (c := ¬ (h73.1 264 5) = 0) (p1 := 386) (p2 := 377) (l1 := [.ref 264, .null]) (l2 := [.ref 264, .null]) (s1 := []) (s2 := []) (h1 := h73) (h2 := h73) rfl rfl).trans (mm_ite ?_ ?_)
                          · exact mm_by_end 2 rfl
                          · refine (mm_by 4 (pc' := 383) (ls' := [.ref 264, .null]) (st' := [.int (h73.1 264 2), .int 1, .ref 264]) (h' := h73) rfl).trans ?_
                            refine (mm_c0 (y := 191) (as := [.ref 264, .int 1, .int (h73.1 264 2)]) (nx := 386) (rest := []) rfl rfl).trans (mm_congV fun h75 => ?_)
                            exact mm_by_end 2 rfl
                      · refine (mm_by 2 (pc' := 329) (ls' := [.ref 264, .null]) (st' := [.int 44, .ref 264]) (h' := h71) rfl).trans ?_
                        refine (mm_c0 (y := 199) (as := [.ref 264, .int 44]) (nx := 332) (rest := []) rfl rfl).trans (mm_congV fun h76 => ?_)
                        refine (mm_by 2 (pc' := 336) (ls' := [.ref 264, .null]) (st' := [.int (h76.1 264 5)]) (h' := h76) rfl).trans ?_
                        refine (mm_br (c := (h76.1 264 5) = 0) (p1 := 341) (p2 := 339) (l1 := [.ref 264, .null]) (l2 := [.ref 264, .null]) (s1 := []) (s2 := []) (h1 := h76) (h2 := h76) rfl rfl).trans (mm_ite ?_ ?_)
                        · refine (mm_by 1 (pc' := 342) (ls' := [.ref 264, .null]) (st' := [.ref 264]) (h' := h76) rfl).trans ?_
                          refine (mm_c0 (y := 291) (as := [.ref 264]) (nx := 345) (rest := []) rfl rfl).trans (mm_congV fun h77 => ?_)
                          refine (mm_by 7 (pc' := 356) (ls' := [.ref 264, .null]) (st' := [.int ((h77.1 264 104) - 1), .ref 333, .int ((h77.1 264 104) - 1), .ref 333]) (h' := h77) rfl).trans ?_
                          refine (mm_gd (c := ((h77.1 264 104) - 1) < 0 ∨ 1700 ≤ ((h77.1 264 104) - 1).toNatClampNeg) (p1 := 357) (l1 := [.ref 264, .null]) (s1 := [.int (h77.1 333 ((h77.1 264 104) - 1).toNatClampNeg), .int ((h77.1 264 104) - 1), .ref 333]) (h1 := h77) rfl (q_iald (n := 1700) rfl)).trans (mm_ite rfl ?_)
                          refine (mm_by 2 (pc' := 359) (ls' := [.ref 264, .null]) (st' := [.int ((h77.1 333 ((h77.1 264 104) - 1).toNatClampNeg) + 2), .int ((h77.1 264 104) - 1), .ref 333]) (h' := h77) rfl).trans ?_
                          refine (mm_gd (c := ((h77.1 264 104) - 1) < 0 ∨ 1700 ≤ ((h77.1 264 104) - 1).toNatClampNeg) (p1 := 360) (l1 := [.ref 264, .null]) (s1 := []) (h1 := wI h77 333 (((h77.1 264 104) - 1).toNatClampNeg) ((h77.1 333 ((h77.1 264 104) - 1).toNatClampNeg) + 2)) rfl (q_iast (n := 1700) rfl)).trans (mm_ite rfl ?_)
                          exact mm_by_end 2 rfl
                        · exact mm_by_end 2 rfl
                  · refine (mm_by 6 (pc' := 235) (ls' := [.ref 264, .null]) (st' := [.int ((h65.1 264 2) - 1), .ref 265]) (h' := h65) rfl).trans ?_
                    refine (mm_gd (c := ((h65.1 264 2) - 1) < 0 ∨ 1600 ≤ ((h65.1 264 2) - 1).toNatClampNeg) (p1 := 236) (l1 := [.ref 264, .null]) (s1 := [.int (h65.1 265 ((h65.1 264 2) - 1).toNatClampNeg)]) (h1 := h65) rfl (q_iald (n := 1600) rfl)).trans (mm_ite rfl ?_)
                    refine (mm_by 1 (pc' := 238) (ls' := [.ref 264, .null]) (st' := [.int 43, .int (h65.1 265 ((h65.1 264 2) - 1).toNatClampNeg)]) (h' := h65) rfl).trans ?_
                    refine (mm_br (c := ¬ (h65.1 265 ((h65.1 264 2) - 1).toNatClampNeg) = 43) (p1 := 245) (p2 := 241) (l1 := [.ref 264, .null]) (l2 := [.ref 264, .null]) (s1 := []) (s2 := []) (h1 := h65) (h2 := h65) rfl rfl).trans (mm_ite ?_ ?_)
                    · exact mm_by 2 rfl
                    · exact mm_by 3 rfl
              · refine (mm_by 6 (pc' := 150) (ls' := [.ref 264, .null]) (st' := [.int ((h61.1 264 2) - 1), .ref 265]) (h' := h61) rfl).trans ?_
                refine (mm_gd (c := ((h61.1 264 2) - 1) < 0 ∨ 1600 ≤ ((h61.1 264 2) - 1).toNatClampNeg) (p1 := 151) (l1 := [.ref 264, .null]) (s1 := [.int (h61.1 265 ((h61.1 264 2) - 1).toNatClampNeg)]) (h1 := h61) rfl (q_iald (n := 1600) rfl)).trans (mm_ite rfl ?_)
                refine (mm_by 1 (pc' := 153) (ls' := [.ref 264, .null]) (st' := [.int 42, .int (h61.1 265 ((h61.1 264 2) - 1).toNatClampNeg)]) (h' := h61) rfl).trans ?_
                refine (mm_br (c := ¬ (h61.1 265 ((h61.1 264 2) - 1).toNatClampNeg) = 42) (p1 := 160) (p2 := 156) (l1 := [.ref 264, .null]) (l2 := [.ref 264, .null]) (s1 := []) (s2 := []) (h1 := h61) (h2 := h61) rfl rfl).trans (mm_ite ?_ ?_)
                · exact mm_by 2 rfl
                · exact mm_by 3 rfl
          · refine (mm_by 7 (pc' := 54) (ls' := [.ref 264, .null]) (st' := [.ref 264]) (h' := wI h57 264 2 ((h57.1 264 2) + 1)) rfl).trans ?_
            refine (mm_c0 (y := 291) (as := [.ref 264]) (nx := 57) (rest := []) rfl rfl).trans (mm_congV fun h78 => ?_)
            refine (mm_by 16 (pc' := 85) (ls' := [.ref 264, .null]) (st' := [.int ((wI (wI h78 264 104 ((h78.1 264 104) - 1)) 264 105 (((wI h78 264 104 ((h78.1 264 104) - 1)).1 264 105) - 1)).1 264 104), .ref 333]) (h' := wI (wI h78 264 104 ((h78.1 264 104) - 1)) 264 105 (((wI h78 264 104 ((h78.1 264 104) - 1)).1 264 105) - 1)) rfl).trans ?_
            refine (mm_gd (c := ((wI (wI h78 264 104 ((h78.1 264 104) - 1)) 264 105 (((wI h78 264 104 ((h78.1 264 104) - 1)).1 264 105) - 1)).1 264 104) < 0 ∨ 1700 ≤ ((wI (wI h78 264 104 ((h78.1 264 104) - 1)) 264 105 (((wI h78 264 104 ((h78.1 264 104) - 1)).1 264 105) - 1)).1 264 104).toNatClampNeg) (p1 := 86) (l1 := [.ref 264, .null]) (s1 := [.int ((wI (wI h78 264 104 ((h78.1 264 104) - 1)) 264 105 (((wI h78 264 104 ((h78.1 264 104) - 1)).1 264 105) - 1)).1 333 ((wI (wI h78 264 104 ((h78.1 264 104) - 1)) 264 105 (((wI h78 264 104 ((h78.1 264 104) - 1)).1 264 105) - 1)).1 264 104).toNatClampNeg)]) (h1 := wI (wI h78 264 104 ((h78.1 264 104) - 1)) 264 105 (((wI h78 264 104 ((h78.1 264 104) - 1)).1 264 105) - 1)) rfl (q_iald (n := 1700) rfl)).trans (mm_ite rfl ?_)
            refine (mm_by 1 (pc' := 88) (ls' := [.ref 264, .null]) (st' := [.int 20, .int ((wI (wI h78 264 104 ((h78.1 264 104) - 1)) 264 105 (((wI h78 264 104 ((h78.1 264 104) - 1)).1 264 105) - 1)).1 333 ((wI (wI h78 264 104 ((h78.1 264 104) - 1)) 264 105 (((wI h78 264 104 ((h78.1 264 104) - 1)).1 264 105) - 1)).1 264 104).toNatClampNeg)]) (h' := wI (wI h78 264 104 ((h78.1 264 104) - 1)) 264 105 (((wI h78 264 104 ((h78.1 264 104) - 1)).1 264 105) - 1)) rfl).trans ?_
            refine (mm_br (c := ((wI (wI h78 264 104 ((h78.1 264 104) - 1)) 264 105 (((wI h78 264 104 ((h78.1 264 104) - 1)).1 264 105) - 1)).1 333 ((wI (wI h78 264 104 ((h78.1 264 104) - 1)) 264 105 (((wI h78 264 104 ((h78.1 264 104) - 1)).1 264 105) - 1)).1 264 104).toNatClampNeg) = 20) (p1 := 115) (p2 := 91) (l1 := [.ref 264, .null]) (l2 := [.ref 264, .null]) (s1 := []) (s2 := []) (h1 := wI (wI h78 264 104 ((h78.1 264 104) - 1)) 264 105 (((wI h78 264 104 ((h78.1 264 104) - 1)).1 264 105) - 1)) (h2 := wI (wI h78 264 104 ((h78.1 264 104) - 1)) 264 105 (((wI h78 264 104 ((h78.1 264 104) - 1)).1 264 105) - 1)) rfl rfl).trans (mm_ite ?_ ?_)
            · refine (mm_by 1 (pc' := 116) (ls' := [.ref 264, .null]) (st' := [.ref 264]) (h' := wI (wI h78 264 104 ((h78.1 264 104) - 1)) 264 105 (((wI h78 264 104 ((h78.1 264 104) - 1)).1 264 105) - 1)) rfl).trans ?_
              refine (mm_c0 (y := 295) (as := [.ref 264]) (nx := 119) (rest := []) rfl rfl).trans (mm_congV fun h79 => ?_)
              exact mm_by 1 rfl
            · refine (mm_by 5 (pc' := 100) (ls' := [.ref 264, .null]) (st' := [.int ((wI (wI h78 264 104 ((h78.1 264 104) - 1)) 264 105 (((wI h78 264 104 ((h78.1 264 104) - 1)).1 264 105) - 1)).1 264 104), .ref 333, .ref 264]) (h' := wI (wI h78 264 104 ((h78.1 264 104) - 1)) 264 105 (((wI h78 264 104 ((h78.1 264 104) - 1)).1 264 105) - 1)) rfl).trans ?_
              refine (mm_gd (c := ((wI (wI h78 264 104 ((h78.1 264 104) - 1)) 264 105 (((wI h78 264 104 ((h78.1 264 104) - 1)).1 264 105) - 1)).1 264 104) < 0 ∨ 1700 ≤ ((wI (wI h78 264 104 ((h78.1 264 104) - 1)) 264 105 (((wI h78 264 104 ((h78.1 264 104) - 1)).1 264 105) - 1)).1 264 104).toNatClampNeg) (p1 := 101) (l1 := [.ref 264, .null]) (s1 := [.int ((wI (wI h78 264 104 ((h78.1 264 104) - 1)) 264 105 (((wI h78 264 104 ((h78.1 264 104) - 1)).1 264 105) - 1)).1 333 ((wI (wI h78 264 104 ((h78.1 264 104) - 1)) 264 105 (((wI h78 264 104 ((h78.1 264 104) - 1)).1 264 105) - 1)).1 264 104).toNatClampNeg), .ref 264]) (h1 := wI (wI h78 264 104 ((h78.1 264 104) - 1)) 264 105 (((wI h78 264 104 ((h78.1 264 104) - 1)).1 264 105) - 1)) rfl (q_iald (n := 1700) rfl)).trans (mm_ite rfl ?_)
              refine (mm_by 1 (pc' := 103) (ls' := [.ref 264, .null]) (st' := [.int 23, .int ((wI (wI h78 264 104 ((h78.1 264 104) - 1)) 264 105 (((wI h78 264 104 ((h78.1 264 104) - 1)).1 264 105) - 1)).1 333 ((wI (wI h78 264 104 ((h78.1 264 104) - 1)) 264 105 (((wI h78 264 104 ((h78.1 264 104) - 1)).1 264 105) - 1)).1 264 104).toNatClampNeg), .ref 264]) (h' := wI (wI h78 264 104 ((h78.1 264 104) - 1)) 264 105 (((wI h78 264 104 ((h78.1 264 104) - 1)).1 264 105) - 1)) rfl).trans ?_
              refine (mm_br (c := ¬ ((wI (wI h78 264 104 ((h78.1 264 104) - 1)) 264 105 (((wI h78 264 104 ((h78.1 264 104) - 1)).1 264 105) - 1)).1 333 ((wI (wI h78 264 104 ((h78.1 264 104) - 1)) 264 105 (((wI h78 264 104 ((h78.1 264 104) - 1)).1 264 105) - 1)).1 264 104).toNatClampNeg) = 23) (p1 := 110) (p2 := 106) (l1 := [.ref 264, .null]) (l2 := [.ref 264, .null]) (s1 := [.ref 264]) (s2 := [.ref 264]) (h1 := wI (wI h78 264 104 ((h78.1 264 104) - 1)) 264 105 (((wI h78 264 104 ((h78.1 264 104) - 1)).1 264 105) - 1)) (h2 := wI (wI h78 264 104 ((h78.1 264 104) - 1)) 264 105 (((wI h78 264 104 ((h78.1 264 104) - 1)).1 264 105) - 1)) rfl rfl).trans (mm_ite ?_ ?_)
              · refine (mm_by 1 (pc' := 112) (ls' := [.ref 264, .null]) (st' := [.int 6, .ref 264]) (h' := wI (wI h78 264 104 ((h78.1 264 104) - 1)) 264 105 (((wI h78 264 104 ((h78.1 264 104) - 1)).1 264 105) - 1)) rfl).trans ?_
                refine (mm_c0 (y := 285) (as := [.ref 264, .int 6]) (nx := 115) (rest := []) rfl rfl).trans (mm_congV fun h80 => ?_)
                refine (mm_by 1 (pc' := 116) (ls' := [.ref 264, .null]) (st' := [.ref 264]) (h' := h80) rfl).trans ?_
                refine (mm_c0 (y := 295) (as := [.ref 264]) (nx := 119) (rest := []) rfl rfl).trans (mm_congV fun h81 => ?_)
                exact mm_by 1 rfl
              · refine (mm_by 2 (pc' := 112) (ls' := [.ref 264, .null]) (st' := [.int 5, .ref 264]) (h' := wI (wI h78 264 104 ((h78.1 264 104) - 1)) 264 105 (((wI h78 264 104 ((h78.1 264 104) - 1)).1 264 105) - 1)) rfl).trans ?_
                refine (mm_c0 (y := 285) (as := [.ref 264, .int 5]) (nx := 115) (rest := []) rfl rfl).trans (mm_congV fun h82 => ?_)
                refine (mm_by 1 (pc' := 116) (ls' := [.ref 264, .null]) (st' := [.ref 264]) (h' := h82) rfl).trans ?_
                refine (mm_c0 (y := 295) (as := [.ref 264]) (nx := 119) (rest := []) rfl rfl).trans (mm_congV fun h83 => ?_)
                exact mm_by 1 rfl
set_option maxRecDepth 100000 in
set_option maxHeartbeats 4000000 in
theorem U_X12_qGoesOn_162 {d : Nat} {x1 : Int32} {h : mm_H} : mm_D (mm_M mm_T0 d) cd_X12_qGoesOn 162 [.ref 264, .int x1] [] h = (mm_bI (mm_M mm_T0 d 287 [.ref 264, .int 3] h) (fun v2 h1 => if ¬ v2 = 0 then (mm_bV (mm_M mm_T0 d 288 [.ref 264] h1) (fun h3 => mm_D (mm_M mm_T0 d) cd_X12_qGoesOn 162 [.ref 264, .int x1] [] h3)) else (mm_bI (mm_M mm_T0 d 287 [.ref 264, .int 4] h1) (fun v5 h4 => if v5 = 0 then (if (h4.1 264 104) < 0 ∨ 1700 ≤ (h4.1 264 104).toNatClampNeg then none else (some (some (.int 1), wI (wI h4 333 ((h4.1 264 104).toNatClampNeg) x1) 264 104 (((wI h4 333 ((h4.1 264 104).toNatClampNeg) x1).1 264 104) + 1)))) else (mm_bV (mm_M mm_T0 d 288 [.ref 264] h4) (fun h6 => mm_D (mm_M mm_T0 d) cd_X12_qGoesOn 162 [.ref 264, .int x1] [] h6)))))) := by
  refine (mm_by 2 (pc' := 164) (ls' := [.ref 264, .int x1]) (st' := [.int 3, .ref 264]) (h' := h) rfl).trans ?_
  refine (mm_c1 (y := 287) (as := [.ref 264, .int 3]) (nx := 167) (rest := []) rfl rfl).trans (mm_congI fun v2 h1 => ?_)
  refine (mm_br (c := ¬ v2 = 0) (p1 := 178) (p2 := 170) (l1 := [.ref 264, .int x1]) (l2 := [.ref 264, .int x1]) (s1 := []) (s2 := []) (h1 := h1) (h2 := h1) rfl rfl).trans (mm_ite ?_ ?_)
  · refine (mm_by 1 (pc' := 179) (ls' := [.ref 264, .int x1]) (st' := [.ref 264]) (h' := h1) rfl).trans ?_
    refine (mm_c0 (y := 288) (as := [.ref 264]) (nx := 182) (rest := []) rfl rfl).trans (mm_congV fun h3 => ?_)
    exact mm_by 1 rfl
  · refine (mm_by 2 (pc' := 172) (ls' := [.ref 264, .int x1]) (st' := [.int 4, .ref 264]) (h' := h1) rfl).trans ?_
    refine (mm_c1 (y := 287) (as := [.ref 264, .int 4]) (nx := 175) (rest := []) rfl rfl).trans (mm_congI fun v5 h4 => ?_)
    refine (mm_br (c := v5 = 0) (p1 := 185) (p2 := 178) (l1 := [.ref 264, .int x1]) (l2 := [.ref 264, .int x1]) (s1 := []) (s2 := []) (h1 := h4) (h2 := h4) rfl rfl).trans (mm_ite ?_ ?_)
    · refine (mm_by 5 (pc' := 194) (ls' := [.ref 264, .int x1]) (st' := [.int x1, .int (h4.1 264 104), .ref 333]) (h' := h4) rfl).trans ?_
      refine (mm_gd (c := (h4.1 264 104) < 0 ∨ 1700 ≤ (h4.1 264 104).toNatClampNeg) (p1 := 195) (l1 := [.ref 264, .int x1]) (s1 := []) (h1 := wI h4 333 ((h4.1 264 104).toNatClampNeg) x1) rfl (q_iast (n := 1700) rfl)).trans (mm_ite rfl ?_)
      exact mm_by_end 8 rfl
    · refine (mm_by 1 (pc' := 179) (ls' := [.ref 264, .int x1]) (st' := [.ref 264]) (h' := h4) rfl).trans ?_
      refine (mm_c0 (y := 288) (as := [.ref 264]) (nx := 182) (rest := []) rfl rfl).trans (mm_congV fun h6 => ?_)
      exact mm_by 1 rfl
set_option maxRecDepth 100000 in
set_option maxHeartbeats 4000000 in
theorem U_X12_qGoesOn_247 {d : Nat} {x1 : Int32} {h : mm_H} : mm_D (mm_M mm_T0 d) cd_X12_qGoesOn 247 [.ref 264, .int x1] [] h = (mm_bI (mm_M mm_T0 d 287 [.ref 264, .int 3] h) (fun v2 h1 => if ¬ v2 = 0 then (mm_bV (mm_M mm_T0 d 288 [.ref 264] h1) (fun h3 => mm_D (mm_M mm_T0 d) cd_X12_qGoesOn 247 [.ref 264, .int x1] [] h3)) else (mm_bI (mm_M mm_T0 d 287 [.ref 264, .int 4] h1) (fun v5 h4 => if ¬ v5 = 0 then (mm_bV (mm_M mm_T0 d 288 [.ref 264] h4) (fun h6 => mm_D (mm_M mm_T0 d) cd_X12_qGoesOn 247 [.ref 264, .int x1] [] h6)) else (mm_bI (mm_M mm_T0 d 287 [.ref 264, .int 1] h4) (fun v8 h7 => if ¬ v8 = 0 then (mm_bV (mm_M mm_T0 d 288 [.ref 264] h7) (fun h9 => mm_D (mm_M mm_T0 d) cd_X12_qGoesOn 247 [.ref 264, .int x1] [] h9)) else (mm_bI (mm_M mm_T0 d 287 [.ref 264, .int 2] h7) (fun v11 h10 => if v11 = 0 then (if (h10.1 264 104) < 0 ∨ 1700 ≤ (h10.1 264 104).toNatClampNeg then none else (some (some (.int 1), wI (wI h10 333 ((h10.1 264 104).toNatClampNeg) x1) 264 104 (((wI h10 333 ((h10.1 264 104).toNatClampNeg) x1).1 264 104) + 1)))) else (mm_bV (mm_M mm_T0 d 288 [.ref 264] h10) (fun h12 => mm_D (mm_M mm_T0 d) cd_X12_qGoesOn 247 [.ref 264, .int x1] [] h12)))))))))) := by
  refine (mm_by 2 (pc' := 249) (ls' := [.ref 264, .int x1]) (st' := [.int 3, .ref 264]) (h' := h) rfl).trans ?_
  refine (mm_c1 (y := 287) (as := [.ref 264, .int 3]) (nx := 252) (rest := []) rfl rfl).trans (mm_congI fun v2 h1 => ?_)
  refine (mm_br (c := ¬ v2 = 0) (p1 := 279) (p2 := 255) (l1 := [.ref 264, .int x1]) (l2 := [.ref 264, .int x1]) (s1 := []) (s2 := []) (h1 := h1) (h2 := h1) rfl rfl).trans (mm_ite ?_ ?_)
  · refine (mm_by 1 (pc' := 280) (ls' := [.ref 264, .int x1]) (st' := [.ref 264]) (h' := h1) rfl).trans ?_
    refine (mm_c0 (y := 288) (as := [.ref 264]) (nx := 283) (rest := []) rfl rfl).trans (mm_congV fun h3 => ?_)
    exact mm_by 1 rfl
  · refine (mm_by 2 (pc' := 257) (ls' := [.ref 264, .int x1]) (st' := [.int 4, .ref 264]) (h' := h1) rfl).trans ?_
    refine (mm_c1 (y := 287) (as := [.ref 264, .int 4]) (nx := 260) (rest := []) rfl rfl).trans (mm_congI fun v5 h4 => ?_)
    refine (mm_br (c := ¬ v5 = 0) (p1 := 279) (p2 := 263) (l1 := [.ref 264, .int x1]) (l2 := [.ref 264, .int x1]) (s1 := []) (s2 := []) (h1 := h4) (h2 := h4) rfl rfl).trans (mm_ite ?_ ?_)
    · refine (mm_by 1 (pc' := 280) (ls' := [.ref 264, .int x1]) (st' := [.ref 264]) (h' := h4) rfl).trans ?_
      refine (mm_c0 (y := 288) (as := [.ref 264]) (nx := 283) (rest := []) rfl rfl).trans (mm_congV fun h6 => ?_)
      exact mm_by 1 rfl
    · refine (mm_by 2 (pc' := 265) (ls' := [.ref 264, .int x1]) (st' := [.int 1, .ref 264]) (h' := h4) rfl).trans ?_
      refine (mm_c1 (y := 287) (as := [.ref 264, .int 1]) (nx := 268) (rest := []) rfl rfl).trans (mm_congI fun v8 h7 => ?_)
      refine (mm_br (c := ¬ v8 = 0) (p1 := 279) (p2 := 271) (l1 := [.ref 264, .int x1]) (l2 := [.ref 264, .int x1]) (s1 := []) (s2 := []) (h1 := h7) (h2 := h7) rfl rfl).trans (mm_ite ?_ ?_)
      · refine (mm_by 1 (pc' := 280) (ls' := [.ref 264, .int x1]) (st' := [.ref 264]) (h' := h7) rfl).trans ?_
        refine (mm_c0 (y := 288) (as := [.ref 264]) (nx := 283) (rest := []) rfl rfl).trans (mm_congV fun h9 => ?_)
        exact mm_by 1 rfl
      · refine (mm_by 2 (pc' := 273) (ls' := [.ref 264, .int x1]) (st' := [.int 2, .ref 264]) (h' := h7) rfl).trans ?_
        refine (mm_c1 (y := 287) (as := [.ref 264, .int 2]) (nx := 276) (rest := []) rfl rfl).trans (mm_congI fun v11 h10 => ?_)
        refine (mm_br (c := v11 = 0) (p1 := 286) (p2 := 279) (l1 := [.ref 264, .int x1]) (l2 := [.ref 264, .int x1]) (s1 := []) (s2 := []) (h1 := h10) (h2 := h10) rfl rfl).trans (mm_ite ?_ ?_)
        · refine (mm_by 5 (pc' := 295) (ls' := [.ref 264, .int x1]) (st' := [.int x1, .int (h10.1 264 104), .ref 333]) (h' := h10) rfl).trans ?_
          refine (mm_gd (c := (h10.1 264 104) < 0 ∨ 1700 ≤ (h10.1 264 104).toNatClampNeg) (p1 := 296) (l1 := [.ref 264, .int x1]) (s1 := []) (h1 := wI h10 333 ((h10.1 264 104).toNatClampNeg) x1) rfl (q_iast (n := 1700) rfl)).trans (mm_ite rfl ?_)
          exact mm_by_end 8 rfl
        · refine (mm_by 1 (pc' := 280) (ls' := [.ref 264, .int x1]) (st' := [.ref 264]) (h' := h10) rfl).trans ?_
          refine (mm_c0 (y := 288) (as := [.ref 264]) (nx := 283) (rest := []) rfl rfl).trans (mm_congV fun h12 => ?_)
          exact mm_by 1 rfl
