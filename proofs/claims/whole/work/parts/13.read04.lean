set_option maxRecDepth 100000 in
set_option maxHeartbeats 4000000 in
theorem U_X12_isHere {d : Nat} {a1 n1 : Nat} {h : mm_H} (ha1 : mm_sh a1 = (3, n1)) : mm_M mm_T0 (d + 1) 195 [.ref 264, .ref a1] h = (if ¬ (h.1 264 5) = 0 then (some (some (.int 0), h)) else (mm_bI (mm_M mm_T0 d 194 [.ref 264] h) (fun v2 h1 => mm_bI (mm_M mm_T0 d 192 [.int v2] h1) (fun v4 h3 => if v4 = 0 then (some (some (.int 0), h3)) else (if ¬ (h3.1 264 2) = (h3.1 264 4) then (mm_D (mm_M mm_T0 d) cd_X12_isHere 35 [.ref 264, .ref a1, .int (h3.1 264 2), .null] [] h3) else (some (some (.int 0), h3))))))) := by
  refine (mm_M_eq (ls := [.ref 264, .ref a1, .null, .null]) rfl (Nat.le_of_ble_eq_true rfl) rfl h).trans ?_
  refine (mm_by 2 (pc' := 4) (ls' := [.ref 264, .ref a1, .null, .null]) (st' := [.int (h.1 264 5)]) (h' := h) rfl).trans ?_
  refine (mm_br (c := ¬ (h.1 264 5) = 0) (p1 := 28) (p2 := 7) (l1 := [.ref 264, .ref a1, .null, .null]) (l2 := [.ref 264, .ref a1, .null, .null]) (s1 := []) (s2 := []) (h1 := h) (h2 := h) rfl rfl).trans (mm_ite ?_ ?_)
  · exact mm_by_end 2 rfl
  · refine (mm_by 1 (pc' := 8) (ls' := [.ref 264, .ref a1, .null, .null]) (st' := [.ref 264]) (h' := h) rfl).trans ?_
    refine (mm_c1 (y := 194) (as := [.ref 264]) (nx := 11) (rest := []) rfl rfl).trans (mm_congI fun v2 h1 => ?_)
    refine (mm_c1 (y := 192) (as := [.int v2]) (nx := 14) (rest := []) rfl rfl).trans (mm_congI fun v4 h3 => ?_)
    refine (mm_br (c := v4 = 0) (p1 := 28) (p2 := 17) (l1 := [.ref 264, .ref a1, .null, .null]) (l2 := [.ref 264, .ref a1, .null, .null]) (s1 := []) (s2 := []) (h1 := h3) (h2 := h3) rfl rfl).trans (mm_ite ?_ ?_)
    · exact mm_by_end 2 rfl
    · refine (mm_by 4 (pc' := 25) (ls' := [.ref 264, .ref a1, .null, .null]) (st' := [.int (h3.1 264 4), .int (h3.1 264 2)]) (h' := h3) rfl).trans ?_
      refine (mm_br (c := ¬ (h3.1 264 2) = (h3.1 264 4)) (p1 := 30) (p2 := 28) (l1 := [.ref 264, .ref a1, .null, .null]) (l2 := [.ref 264, .ref a1, .null, .null]) (s1 := []) (s2 := []) (h1 := h3) (h2 := h3) rfl rfl).trans (mm_ite ?_ ?_)
      · exact mm_by 3 rfl
      · exact mm_by_end 2 rfl
set_option maxRecDepth 100000 in
set_option maxHeartbeats 4000000 in
theorem U_X12_isHere_35 {d : Nat} {a1 n1 : Nat} {x2 : Int32} {h : mm_H} (ha1 : mm_sh a1 = (3, n1)) : mm_D (mm_M mm_T0 d) cd_X12_isHere 35 [.ref 264, .ref a1, .int x2, .null] [] h = (if (h.1 264 3) ≤ x2 then (if (x2 - (h.1 264 2)) = (Int32.ofNat n1) then (mm_D (mm_M mm_T0 d) cd_X12_isHere 76 [.ref 264, .ref a1, .null, .int 0] [] h) else (some (some (.int 0), h))) else (if x2 < 0 ∨ 1600 ≤ x2.toNatClampNeg then none else (mm_bI (mm_M mm_T0 d 192 [.int (h.1 265 x2.toNatClampNeg)] h) (fun v2 h1 => if v2 = 0 then (if (x2 - (h1.1 264 2)) = (Int32.ofNat n1) then (mm_D (mm_M mm_T0 d) cd_X12_isHere 76 [.ref 264, .ref a1, .null, .int 0] [] h1) else (some (some (.int 0), h1))) else (mm_D (mm_M mm_T0 d) cd_X12_isHere 35 [.ref 264, .ref a1, .int (x2 + 1), .null] [] h1))))) := by
  refine (mm_by 3 (pc' := 40) (ls' := [.ref 264, .ref a1, .int x2, .null]) (st' := [.int (h.1 264 3), .int x2]) (h' := h) rfl).trans ?_
  refine (mm_br (c := (h.1 264 3) ≤ x2) (p1 := 61) (p2 := 43) (l1 := [.ref 264, .ref a1, .int x2, .null]) (l2 := [.ref 264, .ref a1, .int x2, .null]) (s1 := []) (s2 := []) (h1 := h) (h2 := h) rfl rfl).trans (mm_ite ?_ ?_)
  · refine (mm_by 5 (pc' := 68) (ls' := [.ref 264, .ref a1, .int x2, .null]) (st' := [.ref a1, .int (x2 - (h.1 264 2))]) (h' := h) rfl).trans ?_
    refine (mm_go (pc' := 69) (ls' := [.ref 264, .ref a1, .int x2, .null]) (st' := [.int (Int32.ofNat n1), .int (x2 - (h.1 264 2))]) (h' := h) rfl (q_alen ha1 (by decide) (by decide))).trans ?_
    refine (mm_br (c := (x2 - (h.1 264 2)) = (Int32.ofNat n1)) (p1 := 74) (p2 := 72) (l1 := [.ref 264, .ref a1, .int x2, .null]) (l2 := [.ref 264, .ref a1, .int x2, .null]) (s1 := []) (s2 := []) (h1 := h) (h2 := h) rfl rfl).trans (mm_ite ?_ ?_)
    · exact mm_by 2 rfl
    · exact mm_by_end 2 rfl
  · refine (mm_by 3 (pc' := 48) (ls' := [.ref 264, .ref a1, .int x2, .null]) (st' := [.int x2, .ref 265]) (h' := h) rfl).trans ?_
    refine (mm_gd (c := x2 < 0 ∨ 1600 ≤ x2.toNatClampNeg) (p1 := 49) (l1 := [.ref 264, .ref a1, .int x2, .null]) (s1 := [.int (h.1 265 x2.toNatClampNeg)]) (h1 := h) rfl (q_iald (n := 1600) rfl)).trans (mm_ite rfl ?_)
    refine (mm_c1 (y := 192) (as := [.int (h.1 265 x2.toNatClampNeg)]) (nx := 52) (rest := []) rfl rfl).trans (mm_congI fun v2 h1 => ?_)
    refine (mm_br (c := v2 = 0) (p1 := 61) (p2 := 55) (l1 := [.ref 264, .ref a1, .int x2, .null]) (l2 := [.ref 264, .ref a1, .int x2, .null]) (s1 := []) (s2 := []) (h1 := h1) (h2 := h1) rfl rfl).trans (mm_ite ?_ ?_)
    · refine (mm_by 5 (pc' := 68) (ls' := [.ref 264, .ref a1, .int x2, .null]) (st' := [.ref a1, .int (x2 - (h1.1 264 2))]) (h' := h1) rfl).trans ?_
      refine (mm_go (pc' := 69) (ls' := [.ref 264, .ref a1, .int x2, .null]) (st' := [.int (Int32.ofNat n1), .int (x2 - (h1.1 264 2))]) (h' := h1) rfl (q_alen ha1 (by decide) (by decide))).trans ?_
      refine (mm_br (c := (x2 - (h1.1 264 2)) = (Int32.ofNat n1)) (p1 := 74) (p2 := 72) (l1 := [.ref 264, .ref a1, .int x2, .null]) (l2 := [.ref 264, .ref a1, .int x2, .null]) (s1 := []) (s2 := []) (h1 := h1) (h2 := h1) rfl rfl).trans (mm_ite ?_ ?_)
      · exact mm_by 2 rfl
      · exact mm_by_end 2 rfl
    · exact mm_by 2 rfl
set_option maxRecDepth 100000 in
set_option maxHeartbeats 4000000 in
theorem U_X12_isHere_76 {d : Nat} {a1 n1 : Nat} {x3 : Int32} {h : mm_H} (ha1 : mm_sh a1 = (3, n1)) : mm_D (mm_M mm_T0 d) cd_X12_isHere 76 [.ref 264, .ref a1, .null, .int x3] [] h = (if (Int32.ofNat n1) ≤ x3 then (some (some (.int 1), h)) else (if ((h.1 264 2) + x3) < 0 ∨ 1600 ≤ ((h.1 264 2) + x3).toNatClampNeg then none else (if x3 < 0 ∨ n1 ≤ x3.toNatClampNeg then none else (if (h.1 265 ((h.1 264 2) + x3).toNatClampNeg) = (h.1 a1 x3.toNatClampNeg) then (mm_D (mm_M mm_T0 d) cd_X12_isHere 76 [.ref 264, .ref a1, .null, .int (x3 + 1)] [] h) else (some (some (.int 0), h)))))) := by
  refine (mm_by 2 (pc' := 78) (ls' := [.ref 264, .ref a1, .null, .int x3]) (st' := [.ref a1, .int x3]) (h' := h) rfl).trans ?_
  refine (mm_go (pc' := 79) (ls' := [.ref 264, .ref a1, .null, .int x3]) (st' := [.int (Int32.ofNat n1), .int x3]) (h' := h) rfl (q_alen ha1 (by decide) (by decide))).trans ?_
  refine (mm_br (c := (Int32.ofNat n1) ≤ x3) (p1 := 107) (p2 := 82) (l1 := [.ref 264, .ref a1, .null, .int x3]) (l2 := [.ref 264, .ref a1, .null, .int x3]) (s1 := []) (s2 := []) (h1 := h) (h2 := h) rfl rfl).trans (mm_ite ?_ ?_)
  · exact mm_by_end 2 rfl
  · refine (mm_by 6 (pc' := 92) (ls' := [.ref 264, .ref a1, .null, .int x3]) (st' := [.int ((h.1 264 2) + x3), .ref 265]) (h' := h) rfl).trans ?_
    refine (mm_gd (c := ((h.1 264 2) + x3) < 0 ∨ 1600 ≤ ((h.1 264 2) + x3).toNatClampNeg) (p1 := 93) (l1 := [.ref 264, .ref a1, .null, .int x3]) (s1 := [.int (h.1 265 ((h.1 264 2) + x3).toNatClampNeg)]) (h1 := h) rfl (q_iald (n := 1600) rfl)).trans (mm_ite rfl ?_)
    refine (mm_by 2 (pc' := 95) (ls' := [.ref 264, .ref a1, .null, .int x3]) (st' := [.int x3, .ref a1, .int (h.1 265 ((h.1 264 2) + x3).toNatClampNeg)]) (h' := h) rfl).trans ?_
    refine (mm_gd (c := x3 < 0 ∨ n1 ≤ x3.toNatClampNeg) (p1 := 96) (l1 := [.ref 264, .ref a1, .null, .int x3]) (s1 := [.int (h.1 a1 x3.toNatClampNeg), .int (h.1 265 ((h.1 264 2) + x3).toNatClampNeg)]) (h1 := h) rfl (q_cald (n := n1) ha1)).trans (mm_ite rfl ?_)
    refine (mm_br (c := (h.1 265 ((h.1 264 2) + x3).toNatClampNeg) = (h.1 a1 x3.toNatClampNeg)) (p1 := 101) (p2 := 99) (l1 := [.ref 264, .ref a1, .null, .int x3]) (l2 := [.ref 264, .ref a1, .null, .int x3]) (s1 := []) (s2 := []) (h1 := h) (h2 := h) rfl rfl).trans (mm_ite ?_ ?_)
    · exact mm_by 2 rfl
    · exact mm_by_end 2 rfl
set_option maxRecDepth 100000 in
set_option maxHeartbeats 4000000 in
theorem U_X12_takes {d : Nat} {a1 n1 : Nat} {h : mm_H} (ha1 : mm_sh a1 = (3, n1)) : mm_M mm_T0 (d + 1) 196 [.ref 264, .ref a1] h = (mm_bI (mm_M mm_T0 d 195 [.ref 264, .ref a1] h) (fun v2 h1 => if ¬ v2 = 0 then (some (some (.int 1), wI (wI h1 264 2 ((h1.1 264 2) + (Int32.ofNat n1))) 264 4 ((wI h1 264 2 ((h1.1 264 2) + (Int32.ofNat n1))).1 264 2))) else (some (some (.int 0), h1)))) := by
  refine (mm_M_eq (ls := [.ref 264, .ref a1]) rfl (Nat.le_of_ble_eq_true rfl) rfl h).trans ?_
  refine (mm_by 2 (pc' := 2) (ls' := [.ref 264, .ref a1]) (st' := [.ref a1, .ref 264]) (h' := h) rfl).trans ?_
  refine (mm_c1 (y := 195) (as := [.ref 264, .ref a1]) (nx := 5) (rest := []) rfl rfl).trans (mm_congI fun v2 h1 => ?_)
  refine (mm_br (c := ¬ v2 = 0) (p1 := 10) (p2 := 8) (l1 := [.ref 264, .ref a1]) (l2 := [.ref 264, .ref a1]) (s1 := []) (s2 := []) (h1 := h1) (h2 := h1) rfl rfl).trans (mm_ite ?_ ?_)
  · refine (mm_by 4 (pc' := 16) (ls' := [.ref 264, .ref a1]) (st' := [.ref a1, .int (h1.1 264 2), .ref 264]) (h' := h1) rfl).trans ?_
    refine (mm_go (pc' := 17) (ls' := [.ref 264, .ref a1]) (st' := [.int (Int32.ofNat n1), .int (h1.1 264 2), .ref 264]) (h' := h1) rfl (q_alen ha1 (by decide) (by decide))).trans ?_
    exact mm_by_end 8 rfl
  · exact mm_by_end 2 rfl
set_option maxRecDepth 100000 in
set_option maxHeartbeats 4000000 in
theorem U_X12_asks {d : Nat} {a1 n1 : Nat} {h : mm_H} (ha1 : mm_sh a1 = (3, n1)) : mm_M mm_T0 (d + 1) 197 [.ref 264, .ref a1] h = (if ¬ (h.1 264 5) = 0 then (some (none, h)) else (mm_bI (mm_M mm_T0 d 196 [.ref 264, .ref a1] h) (fun v2 h1 => if ¬ v2 = 0 then (some (none, h1)) else (mm_bV (mm_M mm_T0 d 191 [.ref 264, .int 1, .int (h1.1 264 2)] h1) (fun h3 => some (none, h3)))))) := by
  refine (mm_M_eq (ls := [.ref 264, .ref a1]) rfl (Nat.le_of_ble_eq_true rfl) rfl h).trans ?_
  refine (mm_by 2 (pc' := 4) (ls' := [.ref 264, .ref a1]) (st' := [.int (h.1 264 5)]) (h' := h) rfl).trans ?_
  refine (mm_br (c := ¬ (h.1 264 5) = 0) (p1 := 24) (p2 := 7) (l1 := [.ref 264, .ref a1]) (l2 := [.ref 264, .ref a1]) (s1 := []) (s2 := []) (h1 := h) (h2 := h) rfl rfl).trans (mm_ite ?_ ?_)
  · exact mm_by_end 1 rfl
  · refine (mm_by 2 (pc' := 9) (ls' := [.ref 264, .ref a1]) (st' := [.ref a1, .ref 264]) (h' := h) rfl).trans ?_
    refine (mm_c1 (y := 196) (as := [.ref 264, .ref a1]) (nx := 12) (rest := []) rfl rfl).trans (mm_congI fun v2 h1 => ?_)
    refine (mm_br (c := ¬ v2 = 0) (p1 := 24) (p2 := 15) (l1 := [.ref 264, .ref a1]) (l2 := [.ref 264, .ref a1]) (s1 := []) (s2 := []) (h1 := h1) (h2 := h1) rfl rfl).trans (mm_ite ?_ ?_)
    · exact mm_by_end 1 rfl
    · refine (mm_by 4 (pc' := 21) (ls' := [.ref 264, .ref a1]) (st' := [.int (h1.1 264 2), .int 1, .ref 264]) (h' := h1) rfl).trans ?_
      refine (mm_c0 (y := 191) (as := [.ref 264, .int 1, .int (h1.1 264 2)]) (nx := 24) (rest := []) rfl rfl).trans (mm_congV fun h3 => ?_)
      exact mm_by_end 1 rfl
set_option maxRecDepth 100000 in
set_option maxHeartbeats 4000000 in
theorem U_X12_takesSign {d : Nat} {x1 : Int32} {h : mm_H} : mm_M mm_T0 (d + 1) 198 [.ref 264, .int x1] h = (if ¬ (h.1 264 5) = 0 then (some (some (.int 0), h)) else (mm_bI (mm_M mm_T0 d 194 [.ref 264] h) (fun v2 h1 => if v2 = x1 then (some (some (.int 1), wI h1 264 2 ((h1.1 264 2) + 1))) else (some (some (.int 0), h1))))) := by
  refine (mm_M_eq (ls := [.ref 264, .int x1]) rfl (Nat.le_of_ble_eq_true rfl) rfl h).trans ?_
  refine (mm_by 2 (pc' := 4) (ls' := [.ref 264, .int x1]) (st' := [.int (h.1 264 5)]) (h' := h) rfl).trans ?_
  refine (mm_br (c := ¬ (h.1 264 5) = 0) (p1 := 15) (p2 := 7) (l1 := [.ref 264, .int x1]) (l2 := [.ref 264, .int x1]) (s1 := []) (s2 := []) (h1 := h) (h2 := h) rfl rfl).trans (mm_ite ?_ ?_)
  · exact mm_by_end 2 rfl
  · refine (mm_by 1 (pc' := 8) (ls' := [.ref 264, .int x1]) (st' := [.ref 264]) (h' := h) rfl).trans ?_
    refine (mm_c1 (y := 194) (as := [.ref 264]) (nx := 11) (rest := []) rfl rfl).trans (mm_congI fun v2 h1 => ?_)
    refine (mm_by 1 (pc' := 12) (ls' := [.ref 264, .int x1]) (st' := [.int x1, .int v2]) (h' := h1) rfl).trans ?_
    refine (mm_br (c := v2 = x1) (p1 := 17) (p2 := 15) (l1 := [.ref 264, .int x1]) (l2 := [.ref 264, .int x1]) (s1 := []) (s2 := []) (h1 := h1) (h2 := h1) rfl rfl).trans (mm_ite ?_ ?_)
    · exact mm_by_end 8 rfl
    · exact mm_by_end 2 rfl
set_option maxRecDepth 100000 in
set_option maxHeartbeats 4000000 in
theorem U_X12_asksSign {d : Nat} {x1 : Int32} {h : mm_H} : mm_M mm_T0 (d + 1) 199 [.ref 264, .int x1] h = (if ¬ (h.1 264 5) = 0 then (some (none, h)) else (mm_bI (mm_M mm_T0 d 198 [.ref 264, .int x1] h) (fun v2 h1 => if ¬ v2 = 0 then (some (none, h1)) else (mm_bV (mm_M mm_T0 d 191 [.ref 264, .int 1, .int (h1.1 264 2)] h1) (fun h3 => some (none, h3)))))) := by
  refine (mm_M_eq (ls := [.ref 264, .int x1]) rfl (Nat.le_of_ble_eq_true rfl) rfl h).trans ?_
  refine (mm_by 2 (pc' := 4) (ls' := [.ref 264, .int x1]) (st' := [.int (h.1 264 5)]) (h' := h) rfl).trans ?_
  refine (mm_br (c := ¬ (h.1 264 5) = 0) (p1 := 24) (p2 := 7) (l1 := [.ref 264, .int x1]) (l2 := [.ref 264, .int x1]) (s1 := []) (s2 := []) (h1 := h) (h2 := h) rfl rfl).trans (mm_ite ?_ ?_)
  · exact mm_by_end 1 rfl
  · refine (mm_by 2 (pc' := 9) (ls' := [.ref 264, .int x1]) (st' := [.int x1, .ref 264]) (h' := h) rfl).trans ?_
    refine (mm_c1 (y := 198) (as := [.ref 264, .int x1]) (nx := 12) (rest := []) rfl rfl).trans (mm_congI fun v2 h1 => ?_)
    refine (mm_br (c := ¬ v2 = 0) (p1 := 24) (p2 := 15) (l1 := [.ref 264, .int x1]) (l2 := [.ref 264, .int x1]) (s1 := []) (s2 := []) (h1 := h1) (h2 := h1) rfl rfl).trans (mm_ite ?_ ?_)
    · exact mm_by_end 1 rfl
    · refine (mm_by 4 (pc' := 21) (ls' := [.ref 264, .int x1]) (st' := [.int (h1.1 264 2), .int 1, .ref 264]) (h' := h1) rfl).trans ?_
      refine (mm_c0 (y := 191) (as := [.ref 264, .int 1, .int (h1.1 264 2)]) (nx := 24) (rest := []) rfl rfl).trans (mm_congV fun h3 => ?_)
      exact mm_by_end 1 rfl
set_option maxRecDepth 100000 in
set_option maxHeartbeats 4000000 in
theorem U_X12_number {d : Nat} {x1 : Int32} {x2 : Int32} {h : mm_H} : mm_M mm_T0 (d + 1) 200 [.ref 264, .int x1, .int x2] h = (if (h.1 264 5) = 0 then (mm_bI (mm_M mm_T0 d 194 [.ref 264] h) (fun v2 h1 => mm_bI (mm_M mm_T0 d 193 [.int v2] h1) (fun v4 h3 => if v4 = 0 then (mm_bV (mm_M mm_T0 d 191 [.ref 264, .int 1, .int (h3.1 264 2)] h3) (fun h5 => some (some (.int 0), h5))) else (if ¬ (h3.1 264 2) = (h3.1 264 4) then (mm_D (mm_M mm_T0 d) cd_X12_number 49 [.ref 264, .int x1, .int x2, .int (h3.1 264 2), .int 0] [] h3) else (mm_bV (mm_M mm_T0 d 191 [.ref 264, .int 1, .int (h3.1 264 2)] h3) (fun h6 => some (some (.int 0), h6))))))) else (some (some (.int 0), h))) := by
  refine (mm_M_eq (ls := [.ref 264, .int x1, .int x2, .null, .null]) rfl (Nat.le_of_ble_eq_true rfl) rfl h).trans ?_
  refine (mm_by 2 (pc' := 4) (ls' := [.ref 264, .int x1, .int x2, .null, .null]) (st' := [.int (h.1 264 5)]) (h' := h) rfl).trans ?_
  refine (mm_br (c := (h.1 264 5) = 0) (p1 := 9) (p2 := 7) (l1 := [.ref 264, .int x1, .int x2, .null, .null]) (l2 := [.ref 264, .int x1, .int x2, .null, .null]) (s1 := []) (s2 := []) (h1 := h) (h2 := h) rfl rfl).trans (mm_ite ?_ ?_)
  · refine (mm_by 1 (pc' := 10) (ls' := [.ref 264, .int x1, .int x2, .null, .null]) (st' := [.ref 264]) (h' := h) rfl).trans ?_
    refine (mm_c1 (y := 194) (as := [.ref 264]) (nx := 13) (rest := []) rfl rfl).trans (mm_congI fun v2 h1 => ?_)
    refine (mm_c1 (y := 193) (as := [.int v2]) (nx := 16) (rest := []) rfl rfl).trans (mm_congI fun v4 h3 => ?_)
    refine (mm_br (c := v4 = 0) (p1 := 30) (p2 := 19) (l1 := [.ref 264, .int x1, .int x2, .null, .null]) (l2 := [.ref 264, .int x1, .int x2, .null, .null]) (s1 := []) (s2 := []) (h1 := h3) (h2 := h3) rfl rfl).trans (mm_ite ?_ ?_)
    · refine (mm_by 4 (pc' := 36) (ls' := [.ref 264, .int x1, .int x2, .null, .null]) (st' := [.int (h3.1 264 2), .int 1, .ref 264]) (h' := h3) rfl).trans ?_
      refine (mm_c0 (y := 191) (as := [.ref 264, .int 1, .int (h3.1 264 2)]) (nx := 39) (rest := []) rfl rfl).trans (mm_congV fun h5 => ?_)
      exact mm_by_end 2 rfl
    · refine (mm_by 4 (pc' := 27) (ls' := [.ref 264, .int x1, .int x2, .null, .null]) (st' := [.int (h3.1 264 4), .int (h3.1 264 2)]) (h' := h3) rfl).trans ?_
      refine (mm_br (c := ¬ (h3.1 264 2) = (h3.1 264 4)) (p1 := 41) (p2 := 30) (l1 := [.ref 264, .int x1, .int x2, .null, .null]) (l2 := [.ref 264, .int x1, .int x2, .null, .null]) (s1 := []) (s2 := []) (h1 := h3) (h2 := h3) rfl rfl).trans (mm_ite ?_ ?_)
      · exact mm_by 5 rfl
      · refine (mm_by 4 (pc' := 36) (ls' := [.ref 264, .int x1, .int x2, .null, .null]) (st' := [.int (h3.1 264 2), .int 1, .ref 264]) (h' := h3) rfl).trans ?_
        refine (mm_c0 (y := 191) (as := [.ref 264, .int 1, .int (h3.1 264 2)]) (nx := 39) (rest := []) rfl rfl).trans (mm_congV fun h6 => ?_)
        exact mm_by_end 2 rfl
  · exact mm_by_end 2 rfl
set_option maxRecDepth 100000 in
set_option maxHeartbeats 4000000 in
theorem U_X12_number_49 {d : Nat} {x1 : Int32} {x2 : Int32} {x3 : Int32} {x4 : Int32} {h : mm_H} : mm_D (mm_M mm_T0 d) cd_X12_number 49 [.ref 264, .int x1, .int x2, .int x3, .int x4] [] h = (if (h.1 264 3) ≤ (h.1 264 2) then (mm_bI (mm_M mm_T0 d 188 [.long x4.toInt64, .long x1.toInt64, .long x2.toInt64] (wI (wI h 264 4 (h.1 264 2)) 264 10 x3)) (fun v2 h1 => if ¬ v2 = 0 then (some (some (.int x4), h1)) else (mm_bV (mm_M mm_T0 d 191 [.ref 264, .int 2, .int x3] h1) (fun h3 => some (some (.int x4), h3))))) else (if (h.1 264 2) < 0 ∨ 1600 ≤ (h.1 264 2).toNatClampNeg then none else (mm_bI (mm_M mm_T0 d 193 [.int (h.1 265 (h.1 264 2).toNatClampNeg)] h) (fun v5 h4 => if v5 = 0 then (mm_bI (mm_M mm_T0 d 188 [.long x4.toInt64, .long x1.toInt64, .long x2.toInt64] (wI (wI h4 264 4 (h4.1 264 2)) 264 10 x3)) (fun v7 h6 => if ¬ v7 = 0 then (some (some (.int x4), h6)) else (mm_bV (mm_M mm_T0 d 191 [.ref 264, .int 2, .int x3] h6) (fun h8 => some (some (.int x4), h8))))) else (if ¬ ((h4.1 264 2) - x3) = 4 then (if (h4.1 264 2) < 0 ∨ 1600 ≤ (h4.1 264 2).toNatClampNeg then none else (mm_D (mm_M mm_T0 d) cd_X12_number 49 [.ref 264, .int x1, .int x2, .int x3, .int (((10 * x4) + (h4.1 265 (h4.1 264 2).toNatClampNeg)) - 48)] [] (wI h4 264 2 ((h4.1 264 2) + 1)))) else (mm_bV (mm_M mm_T0 d 191 [.ref 264, .int 1, .int (h4.1 264 2)] h4) (fun h9 => some (some (.int 0), h9)))))))) := by
  refine (mm_by 4 (pc' := 57) (ls' := [.ref 264, .int x1, .int x2, .int x3, .int x4]) (st' := [.int (h.1 264 3), .int (h.1 264 2)]) (h' := h) rfl).trans ?_
  refine (mm_br (c := (h.1 264 3) ≤ (h.1 264 2)) (p1 := 129) (p2 := 60) (l1 := [.ref 264, .int x1, .int x2, .int x3, .int x4]) (l2 := [.ref 264, .int x1, .int x2, .int x3, .int x4]) (s1 := []) (s2 := []) (h1 := h) (h2 := h) rfl rfl).trans (mm_ite ?_ ?_)
  · refine (mm_by 13 (pc' := 149) (ls' := [.ref 264, .int x1, .int x2, .int x3, .int x4]) (st' := [.long x2.toInt64, .long x1.toInt64, .long x4.toInt64]) (h' := wI (wI h 264 4 (h.1 264 2)) 264 10 x3) rfl).trans ?_
    refine (mm_c1 (y := 188) (as := [.long x4.toInt64, .long x1.toInt64, .long x2.toInt64]) (nx := 152) (rest := []) rfl rfl).trans (mm_congI fun v2 h1 => ?_)
    refine (mm_br (c := ¬ v2 = 0) (p1 := 161) (p2 := 155) (l1 := [.ref 264, .int x1, .int x2, .int x3, .int x4]) (l2 := [.ref 264, .int x1, .int x2, .int x3, .int x4]) (s1 := []) (s2 := []) (h1 := h1) (h2 := h1) rfl rfl).trans (mm_ite ?_ ?_)
    · exact mm_by_end 2 rfl
    · refine (mm_by 3 (pc' := 158) (ls' := [.ref 264, .int x1, .int x2, .int x3, .int x4]) (st' := [.int x3, .int 2, .ref 264]) (h' := h1) rfl).trans ?_
      refine (mm_c0 (y := 191) (as := [.ref 264, .int 2, .int x3]) (nx := 161) (rest := []) rfl rfl).trans (mm_congV fun h3 => ?_)
      exact mm_by_end 2 rfl
  · refine (mm_by 4 (pc' := 68) (ls' := [.ref 264, .int x1, .int x2, .int x3, .int x4]) (st' := [.int (h.1 264 2), .ref 265]) (h' := h) rfl).trans ?_
    refine (mm_gd (c := (h.1 264 2) < 0 ∨ 1600 ≤ (h.1 264 2).toNatClampNeg) (p1 := 69) (l1 := [.ref 264, .int x1, .int x2, .int x3, .int x4]) (s1 := [.int (h.1 265 (h.1 264 2).toNatClampNeg)]) (h1 := h) rfl (q_iald (n := 1600) rfl)).trans (mm_ite rfl ?_)
    refine (mm_c1 (y := 193) (as := [.int (h.1 265 (h.1 264 2).toNatClampNeg)]) (nx := 72) (rest := []) rfl rfl).trans (mm_congI fun v5 h4 => ?_)
    refine (mm_br (c := v5 = 0) (p1 := 129) (p2 := 75) (l1 := [.ref 264, .int x1, .int x2, .int x3, .int x4]) (l2 := [.ref 264, .int x1, .int x2, .int x3, .int x4]) (s1 := []) (s2 := []) (h1 := h4) (h2 := h4) rfl rfl).trans (mm_ite ?_ ?_)
    · refine (mm_by 13 (pc' := 149) (ls' := [.ref 264, .int x1, .int x2, .int x3, .int x4]) (st' := [.long x2.toInt64, .long x1.toInt64, .long x4.toInt64]) (h' := wI (wI h4 264 4 (h4.1 264 2)) 264 10 x3) rfl).trans ?_
      refine (mm_c1 (y := 188) (as := [.long x4.toInt64, .long x1.toInt64, .long x2.toInt64]) (nx := 152) (rest := []) rfl rfl).trans (mm_congI fun v7 h6 => ?_)
      refine (mm_br (c := ¬ v7 = 0) (p1 := 161) (p2 := 155) (l1 := [.ref 264, .int x1, .int x2, .int x3, .int x4]) (l2 := [.ref 264, .int x1, .int x2, .int x3, .int x4]) (s1 := []) (s2 := []) (h1 := h6) (h2 := h6) rfl rfl).trans (mm_ite ?_ ?_)
      · exact mm_by_end 2 rfl
      · refine (mm_by 3 (pc' := 158) (ls' := [.ref 264, .int x1, .int x2, .int x3, .int x4]) (st' := [.int x3, .int 2, .ref 264]) (h' := h6) rfl).trans ?_
        refine (mm_c0 (y := 191) (as := [.ref 264, .int 2, .int x3]) (nx := 161) (rest := []) rfl rfl).trans (mm_congV fun h8 => ?_)
        exact mm_by_end 2 rfl
    · refine (mm_by 5 (pc' := 82) (ls' := [.ref 264, .int x1, .int x2, .int x3, .int x4]) (st' := [.int 4, .int ((h4.1 264 2) - x3)]) (h' := h4) rfl).trans ?_
      refine (mm_br (c := ¬ ((h4.1 264 2) - x3) = 4) (p1 := 96) (p2 := 85) (l1 := [.ref 264, .int x1, .int x2, .int x3, .int x4]) (l2 := [.ref 264, .int x1, .int x2, .int x3, .int x4]) (s1 := []) (s2 := []) (h1 := h4) (h2 := h4) rfl rfl).trans (mm_ite ?_ ?_)
      · refine (mm_by 7 (pc' := 109) (ls' := [.ref 264, .int x1, .int x2, .int x3, .int x4]) (st' := [.int (h4.1 264 2), .ref 265, .int (10 * x4)]) (h' := h4) rfl).trans ?_
        refine (mm_gd (c := (h4.1 264 2) < 0 ∨ 1600 ≤ (h4.1 264 2).toNatClampNeg) (p1 := 110) (l1 := [.ref 264, .int x1, .int x2, .int x3, .int x4]) (s1 := [.int (h4.1 265 (h4.1 264 2).toNatClampNeg), .int (10 * x4)]) (h1 := h4) rfl (q_iald (n := 1600) rfl)).trans (mm_ite rfl ?_)
        exact mm_by 11 rfl
      · refine (mm_by 4 (pc' := 91) (ls' := [.ref 264, .int x1, .int x2, .int x3, .int x4]) (st' := [.int (h4.1 264 2), .int 1, .ref 264]) (h' := h4) rfl).trans ?_
        refine (mm_c0 (y := 191) (as := [.ref 264, .int 1, .int (h4.1 264 2)]) (nx := 94) (rest := []) rfl rfl).trans (mm_congV fun h9 => ?_)
        exact mm_by_end 2 rfl
set_option maxRecDepth 100000 in
set_option maxHeartbeats 4000000 in
theorem U_X12_isOwnHere {d : Nat} {h : mm_H} : mm_M mm_T0 (d + 1) 201 [.ref 264] h = (mm_bI (mm_M mm_T0 d 195 [.ref 264, .ref 267] h) (fun v2 h1 => if ¬ v2 = 0 then (some (some (.int 1), h1)) else (mm_bI (mm_M mm_T0 d 195 [.ref 264, .ref 268] h1) (fun v4 h3 => if ¬ v4 = 0 then (some (some (.int 1), h3)) else (mm_bI (mm_M mm_T0 d 195 [.ref 264, .ref 269] h3) (fun v6 h5 => if ¬ v6 = 0 then (some (some (.int 1), h5)) else (mm_bI (mm_M mm_T0 d 195 [.ref 264, .ref 270] h5) (fun v8 h7 => if ¬ v8 = 0 then (some (some (.int 1), h7)) else (mm_bI (mm_M mm_T0 d 195 [.ref 264, .ref 271] h7) (fun v10 h9 => if ¬ v10 = 0 then (some (some (.int 1), h9)) else (mm_bI (mm_M mm_T0 d 195 [.ref 264, .ref 272] h9) (fun v12 h11 => if v12 = 0 then (mm_bI (mm_M mm_T0 d 195 [.ref 264, .ref 273] h11) (fun v14 h13 => if ¬ v14 = 0 then (some (some (.int 1), h13)) else (mm_bI (mm_M mm_T0 d 195 [.ref 264, .ref 274] h13) (fun v16 h15 => if ¬ v16 = 0 then (some (some (.int 1), h15)) else (mm_bI (mm_M mm_T0 d 195 [.ref 264, .ref 275] h15) (fun v18 h17 => if ¬ v18 = 0 then (some (some (.int 1), h17)) else (mm_bI (mm_M mm_T0 d 195 [.ref 264, .ref 276] h17) (fun v20 h19 => if ¬ v20 = 0 then (some (some (.int 1), h19)) else (mm_bI (mm_M mm_T0 d 195 [.ref 264, .ref 277] h19) (fun v22 h21 => if ¬ v22 = 0 then (some (some (.int 1), h21)) else (mm_bI (mm_M mm_T0 d 195 [.ref 264, .ref 278] h21) (fun v24 h23 => if v24 = 0 then (mm_bI (mm_M mm_T0 d 195 [.ref 264, .ref 279] h23) (fun v26 h25 => if ¬ v26 = 0 then (some (some (.int 1), h25)) else (mm_bI (mm_M mm_T0 d 195 [.ref 264, .ref 280] h25) (fun v28 h27 => if ¬ v28 = 0 then (some (some (.int 1), h27)) else (mm_bI (mm_M mm_T0 d 195 [.ref 264, .ref 281] h27) (fun v30 h29 => if ¬ v30 = 0 then (some (some (.int 1), h29)) else (mm_bI (mm_M mm_T0 d 195 [.ref 264, .ref 282] h29) (fun v32 h31 => if ¬ v32 = 0 then (some (some (.int 1), h31)) else (mm_bI (mm_M mm_T0 d 195 [.ref 264, .ref 283] h31) (fun v34 h33 => if ¬ v34 = 0 then (some (some (.int 1), h33)) else (mm_bI (mm_M mm_T0 d 195 [.ref 264, .ref 284] h33) (fun v36 h35 => if v36 = 0 then (mm_bI (mm_M mm_T0 d 195 [.ref 264, .ref 285] h35) (fun v38 h37 => if ¬ v38 = 0 then (some (some (.int 1), h37)) else (mm_bI (mm_M mm_T0 d 195 [.ref 264, .ref 286] h37) (fun v40 h39 => if ¬ v40 = 0 then (some (some (.int 1), h39)) else (mm_bI (mm_M mm_T0 d 195 [.ref 264, .ref 287] h39) (fun v42 h41 => if ¬ v42 = 0 then (some (some (.int 1), h41)) else (mm_bI (mm_M mm_T0 d 195 [.ref 264, .ref 288] h41) (fun v44 h43 => if ¬ v44 = 0 then (some (some (.int 1), h43)) else (mm_bI (mm_M mm_T0 d 195 [.ref 264, .ref 289] h43) (fun v46 h45 => if ¬ v46 = 0 then (some (some (.int 1), h45)) else (mm_bI (mm_M mm_T0 d 195 [.ref 264, .ref 290] h45) (fun v48 h47 => if v48 = 0 then (mm_bI (mm_M mm_T0 d 195 [.ref 264, .ref 291] h47) (fun v50 h49 => if v50 = 0 then (some (some (.int 0), h49)) else (some (some (.int 1), h49)))) else (some (some (.int 1), h47)))))))))))))) else (some (some (.int 1), h35)))))))))))))) else (some (some (.int 1), h23)))))))))))))) else (some (some (.int 1), h11)))))))))))))) := by
  refine (mm_M_eq (ls := [.ref 264, .null]) rfl (Nat.le_of_ble_eq_true rfl) rfl h).trans ?_
  refine (mm_by 3 (pc' := 5) (ls' := [.ref 264, .null]) (st' := [.ref 267, .ref 264]) (h' := h) rfl).trans ?_
  refine (mm_c1 (y := 195) (as := [.ref 264, .ref 267]) (nx := 8) (rest := []) rfl rfl).trans (mm_congI fun v2 h1 => ?_)
  refine (mm_br (c := ¬ v2 = 0) (p1 := 66) (p2 := 11) (l1 := [.ref 264, .null]) (l2 := [.ref 264, .null]) (s1 := []) (s2 := []) (h1 := h1) (h2 := h1) rfl rfl).trans (mm_ite ?_ ?_)
  · exact mm_by_end 25 rfl
  · refine (mm_by 3 (pc' := 16) (ls' := [.ref 264, .null]) (st' := [.ref 268, .ref 264]) (h' := h1) rfl).trans ?_
    refine (mm_c1 (y := 195) (as := [.ref 264, .ref 268]) (nx := 19) (rest := []) rfl rfl).trans (mm_congI fun v4 h3 => ?_)
    refine (mm_br (c := ¬ v4 = 0) (p1 := 66) (p2 := 22) (l1 := [.ref 264, .null]) (l2 := [.ref 264, .null]) (s1 := []) (s2 := []) (h1 := h3) (h2 := h3) rfl rfl).trans (mm_ite ?_ ?_)
    · exact mm_by_end 25 rfl
    · refine (mm_by 3 (pc' := 27) (ls' := [.ref 264, .null]) (st' := [.ref 269, .ref 264]) (h' := h3) rfl).trans ?_
      refine (mm_c1 (y := 195) (as := [.ref 264, .ref 269]) (nx := 30) (rest := []) rfl rfl).trans (mm_congI fun v6 h5 => ?_)
      refine (mm_br (c := ¬ v6 = 0) (p1 := 66) (p2 := 33) (l1 := [.ref 264, .null]) (l2 := [.ref 264, .null]) (s1 := []) (s2 := []) (h1 := h5) (h2 := h5) rfl rfl).trans (mm_ite ?_ ?_)
      · exact mm_by_end 25 rfl
      · refine (mm_by 3 (pc' := 38) (ls' := [.ref 264, .null]) (st' := [.ref 270, .ref 264]) (h' := h5) rfl).trans ?_
        refine (mm_c1 (y := 195) (as := [.ref 264, .ref 270]) (nx := 41) (rest := []) rfl rfl).trans (mm_congI fun v8 h7 => ?_)
        refine (mm_br (c := ¬ v8 = 0) (p1 := 66) (p2 := 44) (l1 := [.ref 264, .null]) (l2 := [.ref 264, .null]) (s1 := []) (s2 := []) (h1 := h7) (h2 := h7) rfl rfl).trans (mm_ite ?_ ?_)
        · exact mm_by_end 25 rfl
        · refine (mm_by 3 (pc' := 49) (ls' := [.ref 264, .null]) (st' := [.ref 271, .ref 264]) (h' := h7) rfl).trans ?_
          refine (mm_c1 (y := 195) (as := [.ref 264, .ref 271]) (nx := 52) (rest := []) rfl rfl).trans (mm_congI fun v10 h9 => ?_)
          refine (mm_br (c := ¬ v10 = 0) (p1 := 66) (p2 := 55) (l1 := [.ref 264, .null]) (l2 := [.ref 264, .null]) (s1 := []) (s2 := []) (h1 := h9) (h2 := h9) rfl rfl).trans (mm_ite ?_ ?_)
          · exact mm_by_end 25 rfl
          · refine (mm_by 3 (pc' := 60) (ls' := [.ref 264, .null]) (st' := [.ref 272, .ref 264]) (h' := h9) rfl).trans ?_
            refine (mm_c1 (y := 195) (as := [.ref 264, .ref 272]) (nx := 63) (rest := []) rfl rfl).trans (mm_congI fun v12 h11 => ?_)
            refine (mm_br (c := v12 = 0) (p1 := 70) (p2 := 66) (l1 := [.ref 264, .null]) (l2 := [.ref 264, .null]) (s1 := []) (s2 := []) (h1 := h11) (h2 := h11) rfl rfl).trans (mm_ite ?_ ?_)
            · refine (mm_by 7 (pc' := 81) (ls' := [.ref 264, .int 0]) (st' := [.ref 273, .ref 264]) (h' := h11) rfl).trans ?_
              refine (mm_c1 (y := 195) (as := [.ref 264, .ref 273]) (nx := 84) (rest := []) rfl rfl).trans (mm_congI fun v14 h13 => ?_)
              refine (mm_br (c := ¬ v14 = 0) (p1 := 142) (p2 := 87) (l1 := [.ref 264, .int 0]) (l2 := [.ref 264, .int 0]) (s1 := []) (s2 := []) (h1 := h13) (h2 := h13) rfl rfl).trans (mm_ite ?_ ?_)
              · exact mm_by_end 20 rfl
              · refine (mm_by 3 (pc' := 92) (ls' := [.ref 264, .int 0]) (st' := [.ref 274, .ref 264]) (h' := h13) rfl).trans ?_
                refine (mm_c1 (y := 195) (as := [.ref 264, .ref 274]) (nx := 95) (rest := []) rfl rfl).trans (mm_congI fun v16 h15 => ?_)
                refine (mm_br (c := ¬ v16 = 0) (p1 := 142) (p2 := 98) (l1 := [.ref 264, .int 0]) (l2 := [.ref 264, .int 0]) (s1 := []) (s2 := []) (h1 := h15) (h2 := h15) rfl rfl).trans (mm_ite ?_ ?_)
                · exact mm_by_end 20 rfl
                · refine (mm_by 3 (pc' := 103) (ls' := [.ref 264, .int 0]) (st' := [.ref 275, .ref 264]) (h' := h15) rfl).trans ?_
                  refine (mm_c1 (y := 195) (as := [.ref 264, .ref 275]) (nx := 106) (rest := []) rfl rfl).trans (mm_congI fun v18 h17 => ?_)
                  refine (mm_br (c := ¬ v18 = 0) (p1 := 142) (p2 := 109) (l1 := [.ref 264, .int 0]) (l2 := [.ref 264, .int 0]) (s1 := []) (s2 := []) (h1 := h17) (h2 := h17) rfl rfl).trans (mm_ite ?_ ?_)
                  · exact mm_by_end 20 rfl
                  · refine (mm_by 3 (pc' := 114) (ls' := [.ref 264, .int 0]) (st' := [.ref 276, .ref 264]) (h' := h17) rfl).trans ?_
                    refine (mm_c1 (y := 195) (as := [.ref 264, .ref 276]) (nx := 117) (rest := []) rfl rfl).trans (mm_congI fun v20 h19 => ?_)
                    refine (mm_br (c := ¬ v20 = 0) (p1 := 142) (p2 := 120) (l1 := [.ref 264, .int 0]) (l2 := [.ref 264, .int 0]) (s1 := []) (s2 := []) (h1 := h19) (h2 := h19) rfl rfl).trans (mm_ite ?_ ?_)
                    · exact mm_by_end 20 rfl
                    · refine (mm_by 3 (pc' := 125) (ls' := [.ref 264, .int 0]) (st' := [.ref 277, .ref 264]) (h' := h19) rfl).trans ?_
                      refine (mm_c1 (y := 195) (as := [.ref 264, .ref 277]) (nx := 128) (rest := []) rfl rfl).trans (mm_congI fun v22 h21 => ?_)
                      refine (mm_br (c := ¬ v22 = 0) (p1 := 142) (p2 := 131) (l1 := [.ref 264, .int 0]) (l2 := [.ref 264, .int 0]) (s1 := []) (s2 := []) (h1 := h21) (h2 := h21) rfl rfl).trans (mm_ite ?_ ?_)
                      · exact mm_by_end 20 rfl
                      · refine (mm_by 3 (pc' := 136) (ls' := [.ref 264, .int 0]) (st' := [.ref 278, .ref 264]) (h' := h21) rfl).trans ?_
                        refine (mm_c1 (y := 195) (as := [.ref 264, .ref 278]) (nx := 139) (rest := []) rfl rfl).trans (mm_congI fun v24 h23 => ?_)
                        refine (mm_br (c := v24 = 0) (p1 := 146) (p2 := 142) (l1 := [.ref 264, .int 0]) (l2 := [.ref 264, .int 0]) (s1 := []) (s2 := []) (h1 := h23) (h2 := h23) rfl rfl).trans (mm_ite ?_ ?_)
                        · refine (mm_by 7 (pc' := 157) (ls' := [.ref 264, .int 0]) (st' := [.ref 279, .ref 264]) (h' := h23) rfl).trans ?_
                          refine (mm_c1 (y := 195) (as := [.ref 264, .ref 279]) (nx := 160) (rest := []) rfl rfl).trans (mm_congI fun v26 h25 => ?_)
                          refine (mm_br (c := ¬ v26 = 0) (p1 := 218) (p2 := 163) (l1 := [.ref 264, .int 0]) (l2 := [.ref 264, .int 0]) (s1 := []) (s2 := []) (h1 := h25) (h2 := h25) rfl rfl).trans (mm_ite ?_ ?_)
                          · exact mm_by_end 15 rfl
                          · refine (mm_by 3 (pc' := 168) (ls' := [.ref 264, .int 0]) (st' := [.ref 280, .ref 264]) (h' := h25) rfl).trans ?_
                            refine (mm_c1 (y := 195) (as := [.ref 264, .ref 280]) (nx := 171) (rest := []) rfl rfl).trans (mm_congI fun v28 h27 => ?_)
                            refine (mm_br (c := ¬ v28 = 0) (p1 := 218) (p2 := 174) (l1 := [.ref 264, .int 0]) (l2 := [.ref 264, .int 0]) (s1 := []) (s2 := []) (h1 := h27) (h2 := h27) rfl rfl).trans (mm_ite ?_ ?_)
                            · exact mm_by_end 15 rfl
                            · refine (mm_by 3 (pc' := 179) (ls' := [.ref 264, .int 0]) (st' := [.ref 281, .ref 264]) (h' := h27) rfl).trans ?_
                              refine (mm_c1 (y := 195) (as := [.ref 264, .ref 281]) (nx := 182) (rest := []) rfl rfl).trans (mm_congI fun v30 h29 => ?_)
                              refine (mm_br (c := ¬ v30 = 0) (p1 := 218) (p2 := 185) (l1 := [.ref 264, .int 0]) (l2 := [.ref 264, .int 0]) (s1 := []) (s2 := []) (h1 := h29) (h2 := h29) rfl rfl).trans (mm_ite ?_ ?_)
                              · exact mm_by_end 15 rfl
                              · refine (mm_by 3 (pc' := 190) (ls' := [.ref 264, .int 0]) (st' := [.ref 282, .ref 264]) (h' := h29) rfl).trans ?_
                                refine (mm_c1 (y := 195) (as := [.ref 264, .ref 282]) (nx := 193) (rest := []) rfl rfl).trans (mm_congI fun v32 h31 => ?_)
                                refine (mm_br (c := ¬ v32 = 0) (p1 := 218) (p2 := 196) (l1 := [.ref 264, .int 0]) (l2 := [.ref 264, .int 0]) (s1 := []) (s2 := []) (h1 := h31) (h2 := h31) rfl rfl).trans (mm_ite ?_ ?_)
                                · exact mm_by_end 15 rfl
                                · refine (mm_by 3 (pc' := 201) (ls' := [.ref 264, .int 0]) (st' := [.ref 283, .ref 264]) (h' := h31) rfl).trans ?_
                                  refine (mm_c1 (y := 195) (as := [.ref 264, .ref 283]) (nx := 204) (rest := []) rfl rfl).trans (mm_congI fun v34 h33 => ?_)
                                  refine (mm_br (c := ¬ v34 = 0) (p1 := 218) (p2 := 207) (l1 := [.ref 264, .int 0]) (l2 := [.ref 264, .int 0]) (s1 := []) (s2 := []) (h1 := h33) (h2 := h33) rfl rfl).trans (mm_ite ?_ ?_)
                                  · exact mm_by_end 15 rfl
                                  · refine (mm_by 3 (pc' := 212) (ls' := [.ref 264, .int 0]) (st' := [.ref 284, .ref 264]) (h' := h33) rfl).trans ?_
                                    refine (mm_c1 (y := 195) (as := [.ref 264, .ref 284]) (nx := 215) (rest := []) rfl rfl).trans (mm_congI fun v36 h35 => ?_)
                                    refine (mm_br (c := v36 = 0) (p1 := 222) (p2 := 218) (l1 := [.ref 264, .int 0]) (l2 := [.ref 264, .int 0]) (s1 := []) (s2 := []) (h1 := h35) (h2 := h35) rfl rfl).trans (mm_ite ?_ ?_)
                                    · refine (mm_by 7 (pc' := 233) (ls' := [.ref 264, .int 0]) (st' := [.ref 285, .ref 264]) (h' := h35) rfl).trans ?_
                                      refine (mm_c1 (y := 195) (as := [.ref 264, .ref 285]) (nx := 236) (rest := []) rfl rfl).trans (mm_congI fun v38 h37 => ?_)
                                      refine (mm_br (c := ¬ v38 = 0) (p1 := 294) (p2 := 239) (l1 := [.ref 264, .int 0]) (l2 := [.ref 264, .int 0]) (s1 := []) (s2 := []) (h1 := h37) (h2 := h37) rfl rfl).trans (mm_ite ?_ ?_)
                                      · exact mm_by_end 10 rfl
                                      · refine (mm_by 3 (pc' := 244) (ls' := [.ref 264, .int 0]) (st' := [.ref 286, .ref 264]) (h' := h37) rfl).trans ?_
                                        refine (mm_c1 (y := 195) (as := [.ref 264, .ref 286]) (nx := 247) (rest := []) rfl rfl).trans (mm_congI fun v40 h39 => ?_)
                                        refine (mm_br (c := ¬ v40 = 0) (p1 := 294) (p2 := 250) (l1 := [.ref 264, .int 0]) (l2 := [.ref 264, .int 0]) (s1 := []) (s2 := []) (h1 := h39) (h2 := h39) rfl rfl).trans (mm_ite ?_ ?_)
                                        · exact mm_by_end 10 rfl
                                        · refine (mm_by 3 (pc' := 255) (ls' := [.ref 264, .int 0]) (st' := [.ref 287, .ref 264]) (h' := h39) rfl).trans ?_
                                          refine (mm_c1 (y := 195) (as := [.ref 264, .ref 287]) (nx := 258) (rest := []) rfl rfl).trans (mm_congI fun v42 h41 => ?_)
                                          refine (mm_br (c := ¬ v42 = 0) (p1 := 294) (p2 := 261) (l1 := [.ref 264, .int 0]) (l2 := [.ref 264, .int 0]) (s1 := []) (s2 := []) (h1 := h41) (h2 := h41) rfl rfl).trans (mm_ite ?_ ?_)
                                          · exact mm_by_end 10 rfl
                                          · refine (mm_by 3 (pc' := 266) (ls' := [.ref 264, .int 0]) (st' := [.ref 288, .ref 264]) (h' := h41) rfl).trans ?_
                                            refine (mm_c1 (y := 195) (as := [.ref 264, .ref 288]) (nx := 269) (rest := []) rfl rfl).trans (mm_congI fun v44 h43 => ?_)
                                            refine (mm_br (c := ¬ v44 = 0) (p1 := 294) (p2 := 272) (l1 := [.ref 264, .int 0]) (l2 := [.ref 264, .int 0]) (s1 := []) (s2 := []) (h1 := h43) (h2 := h43) rfl rfl).trans (mm_ite ?_ ?_)
                                            · exact mm_by_end 10 rfl
                                            · refine (mm_by 3 (pc' := 277) (ls' := [.ref 264, .int 0]) (st' := [.ref 289, .ref 264]) (h' := h43) rfl).trans ?_
                                              refine (mm_c1 (y := 195) (as := [.ref 264, .ref 289]) (nx := 280) (rest := []) rfl rfl).trans (mm_congI fun v46 h45 => ?_)
                                              refine (mm_br (c := ¬ v46 = 0) (p1 := 294) (p2 := 283) (l1 := [.ref 264, .int 0]) (l2 := [.ref 264, .int 0]) (s1 := []) (s2 := []) (h1 := h45) (h2 := h45) rfl rfl).trans (mm_ite ?_ ?_)
                                              · exact mm_by_end 10 rfl
                                              · refine (mm_by 3 (pc' := 288) (ls' := [.ref 264, .int 0]) (st' := [.ref 290, .ref 264]) (h' := h45) rfl).trans ?_
                                                refine (mm_c1 (y := 195) (as := [.ref 264, .ref 290]) (nx := 291) (rest := []) rfl rfl).trans (mm_congI fun v48 h47 => ?_)
                                                refine (mm_br (c := v48 = 0) (p1 := 298) (p2 := 294) (l1 := [.ref 264, .int 0]) (l2 := [.ref 264, .int 0]) (s1 := []) (s2 := []) (h1 := h47) (h2 := h47) rfl rfl).trans (mm_ite ?_ ?_)
                                                · refine (mm_by 7 (pc' := 309) (ls' := [.ref 264, .int 0]) (st' := [.ref 291, .ref 264]) (h' := h47) rfl).trans ?_
                                                  refine (mm_c1 (y := 195) (as := [.ref 264, .ref 291]) (nx := 312) (rest := []) rfl rfl).trans (mm_congI fun v50 h49 => ?_)
                                                  refine (mm_br (c := v50 = 0) (p1 := 319) (p2 := 315) (l1 := [.ref 264, .int 0]) (l2 := [.ref 264, .int 0]) (s1 := []) (s2 := []) (h1 := h49) (h2 := h49) rfl rfl).trans (mm_ite ?_ ?_)
                                                  · exact mm_by_end 4 rfl
                                                  · exact mm_by_end 5 rfl
                                                · exact mm_by_end 10 rfl
                                    · exact mm_by_end 15 rfl
                        · exact mm_by_end 20 rfl
            · exact mm_by_end 25 rfl
set_option maxRecDepth 100000 in
set_option maxHeartbeats 4000000 in
theorem U_X12_name {d : Nat} {h : mm_H} : mm_M mm_T0 (d + 1) 202 [.ref 264] h = (if (h.1 264 5) = 0 then (mm_bI (mm_M mm_T0 d 194 [.ref 264] h) (fun v2 h1 => mm_bI (mm_M mm_T0 d 192 [.int v2] h1) (fun v4 h3 => if v4 = 0 then (mm_bV (mm_M mm_T0 d 191 [.ref 264, .int 1, .int (h3.1 264 2)] h3) (fun h5 => some (some (.long 0), h5))) else (if (h3.1 264 2) = (h3.1 264 4) then (mm_bV (mm_M mm_T0 d 191 [.ref 264, .int 1, .int (h3.1 264 2)] h3) (fun h6 => some (some (.long 0), h6))) else (mm_bI (mm_M mm_T0 d 201 [.ref 264] h3) (fun v8 h7 => if v8 = 0 then (mm_D (mm_M mm_T0 d) cd_X12_name 58 [.ref 264, .long 0, .null] [] (wI h7 264 36 (h7.1 264 2))) else (mm_bV (mm_M mm_T0 d 191 [.ref 264, .int 1, .int (h7.1 264 2)] h7) (fun h9 => some (some (.long 0), h9))))))))) else (some (some (.long 0), h))) := by
  refine (mm_M_eq (ls := [.ref 264, .null, .null]) rfl (Nat.le_of_ble_eq_true rfl) rfl h).trans ?_
  refine (mm_by 2 (pc' := 4) (ls' := [.ref 264, .null, .null]) (st' := [.int (h.1 264 5)]) (h' := h) rfl).trans ?_
  refine (mm_br (c := (h.1 264 5) = 0) (p1 := 9) (p2 := 7) (l1 := [.ref 264, .null, .null]) (l2 := [.ref 264, .null, .null]) (s1 := []) (s2 := []) (h1 := h) (h2 := h) rfl rfl).trans (mm_ite ?_ ?_)
  · refine (mm_by 1 (pc' := 10) (ls' := [.ref 264, .null, .null]) (st' := [.ref 264]) (h' := h) rfl).trans ?_
    refine (mm_c1 (y := 194) (as := [.ref 264]) (nx := 13) (rest := []) rfl rfl).trans (mm_congI fun v2 h1 => ?_)
    refine (mm_c1 (y := 192) (as := [.int v2]) (nx := 16) (rest := []) rfl rfl).trans (mm_congI fun v4 h3 => ?_)
    refine (mm_br (c := v4 = 0) (p1 := 37) (p2 := 19) (l1 := [.ref 264, .null, .null]) (l2 := [.ref 264, .null, .null]) (s1 := []) (s2 := []) (h1 := h3) (h2 := h3) rfl rfl).trans (mm_ite ?_ ?_)
    · refine (mm_by 4 (pc' := 43) (ls' := [.ref 264, .null, .null]) (st' := [.int (h3.1 264 2), .int 1, .ref 264]) (h' := h3) rfl).trans ?_
      refine (mm_c0 (y := 191) (as := [.ref 264, .int 1, .int (h3.1 264 2)]) (nx := 46) (rest := []) rfl rfl).trans (mm_congV fun h5 => ?_)
      exact mm_by_end 2 rfl
    · refine (mm_by 4 (pc' := 27) (ls' := [.ref 264, .null, .null]) (st' := [.int (h3.1 264 4), .int (h3.1 264 2)]) (h' := h3) rfl).trans ?_
      refine (mm_br (c := (h3.1 264 2) = (h3.1 264 4)) (p1 := 37) (p2 := 30) (l1 := [.ref 264, .null, .null]) (l2 := [.ref 264, .null, .null]) (s1 := []) (s2 := []) (h1 := h3) (h2 := h3) rfl rfl).trans (mm_ite ?_ ?_)
      · refine (mm_by 4 (pc' := 43) (ls' := [.ref 264, .null, .null]) (st' := [.int (h3.1 264 2), .int 1, .ref 264]) (h' := h3) rfl).trans ?_
        refine (mm_c0 (y := 191) (as := [.ref 264, .int 1, .int (h3.1 264 2)]) (nx := 46) (rest := []) rfl rfl).trans (mm_congV fun h6 => ?_)
        exact mm_by_end 2 rfl
      · refine (mm_by 1 (pc' := 31) (ls' := [.ref 264, .null, .null]) (st' := [.ref 264]) (h' := h3) rfl).trans ?_
        refine (mm_c1 (y := 201) (as := [.ref 264]) (nx := 34) (rest := []) rfl rfl).trans (mm_congI fun v8 h7 => ?_)
        refine (mm_br (c := v8 = 0) (p1 := 48) (p2 := 37) (l1 := [.ref 264, .null, .null]) (l2 := [.ref 264, .null, .null]) (s1 := []) (s2 := []) (h1 := h7) (h2 := h7) rfl rfl).trans (mm_ite ?_ ?_)
        · exact mm_by 6 rfl
        · refine (mm_by 4 (pc' := 43) (ls' := [.ref 264, .null, .null]) (st' := [.int (h7.1 264 2), .int 1, .ref 264]) (h' := h7) rfl).trans ?_
          refine (mm_c0 (y := 191) (as := [.ref 264, .int 1, .int (h7.1 264 2)]) (nx := 46) (rest := []) rfl rfl).trans (mm_congV fun h9 => ?_)
          exact mm_by_end 2 rfl
  · exact mm_by_end 2 rfl
set_option maxRecDepth 100000 in
set_option maxHeartbeats 4000000 in
theorem U_X12_name_58 {d : Nat} {x1 : Int64} {h : mm_H} : mm_D (mm_M mm_T0 d) cd_X12_name 58 [.ref 264, .long x1, .null] [] h = (if (h.1 264 3) ≤ (h.1 264 2) then (some (some (.long x1), wI h 264 4 (h.1 264 2))) else (if (h.1 264 2) < 0 ∨ 1600 ≤ (h.1 264 2).toNatClampNeg then none else (mm_bI (mm_M mm_T0 d 192 [.int (h.1 265 (h.1 264 2).toNatClampNeg)] h) (fun v2 h1 => if v2 = 0 then (some (some (.long x1), wI h1 264 4 (h1.1 264 2))) else (if ¬ ((h1.1 264 2) - (h1.1 264 36)) = 6 then (if (h1.1 264 2) < 0 ∨ 1600 ≤ (h1.1 264 2).toNatClampNeg then none else (mm_D (mm_M mm_T0 d) cd_X12_name 58 [.ref 264, .long ((((27 * x1) + ((h1.1 265 (h1.1 264 2).toNatClampNeg).toInt64)) - 97) + 1), .null] [] (wI h1 264 2 ((h1.1 264 2) + 1)))) else (mm_bV (mm_M mm_T0 d 191 [.ref 264, .int 1, .int (h1.1 264 2)] h1) (fun h3 => some (some (.long 0), h3)))))))) := by
  refine (mm_by 4 (pc' := 66) (ls' := [.ref 264, .long x1, .null]) (st' := [.int (h.1 264 3), .int (h.1 264 2)]) (h' := h) rfl).trans ?_
  refine (mm_br (c := (h.1 264 3) ≤ (h.1 264 2)) (p1 := 145) (p2 := 69) (l1 := [.ref 264, .long x1, .null]) (l2 := [.ref 264, .long x1, .null]) (s1 := []) (s2 := []) (h1 := h) (h2 := h) rfl rfl).trans (mm_ite ?_ ?_)
  · exact mm_by_end 6 rfl
  · refine (mm_by 4 (pc' := 77) (ls' := [.ref 264, .long x1, .null]) (st' := [.int (h.1 264 2), .ref 265]) (h' := h) rfl).trans ?_
    refine (mm_gd (c := (h.1 264 2) < 0 ∨ 1600 ≤ (h.1 264 2).toNatClampNeg) (p1 := 78) (l1 := [.ref 264, .long x1, .null]) (s1 := [.int (h.1 265 (h.1 264 2).toNatClampNeg)]) (h1 := h) rfl (q_iald (n := 1600) rfl)).trans (mm_ite rfl ?_)
    refine (mm_c1 (y := 192) (as := [.int (h.1 265 (h.1 264 2).toNatClampNeg)]) (nx := 81) (rest := []) rfl rfl).trans (mm_congI fun v2 h1 => ?_)
    refine (mm_br (c := v2 = 0) (p1 := 145) (p2 := 84) (l1 := [.ref 264, .long x1, .null]) (l2 := [.ref 264, .long x1, .null]) (s1 := []) (s2 := []) (h1 := h1) (h2 := h1) rfl rfl).trans (mm_ite ?_ ?_)
    · exact mm_by_end 6 rfl
    · refine (mm_by 6 (pc' := 95) (ls' := [.ref 264, .long x1, .null]) (st' := [.int 6, .int ((h1.1 264 2) - (h1.1 264 36))]) (h' := h1) rfl).trans ?_
      refine (mm_br (c := ¬ ((h1.1 264 2) - (h1.1 264 36)) = 6) (p1 := 109) (p2 := 98) (l1 := [.ref 264, .long x1, .null]) (l2 := [.ref 264, .long x1, .null]) (s1 := []) (s2 := []) (h1 := h1) (h2 := h1) rfl rfl).trans (mm_ite ?_ ?_)
      · refine (mm_by 7 (pc' := 122) (ls' := [.ref 264, .long x1, .null]) (st' := [.int (h1.1 264 2), .ref 265, .long (27 * x1)]) (h' := h1) rfl).trans ?_
        refine (mm_gd (c := (h1.1 264 2) < 0 ∨ 1600 ≤ (h1.1 264 2).toNatClampNeg) (p1 := 123) (l1 := [.ref 264, .long x1, .null]) (s1 := [.int (h1.1 265 (h1.1 264 2).toNatClampNeg), .long (27 * x1)]) (h1 := h1) rfl (q_iald (n := 1600) rfl)).trans (mm_ite rfl ?_)
        exact mm_by 14 rfl
      · refine (mm_by 4 (pc' := 104) (ls' := [.ref 264, .long x1, .null]) (st' := [.int (h1.1 264 2), .int 1, .ref 264]) (h' := h1) rfl).trans ?_
        refine (mm_c0 (y := 191) (as := [.ref 264, .int 1, .int (h1.1 264 2)]) (nx := 107) (rest := []) rfl rfl).trans (mm_congV fun h3 => ?_)
        exact mm_by_end 2 rfl
set_option maxRecDepth 100000 in
set_option maxHeartbeats 4000000 in
theorem U_X12_isAllowed {d : Nat} {x1 : Int32} {h : mm_H} : mm_M mm_T0 (d + 1) 203 [.ref 264, .int x1] h = (if (h.1 264 54) = 0 then (if 6 ≤ x1 then (some (some (.int 0), h)) else (some (some (.int 1), h))) else (if (h.1 264 54) = 1 then (if x1 < 4 then (some (some (.int 1), h)) else (if ¬ x1 = 6 then (some (some (.int 0), h)) else (some (some (.int 1), h)))) else (if (h.1 264 54) = 2 then (if x1 < 4 then (some (some (.int 1), h)) else (if ¬ x1 = 7 then (some (some (.int 0), h)) else (some (some (.int 1), h)))) else (if x1 < 2 then (some (some (.int 1), h)) else (if x1 = 3 then (some (some (.int 1), h)) else (if x1 = 4 then (some (some (.int 1), h)) else (if x1 ≤ 7 then (some (some (.int 0), h)) else (some (some (.int 1), h))))))))) := by
  refine (mm_M_eq (ls := [.ref 264, .int x1]) rfl (Nat.le_of_ble_eq_true rfl) rfl h).trans ?_
  refine (mm_by 2 (pc' := 4) (ls' := [.ref 264, .int x1]) (st' := [.int (h.1 264 54)]) (h' := h) rfl).trans ?_
  refine (mm_go (pc' := mm_sw [(0, 32), (1, 44), (2, 61)] 78 (h.1 264 54)) (ls' := [.ref 264, .int x1]) (st' := []) (h' := h) rfl rfl).trans ?_
  refine mm_sw_c.trans (mm_ite ?_ ?_)
  · refine (mm_by 2 (pc' := 35) (ls' := [.ref 264, .int x1]) (st' := [.int 6, .int x1]) (h' := h) rfl).trans ?_
    refine (mm_br (c := 6 ≤ x1) (p1 := 42) (p2 := 38) (l1 := [.ref 264, .int x1]) (l2 := [.ref 264, .int x1]) (s1 := []) (s2 := []) (h1 := h) (h2 := h) rfl rfl).trans (mm_ite ?_ ?_)
    · exact mm_by_end 2 rfl
    · exact mm_by_end 3 rfl
  · refine mm_sw_c.trans (mm_ite ?_ ?_)
    · refine (mm_by 2 (pc' := 46) (ls' := [.ref 264, .int x1]) (st' := [.int 4, .int x1]) (h' := h) rfl).trans ?_
      refine (mm_br (c := x1 < 4) (p1 := 55) (p2 := 49) (l1 := [.ref 264, .int x1]) (l2 := [.ref 264, .int x1]) (s1 := []) (s2 := []) (h1 := h) (h2 := h) rfl rfl).trans (mm_ite ?_ ?_)
      · exact mm_by_end 3 rfl
      · refine (mm_by 2 (pc' := 52) (ls' := [.ref 264, .int x1]) (st' := [.int 6, .int x1]) (h' := h) rfl).trans ?_
        refine (mm_br (c := ¬ x1 = 6) (p1 := 59) (p2 := 55) (l1 := [.ref 264, .int x1]) (l2 := [.ref 264, .int x1]) (s1 := []) (s2 := []) (h1 := h) (h2 := h) rfl rfl).trans (mm_ite ?_ ?_)
        · exact mm_by_end 2 rfl
        · exact mm_by_end 3 rfl
    · refine mm_sw_c.trans (mm_ite ?_ ?_)
      · refine (mm_by 2 (pc' := 63) (ls' := [.ref 264, .int x1]) (st' := [.int 4, .int x1]) (h' := h) rfl).trans ?_
        refine (mm_br (c := x1 < 4) (p1 := 72) (p2 := 66) (l1 := [.ref 264, .int x1]) (l2 := [.ref 264, .int x1]) (s1 := []) (s2 := []) (h1 := h) (h2 := h) rfl rfl).trans (mm_ite ?_ ?_)
        · exact mm_by_end 3 rfl
        · refine (mm_by 2 (pc' := 69) (ls' := [.ref 264, .int x1]) (st' := [.int 7, .int x1]) (h' := h) rfl).trans ?_
          refine (mm_br (c := ¬ x1 = 7) (p1 := 76) (p2 := 72) (l1 := [.ref 264, .int x1]) (l2 := [.ref 264, .int x1]) (s1 := []) (s2 := []) (h1 := h) (h2 := h) rfl rfl).trans (mm_ite ?_ ?_)
          · exact mm_by_end 2 rfl
          · exact mm_by_end 3 rfl
      · refine Eq.trans (show mm_D _ _ (mm_sw [] 78 (h.1 264 54)) _ _ _ = mm_D _ _ 78 _ _ _ from rfl) ?_
        refine (mm_by 2 (pc' := 80) (ls' := [.ref 264, .int x1]) (st' := [.int 2, .int x1]) (h' := h) rfl).trans ?_
        refine (mm_br (c := x1 < 2) (p1 := 99) (p2 := 83) (l1 := [.ref 264, .int x1]) (l2 := [.ref 264, .int x1]) (s1 := []) (s2 := []) (h1 := h) (h2 := h) rfl rfl).trans (mm_ite ?_ ?_)
        · exact mm_by_end 3 rfl
        · refine (mm_by 2 (pc' := 85) (ls' := [.ref 264, .int x1]) (st' := [.int 3, .int x1]) (h' := h) rfl).trans ?_
          refine (mm_br (c := x1 = 3) (p1 := 99) (p2 := 88) (l1 := [.ref 264, .int x1]) (l2 := [.ref 264, .int x1]) (s1 := []) (s2 := []) (h1 := h) (h2 := h) rfl rfl).trans (mm_ite ?_ ?_)
          · exact mm_by_end 3 rfl
          · refine (mm_by 2 (pc' := 90) (ls' := [.ref 264, .int x1]) (st' := [.int 4, .int x1]) (h' := h) rfl).trans ?_
            refine (mm_br (c := x1 = 4) (p1 := 99) (p2 := 93) (l1 := [.ref 264, .int x1]) (l2 := [.ref 264, .int x1]) (s1 := []) (s2 := []) (h1 := h) (h2 := h) rfl rfl).trans (mm_ite ?_ ?_)
            · exact mm_by_end 3 rfl
            · refine (mm_by 2 (pc' := 96) (ls' := [.ref 264, .int x1]) (st' := [.int 7, .int x1]) (h' := h) rfl).trans ?_
              refine (mm_br (c := x1 ≤ 7) (p1 := 103) (p2 := 99) (l1 := [.ref 264, .int x1]) (l2 := [.ref 264, .int x1]) (s1 := []) (s2 := []) (h1 := h) (h2 := h) rfl rfl).trans (mm_ite ?_ ?_)
              · exact mm_by_end 2 rfl
              · exact mm_by_end 3 rfl
set_option maxRecDepth 100000 in
set_option maxHeartbeats 4000000 in
theorem U_X12_nameOf {d : Nat} {x1 : Int64} {h : mm_H} : mm_M mm_T0 (d + 1) 204 [.ref 264, .long x1] h = (mm_D (mm_M mm_T0 d) cd_X12_nameOf 2 [.ref 264, .long x1, .null, .int 0] [] h) := by
  refine (mm_M_eq (ls := [.ref 264, .long x1, .null, .null]) rfl (Nat.le_of_ble_eq_true rfl) rfl h).trans ?_
  exact mm_by 2 rfl
set_option maxRecDepth 100000 in
set_option maxHeartbeats 4000000 in
theorem U_X12_nameOf_2 {d : Nat} {x1 : Int64} {x3 : Int32} {h : mm_H} : mm_D (mm_M mm_T0 d) cd_X12_nameOf 2 [.ref 264, .long x1, .null, .int x3] [] h = (if (h.1 264 39) ≤ x3 then (some (some (.int ((-1))), h)) else (if x3 < 0 ∨ 16 ≤ x3.toNatClampNeg then none else (if ¬ (lg_cmp (h.2.1 292 x3.toNatClampNeg) x1) = 0 then (mm_D (mm_M mm_T0 d) cd_X12_nameOf 2 [.ref 264, .long x1, .null, .int (x3 + 1)] [] h) else (some (some (.int x3), h))))) := by
  refine (mm_by 3 (pc' := 7) (ls' := [.ref 264, .long x1, .null, .int x3]) (st' := [.int (h.1 264 39), .int x3]) (h' := h) rfl).trans ?_
  refine (mm_br (c := (h.1 264 39) ≤ x3) (p1 := 29) (p2 := 10) (l1 := [.ref 264, .long x1, .null, .int x3]) (l2 := [.ref 264, .long x1, .null, .int x3]) (s1 := []) (s2 := []) (h1 := h) (h2 := h) rfl rfl).trans (mm_ite ?_ ?_)
  · exact mm_by_end 2 rfl
  · refine (mm_by 3 (pc' := 15) (ls' := [.ref 264, .long x1, .null, .int x3]) (st' := [.int x3, .ref 292]) (h' := h) rfl).trans ?_
    refine (mm_gd (c := x3 < 0 ∨ 16 ≤ x3.toNatClampNeg) (p1 := 16) (l1 := [.ref 264, .long x1, .null, .int x3]) (s1 := [.long (h.2.1 292 x3.toNatClampNeg)]) (h1 := h) rfl (q_lald (n := 16) rfl)).trans (mm_ite rfl ?_)
    refine (mm_by 2 (pc' := 18) (ls' := [.ref 264, .long x1, .null, .int x3]) (st' := [.int (lg_cmp (h.2.1 292 x3.toNatClampNeg) x1)]) (h' := h) rfl).trans ?_
    refine (mm_br (c := ¬ (lg_cmp (h.2.1 292 x3.toNatClampNeg) x1) = 0) (p1 := 23) (p2 := 21) (l1 := [.ref 264, .long x1, .null, .int x3]) (l2 := [.ref 264, .long x1, .null, .int x3]) (s1 := []) (s2 := []) (h1 := h) (h2 := h) rfl rfl).trans (mm_ite ?_ ?_)
    · exact mm_by 2 rfl
    · exact mm_by_end 2 rfl
set_option maxRecDepth 100000 in
set_option maxHeartbeats 4000000 in
theorem U_X12_oneOf {d : Nat} {h : mm_H} : mm_M mm_T0 (d + 1) 205 [.ref 264] h = (mm_bL (mm_M mm_T0 d 202 [.ref 264] h) (fun v2 h1 => mm_bI (mm_M mm_T0 d 204 [.ref 264, .long v2] h1) (fun v4 h3 => if ¬ (h3.1 264 5) = 0 then (if ¬ (h3.1 264 5) = 0 then (some (some (.int 0), h3)) else (some (some (.int v4), h3))) else (if ¬ v4 = ((-1)) then (if ¬ (h3.1 264 5) = 0 then (some (some (.int 0), h3)) else (some (some (.int v4), h3))) else (mm_bV (mm_M mm_T0 d 191 [.ref 264, .int 3, .int (h3.1 264 36)] h3) (fun h5 => if ¬ (h5.1 264 5) = 0 then (some (some (.int 0), h5)) else (some (some (.int v4), h5)))))))) := by
  refine (mm_M_eq (ls := [.ref 264, .null, .null, .null]) rfl (Nat.le_of_ble_eq_true rfl) rfl h).trans ?_
  refine (mm_by 1 (pc' := 1) (ls' := [.ref 264, .null, .null, .null]) (st' := [.ref 264]) (h' := h) rfl).trans ?_
  refine (mm_c2 (y := 202) (as := [.ref 264]) (nx := 4) (rest := []) rfl rfl).trans (mm_congL fun v2 h1 => ?_)
  refine (mm_by 3 (pc' := 7) (ls' := [.ref 264, .long v2, .null, .null]) (st' := [.long v2, .ref 264]) (h' := h1) rfl).trans ?_
  refine (mm_c1 (y := 204) (as := [.ref 264, .long v2]) (nx := 10) (rest := []) rfl rfl).trans (mm_congI fun v4 h3 => ?_)
  refine (mm_by 3 (pc' := 15) (ls' := [.ref 264, .long v2, .null, .int v4]) (st' := [.int (h3.1 264 5)]) (h' := h3) rfl).trans ?_
  refine (mm_br (c := ¬ (h3.1 264 5) = 0) (p1 := 32) (p2 := 18) (l1 := [.ref 264, .long v2, .null, .int v4]) (l2 := [.ref 264, .long v2, .null, .int v4]) (s1 := []) (s2 := []) (h1 := h3) (h2 := h3) rfl rfl).trans (mm_ite ?_ ?_)
  · refine (mm_by 2 (pc' := 36) (ls' := [.ref 264, .long v2, .null, .int v4]) (st' := [.int (h3.1 264 5)]) (h' := h3) rfl).trans ?_
    refine (mm_br (c := ¬ (h3.1 264 5) = 0) (p1 := 43) (p2 := 39) (l1 := [.ref 264, .long v2, .null, .int v4]) (l2 := [.ref 264, .long v2, .null, .int v4]) (s1 := []) (s2 := []) (h1 := h3) (h2 := h3) rfl rfl).trans (mm_ite ?_ ?_)
    · exact mm_by_end 2 rfl
    · exact mm_by_end 3 rfl
  · refine (mm_by 2 (pc' := 20) (ls' := [.ref 264, .long v2, .null, .int v4]) (st' := [.int ((-1)), .int v4]) (h' := h3) rfl).trans ?_
    refine (mm_br (c := ¬ v4 = ((-1))) (p1 := 32) (p2 := 23) (l1 := [.ref 264, .long v2, .null, .int v4]) (l2 := [.ref 264, .long v2, .null, .int v4]) (s1 := []) (s2 := []) (h1 := h3) (h2 := h3) rfl rfl).trans (mm_ite ?_ ?_)
    · refine (mm_by 2 (pc' := 36) (ls' := [.ref 264, .long v2, .null, .int v4]) (st' := [.int (h3.1 264 5)]) (h' := h3) rfl).trans ?_
      refine (mm_br (c := ¬ (h3.1 264 5) = 0) (p1 := 43) (p2 := 39) (l1 := [.ref 264, .long v2, .null, .int v4]) (l2 := [.ref 264, .long v2, .null, .int v4]) (s1 := []) (s2 := []) (h1 := h3) (h2 := h3) rfl rfl).trans (mm_ite ?_ ?_)
      · exact mm_by_end 2 rfl
      · exact mm_by_end 3 rfl
    · refine (mm_by 4 (pc' := 29) (ls' := [.ref 264, .long v2, .null, .int v4]) (st' := [.int (h3.1 264 36), .int 3, .ref 264]) (h' := h3) rfl).trans ?_
      refine (mm_c0 (y := 191) (as := [.ref 264, .int 3, .int (h3.1 264 36)]) (nx := 32) (rest := []) rfl rfl).trans (mm_congV fun h5 => ?_)
      refine (mm_by 2 (pc' := 36) (ls' := [.ref 264, .long v2, .null, .int v4]) (st' := [.int (h5.1 264 5)]) (h' := h5) rfl).trans ?_
      refine (mm_br (c := ¬ (h5.1 264 5) = 0) (p1 := 43) (p2 := 39) (l1 := [.ref 264, .long v2, .null, .int v4]) (l2 := [.ref 264, .long v2, .null, .int v4]) (s1 := []) (s2 := []) (h1 := h5) (h2 := h5) rfl rfl).trans (mm_ite ?_ ?_)
      · exact mm_by_end 2 rfl
      · exact mm_by_end 3 rfl
set_option maxRecDepth 100000 in
set_option maxHeartbeats 4000000 in
theorem U_X12_terraceTold {d : Nat} {h : mm_H} : mm_M mm_T0 (d + 1) 206 [.ref 264] h = (mm_bV (mm_M mm_T0 d 197 [.ref 264, .ref 267] h) (fun h1 => mm_bI (mm_M mm_T0 d 200 [.ref 264, .int 2, .int 9] h1) (fun v3 h2 => mm_bV (mm_M mm_T0 d 199 [.ref 264, .int 59] (wI h2 264 37 v3)) (fun h4 => some (none, h4))))) := by
  refine (mm_M_eq (ls := [.ref 264]) rfl (Nat.le_of_ble_eq_true rfl) rfl h).trans ?_
  refine (mm_by 3 (pc' := 5) (ls' := [.ref 264]) (st' := [.ref 267, .ref 264]) (h' := h) rfl).trans ?_
  refine (mm_c0 (y := 197) (as := [.ref 264, .ref 267]) (nx := 8) (rest := []) rfl rfl).trans (mm_congV fun h1 => ?_)
  refine (mm_by 4 (pc' := 13) (ls' := [.ref 264]) (st' := [.int 9, .int 2, .ref 264, .ref 264]) (h' := h1) rfl).trans ?_
  refine (mm_c1 (y := 200) (as := [.ref 264, .int 2, .int 9]) (nx := 16) (rest := [.ref 264]) rfl rfl).trans (mm_congI fun v3 h2 => ?_)
  refine (mm_by 3 (pc' := 22) (ls' := [.ref 264]) (st' := [.int 59, .ref 264]) (h' := wI h2 264 37 v3) rfl).trans ?_
  refine (mm_c0 (y := 199) (as := [.ref 264, .int 59]) (nx := 25) (rest := []) rfl rfl).trans (mm_congV fun h4 => ?_)
  exact mm_by_end 1 rfl
set_option maxRecDepth 100000 in
set_option maxHeartbeats 4000000 in
theorem U_X12_soulTold {d : Nat} {x1 : Int32} {h : mm_H} : mm_M mm_T0 (d + 1) 207 [.ref 264, .int x1] h = (if ¬ (h.1 264 5) = 0 then (if (h.1 264 5) = 0 then (mm_bL (mm_M mm_T0 d 202 [.ref 264] h) (fun v2 h1 => if ¬ (h1.1 264 5) = 0 then (mm_bV (mm_M mm_T0 d 197 [.ref 264, .ref 269] h1) (fun h3 => mm_bI (mm_M mm_T0 d 200 [.ref 264, .int 0, .int ((h3.1 264 37) - 1)] h3) (fun v5 h4 => mm_D (mm_M mm_T0 d) cd_X12_soulTold 84 [.ref 264, .null, .long v2, .null, .int v5, .int 0, .null] [] h4))) else (mm_bI (mm_M mm_T0 d 204 [.ref 264, .long v2] h1) (fun v7 h6 => if v7 = ((-1)) then (mm_bV (mm_M mm_T0 d 197 [.ref 264, .ref 269] h6) (fun h8 => mm_bI (mm_M mm_T0 d 200 [.ref 264, .int 0, .int ((h8.1 264 37) - 1)] h8) (fun v10 h9 => mm_D (mm_M mm_T0 d) cd_X12_soulTold 84 [.ref 264, .null, .long v2, .null, .int v10, .int 0, .null] [] h9))) else (mm_bV (mm_M mm_T0 d 191 [.ref 264, .int 3, .int (h6.1 264 36)] h6) (fun h11 => mm_bV (mm_M mm_T0 d 197 [.ref 264, .ref 269] h11) (fun h12 => mm_bI (mm_M mm_T0 d 200 [.ref 264, .int 0, .int ((h12.1 264 37) - 1)] h12) (fun v14 h13 => mm_D (mm_M mm_T0 d) cd_X12_soulTold 84 [.ref 264, .null, .long v2, .null, .int v14, .int 0, .null] [] h13)))))))) else (some (none, h))) else (if ¬ (h.1 264 39) = 8 then (if (h.1 264 5) = 0 then (mm_bL (mm_M mm_T0 d 202 [.ref 264] h) (fun v16 h15 => if ¬ (h15.1 264 5) = 0 then (mm_bV (mm_M mm_T0 d 197 [.ref 264, .ref 269] h15) (fun h17 => mm_bI (mm_M mm_T0 d 200 [.ref 264, .int 0, .int ((h17.1 264 37) - 1)] h17) (fun v19 h18 => mm_D (mm_M mm_T0 d) cd_X12_soulTold 84 [.ref 264, .null, .long v16, .null, .int v19, .int 0, .null] [] h18))) else (mm_bI (mm_M mm_T0 d 204 [.ref 264, .long v16] h15) (fun v21 h20 => if v21 = ((-1)) then (mm_bV (mm_M mm_T0 d 197 [.ref 264, .ref 269] h20) (fun h22 => mm_bI (mm_M mm_T0 d 200 [.ref 264, .int 0, .int ((h22.1 264 37) - 1)] h22) (fun v24 h23 => mm_D (mm_M mm_T0 d) cd_X12_soulTold 84 [.ref 264, .null, .long v16, .null, .int v24, .int 0, .null] [] h23))) else (mm_bV (mm_M mm_T0 d 191 [.ref 264, .int 3, .int (h20.1 264 36)] h20) (fun h25 => mm_bV (mm_M mm_T0 d 197 [.ref 264, .ref 269] h25) (fun h26 => mm_bI (mm_M mm_T0 d 200 [.ref 264, .int 0, .int ((h26.1 264 37) - 1)] h26) (fun v28 h27 => mm_D (mm_M mm_T0 d) cd_X12_soulTold 84 [.ref 264, .null, .long v16, .null, .int v28, .int 0, .null] [] h27)))))))) else (some (none, h))) else (mm_bV (mm_M mm_T0 d 191 [.ref 264, .int 5, .int x1] h) (fun h29 => if (h29.1 264 5) = 0 then (mm_bL (mm_M mm_T0 d 202 [.ref 264] h29) (fun v31 h30 => if ¬ (h30.1 264 5) = 0 then (mm_bV (mm_M mm_T0 d 197 [.ref 264, .ref 269] h30) (fun h32 => mm_bI (mm_M mm_T0 d 200 [.ref 264, .int 0, .int ((h32.1 264 37) - 1)] h32) (fun v34 h33 => mm_D (mm_M mm_T0 d) cd_X12_soulTold 84 [.ref 264, .null, .long v31, .null, .int v34, .int 0, .null] [] h33))) else (mm_bI (mm_M mm_T0 d 204 [.ref 264, .long v31] h30) (fun v36 h35 => if v36 = ((-1)) then (mm_bV (mm_M mm_T0 d 197 [.ref 264, .ref 269] h35) (fun h37 => mm_bI (mm_M mm_T0 d 200 [.ref 264, .int 0, .int ((h37.1 264 37) - 1)] h37) (fun v39 h38 => mm_D (mm_M mm_T0 d) cd_X12_soulTold 84 [.ref 264, .null, .long v31, .null, .int v39, .int 0, .null] [] h38))) else (mm_bV (mm_M mm_T0 d 191 [.ref 264, .int 3, .int (h35.1 264 36)] h35) (fun h40 => mm_bV (mm_M mm_T0 d 197 [.ref 264, .ref 269] h40) (fun h41 => mm_bI (mm_M mm_T0 d 200 [.ref 264, .int 0, .int ((h41.1 264 37) - 1)] h41) (fun v43 h42 => mm_D (mm_M mm_T0 d) cd_X12_soulTold 84 [.ref 264, .null, .long v31, .null, .int v43, .int 0, .null] [] h42)))))))) else (some (none, h29)))))) := by
  refine (mm_M_eq (ls := [.ref 264, .int x1, .null, .null, .null, .null, .null]) rfl (Nat.le_of_ble_eq_true rfl) rfl h).trans ?_
  refine (mm_by 2 (pc' := 4) (ls' := [.ref 264, .int x1, .null, .null, .null, .null, .null]) (st' := [.int (h.1 264 5)]) (h' := h) rfl).trans ?_
  refine (mm_br (c := ¬ (h.1 264 5) = 0) (p1 := 22) (p2 := 7) (l1 := [.ref 264, .int x1, .null, .null, .null, .null, .null]) (l2 := [.ref 264, .int x1, .null, .null, .null, .null, .null]) (s1 := []) (s2 := []) (h1 := h) (h2 := h) rfl rfl).trans (mm_ite ?_ ?_)
  · refine (mm_by 2 (pc' := 26) (ls' := [.ref 264, .int x1, .null, .null, .null, .null, .null]) (st' := [.int (h.1 264 5)]) (h' := h) rfl).trans ?_
    refine (mm_br (c := (h.1 264 5) = 0) (p1 := 30) (p2 := 29) (l1 := [.ref 264, .int x1, .null, .null, .null, .null, .null]) (l2 := [.ref 264, .int x1, .null, .null, .null, .null, .null]) (s1 := []) (s2 := []) (h1 := h) (h2 := h) rfl rfl).trans (mm_ite ?_ ?_)
    · refine (mm_by 1 (pc' := 31) (ls' := [.ref 264, .int x1, .null, .null, .null, .null, .null]) (st' := [.ref 264]) (h' := h) rfl).trans ?_
      refine (mm_c2 (y := 202) (as := [.ref 264]) (nx := 34) (rest := []) rfl rfl).trans (mm_congL fun v2 h1 => ?_)
      refine (mm_by 3 (pc' := 39) (ls' := [.ref 264, .int x1, .long v2, .null, .null, .null, .null]) (st' := [.int (h1.1 264 5)]) (h' := h1) rfl).trans ?_
      refine (mm_br (c := ¬ (h1.1 264 5) = 0) (p1 := 60) (p2 := 42) (l1 := [.ref 264, .int x1, .long v2, .null, .null, .null, .null]) (l2 := [.ref 264, .int x1, .long v2, .null, .null, .null, .null]) (s1 := []) (s2 := []) (h1 := h1) (h2 := h1) rfl rfl).trans (mm_ite ?_ ?_)
      · refine (mm_by 3 (pc' := 65) (ls' := [.ref 264, .int x1, .long v2, .null, .null, .null, .null]) (st' := [.ref 269, .ref 264]) (h' := h1) rfl).trans ?_
        refine (mm_c0 (y := 197) (as := [.ref 264, .ref 269]) (nx := 68) (rest := []) rfl rfl).trans (mm_congV fun h3 => ?_)
        refine (mm_by 6 (pc' := 76) (ls' := [.ref 264, .int x1, .long v2, .null, .null, .null, .null]) (st' := [.int ((h3.1 264 37) - 1), .int 0, .ref 264]) (h' := h3) rfl).trans ?_
        refine (mm_c1 (y := 200) (as := [.ref 264, .int 0, .int ((h3.1 264 37) - 1)]) (nx := 79) (rest := []) rfl rfl).trans (mm_congI fun v5 h4 => ?_)
        exact mm_by 3 rfl
      · refine (mm_by 2 (pc' := 44) (ls' := [.ref 264, .int x1, .long v2, .null, .null, .null, .null]) (st' := [.long v2, .ref 264]) (h' := h1) rfl).trans ?_
        refine (mm_c1 (y := 204) (as := [.ref 264, .long v2]) (nx := 47) (rest := []) rfl rfl).trans (mm_congI fun v7 h6 => ?_)
        refine (mm_by 1 (pc' := 48) (ls' := [.ref 264, .int x1, .long v2, .null, .null, .null, .null]) (st' := [.int ((-1)), .int v7]) (h' := h6) rfl).trans ?_
        refine (mm_br (c := v7 = ((-1))) (p1 := 60) (p2 := 51) (l1 := [.ref 264, .int x1, .long v2, .null, .null, .null, .null]) (l2 := [.ref 264, .int x1, .long v2, .null, .null, .null, .null]) (s1 := []) (s2 := []) (h1 := h6) (h2 := h6) rfl rfl).trans (mm_ite ?_ ?_)
        · refine (mm_by 3 (pc' := 65) (ls' := [.ref 264, .int x1, .long v2, .null, .null, .null, .null]) (st' := [.ref 269, .ref 264]) (h' := h6) rfl).trans ?_
          refine (mm_c0 (y := 197) (as := [.ref 264, .ref 269]) (nx := 68) (rest := []) rfl rfl).trans (mm_congV fun h8 => ?_)
          refine (mm_by 6 (pc' := 76) (ls' := [.ref 264, .int x1, .long v2, .null, .null, .null, .null]) (st' := [.int ((h8.1 264 37) - 1), .int 0, .ref 264]) (h' := h8) rfl).trans ?_
          refine (mm_c1 (y := 200) (as := [.ref 264, .int 0, .int ((h8.1 264 37) - 1)]) (nx := 79) (rest := []) rfl rfl).trans (mm_congI fun v10 h9 => ?_)
          exact mm_by 3 rfl
        · refine (mm_by 4 (pc' := 57) (ls' := [.ref 264, .int x1, .long v2, .null, .null, .null, .null]) (st' := [.int (h6.1 264 36), .int 3, .ref 264]) (h' := h6) rfl).trans ?_
          refine (mm_c0 (y := 191) (as := [.ref 264, .int 3, .int (h6.1 264 36)]) (nx := 60) (rest := []) rfl rfl).trans (mm_congV fun h11 => ?_)
          refine (mm_by 3 (pc' := 65) (ls' := [.ref 264, .int x1, .long v2, .null, .null, .null, .null]) (st' := [.ref 269, .ref 264]) (h' := h11) rfl).trans ?_
          refine (mm_c0 (y := 197) (as := [.ref 264, .ref 269]) (nx := 68) (rest := []) rfl rfl).trans (mm_congV fun h12 => ?_)
          refine (mm_by 6 (pc' := 76) (ls' := [.ref 264, .int x1, .long v2, .null, .null, .null, .null]) (st' := [.int ((h12.1 264 37) - 1), .int 0, .ref 264]) (h' := h12) rfl).trans ?_
          refine (mm_c1 (y := 200) (as := [.ref 264, .int 0, .int ((h12.1 264 37) - 1)]) (nx := 79) (rest := []) rfl rfl).trans (mm_congI fun v14 h13 => ?_)
          exact mm_by 3 rfl
    · exact mm_by_end 1 rfl
  · refine (mm_by 3 (pc' := 13) (ls' := [.ref 264, .int x1, .null, .null, .null, .null, .null]) (st' := [.int 8, .int (h.1 264 39)]) (h' := h) rfl).trans ?_
    refine (mm_br (c := ¬ (h.1 264 39) = 8) (p1 := 22) (p2 := 16) (l1 := [.ref 264, .int x1, .null, .null, .null, .null, .null]) (l2 := [.ref 264, .int x1, .null, .null, .null, .null, .null]) (s1 := []) (s2 := []) (h1 := h) (h2 := h) rfl rfl).trans (mm_ite ?_ ?_)
    · refine (mm_by 2 (pc' := 26) (ls' := [.ref 264, .int x1, .null, .null, .null, .null, .null]) (st' := [.int (h.1 264 5)]) (h' := h) rfl).trans ?_
      refine (mm_br (c := (h.1 264 5) = 0) (p1 := 30) (p2 := 29) (l1 := [.ref 264, .int x1, .null, .null, .null, .null, .null]) (l2 := [.ref 264, .int x1, .null, .null, .null, .null, .null]) (s1 := []) (s2 := []) (h1 := h) (h2 := h) rfl rfl).trans (mm_ite ?_ ?_)
      · refine (mm_by 1 (pc' := 31) (ls' := [.ref 264, .int x1, .null, .null, .null, .null, .null]) (st' := [.ref 264]) (h' := h) rfl).trans ?_
        refine (mm_c2 (y := 202) (as := [.ref 264]) (nx := 34) (rest := []) rfl rfl).trans (mm_congL fun v16 h15 => ?_)
        refine (mm_by 3 (pc' := 39) (ls' := [.ref 264, .int x1, .long v16, .null, .null, .null, .null]) (st' := [.int (h15.1 264 5)]) (h' := h15) rfl).trans ?_
        refine (mm_br (c := ¬ (h15.1 264 5) = 0) (p1 := 60) (p2 := 42) (l1 := [.ref 264, .int x1, .long v16, .null, .null, .null, .null]) (l2 := [.ref 264, .int x1, .long v16, .null, .null, .null, .null]) (s1 := []) (s2 := []) (h1 := h15) (h2 := h15) rfl rfl).trans (mm_ite ?_ ?_)
        · refine (mm_by 3 (pc' := 65) (ls' := [.ref 264, .int x1, .long v16, .null, .null, .null, .null]) (st' := [.ref 269, .ref 264]) (h' := h15) rfl).trans ?_
          refine (mm_c0 (y := 197) (as := [.ref 264, .ref 269]) (nx := 68) (rest := []) rfl rfl).trans (mm_congV fun h17 => ?_)
          refine (mm_by 6 (pc' := 76) (ls' := [.ref 264, .int x1, .long v16, .null, .null, .null, .null]) (st' := [.int ((h17.1 264 37) - 1), .int 0, .ref 264]) (h' := h17) rfl).trans ?_
          refine (mm_c1 (y := 200) (as := [.ref 264, .int 0, .int ((h17.1 264 37) - 1)]) (nx := 79) (rest := []) rfl rfl).trans (mm_congI fun v19 h18 => ?_)
          exact mm_by 3 rfl
        · refine (mm_by 2 (pc' := 44) (ls' := [.ref 264, .int x1, .long v16, .null, .null, .null, .null]) (st' := [.long v16, .ref 264]) (h' := h15) rfl).trans ?_
          refine (mm_c1 (y := 204) (as := [.ref 264, .long v16]) (nx := 47) (rest := []) rfl rfl).trans (mm_congI fun v21 h20 => ?_)
          refine (mm_by 1 (pc' := 48) (ls' := [.ref 264, .int x1, .long v16, .null, .null, .null, .null]) (st' := [.int ((-1)), .int v21]) (h' := h20) rfl).trans ?_
          refine (mm_br (c := v21 = ((-1))) (p1 := 60) (p2 := 51) (l1 := [.ref 264, .int x1, .long v16, .null, .null, .null, .null]) (l2 := [.ref 264, .int x1, .long v16, .null, .null, .null, .null]) (s1 := []) (s2 := []) (h1 := h20) (h2 := h20) rfl rfl).trans (mm_ite ?_ ?_)
          · refine (mm_by 3 (pc' := 65) (ls' := [.ref 264, .int x1, .long v16, .null, .null, .null, .null]) (st' := [.ref 269, .ref 264]) (h' := h20) rfl).trans ?_
            refine (mm_c0 (y := 197) (as := [.ref 264, .ref 269]) (nx := 68) (rest := []) rfl rfl).trans (mm_congV fun h22 => ?_)
            refine (mm_by 6 (pc' := 76) (ls' := [.ref 264, .int x1, .long v16, .null, .null, .null, .null]) (st' := [.int ((h22.1 264 37) - 1), .int 0, .ref 264]) (h' := h22) rfl).trans ?_
            refine (mm_c1 (y := 200) (as := [.ref 264, .int 0, .int ((h22.1 264 37) - 1)]) (nx := 79) (rest := []) rfl rfl).trans (mm_congI fun v24 h23 => ?_)
            exact mm_by 3 rfl
          · refine (mm_by 4 (pc' := 57) (ls' := [.ref 264, .int x1, .long v16, .null, .null, .null, .null]) (st' := [.int (h20.1 264 36), .int 3, .ref 264]) (h' := h20) rfl).trans ?_
            refine (mm_c0 (y := 191) (as := [.ref 264, .int 3, .int (h20.1 264 36)]) (nx := 60) (rest := []) rfl rfl).trans (mm_congV fun h25 => ?_)
            refine (mm_by 3 (pc' := 65) (ls' := [.ref 264, .int x1, .long v16, .null, .null, .null, .null]) (st' := [.ref 269, .ref 264]) (h' := h25) rfl).trans ?_
            refine (mm_c0 (y := 197) (as := [.ref 264, .ref 269]) (nx := 68) (rest := []) rfl rfl).trans (mm_congV fun h26 => ?_)
            refine (mm_by 6 (pc' := 76) (ls' := [.ref 264, .int x1, .long v16, .null, .null, .null, .null]) (st' := [.int ((h26.1 264 37) - 1), .int 0, .ref 264]) (h' := h26) rfl).trans ?_
            refine (mm_c1 (y := 200) (as := [.ref 264, .int 0, .int ((h26.1 264 37) - 1)]) (nx := 79) (rest := []) rfl rfl).trans (mm_congI fun v28 h27 => ?_)
            exact mm_by 3 rfl
      · exact mm_by_end 1 rfl
    · refine (mm_by 3 (pc' := 19) (ls' := [.ref 264, .int x1, .null, .null, .null, .null, .null]) (st' := [.int x1, .int 5, .ref 264]) (h' := h) rfl).trans ?_
      refine (mm_c0 (y := 191) (as := [.ref 264, .int 5, .int x1]) (nx := 22) (rest := []) rfl rfl).trans (mm_congV fun h29 => ?_)
      refine (mm_by 2 (pc' := 26) (ls' := [.ref 264, .int x1, .null, .null, .null, .null, .null]) (st' := [.int (h29.1 264 5)]) (h' := h29) rfl).trans ?_
      refine (mm_br (c := (h29.1 264 5) = 0) (p1 := 30) (p2 := 29) (l1 := [.ref 264, .int x1, .null, .null, .null, .null, .null]) (l2 := [.ref 264, .int x1, .null, .null, .null, .null, .null]) (s1 := []) (s2 := []) (h1 := h29) (h2 := h29) rfl rfl).trans (mm_ite ?_ ?_)
      · refine (mm_by 1 (pc' := 31) (ls' := [.ref 264, .int x1, .null, .null, .null, .null, .null]) (st' := [.ref 264]) (h' := h29) rfl).trans ?_
        refine (mm_c2 (y := 202) (as := [.ref 264]) (nx := 34) (rest := []) rfl rfl).trans (mm_congL fun v31 h30 => ?_)
        refine (mm_by 3 (pc' := 39) (ls' := [.ref 264, .int x1, .long v31, .null, .null, .null, .null]) (st' := [.int (h30.1 264 5)]) (h' := h30) rfl).trans ?_
        refine (mm_br (c := ¬ (h30.1 264 5) = 0) (p1 := 60) (p2 := 42) (l1 := [.ref 264, .int x1, .long v31, .null, .null, .null, .null]) (l2 := [.ref 264, .int x1, .long v31, .null, .null, .null, .null]) (s1 := []) (s2 := []) (h1 := h30) (h2 := h30) rfl rfl).trans (mm_ite ?_ ?_)
        · refine (mm_by 3 (pc' := 65) (ls' := [.ref 264, .int x1, .long v31, .null, .null, .null, .null]) (st' := [.ref 269, .ref 264]) (h' := h30) rfl).trans ?_
          refine (mm_c0 (y := 197) (as := [.ref 264, .ref 269]) (nx := 68) (rest := []) rfl rfl).trans (mm_congV fun h32 => ?_)
          refine (mm_by 6 (pc' := 76) (ls' := [.ref 264, .int x1, .long v31, .null, .null, .null, .null]) (st' := [.int ((h32.1 264 37) - 1), .int 0, .ref 264]) (h' := h32) rfl).trans ?_
          refine (mm_c1 (y := 200) (as := [.ref 264, .int 0, .int ((h32.1 264 37) - 1)]) (nx := 79) (rest := []) rfl rfl).trans (mm_congI fun v34 h33 => ?_)
          exact mm_by 3 rfl
        · refine (mm_by 2 (pc' := 44) (ls' := [.ref 264, .int x1, .long v31, .null, .null, .null, .null]) (st' := [.long v31, .ref 264]) (h' := h30) rfl).trans ?_
          refine (mm_c1 (y := 204) (as := [.ref 264, .long v31]) (nx := 47) (rest := []) rfl rfl).trans (mm_congI fun v36 h35 => ?_)
          refine (mm_by 1 (pc' := 48) (ls' := [.ref 264, .int x1, .long v31, .null, .null, .null, .null]) (st' := [.int ((-1)), .int v36]) (h' := h35) rfl).trans ?_
          refine (mm_br (c := v36 = ((-1))) (p1 := 60) (p2 := 51) (l1 := [.ref 264, .int x1, .long v31, .null, .null, .null, .null]) (l2 := [.ref 264, .int x1, .long v31, .null, .null, .null, .null]) (s1 := []) (s2 := []) (h1 := h35) (h2 := h35) rfl rfl).trans (mm_ite ?_ ?_)
          · refine (mm_by 3 (pc' := 65) (ls' := [.ref 264, .int x1, .long v31, .null, .null, .null, .null]) (st' := [.ref 269, .ref 264]) (h' := h35) rfl).trans ?_
            refine (mm_c0 (y := 197) (as := [.ref 264, .ref 269]) (nx := 68) (rest := []) rfl rfl).trans (mm_congV fun h37 => ?_)
            refine (mm_by 6 (pc' := 76) (ls' := [.ref 264, .int x1, .long v31, .null, .null, .null, .null]) (st' := [.int ((h37.1 264 37) - 1), .int 0, .ref 264]) (h' := h37) rfl).trans ?_
            refine (mm_c1 (y := 200) (as := [.ref 264, .int 0, .int ((h37.1 264 37) - 1)]) (nx := 79) (rest := []) rfl rfl).trans (mm_congI fun v39 h38 => ?_)
            exact mm_by 3 rfl
          · refine (mm_by 4 (pc' := 57) (ls' := [.ref 264, .int x1, .long v31, .null, .null, .null, .null]) (st' := [.int (h35.1 264 36), .int 3, .ref 264]) (h' := h35) rfl).trans ?_
            refine (mm_c0 (y := 191) (as := [.ref 264, .int 3, .int (h35.1 264 36)]) (nx := 60) (rest := []) rfl rfl).trans (mm_congV fun h40 => ?_)
            refine (mm_by 3 (pc' := 65) (ls' := [.ref 264, .int x1, .long v31, .null, .null, .null, .null]) (st' := [.ref 269, .ref 264]) (h' := h40) rfl).trans ?_
            refine (mm_c0 (y := 197) (as := [.ref 264, .ref 269]) (nx := 68) (rest := []) rfl rfl).trans (mm_congV fun h41 => ?_)
            refine (mm_by 6 (pc' := 76) (ls' := [.ref 264, .int x1, .long v31, .null, .null, .null, .null]) (st' := [.int ((h41.1 264 37) - 1), .int 0, .ref 264]) (h' := h41) rfl).trans ?_
            refine (mm_c1 (y := 200) (as := [.ref 264, .int 0, .int ((h41.1 264 37) - 1)]) (nx := 79) (rest := []) rfl rfl).trans (mm_congI fun v43 h42 => ?_)
            exact mm_by 3 rfl
      · exact mm_by_end 1 rfl
set_option maxRecDepth 100000 in
set_option maxHeartbeats 4000000 in
theorem U_X12_soulTold_84 {d : Nat} {x2 : Int64} {x4 : Int32} {x5 : Int32} {h : mm_H} : mm_D (mm_M mm_T0 d) cd_X12_soulTold 84 [.ref 264, .null, .long x2, .null, .int x4, .int x5, .null] [] h = (if (h.1 264 39) ≤ x5 then (mm_bV (mm_M mm_T0 d 197 [.ref 264, .ref 270] h) (fun h1 => mm_bI (mm_M mm_T0 d 200 [.ref 264, .int 0, .int 9] h1) (fun v3 h2 => mm_bV (mm_M mm_T0 d 197 [.ref 264, .ref 271] h2) (fun h4 => mm_bI (mm_M mm_T0 d 200 [.ref 264, .int 0, .int 9] h4) (fun v6 h5 => if (h5.1 264 5) = 0 then (if (h5.1 264 39) < 0 ∨ 16 ≤ (h5.1 264 39).toNatClampNeg then none else (if ((wL h5 292 ((h5.1 264 39).toNatClampNeg) x2).1 264 39) < 0 ∨ 8 ≤ ((wL h5 292 ((h5.1 264 39).toNatClampNeg) x2).1 264 39).toNatClampNeg then none else (if ((wI (wL h5 292 ((h5.1 264 39).toNatClampNeg) x2) 293 (((wL h5 292 ((h5.1 264 39).toNatClampNeg) x2).1 264 39).toNatClampNeg) x4).1 264 39) < 0 ∨ 16 ≤ ((wI (wL h5 292 ((h5.1 264 39).toNatClampNeg) x2) 293 (((wL h5 292 ((h5.1 264 39).toNatClampNeg) x2).1 264 39).toNatClampNeg) x4).1 264 39).toNatClampNeg then none else (if ((wI (wI (wL h5 292 ((h5.1 264 39).toNatClampNeg) x2) 293 (((wL h5 292 ((h5.1 264 39).toNatClampNeg) x2).1 264 39).toNatClampNeg) x4) 294 (((wI (wL h5 292 ((h5.1 264 39).toNatClampNeg) x2) 293 (((wL h5 292 ((h5.1 264 39).toNatClampNeg) x2).1 264 39).toNatClampNeg) x4).1 264 39).toNatClampNeg) v3).1 264 39) < 0 ∨ 16 ≤ ((wI (wI (wL h5 292 ((h5.1 264 39).toNatClampNeg) x2) 293 (((wL h5 292 ((h5.1 264 39).toNatClampNeg) x2).1 264 39).toNatClampNeg) x4) 294 (((wI (wL h5 292 ((h5.1 264 39).toNatClampNeg) x2) 293 (((wL h5 292 ((h5.1 264 39).toNatClampNeg) x2).1 264 39).toNatClampNeg) x4).1 264 39).toNatClampNeg) v3).1 264 39).toNatClampNeg then none else (some (none, wI (wI (wI (wI (wL h5 292 ((h5.1 264 39).toNatClampNeg) x2) 293 (((wL h5 292 ((h5.1 264 39).toNatClampNeg) x2).1 264 39).toNatClampNeg) x4) 294 (((wI (wL h5 292 ((h5.1 264 39).toNatClampNeg) x2) 293 (((wL h5 292 ((h5.1 264 39).toNatClampNeg) x2).1 264 39).toNatClampNeg) x4).1 264 39).toNatClampNeg) v3) 295 (((wI (wI (wL h5 292 ((h5.1 264 39).toNatClampNeg) x2) 293 (((wL h5 292 ((h5.1 264 39).toNatClampNeg) x2).1 264 39).toNatClampNeg) x4) 294 (((wI (wL h5 292 ((h5.1 264 39).toNatClampNeg) x2) 293 (((wL h5 292 ((h5.1 264 39).toNatClampNeg) x2).1 264 39).toNatClampNeg) x4).1 264 39).toNatClampNeg) v3).1 264 39).toNatClampNeg) v6) 264 39 (((wI (wI (wI (wL h5 292 ((h5.1 264 39).toNatClampNeg) x2) 293 (((wL h5 292 ((h5.1 264 39).toNatClampNeg) x2).1 264 39).toNatClampNeg) x4) 294 (((wI (wL h5 292 ((h5.1 264 39).toNatClampNeg) x2) 293 (((wL h5 292 ((h5.1 264 39).toNatClampNeg) x2).1 264 39).toNatClampNeg) x4).1 264 39).toNatClampNeg) v3) 295 (((wI (wI (wL h5 292 ((h5.1 264 39).toNatClampNeg) x2) 293 (((wL h5 292 ((h5.1 264 39).toNatClampNeg) x2).1 264 39).toNatClampNeg) x4) 294 (((wI (wL h5 292 ((h5.1 264 39).toNatClampNeg) x2) 293 (((wL h5 292 ((h5.1 264 39).toNatClampNeg) x2).1 264 39).toNatClampNeg) x4).1 264 39).toNatClampNeg) v3).1 264 39).toNatClampNeg) v6).1 264 39) + 1))))))) else (some (none, h5))))))) else (if ¬ (h.1 264 5) = 0 then (mm_D (mm_M mm_T0 d) cd_X12_soulTold 84 [.ref 264, .null, .long x2, .null, .int x4, .int (x5 + 1), .null] [] h) else (if x5 < 0 ∨ 8 ≤ x5.toNatClampNeg then none else (if ¬ (h.1 293 x5.toNatClampNeg) = x4 then (mm_D (mm_M mm_T0 d) cd_X12_soulTold 84 [.ref 264, .null, .long x2, .null, .int x4, .int (x5 + 1), .null] [] h) else (mm_bV (mm_M mm_T0 d 191 [.ref 264, .int 2, .int (h.1 264 10)] h) (fun h7 => mm_D (mm_M mm_T0 d) cd_X12_soulTold 84 [.ref 264, .null, .long x2, .null, .int x4, .int (x5 + 1), .null] [] h7)))))) := by
  refine (mm_by 3 (pc' := 90) (ls' := [.ref 264, .null, .long x2, .null, .int x4, .int x5, .null]) (st' := [.int (h.1 264 39), .int x5]) (h' := h) rfl).trans ?_
  refine (mm_br (c := (h.1 264 39) ≤ x5) (p1 := 127) (p2 := 93) (l1 := [.ref 264, .null, .long x2, .null, .int x4, .int x5, .null]) (l2 := [.ref 264, .null, .long x2, .null, .int x4, .int x5, .null]) (s1 := []) (s2 := []) (h1 := h) (h2 := h) rfl rfl).trans (mm_ite ?_ ?_)
  · refine (mm_by 3 (pc' := 132) (ls' := [.ref 264, .null, .long x2, .null, .int x4, .int x5, .null]) (st' := [.ref 270, .ref 264]) (h' := h) rfl).trans ?_
    refine (mm_c0 (y := 197) (as := [.ref 264, .ref 270]) (nx := 135) (rest := []) rfl rfl).trans (mm_congV fun h1 => ?_)
    refine (mm_by 3 (pc' := 139) (ls' := [.ref 264, .null, .long x2, .null, .int x4, .int x5, .null]) (st' := [.int 9, .int 0, .ref 264]) (h' := h1) rfl).trans ?_
    refine (mm_c1 (y := 200) (as := [.ref 264, .int 0, .int 9]) (nx := 142) (rest := []) rfl rfl).trans (mm_congI fun v3 h2 => ?_)
    refine (mm_by 4 (pc' := 149) (ls' := [.ref 264, .null, .long x2, .null, .int x4, .int v3, .null]) (st' := [.ref 271, .ref 264]) (h' := h2) rfl).trans ?_
    refine (mm_c0 (y := 197) (as := [.ref 264, .ref 271]) (nx := 152) (rest := []) rfl rfl).trans (mm_congV fun h4 => ?_)
    refine (mm_by 3 (pc' := 156) (ls' := [.ref 264, .null, .long x2, .null, .int x4, .int v3, .null]) (st' := [.int 9, .int 0, .ref 264]) (h' := h4) rfl).trans ?_
    refine (mm_c1 (y := 200) (as := [.ref 264, .int 0, .int 9]) (nx := 159) (rest := []) rfl rfl).trans (mm_congI fun v6 h5 => ?_)
    refine (mm_by 3 (pc' := 165) (ls' := [.ref 264, .null, .long x2, .null, .int x4, .int v3, .int v6]) (st' := [.int (h5.1 264 5)]) (h' := h5) rfl).trans ?_
    refine (mm_br (c := (h5.1 264 5) = 0) (p1 := 169) (p2 := 168) (l1 := [.ref 264, .null, .long x2, .null, .int x4, .int v3, .int v6]) (l2 := [.ref 264, .null, .long x2, .null, .int x4, .int v3, .int v6]) (s1 := []) (s2 := []) (h1 := h5) (h2 := h5) rfl rfl).trans (mm_ite ?_ ?_)
    · refine (mm_by 5 (pc' := 178) (ls' := [.ref 264, .null, .long x2, .null, .int x4, .int v3, .int v6]) (st' := [.long x2, .int (h5.1 264 39), .ref 292]) (h' := h5) rfl).trans ?_
      refine (mm_gd (c := (h5.1 264 39) < 0 ∨ 16 ≤ (h5.1 264 39).toNatClampNeg) (p1 := 179) (l1 := [.ref 264, .null, .long x2, .null, .int x4, .int v3, .int v6]) (s1 := []) (h1 := wL h5 292 ((h5.1 264 39).toNatClampNeg) x2) rfl (q_last (n := 16) rfl)).trans (mm_ite rfl ?_)
      refine (mm_by 5 (pc' := 189) (ls' := [.ref 264, .null, .long x2, .null, .int x4, .int v3, .int v6]) (st' := [.int x4, .int ((wL h5 292 ((h5.1 264 39).toNatClampNeg) x2).1 264 39), .ref 293]) (h' := wL h5 292 ((h5.1 264 39).toNatClampNeg) x2) rfl).trans ?_
      refine (mm_gd (c := ((wL h5 292 ((h5.1 264 39).toNatClampNeg) x2).1 264 39) < 0 ∨ 8 ≤ ((wL h5 292 ((h5.1 264 39).toNatClampNeg) x2).1 264 39).toNatClampNeg) (p1 := 190) (l1 := [.ref 264, .null, .long x2, .null, .int x4, .int v3, .int v6]) (s1 := []) (h1 := wI (wL h5 292 ((h5.1 264 39).toNatClampNeg) x2) 293 (((wL h5 292 ((h5.1 264 39).toNatClampNeg) x2).1 264 39).toNatClampNeg) x4) rfl (q_iast (n := 8) rfl)).trans (mm_ite rfl ?_)
      refine (mm_by 5 (pc' := 200) (ls' := [.ref 264, .null, .long x2, .null, .int x4, .int v3, .int v6]) (st' := [.int v3, .int ((wI (wL h5 292 ((h5.1 264 39).toNatClampNeg) x2) 293 (((wL h5 292 ((h5.1 264 39).toNatClampNeg) x2).1 264 39).toNatClampNeg) x4).1 264 39), .ref 294]) (h' := wI (wL h5 292 ((h5.1 264 39).toNatClampNeg) x2) 293 (((wL h5 292 ((h5.1 264 39).toNatClampNeg) x2).1 264 39).toNatClampNeg) x4) rfl).trans ?_
      refine (mm_gd (c := ((wI (wL h5 292 ((h5.1 264 39).toNatClampNeg) x2) 293 (((wL h5 292 ((h5.1 264 39).toNatClampNeg) x2).1 264 39).toNatClampNeg) x4).1 264 39) < 0 ∨ 16 ≤ ((wI (wL h5 292 ((h5.1 264 39).toNatClampNeg) x2) 293 (((wL h5 292 ((h5.1 264 39).toNatClampNeg) x2).1 264 39).toNatClampNeg) x4).1 264 39).toNatClampNeg) (p1 := 201) (l1 := [.ref 264, .null, .long x2, .null, .int x4, .int v3, .int v6]) (s1 := []) (h1 := wI (wI (wL h5 292 ((h5.1 264 39).toNatClampNeg) x2) 293 (((wL h5 292 ((h5.1 264 39).toNatClampNeg) x2).1 264 39).toNatClampNeg) x4) 294 (((wI (wL h5 292 ((h5.1 264 39).toNatClampNeg) x2) 293 (((wL h5 292 ((h5.1 264 39).toNatClampNeg) x2).1 264 39).toNatClampNeg) x4).1 264 39).toNatClampNeg) v3) rfl (q_iast (n := 16) rfl)).trans (mm_ite rfl ?_)
      refine (mm_by 5 (pc' := 211) (ls' := [.ref 264, .null, .long x2, .null, .int x4, .int v3, .int v6]) (st' := [.int v6, .int ((wI (wI (wL h5 292 ((h5.1 264 39).toNatClampNeg) x2) 293 (((wL h5 292 ((h5.1 264 39).toNatClampNeg) x2).1 264 39).toNatClampNeg) x4) 294 (((wI (wL h5 292 ((h5.1 264 39).toNatClampNeg) x2) 293 (((wL h5 292 ((h5.1 264 39).toNatClampNeg) x2).1 264 39).toNatClampNeg) x4).1 264 39).toNatClampNeg) v3).1 264 39), .ref 295]) (h' := wI (wI (wL h5 292 ((h5.1 264 39).toNatClampNeg) x2) 293 (((wL h5 292 ((h5.1 264 39).toNatClampNeg) x2).1 264 39).toNatClampNeg) x4) 294 (((wI (wL h5 292 ((h5.1 264 39).toNatClampNeg) x2) 293 (((wL h5 292 ((h5.1 264 39).toNatClampNeg) x2).1 264 39).toNatClampNeg) x4).1 264 39).toNatClampNeg) v3) rfl).trans ?_
      refine (mm_gd (c := ((wI (wI (wL h5 292 ((h5.1 264 39).toNatClampNeg) x2) 293 (((wL h5 292 ((h5.1 264 39).toNatClampNeg) x2).1 264 39).toNatClampNeg) x4) 294 (((wI (wL h5 292 ((h5.1 264 39).toNatClampNeg) x2) 293 (((wL h5 292 ((h5.1 264 39).toNatClampNeg) x2).1 264 39).toNatClampNeg) x4).1 264 39).toNatClampNeg) v3).1 264 39) < 0 ∨ 16 ≤ ((wI (wI (wL h5 292 ((h5.1 264 39).toNatClampNeg) x2) 293 (((wL h5 292 ((h5.1 264 39).toNatClampNeg) x2).1 264 39).toNatClampNeg) x4) 294 (((wI (wL h5 292 ((h5.1 264 39).toNatClampNeg) x2) 293 (((wL h5 292 ((h5.1 264 39).toNatClampNeg) x2).1 264 39).toNatClampNeg) x4).1 264 39).toNatClampNeg) v3).1 264 39).toNatClampNeg) (p1 := 212) (l1 := [.ref 264, .null, .long x2, .null, .int x4, .int v3, .int v6]) (s1 := []) (h1 := wI (wI (wI (wL h5 292 ((h5.1 264 39).toNatClampNeg) x2) 293 (((wL h5 292 ((h5.1 264 39).toNatClampNeg) x2).1 264 39).toNatClampNeg) x4) 294 (((wI (wL h5 292 ((h5.1 264 39).toNatClampNeg) x2) 293 (((wL h5 292 ((h5.1 264 39).toNatClampNeg) x2).1 264 39).toNatClampNeg) x4).1 264 39).toNatClampNeg) v3) 295 (((wI (wI (wL h5 292 ((h5.1 264 39).toNatClampNeg) x2) 293 (((wL h5 292 ((h5.1 264 39).toNatClampNeg) x2).1 264 39).toNatClampNeg) x4) 294 (((wI (wL h5 292 ((h5.1 264 39).toNatClampNeg) x2) 293 (((wL h5 292 ((h5.1 264 39).toNatClampNeg) x2).1 264 39).toNatClampNeg) x4).1 264 39).toNatClampNeg) v3).1 264 39).toNatClampNeg) v6) rfl (q_iast (n := 16) rfl)).trans (mm_ite rfl ?_)
      exact mm_by_end 7 rfl
    · exact mm_by_end 1 rfl
  · refine (mm_by 2 (pc' := 97) (ls' := [.ref 264, .null, .long x2, .null, .int x4, .int x5, .null]) (st' := [.int (h.1 264 5)]) (h' := h) rfl).trans ?_
    refine (mm_br (c := ¬ (h.1 264 5) = 0) (p1 := 121) (p2 := 100) (l1 := [.ref 264, .null, .long x2, .null, .int x4, .int x5, .null]) (l2 := [.ref 264, .null, .long x2, .null, .int x4, .int x5, .null]) (s1 := []) (s2 := []) (h1 := h) (h2 := h) rfl rfl).trans (mm_ite ?_ ?_)
    · exact mm_by 2 rfl
    · refine (mm_by 3 (pc' := 106) (ls' := [.ref 264, .null, .long x2, .null, .int x4, .int x5, .null]) (st' := [.int x5, .ref 293]) (h' := h) rfl).trans ?_
      refine (mm_gd (c := x5 < 0 ∨ 8 ≤ x5.toNatClampNeg) (p1 := 107) (l1 := [.ref 264, .null, .long x2, .null, .int x4, .int x5, .null]) (s1 := [.int (h.1 293 x5.toNatClampNeg)]) (h1 := h) rfl (q_iald (n := 8) rfl)).trans (mm_ite rfl ?_)
      refine (mm_by 1 (pc' := 109) (ls' := [.ref 264, .null, .long x2, .null, .int x4, .int x5, .null]) (st' := [.int x4, .int (h.1 293 x5.toNatClampNeg)]) (h' := h) rfl).trans ?_
      refine (mm_br (c := ¬ (h.1 293 x5.toNatClampNeg) = x4) (p1 := 121) (p2 := 112) (l1 := [.ref 264, .null, .long x2, .null, .int x4, .int x5, .null]) (l2 := [.ref 264, .null, .long x2, .null, .int x4, .int x5, .null]) (s1 := []) (s2 := []) (h1 := h) (h2 := h) rfl rfl).trans (mm_ite ?_ ?_)
      · exact mm_by 2 rfl
      · refine (mm_by 4 (pc' := 118) (ls' := [.ref 264, .null, .long x2, .null, .int x4, .int x5, .null]) (st' := [.int (h.1 264 10), .int 2, .ref 264]) (h' := h) rfl).trans ?_
        refine (mm_c0 (y := 191) (as := [.ref 264, .int 2, .int (h.1 264 10)]) (nx := 121) (rest := []) rfl rfl).trans (mm_congV fun h7 => ?_)
        exact mm_by 2 rfl
set_option maxRecDepth 100000 in
set_option maxHeartbeats 4000000 in
theorem U_X12_thinksTold {d : Nat} {h : mm_H} : mm_M mm_T0 (d + 1) 208 [.ref 264] h = (mm_bI (mm_M mm_T0 d 205 [.ref 264] h) (fun v2 h1 => mm_bV (mm_M mm_T0 d 197 [.ref 264, .ref 273] h1) (fun h3 => mm_bI (mm_M mm_T0 d 205 [.ref 264] h3) (fun v5 h4 => if ¬ (h4.1 264 5) = 0 then (mm_bI (mm_M mm_T0 d 200 [.ref 264, .int 0, .int 9] h4) (fun v7 h6 => if ¬ (h6.1 264 5) = 0 then (some (none, h6)) else (if ((8 * v2) + v5) < 0 ∨ 64 ≤ ((8 * v2) + v5).toNatClampNeg then none else (some (none, wI h6 296 (((8 * v2) + v5).toNatClampNeg) v7))))) else (if ¬ v2 = v5 then (mm_bI (mm_M mm_T0 d 200 [.ref 264, .int 0, .int 9] h4) (fun v9 h8 => if ¬ (h8.1 264 5) = 0 then (some (none, h8)) else (if ((8 * v2) + v5) < 0 ∨ 64 ≤ ((8 * v2) + v5).toNatClampNeg then none else (some (none, wI h8 296 (((8 * v2) + v5).toNatClampNeg) v9))))) else (mm_bV (mm_M mm_T0 d 191 [.ref 264, .int 3, .int (h4.1 264 36)] h4) (fun h10 => mm_bI (mm_M mm_T0 d 200 [.ref 264, .int 0, .int 9] h10) (fun v12 h11 => if ¬ (h11.1 264 5) = 0 then (some (none, h11)) else (if ((8 * v2) + v5) < 0 ∨ 64 ≤ ((8 * v2) + v5).toNatClampNeg then none else (some (none, wI h11 296 (((8 * v2) + v5).toNatClampNeg) v12))))))))))) := by
  refine (mm_M_eq (ls := [.ref 264, .null, .null, .null]) rfl (Nat.le_of_ble_eq_true rfl) rfl h).trans ?_
  refine (mm_by 1 (pc' := 1) (ls' := [.ref 264, .null, .null, .null]) (st' := [.ref 264]) (h' := h) rfl).trans ?_
  refine (mm_c1 (y := 205) (as := [.ref 264]) (nx := 4) (rest := []) rfl rfl).trans (mm_congI fun v2 h1 => ?_)
  refine (mm_by 4 (pc' := 10) (ls' := [.ref 264, .int v2, .null, .null]) (st' := [.ref 273, .ref 264]) (h' := h1) rfl).trans ?_
  refine (mm_c0 (y := 197) (as := [.ref 264, .ref 273]) (nx := 13) (rest := []) rfl rfl).trans (mm_congV fun h3 => ?_)
  refine (mm_by 1 (pc' := 14) (ls' := [.ref 264, .int v2, .null, .null]) (st' := [.ref 264]) (h' := h3) rfl).trans ?_
  refine (mm_c1 (y := 205) (as := [.ref 264]) (nx := 17) (rest := []) rfl rfl).trans (mm_congI fun v5 h4 => ?_)
  refine (mm_by 3 (pc' := 22) (ls' := [.ref 264, .int v2, .int v5, .null]) (st' := [.int (h4.1 264 5)]) (h' := h4) rfl).trans ?_
  refine (mm_br (c := ¬ (h4.1 264 5) = 0) (p1 := 39) (p2 := 25) (l1 := [.ref 264, .int v2, .int v5, .null]) (l2 := [.ref 264, .int v2, .int v5, .null]) (s1 := []) (s2 := []) (h1 := h4) (h2 := h4) rfl rfl).trans (mm_ite ?_ ?_)
  · refine (mm_by 3 (pc' := 43) (ls' := [.ref 264, .int v2, .int v5, .null]) (st' := [.int 9, .int 0, .ref 264]) (h' := h4) rfl).trans ?_
    refine (mm_c1 (y := 200) (as := [.ref 264, .int 0, .int 9]) (nx := 46) (rest := []) rfl rfl).trans (mm_congI fun v7 h6 => ?_)
    refine (mm_by 3 (pc' := 51) (ls' := [.ref 264, .int v2, .int v5, .int v7]) (st' := [.int (h6.1 264 5)]) (h' := h6) rfl).trans ?_
    refine (mm_br (c := ¬ (h6.1 264 5) = 0) (p1 := 66) (p2 := 54) (l1 := [.ref 264, .int v2, .int v5, .int v7]) (l2 := [.ref 264, .int v2, .int v5, .int v7]) (s1 := []) (s2 := []) (h1 := h6) (h2 := h6) rfl rfl).trans (mm_ite ?_ ?_)
    · exact mm_by_end 1 rfl
    · refine (mm_by 8 (pc' := 65) (ls' := [.ref 264, .int v2, .int v5, .int v7]) (st' := [.int v7, .int ((8 * v2) + v5), .ref 296]) (h' := h6) rfl).trans ?_
      refine (mm_gd (c := ((8 * v2) + v5) < 0 ∨ 64 ≤ ((8 * v2) + v5).toNatClampNeg) (p1 := 66) (l1 := [.ref 264, .int v2, .int v5, .int v7]) (s1 := []) (h1 := wI h6 296 (((8 * v2) + v5).toNatClampNeg) v7) rfl (q_iast (n := 64) rfl)).trans (mm_ite rfl ?_)
      exact mm_by_end 1 rfl
  · refine (mm_by 2 (pc' := 27) (ls' := [.ref 264, .int v2, .int v5, .null]) (st' := [.int v5, .int v2]) (h' := h4) rfl).trans ?_
    refine (mm_br (c := ¬ v2 = v5) (p1 := 39) (p2 := 30) (l1 := [.ref 264, .int v2, .int v5, .null]) (l2 := [.ref 264, .int v2, .int v5, .null]) (s1 := []) (s2 := []) (h1 := h4) (h2 := h4) rfl rfl).trans (mm_ite ?_ ?_)
    · refine (mm_by 3 (pc' := 43) (ls' := [.ref 264, .int v2, .int v5, .null]) (st' := [.int 9, .int 0, .ref 264]) (h' := h4) rfl).trans ?_
      refine (mm_c1 (y := 200) (as := [.ref 264, .int 0, .int 9]) (nx := 46) (rest := []) rfl rfl).trans (mm_congI fun v9 h8 => ?_)
      refine (mm_by 3 (pc' := 51) (ls' := [.ref 264, .int v2, .int v5, .int v9]) (st' := [.int (h8.1 264 5)]) (h' := h8) rfl).trans ?_
      refine (mm_br (c := ¬ (h8.1 264 5) = 0) (p1 := 66) (p2 := 54) (l1 := [.ref 264, .int v2, .int v5, .int v9]) (l2 := [.ref 264, .int v2, .int v5, .int v9]) (s1 := []) (s2 := []) (h1 := h8) (h2 := h8) rfl rfl).trans (mm_ite ?_ ?_)
      · exact mm_by_end 1 rfl
      · refine (mm_by 8 (pc' := 65) (ls' := [.ref 264, .int v2, .int v5, .int v9]) (st' := [.int v9, .int ((8 * v2) + v5), .ref 296]) (h' := h8) rfl).trans ?_
        refine (mm_gd (c := ((8 * v2) + v5) < 0 ∨ 64 ≤ ((8 * v2) + v5).toNatClampNeg) (p1 := 66) (l1 := [.ref 264, .int v2, .int v5, .int v9]) (s1 := []) (h1 := wI h8 296 (((8 * v2) + v5).toNatClampNeg) v9) rfl (q_iast (n := 64) rfl)).trans (mm_ite rfl ?_)
        exact mm_by_end 1 rfl
    · refine (mm_by 4 (pc' := 36) (ls' := [.ref 264, .int v2, .int v5, .null]) (st' := [.int (h4.1 264 36), .int 3, .ref 264]) (h' := h4) rfl).trans ?_
      refine (mm_c0 (y := 191) (as := [.ref 264, .int 3, .int (h4.1 264 36)]) (nx := 39) (rest := []) rfl rfl).trans (mm_congV fun h10 => ?_)
      refine (mm_by 3 (pc' := 43) (ls' := [.ref 264, .int v2, .int v5, .null]) (st' := [.int 9, .int 0, .ref 264]) (h' := h10) rfl).trans ?_
      refine (mm_c1 (y := 200) (as := [.ref 264, .int 0, .int 9]) (nx := 46) (rest := []) rfl rfl).trans (mm_congI fun v12 h11 => ?_)
      refine (mm_by 3 (pc' := 51) (ls' := [.ref 264, .int v2, .int v5, .int v12]) (st' := [.int (h11.1 264 5)]) (h' := h11) rfl).trans ?_
      refine (mm_br (c := ¬ (h11.1 264 5) = 0) (p1 := 66) (p2 := 54) (l1 := [.ref 264, .int v2, .int v5, .int v12]) (l2 := [.ref 264, .int v2, .int v5, .int v12]) (s1 := []) (s2 := []) (h1 := h11) (h2 := h11) rfl rfl).trans (mm_ite ?_ ?_)
      · exact mm_by_end 1 rfl
      · refine (mm_by 8 (pc' := 65) (ls' := [.ref 264, .int v2, .int v5, .int v12]) (st' := [.int v12, .int ((8 * v2) + v5), .ref 296]) (h' := h11) rfl).trans ?_
        refine (mm_gd (c := ((8 * v2) + v5) < 0 ∨ 64 ≤ ((8 * v2) + v5).toNatClampNeg) (p1 := 66) (l1 := [.ref 264, .int v2, .int v5, .int v12]) (s1 := []) (h1 := wI h11 296 (((8 * v2) + v5).toNatClampNeg) v12) rfl (q_iast (n := 64) rfl)).trans (mm_ite rfl ?_)
        exact mm_by_end 1 rfl
set_option maxRecDepth 100000 in
set_option maxHeartbeats 4000000 in
theorem U_X12_codesTold {d : Nat} {x1 : Int32} {x2 : Int32} {h : mm_H} : mm_M mm_T0 (d + 1) 209 [.ref 264, .int x1, .int x2] h = (if ¬ (h.1 264 5) = 0 then (if (h.1 264 5) = 0 then (if ¬ x1 = 2 then (mm_bV (mm_M mm_T0 d 298 [.ref 264] (wI (wI (wI (wI (wI h 264 54 x1) 264 102 0) 264 104 0) 264 105 0) 264 106 0)) (fun h1 => if (h1.1 264 5) = 0 then (if x1 < 0 ∨ 6 ≤ x1.toNatClampNeg then none else (mm_D (mm_M mm_T0 d) cd_X12_codesTold 92 [.ref 264, .int x1, .null, .int 0] [] (wI h1 297 x1.toNatClampNeg (h1.1 264 51)))) else (some (none, h1)))) else (mm_bV (mm_M mm_T0 d 302 [.ref 264] (wI (wI (wI (wI (wI h 264 54 x1) 264 102 0) 264 104 0) 264 105 0) 264 106 0)) (fun h2 => if (h2.1 264 5) = 0 then (if x1 < 0 ∨ 6 ≤ x1.toNatClampNeg then none else (mm_D (mm_M mm_T0 d) cd_X12_codesTold 92 [.ref 264, .int x1, .null, .int 0] [] (wI h2 297 x1.toNatClampNeg (h2.1 264 51)))) else (some (none, h2))))) else (some (none, h))) else (if x1 < 0 ∨ 6 ≤ x1.toNatClampNeg then none else (if (h.1 297 x1.toNatClampNeg) = ((-1)) then (if (h.1 264 5) = 0 then (if ¬ x1 = 2 then (mm_bV (mm_M mm_T0 d 298 [.ref 264] (wI (wI (wI (wI (wI h 264 54 x1) 264 102 0) 264 104 0) 264 105 0) 264 106 0)) (fun h3 => if (h3.1 264 5) = 0 then (if x1 < 0 ∨ 6 ≤ x1.toNatClampNeg then none else (mm_D (mm_M mm_T0 d) cd_X12_codesTold 92 [.ref 264, .int x1, .null, .int 0] [] (wI h3 297 x1.toNatClampNeg (h3.1 264 51)))) else (some (none, h3)))) else (mm_bV (mm_M mm_T0 d 302 [.ref 264] (wI (wI (wI (wI (wI h 264 54 x1) 264 102 0) 264 104 0) 264 105 0) 264 106 0)) (fun h4 => if (h4.1 264 5) = 0 then (if x1 < 0 ∨ 6 ≤ x1.toNatClampNeg then none else (mm_D (mm_M mm_T0 d) cd_X12_codesTold 92 [.ref 264, .int x1, .null, .int 0] [] (wI h4 297 x1.toNatClampNeg (h4.1 264 51)))) else (some (none, h4))))) else (some (none, h))) else (mm_bV (mm_M mm_T0 d 191 [.ref 264, .int 5, .int x2] h) (fun h5 => if (h5.1 264 5) = 0 then (if ¬ x1 = 2 then (mm_bV (mm_M mm_T0 d 298 [.ref 264] (wI (wI (wI (wI (wI h5 264 54 x1) 264 102 0) 264 104 0) 264 105 0) 264 106 0)) (fun h6 => if (h6.1 264 5) = 0 then (if x1 < 0 ∨ 6 ≤ x1.toNatClampNeg then none else (mm_D (mm_M mm_T0 d) cd_X12_codesTold 92 [.ref 264, .int x1, .null, .int 0] [] (wI h6 297 x1.toNatClampNeg (h6.1 264 51)))) else (some (none, h6)))) else (mm_bV (mm_M mm_T0 d 302 [.ref 264] (wI (wI (wI (wI (wI h5 264 54 x1) 264 102 0) 264 104 0) 264 105 0) 264 106 0)) (fun h7 => if (h7.1 264 5) = 0 then (if x1 < 0 ∨ 6 ≤ x1.toNatClampNeg then none else (mm_D (mm_M mm_T0 d) cd_X12_codesTold 92 [.ref 264, .int x1, .null, .int 0] [] (wI h7 297 x1.toNatClampNeg (h7.1 264 51)))) else (some (none, h7))))) else (some (none, h5))))))) := by
  refine (mm_M_eq (ls := [.ref 264, .int x1, .int x2, .null]) rfl (Nat.le_of_ble_eq_true rfl) rfl h).trans ?_
  refine (mm_by 2 (pc' := 4) (ls' := [.ref 264, .int x1, .int x2, .null]) (st' := [.int (h.1 264 5)]) (h' := h) rfl).trans ?_
  refine (mm_br (c := ¬ (h.1 264 5) = 0) (p1 := 23) (p2 := 7) (l1 := [.ref 264, .int x1, .int x2, .null]) (l2 := [.ref 264, .int x1, .int x2, .null]) (s1 := []) (s2 := []) (h1 := h) (h2 := h) rfl rfl).trans (mm_ite ?_ ?_)
  · refine (mm_by 2 (pc' := 27) (ls' := [.ref 264, .int x1, .int x2, .null]) (st' := [.int (h.1 264 5)]) (h' := h) rfl).trans ?_
    refine (mm_br (c := (h.1 264 5) = 0) (p1 := 31) (p2 := 30) (l1 := [.ref 264, .int x1, .int x2, .null]) (l2 := [.ref 264, .int x1, .int x2, .null]) (s1 := []) (s2 := []) (h1 := h) (h2 := h) rfl rfl).trans (mm_ite ?_ ?_)
    · refine (mm_by 17 (pc' := 58) (ls' := [.ref 264, .int x1, .int x2, .null]) (st' := [.int 2, .int x1]) (h' := wI (wI (wI (wI (wI h 264 54 x1) 264 102 0) 264 104 0) 264 105 0) 264 106 0) rfl).trans ?_
      refine (mm_br (c := ¬ x1 = 2) (p1 := 68) (p2 := 61) (l1 := [.ref 264, .int x1, .int x2, .null]) (l2 := [.ref 264, .int x1, .int x2, .null]) (s1 := []) (s2 := []) (h1 := wI (wI (wI (wI (wI h 264 54 x1) 264 102 0) 264 104 0) 264 105 0) 264 106 0) (h2 := wI (wI (wI (wI (wI h 264 54 x1) 264 102 0) 264 104 0) 264 105 0) 264 106 0) rfl rfl).trans (mm_ite ?_ ?_)
      · refine (mm_by 1 (pc' := 69) (ls' := [.ref 264, .int x1, .int x2, .null]) (st' := [.ref 264]) (h' := wI (wI (wI (wI (wI h 264 54 x1) 264 102 0) 264 104 0) 264 105 0) 264 106 0) rfl).trans ?_
        refine (mm_c0 (y := 298) (as := [.ref 264]) (nx := 72) (rest := []) rfl rfl).trans (mm_congV fun h1 => ?_)
        refine (mm_by 2 (pc' := 76) (ls' := [.ref 264, .int x1, .int x2, .null]) (st' := [.int (h1.1 264 5)]) (h' := h1) rfl).trans ?_
        refine (mm_br (c := (h1.1 264 5) = 0) (p1 := 80) (p2 := 79) (l1 := [.ref 264, .int x1, .int x2, .null]) (l2 := [.ref 264, .int x1, .int x2, .null]) (s1 := []) (s2 := []) (h1 := h1) (h2 := h1) rfl rfl).trans (mm_ite ?_ ?_)
        · refine (mm_by 5 (pc' := 89) (ls' := [.ref 264, .int x1, .int x2, .null]) (st' := [.int (h1.1 264 51), .int x1, .ref 297]) (h' := h1) rfl).trans ?_
          refine (mm_gd (c := x1 < 0 ∨ 6 ≤ x1.toNatClampNeg) (p1 := 90) (l1 := [.ref 264, .int x1, .int x2, .null]) (s1 := []) (h1 := wI h1 297 x1.toNatClampNeg (h1.1 264 51)) rfl (q_iast (n := 6) rfl)).trans (mm_ite rfl ?_)
          exact mm_by 2 rfl
        · exact mm_by_end 1 rfl
      · refine (mm_by 1 (pc' := 62) (ls' := [.ref 264, .int x1, .int x2, .null]) (st' := [.ref 264]) (h' := wI (wI (wI (wI (wI h 264 54 x1) 264 102 0) 264 104 0) 264 105 0) 264 106 0) rfl).trans ?_
        refine (mm_c0 (y := 302) (as := [.ref 264]) (nx := 65) (rest := []) rfl rfl).trans (mm_congV fun h2 => ?_)
        refine (mm_by 3 (pc' := 76) (ls' := [.ref 264, .int x1, .int x2, .null]) (st' := [.int (h2.1 264 5)]) (h' := h2) rfl).trans ?_
        refine (mm_br (c := (h2.1 264 5) = 0) (p1 := 80) (p2 := 79) (l1 := [.ref 264, .int x1, .int x2, .null]) (l2 := [.ref 264, .int x1, .int x2, .null]) (s1 := []) (s2 := []) (h1 := h2) (h2 := h2) rfl rfl).trans (mm_ite ?_ ?_)
        · refine (mm_by 5 (pc' := 89) (ls' := [.ref 264, .int x1, .int x2, .null]) (st' := [.int (h2.1 264 51), .int x1, .ref 297]) (h' := h2) rfl).trans ?_
          refine (mm_gd (c := x1 < 0 ∨ 6 ≤ x1.toNatClampNeg) (p1 := 90) (l1 := [.ref 264, .int x1, .int x2, .null]) (s1 := []) (h1 := wI h2 297 x1.toNatClampNeg (h2.1 264 51)) rfl (q_iast (n := 6) rfl)).trans (mm_ite rfl ?_)
          exact mm_by 2 rfl
        · exact mm_by_end 1 rfl
    · exact mm_by_end 1 rfl
  · refine (mm_by 3 (pc' := 12) (ls' := [.ref 264, .int x1, .int x2, .null]) (st' := [.int x1, .ref 297]) (h' := h) rfl).trans ?_
    refine (mm_gd (c := x1 < 0 ∨ 6 ≤ x1.toNatClampNeg) (p1 := 13) (l1 := [.ref 264, .int x1, .int x2, .null]) (s1 := [.int (h.1 297 x1.toNatClampNeg)]) (h1 := h) rfl (q_iald (n := 6) rfl)).trans (mm_ite rfl ?_)
    refine (mm_by 1 (pc' := 14) (ls' := [.ref 264, .int x1, .int x2, .null]) (st' := [.int ((-1)), .int (h.1 297 x1.toNatClampNeg)]) (h' := h) rfl).trans ?_
    refine (mm_br (c := (h.1 297 x1.toNatClampNeg) = ((-1))) (p1 := 23) (p2 := 17) (l1 := [.ref 264, .int x1, .int x2, .null]) (l2 := [.ref 264, .int x1, .int x2, .null]) (s1 := []) (s2 := []) (h1 := h) (h2 := h) rfl rfl).trans (mm_ite ?_ ?_)
    · refine (mm_by 2 (pc' := 27) (ls' := [.ref 264, .int x1, .int x2, .null]) (st' := [.int (h.1 264 5)]) (h' := h) rfl).trans ?_
      refine (mm_br (c := (h.1 264 5) = 0) (p1 := 31) (p2 := 30) (l1 := [.ref 264, .int x1, .int x2, .null]) (l2 := [.ref 264, .int x1, .int x2, .null]) (s1 := []) (s2 := []) (h1 := h) (h2 := h) rfl rfl).trans (mm_ite ?_ ?_)
      · refine (mm_by 17 (pc' := 58) (ls' := [.ref 264, .int x1, .int x2, .null]) (st' := [.int 2, .int x1]) (h' := wI (wI (wI (wI (wI h 264 54 x1) 264 102 0) 264 104 0) 264 105 0) 264 106 0) rfl).trans ?_
        refine (mm_br (c := ¬ x1 = 2) (p1 := 68) (p2 := 61) (l1 := [.ref 264, .int x1, .int x2, .null]) (l2 := [.ref 264, .int x1, .int x2, .null]) (s1 := []) (s2 := []) (h1 := wI (wI (wI (wI (wI h 264 54 x1) 264 102 0) 264 104 0) 264 105 0) 264 106 0) (h2 := wI (wI (wI (wI (wI h 264 54 x1) 264 102 0) 264 104 0) 264 105 0) 264 106 0) rfl rfl).trans (mm_ite ?_ ?_)
        · refine (mm_by 1 (pc' := 69) (ls' := [.ref 264, .int x1, .int x2, .null]) (st' := [.ref 264]) (h' := wI (wI (wI (wI (wI h 264 54 x1) 264 102 0) 264 104 0) 264 105 0) 264 106 0) rfl).trans ?_
          refine (mm_c0 (y := 298) (as := [.ref 264]) (nx := 72) (rest := []) rfl rfl).trans (mm_congV fun h3 => ?_)
          refine (mm_by 2 (pc' := 76) (ls' := [.ref 264, .int x1, .int x2, .null]) (st' := [.int (h3.1 264 5)]) (h' := h3) rfl).trans ?_
          refine (mm_br (c := (h3.1 264 5) = 0) (p1 := 80) (p2 := 79) (l1 := [.ref 264, .int x1, .int x2, .null]) (l2 := [.ref 264, .int x1, .int x2, .null]) (s1 := []) (s2 := []) (h1 := h3) (h2 := h3) rfl rfl).trans (mm_ite ?_ ?_)
          · refine (mm_by 5 (pc' := 89) (ls' := [.ref 264, .int x1, .int x2, .null]) (st' := [.int (h3.1 264 51), .int x1, .ref 297]) (h' := h3) rfl).trans ?_
            refine (mm_gd (c := x1 < 0 ∨ 6 ≤ x1.toNatClampNeg) (p1 := 90) (l1 := [.ref 264, .int x1, .int x2, .null]) (s1 := []) (h1 := wI h3 297 x1.toNatClampNeg (h3.1 264 51)) rfl (q_iast (n := 6) rfl)).trans (mm_ite rfl ?_)
            exact mm_by 2 rfl
          · exact mm_by_end 1 rfl
        · refine (mm_by 1 (pc' := 62) (ls' := [.ref 264, .int x1, .int x2, .null]) (st' := [.ref 264]) (h' := wI (wI (wI (wI (wI h 264 54 x1) 264 102 0) 264 104 0) 264 105 0) 264 106 0) rfl).trans ?_
          refine (mm_c0 (y := 302) (as := [.ref 264]) (nx := 65) (rest := []) rfl rfl).trans (mm_congV fun h4 => ?_)
          refine (mm_by 3 (pc' := 76) (ls' := [.ref 264, .int x1, .int x2, .null]) (st' := [.int (h4.1 264 5)]) (h' := h4) rfl).trans ?_
          refine (mm_br (c := (h4.1 264 5) = 0) (p1 := 80) (p2 := 79) (l1 := [.ref 264, .int x1, .int x2, .null]) (l2 := [.ref 264, .int x1, .int x2, .null]) (s1 := []) (s2 := []) (h1 := h4) (h2 := h4) rfl rfl).trans (mm_ite ?_ ?_)
          · refine (mm_by 5 (pc' := 89) (ls' := [.ref 264, .int x1, .int x2, .null]) (st' := [.int (h4.1 264 51), .int x1, .ref 297]) (h' := h4) rfl).trans ?_
            refine (mm_gd (c := x1 < 0 ∨ 6 ≤ x1.toNatClampNeg) (p1 := 90) (l1 := [.ref 264, .int x1, .int x2, .null]) (s1 := []) (h1 := wI h4 297 x1.toNatClampNeg (h4.1 264 51)) rfl (q_iast (n := 6) rfl)).trans (mm_ite rfl ?_)
            exact mm_by 2 rfl
          · exact mm_by_end 1 rfl
      · exact mm_by_end 1 rfl
    · refine (mm_by 3 (pc' := 20) (ls' := [.ref 264, .int x1, .int x2, .null]) (st' := [.int x2, .int 5, .ref 264]) (h' := h) rfl).trans ?_
      refine (mm_c0 (y := 191) (as := [.ref 264, .int 5, .int x2]) (nx := 23) (rest := []) rfl rfl).trans (mm_congV fun h5 => ?_)
      refine (mm_by 2 (pc' := 27) (ls' := [.ref 264, .int x1, .int x2, .null]) (st' := [.int (h5.1 264 5)]) (h' := h5) rfl).trans ?_
      refine (mm_br (c := (h5.1 264 5) = 0) (p1 := 31) (p2 := 30) (l1 := [.ref 264, .int x1, .int x2, .null]) (l2 := [.ref 264, .int x1, .int x2, .null]) (s1 := []) (s2 := []) (h1 := h5) (h2 := h5) rfl rfl).trans (mm_ite ?_ ?_)
      · refine (mm_by 17 (pc' := 58) (ls' := [.ref 264, .int x1, .int x2, .null]) (st' := [.int 2, .int x1]) (h' := wI (wI (wI (wI (wI h5 264 54 x1) 264 102 0) 264 104 0) 264 105 0) 264 106 0) rfl).trans ?_
        refine (mm_br (c := ¬ x1 = 2) (p1 := 68) (p2 := 61) (l1 := [.ref 264, .int x1, .int x2, .null]) (l2 := [.ref 264, .int x1, .int x2, .null]) (s1 := []) (s2 := []) (h1 := wI (wI (wI (wI (wI h5 264 54 x1) 264 102 0) 264 104 0) 264 105 0) 264 106 0) (h2 := wI (wI (wI (wI (wI h5 264 54 x1) 264 102 0) 264 104 0) 264 105 0) 264 106 0) rfl rfl).trans (mm_ite ?_ ?_)
        · refine (mm_by 1 (pc' := 69) (ls' := [.ref 264, .int x1, .int x2, .null]) (st' := [.ref 264]) (h' := wI (wI (wI (wI (wI h5 264 54 x1) 264 102 0) 264 104 0) 264 105 0) 264 106 0) rfl).trans ?_
          refine (mm_c0 (y := 298) (as := [.ref 264]) (nx := 72) (rest := []) rfl rfl).trans (mm_congV fun h6 => ?_)
          refine (mm_by 2 (pc' := 76) (ls' := [.ref 264, .int x1, .int x2, .null]) (st' := [.int (h6.1 264 5)]) (h' := h6) rfl).trans ?_
          refine (mm_br (c := (h6.1 264 5) = 0) (p1 := 80) (p2 := 79) (l1 := [.ref 264, .int x1, .int x2, .null]) (l2 := [.ref 264, .int x1, .int x2, .null]) (s1 := []) (s2 := []) (h1 := h6) (h2 := h6) rfl rfl).trans (mm_ite ?_ ?_)
          · refine (mm_by 5 (pc' := 89) (ls' := [.ref 264, .int x1, .int x2, .null]) (st' := [.int (h6.1 264 51), .int x1, .ref 297]) (h' := h6) rfl).trans ?_
            refine (mm_gd (c := x1 < 0 ∨ 6 ≤ x1.toNatClampNeg) (p1 := 90) (l1 := [.ref 264, .int x1, .int x2, .null]) (s1 := []) (h1 := wI h6 297 x1.toNatClampNeg (h6.1 264 51)) rfl (q_iast (n := 6) rfl)).trans (mm_ite rfl ?_)
            exact mm_by 2 rfl
          · exact mm_by_end 1 rfl
        · refine (mm_by 1 (pc' := 62) (ls' := [.ref 264, .int x1, .int x2, .null]) (st' := [.ref 264]) (h' := wI (wI (wI (wI (wI h5 264 54 x1) 264 102 0) 264 104 0) 264 105 0) 264 106 0) rfl).trans ?_
          refine (mm_c0 (y := 302) (as := [.ref 264]) (nx := 65) (rest := []) rfl rfl).trans (mm_congV fun h7 => ?_)
          refine (mm_by 3 (pc' := 76) (ls' := [.ref 264, .int x1, .int x2, .null]) (st' := [.int (h7.1 264 5)]) (h' := h7) rfl).trans ?_
          refine (mm_br (c := (h7.1 264 5) = 0) (p1 := 80) (p2 := 79) (l1 := [.ref 264, .int x1, .int x2, .null]) (l2 := [.ref 264, .int x1, .int x2, .null]) (s1 := []) (s2 := []) (h1 := h7) (h2 := h7) rfl rfl).trans (mm_ite ?_ ?_)
          · refine (mm_by 5 (pc' := 89) (ls' := [.ref 264, .int x1, .int x2, .null]) (st' := [.int (h7.1 264 51), .int x1, .ref 297]) (h' := h7) rfl).trans ?_
            refine (mm_gd (c := x1 < 0 ∨ 6 ≤ x1.toNatClampNeg) (p1 := 90) (l1 := [.ref 264, .int x1, .int x2, .null]) (s1 := []) (h1 := wI h7 297 x1.toNatClampNeg (h7.1 264 51)) rfl (q_iast (n := 6) rfl)).trans (mm_ite rfl ?_)
            exact mm_by 2 rfl
          · exact mm_by_end 1 rfl
      · exact mm_by_end 1 rfl
set_option maxRecDepth 100000 in
set_option maxHeartbeats 4000000 in
theorem U_X12_codesTold_92 {d : Nat} {x1 : Int32} {x3 : Int32} {h : mm_H} : mm_D (mm_M mm_T0 d) cd_X12_codesTold 92 [.ref 264, .int x1, .null, .int x3] [] h = (if (h.1 264 102) ≤ x3 then (if x1 < 0 ∨ 6 ≤ x1.toNatClampNeg then none else (some (none, wI h 298 x1.toNatClampNeg (h.1 264 51)))) else (if x3 < 0 ∨ 1700 ≤ x3.toNatClampNeg then none else (if (h.1 264 51) < 0 ∨ 3200 ≤ (h.1 264 51).toNatClampNeg then none else (mm_D (mm_M mm_T0 d) cd_X12_codesTold 92 [.ref 264, .int x1, .null, .int (x3 + 1)] [] (wI (wI h 299 ((h.1 264 51).toNatClampNeg) (h.1 332 x3.toNatClampNeg)) 264 51 (((wI h 299 ((h.1 264 51).toNatClampNeg) (h.1 332 x3.toNatClampNeg)).1 264 51) + 1)))))) := by
  refine (mm_by 3 (pc' := 97) (ls' := [.ref 264, .int x1, .null, .int x3]) (st' := [.int (h.1 264 102), .int x3]) (h' := h) rfl).trans ?_
  refine (mm_br (c := (h.1 264 102) ≤ x3) (p1 := 131) (p2 := 100) (l1 := [.ref 264, .int x1, .null, .int x3]) (l2 := [.ref 264, .int x1, .null, .int x3]) (s1 := []) (s2 := []) (h1 := h) (h2 := h) rfl rfl).trans (mm_ite ?_ ?_)
  · refine (mm_by 5 (pc' := 140) (ls' := [.ref 264, .int x1, .null, .int x3]) (st' := [.int (h.1 264 51), .int x1, .ref 298]) (h' := h) rfl).trans ?_
    refine (mm_gd (c := x1 < 0 ∨ 6 ≤ x1.toNatClampNeg) (p1 := 141) (l1 := [.ref 264, .int x1, .null, .int x3]) (s1 := []) (h1 := wI h 298 x1.toNatClampNeg (h.1 264 51)) rfl (q_iast (n := 6) rfl)).trans (mm_ite rfl ?_)
    exact mm_by_end 1 rfl
  · refine (mm_by 7 (pc' := 113) (ls' := [.ref 264, .int x1, .null, .int x3]) (st' := [.int x3, .ref 332, .int (h.1 264 51), .ref 299]) (h' := h) rfl).trans ?_
    refine (mm_gd (c := x3 < 0 ∨ 1700 ≤ x3.toNatClampNeg) (p1 := 114) (l1 := [.ref 264, .int x1, .null, .int x3]) (s1 := [.int (h.1 332 x3.toNatClampNeg), .int (h.1 264 51), .ref 299]) (h1 := h) rfl (q_iald (n := 1700) rfl)).trans (mm_ite rfl ?_)
    refine (mm_gd (c := (h.1 264 51) < 0 ∨ 3200 ≤ (h.1 264 51).toNatClampNeg) (p1 := 115) (l1 := [.ref 264, .int x1, .null, .int x3]) (s1 := []) (h1 := wI h 299 ((h.1 264 51).toNatClampNeg) (h.1 332 x3.toNatClampNeg)) rfl (q_iast (n := 3200) rfl)).trans (mm_ite rfl ?_)
    exact mm_by 8 rfl
set_option maxRecDepth 100000 in
set_option maxHeartbeats 4000000 in
theorem U_X12_statementTold {d : Nat} {h : mm_H} : mm_M mm_T0 (d + 1) 210 [.ref 264] h = (if ¬ (h.1 264 52) = 80 then (mm_bI (mm_M mm_T0 d 196 [.ref 264, .ref 268] h) (fun v2 h1 => if v2 = 0 then (mm_bI (mm_M mm_T0 d 196 [.ref 264, .ref 272] h1) (fun v4 h3 => if v4 = 0 then (mm_bI (mm_M mm_T0 d 196 [.ref 264, .ref 274] h3) (fun v6 h5 => if v6 = 0 then (mm_bI (mm_M mm_T0 d 196 [.ref 264, .ref 275] h5) (fun v8 h7 => if v8 = 0 then (mm_bI (mm_M mm_T0 d 196 [.ref 264, .ref 276] h7) (fun v10 h9 => if v10 = 0 then (mm_bV (mm_M mm_T0 d 197 [.ref 264, .ref 277] h9) (fun h11 => mm_bI (mm_M mm_T0 d 200 [.ref 264, .int 0, .int 100] h11) (fun v13 h12 => mm_bV (mm_M mm_T0 d 199 [.ref 264, .int 59] (wI h12 264 46 v13)) (fun h14 => some (none, wI h14 264 52 ((h14.1 264 52) + 1)))))) else (mm_bV (mm_M mm_T0 d 209 [.ref 264, .int 2, .int (h.1 264 2)] h9) (fun h15 => mm_bV (mm_M mm_T0 d 199 [.ref 264, .int 59] h15) (fun h16 => some (none, wI h16 264 52 ((h16.1 264 52) + 1))))))) else (mm_bV (mm_M mm_T0 d 209 [.ref 264, .int 1, .int (h.1 264 2)] h7) (fun h17 => mm_bV (mm_M mm_T0 d 199 [.ref 264, .int 59] h17) (fun h18 => some (none, wI h18 264 52 ((h18.1 264 52) + 1))))))) else (mm_bV (mm_M mm_T0 d 209 [.ref 264, .int 0, .int (h.1 264 2)] h5) (fun h19 => mm_bV (mm_M mm_T0 d 199 [.ref 264, .int 59] h19) (fun h20 => some (none, wI h20 264 52 ((h20.1 264 52) + 1))))))) else (mm_bV (mm_M mm_T0 d 208 [.ref 264] h3) (fun h21 => mm_bV (mm_M mm_T0 d 199 [.ref 264, .int 59] h21) (fun h22 => some (none, wI h22 264 52 ((h22.1 264 52) + 1))))))) else (mm_bV (mm_M mm_T0 d 207 [.ref 264, .int (h.1 264 2)] h1) (fun h23 => mm_bV (mm_M mm_T0 d 199 [.ref 264, .int 59] h23) (fun h24 => some (none, wI h24 264 52 ((h24.1 264 52) + 1))))))) else (mm_bV (mm_M mm_T0 d 191 [.ref 264, .int 5, .int (h.1 264 2)] h) (fun h25 => some (none, h25)))) := by
  refine (mm_M_eq (ls := [.ref 264, .null]) rfl (Nat.le_of_ble_eq_true rfl) rfl h).trans ?_
  refine (mm_by 6 (pc' := 11) (ls' := [.ref 264, .int (h.1 264 2)]) (st' := [.int 80, .int (h.1 264 52)]) (h' := h) rfl).trans ?_
  refine (mm_br (c := ¬ (h.1 264 52) = 80) (p1 := 21) (p2 := 14) (l1 := [.ref 264, .int (h.1 264 2)]) (l2 := [.ref 264, .int (h.1 264 2)]) (s1 := []) (s2 := []) (h1 := h) (h2 := h) rfl rfl).trans (mm_ite ?_ ?_)
  · refine (mm_by 3 (pc' := 26) (ls' := [.ref 264, .int (h.1 264 2)]) (st' := [.ref 268, .ref 264]) (h' := h) rfl).trans ?_
    refine (mm_c1 (y := 196) (as := [.ref 264, .ref 268]) (nx := 29) (rest := []) rfl rfl).trans (mm_congI fun v2 h1 => ?_)
    refine (mm_br (c := v2 = 0) (p1 := 40) (p2 := 32) (l1 := [.ref 264, .int (h.1 264 2)]) (l2 := [.ref 264, .int (h.1 264 2)]) (s1 := []) (s2 := []) (h1 := h1) (h2 := h1) rfl rfl).trans (mm_ite ?_ ?_)
    · refine (mm_by 3 (pc' := 45) (ls' := [.ref 264, .int (h.1 264 2)]) (st' := [.ref 272, .ref 264]) (h' := h1) rfl).trans ?_
      refine (mm_c1 (y := 196) (as := [.ref 264, .ref 272]) (nx := 48) (rest := []) rfl rfl).trans (mm_congI fun v4 h3 => ?_)
      refine (mm_br (c := v4 = 0) (p1 := 58) (p2 := 51) (l1 := [.ref 264, .int (h.1 264 2)]) (l2 := [.ref 264, .int (h.1 264 2)]) (s1 := []) (s2 := []) (h1 := h3) (h2 := h3) rfl rfl).trans (mm_ite ?_ ?_)
      · refine (mm_by 3 (pc' := 63) (ls' := [.ref 264, .int (h.1 264 2)]) (st' := [.ref 274, .ref 264]) (h' := h3) rfl).trans ?_
        refine (mm_c1 (y := 196) (as := [.ref 264, .ref 274]) (nx := 66) (rest := []) rfl rfl).trans (mm_congI fun v6 h5 => ?_)
        refine (mm_br (c := v6 = 0) (p1 := 78) (p2 := 69) (l1 := [.ref 264, .int (h.1 264 2)]) (l2 := [.ref 264, .int (h.1 264 2)]) (s1 := []) (s2 := []) (h1 := h5) (h2 := h5) rfl rfl).trans (mm_ite ?_ ?_)
        · refine (mm_by 3 (pc' := 83) (ls' := [.ref 264, .int (h.1 264 2)]) (st' := [.ref 275, .ref 264]) (h' := h5) rfl).trans ?_
          refine (mm_c1 (y := 196) (as := [.ref 264, .ref 275]) (nx := 86) (rest := []) rfl rfl).trans (mm_congI fun v8 h7 => ?_)
          refine (mm_br (c := v8 = 0) (p1 := 98) (p2 := 89) (l1 := [.ref 264, .int (h.1 264 2)]) (l2 := [.ref 264, .int (h.1 264 2)]) (s1 := []) (s2 := []) (h1 := h7) (h2 := h7) rfl rfl).trans (mm_ite ?_ ?_)
          · refine (mm_by 3 (pc' := 103) (ls' := [.ref 264, .int (h.1 264 2)]) (st' := [.ref 276, .ref 264]) (h' := h7) rfl).trans ?_
            refine (mm_c1 (y := 196) (as := [.ref 264, .ref 276]) (nx := 106) (rest := []) rfl rfl).trans (mm_congI fun v10 h9 => ?_)
            refine (mm_br (c := v10 = 0) (p1 := 118) (p2 := 109) (l1 := [.ref 264, .int (h.1 264 2)]) (l2 := [.ref 264, .int (h.1 264 2)]) (s1 := []) (s2 := []) (h1 := h9) (h2 := h9) rfl rfl).trans (mm_ite ?_ ?_)
            · refine (mm_by 3 (pc' := 123) (ls' := [.ref 264, .int (h.1 264 2)]) (st' := [.ref 277, .ref 264]) (h' := h9) rfl).trans ?_
              refine (mm_c0 (y := 197) (as := [.ref 264, .ref 277]) (nx := 126) (rest := []) rfl rfl).trans (mm_congV fun h11 => ?_)
              refine (mm_by 4 (pc' := 131) (ls' := [.ref 264, .int (h.1 264 2)]) (st' := [.int 100, .int 0, .ref 264, .ref 264]) (h' := h11) rfl).trans ?_
              refine (mm_c1 (y := 200) (as := [.ref 264, .int 0, .int 100]) (nx := 134) (rest := [.ref 264]) rfl rfl).trans (mm_congI fun v13 h12 => ?_)
              refine (mm_by 3 (pc' := 140) (ls' := [.ref 264, .int (h.1 264 2)]) (st' := [.int 59, .ref 264]) (h' := wI h12 264 46 v13) rfl).trans ?_
              refine (mm_c0 (y := 199) (as := [.ref 264, .int 59]) (nx := 143) (rest := []) rfl rfl).trans (mm_congV fun h14 => ?_)
              exact mm_by_end 7 rfl
            · refine (mm_by 3 (pc' := 112) (ls' := [.ref 264, .int (h.1 264 2)]) (st' := [.int (h.1 264 2), .int 2, .ref 264]) (h' := h9) rfl).trans ?_
              refine (mm_c0 (y := 209) (as := [.ref 264, .int 2, .int (h.1 264 2)]) (nx := 115) (rest := []) rfl rfl).trans (mm_congV fun h15 => ?_)
              refine (mm_by 3 (pc' := 140) (ls' := [.ref 264, .int (h.1 264 2)]) (st' := [.int 59, .ref 264]) (h' := h15) rfl).trans ?_
              refine (mm_c0 (y := 199) (as := [.ref 264, .int 59]) (nx := 143) (rest := []) rfl rfl).trans (mm_congV fun h16 => ?_)
              exact mm_by_end 7 rfl
          · refine (mm_by 3 (pc' := 92) (ls' := [.ref 264, .int (h.1 264 2)]) (st' := [.int (h.1 264 2), .int 1, .ref 264]) (h' := h7) rfl).trans ?_
            refine (mm_c0 (y := 209) (as := [.ref 264, .int 1, .int (h.1 264 2)]) (nx := 95) (rest := []) rfl rfl).trans (mm_congV fun h17 => ?_)
            refine (mm_by 3 (pc' := 140) (ls' := [.ref 264, .int (h.1 264 2)]) (st' := [.int 59, .ref 264]) (h' := h17) rfl).trans ?_
            refine (mm_c0 (y := 199) (as := [.ref 264, .int 59]) (nx := 143) (rest := []) rfl rfl).trans (mm_congV fun h18 => ?_)
            exact mm_by_end 7 rfl
        · refine (mm_by 3 (pc' := 72) (ls' := [.ref 264, .int (h.1 264 2)]) (st' := [.int (h.1 264 2), .int 0, .ref 264]) (h' := h5) rfl).trans ?_
          refine (mm_c0 (y := 209) (as := [.ref 264, .int 0, .int (h.1 264 2)]) (nx := 75) (rest := []) rfl rfl).trans (mm_congV fun h19 => ?_)
          refine (mm_by 3 (pc' := 140) (ls' := [.ref 264, .int (h.1 264 2)]) (st' := [.int 59, .ref 264]) (h' := h19) rfl).trans ?_
          refine (mm_c0 (y := 199) (as := [.ref 264, .int 59]) (nx := 143) (rest := []) rfl rfl).trans (mm_congV fun h20 => ?_)
          exact mm_by_end 7 rfl
      · refine (mm_by 1 (pc' := 52) (ls' := [.ref 264, .int (h.1 264 2)]) (st' := [.ref 264]) (h' := h3) rfl).trans ?_
        refine (mm_c0 (y := 208) (as := [.ref 264]) (nx := 55) (rest := []) rfl rfl).trans (mm_congV fun h21 => ?_)
        refine (mm_by 3 (pc' := 140) (ls' := [.ref 264, .int (h.1 264 2)]) (st' := [.int 59, .ref 264]) (h' := h21) rfl).trans ?_
        refine (mm_c0 (y := 199) (as := [.ref 264, .int 59]) (nx := 143) (rest := []) rfl rfl).trans (mm_congV fun h22 => ?_)
        exact mm_by_end 7 rfl
    · refine (mm_by 2 (pc' := 34) (ls' := [.ref 264, .int (h.1 264 2)]) (st' := [.int (h.1 264 2), .ref 264]) (h' := h1) rfl).trans ?_
      refine (mm_c0 (y := 207) (as := [.ref 264, .int (h.1 264 2)]) (nx := 37) (rest := []) rfl rfl).trans (mm_congV fun h23 => ?_)
      refine (mm_by 3 (pc' := 140) (ls' := [.ref 264, .int (h.1 264 2)]) (st' := [.int 59, .ref 264]) (h' := h23) rfl).trans ?_
      refine (mm_c0 (y := 199) (as := [.ref 264, .int 59]) (nx := 143) (rest := []) rfl rfl).trans (mm_congV fun h24 => ?_)
      exact mm_by_end 7 rfl
  · refine (mm_by 3 (pc' := 17) (ls' := [.ref 264, .int (h.1 264 2)]) (st' := [.int (h.1 264 2), .int 5, .ref 264]) (h' := h) rfl).trans ?_
    refine (mm_c0 (y := 191) (as := [.ref 264, .int 5, .int (h.1 264 2)]) (nx := 20) (rest := []) rfl rfl).trans (mm_congV fun h25 => ?_)
    exact mm_by_end 1 rfl
set_option maxRecDepth 100000 in
set_option maxHeartbeats 4000000 in
theorem U_X12_terrace {d : Nat} {h : mm_H} : mm_M mm_T0 (d + 1) 211 [.ref 264] h = (mm_D (mm_M mm_T0 d) cd_X12_terrace 45 [.ref 264, .int 0] [] (wI (wI (wI (wI (wI (wI (wI (wI h 264 3 (h.1 264 1)) 264 1 0) 264 2 0) 264 4 ((-1))) 264 5 0) 264 6 ((-1))) 264 51 0) 264 39 0)) := by
  refine (mm_M_eq (ls := [.ref 264, .null]) rfl (Nat.le_of_ble_eq_true rfl) rfl h).trans ?_
  exact mm_by 27 rfl
set_option maxRecDepth 100000 in
set_option maxHeartbeats 4000000 in
theorem U_X12_terrace_45 {d : Nat} {x1 : Int32} {h : mm_H} : mm_D (mm_M mm_T0 d) cd_X12_terrace 45 [.ref 264, .int x1] [] h = (if 64 ≤ x1 then (mm_D (mm_M mm_T0 d) cd_X12_terrace 66 [.ref 264, .int 0] [] h) else (if x1 < 0 ∨ 64 ≤ x1.toNatClampNeg then none else (mm_D (mm_M mm_T0 d) cd_X12_terrace 45 [.ref 264, .int (x1 + 1)] [] (wI h 296 x1.toNatClampNeg 5)))) := by
  refine (mm_by 2 (pc' := 48) (ls' := [.ref 264, .int x1]) (st' := [.int 64, .int x1]) (h' := h) rfl).trans ?_
  refine (mm_br (c := 64 ≤ x1) (p1 := 64) (p2 := 51) (l1 := [.ref 264, .int x1]) (l2 := [.ref 264, .int x1]) (s1 := []) (s2 := []) (h1 := h) (h2 := h) rfl rfl).trans (mm_ite ?_ ?_)
  · exact mm_by 2 rfl
  · refine (mm_by 4 (pc' := 57) (ls' := [.ref 264, .int x1]) (st' := [.int 5, .int x1, .ref 296]) (h' := h) rfl).trans ?_
    refine (mm_gd (c := x1 < 0 ∨ 64 ≤ x1.toNatClampNeg) (p1 := 58) (l1 := [.ref 264, .int x1]) (s1 := []) (h1 := wI h 296 x1.toNatClampNeg 5) rfl (q_iast (n := 64) rfl)).trans (mm_ite rfl ?_)
    exact mm_by 2 rfl
set_option maxRecDepth 100000 in
set_option maxHeartbeats 4000000 in
theorem U_X12_terrace_66 {d : Nat} {x1 : Int32} {h : mm_H} : mm_D (mm_M mm_T0 d) cd_X12_terrace 66 [.ref 264, .int x1] [] h = (if 3 ≤ x1 then (mm_bV (mm_M mm_T0 d 206 [.ref 264] (wI h 264 46 0)) (fun h1 => mm_D (mm_M mm_T0 d) cd_X12_terrace 98 [.ref 264, .null] [] (wI h1 264 52 1))) else (if x1 < 0 ∨ 6 ≤ x1.toNatClampNeg then none else (mm_D (mm_M mm_T0 d) cd_X12_terrace 66 [.ref 264, .int (x1 + 1)] [] (wI h 297 x1.toNatClampNeg ((-1)))))) := by
  refine (mm_by 2 (pc' := 68) (ls' := [.ref 264, .int x1]) (st' := [.int 3, .int x1]) (h' := h) rfl).trans ?_
  refine (mm_br (c := 3 ≤ x1) (p1 := 84) (p2 := 71) (l1 := [.ref 264, .int x1]) (l2 := [.ref 264, .int x1]) (s1 := []) (s2 := []) (h1 := h) (h2 := h) rfl rfl).trans (mm_ite ?_ ?_)
  · refine (mm_by 4 (pc' := 90) (ls' := [.ref 264, .int x1]) (st' := [.ref 264]) (h' := wI h 264 46 0) rfl).trans ?_
    refine (mm_c0 (y := 206) (as := [.ref 264]) (nx := 93) (rest := []) rfl rfl).trans (mm_congV fun h1 => ?_)
    exact mm_by 3 rfl
  · refine (mm_by 4 (pc' := 77) (ls' := [.ref 264, .int x1]) (st' := [.int ((-1)), .int x1, .ref 297]) (h' := h) rfl).trans ?_
    refine (mm_gd (c := x1 < 0 ∨ 6 ≤ x1.toNatClampNeg) (p1 := 78) (l1 := [.ref 264, .int x1]) (s1 := []) (h1 := wI h 297 x1.toNatClampNeg ((-1))) rfl (q_iast (n := 6) rfl)).trans (mm_ite rfl ?_)
    exact mm_by 2 rfl
set_option maxRecDepth 100000 in
set_option maxHeartbeats 4000000 in
theorem U_X12_terrace_98 {d : Nat} {h : mm_H} : mm_D (mm_M mm_T0 d) cd_X12_terrace 98 [.ref 264, .null] [] h = (if ¬ (h.1 264 5) = 0 then (if ((wI (wI h 264 7 (h.1 264 5)) 264 8 ((wI h 264 7 (h.1 264 5)).1 264 6)).1 264 5) = 0 then (mm_bV (mm_M mm_T0 d 212 [.ref 264] (wI (wI h 264 7 (h.1 264 5)) 264 8 ((wI h 264 7 (h.1 264 5)).1 264 6))) (fun h1 => some (some (.int (h1.1 264 52)), h1))) else (some (some (.int ((-1))), wI (wI (wI h 264 7 (h.1 264 5)) 264 8 ((wI h 264 7 (h.1 264 5)).1 264 6)) 266 1 (((wI (wI h 264 7 (h.1 264 5)) 264 8 ((wI h 264 7 (h.1 264 5)).1 264 6)).1 266 1) + 1)))) else (mm_bI (mm_M mm_T0 d 194 [.ref 264] h) (fun v3 h2 => if v3 = ((-1)) then (if ((wI (wI h2 264 7 (h2.1 264 5)) 264 8 ((wI h2 264 7 (h2.1 264 5)).1 264 6)).1 264 5) = 0 then (mm_bV (mm_M mm_T0 d 212 [.ref 264] (wI (wI h2 264 7 (h2.1 264 5)) 264 8 ((wI h2 264 7 (h2.1 264 5)).1 264 6))) (fun h4 => some (some (.int (h4.1 264 52)), h4))) else (some (some (.int ((-1))), wI (wI (wI h2 264 7 (h2.1 264 5)) 264 8 ((wI h2 264 7 (h2.1 264 5)).1 264 6)) 266 1 (((wI (wI h2 264 7 (h2.1 264 5)) 264 8 ((wI h2 264 7 (h2.1 264 5)).1 264 6)).1 266 1) + 1)))) else (mm_bV (mm_M mm_T0 d 210 [.ref 264] h2) (fun h5 => mm_D (mm_M mm_T0 d) cd_X12_terrace 98 [.ref 264, .null] [] h5))))) := by
  refine (mm_by 2 (pc' := 102) (ls' := [.ref 264, .null]) (st' := [.int (h.1 264 5)]) (h' := h) rfl).trans ?_
  refine (mm_br (c := ¬ (h.1 264 5) = 0) (p1 := 120) (p2 := 105) (l1 := [.ref 264, .null]) (l2 := [.ref 264, .null]) (s1 := []) (s2 := []) (h1 := h) (h2 := h) rfl rfl).trans (mm_ite ?_ ?_)
  · refine (mm_by 10 (pc' := 140) (ls' := [.ref 264, .null]) (st' := [.int ((wI (wI h 264 7 (h.1 264 5)) 264 8 ((wI h 264 7 (h.1 264 5)).1 264 6)).1 264 5)]) (h' := wI (wI h 264 7 (h.1 264 5)) 264 8 ((wI h 264 7 (h.1 264 5)).1 264 6)) rfl).trans ?_
    refine (mm_br (c := ((wI (wI h 264 7 (h.1 264 5)) 264 8 ((wI h 264 7 (h.1 264 5)).1 264 6)).1 264 5) = 0) (p1 := 155) (p2 := 143) (l1 := [.ref 264, .null]) (l2 := [.ref 264, .null]) (s1 := []) (s2 := []) (h1 := wI (wI h 264 7 (h.1 264 5)) 264 8 ((wI h 264 7 (h.1 264 5)).1 264 6)) (h2 := wI (wI h 264 7 (h.1 264 5)) 264 8 ((wI h 264 7 (h.1 264 5)).1 264 6)) rfl rfl).trans (mm_ite ?_ ?_)
    · refine (mm_by 1 (pc' := 156) (ls' := [.ref 264, .null]) (st' := [.ref 264]) (h' := wI (wI h 264 7 (h.1 264 5)) 264 8 ((wI h 264 7 (h.1 264 5)).1 264 6)) rfl).trans ?_
      refine (mm_c0 (y := 212) (as := [.ref 264]) (nx := 159) (rest := []) rfl rfl).trans (mm_congV fun h1 => ?_)
      exact mm_by_end 3 rfl
    · exact mm_by_end 10 rfl
  · refine (mm_by 1 (pc' := 106) (ls' := [.ref 264, .null]) (st' := [.ref 264]) (h' := h) rfl).trans ?_
    refine (mm_c1 (y := 194) (as := [.ref 264]) (nx := 109) (rest := []) rfl rfl).trans (mm_congI fun v3 h2 => ?_)
    refine (mm_by 1 (pc' := 110) (ls' := [.ref 264, .null]) (st' := [.int ((-1)), .int v3]) (h' := h2) rfl).trans ?_
    refine (mm_br (c := v3 = ((-1))) (p1 := 120) (p2 := 113) (l1 := [.ref 264, .null]) (l2 := [.ref 264, .null]) (s1 := []) (s2 := []) (h1 := h2) (h2 := h2) rfl rfl).trans (mm_ite ?_ ?_)
    · refine (mm_by 10 (pc' := 140) (ls' := [.ref 264, .null]) (st' := [.int ((wI (wI h2 264 7 (h2.1 264 5)) 264 8 ((wI h2 264 7 (h2.1 264 5)).1 264 6)).1 264 5)]) (h' := wI (wI h2 264 7 (h2.1 264 5)) 264 8 ((wI h2 264 7 (h2.1 264 5)).1 264 6)) rfl).trans ?_
      refine (mm_br (c := ((wI (wI h2 264 7 (h2.1 264 5)) 264 8 ((wI h2 264 7 (h2.1 264 5)).1 264 6)).1 264 5) = 0) (p1 := 155) (p2 := 143) (l1 := [.ref 264, .null]) (l2 := [.ref 264, .null]) (s1 := []) (s2 := []) (h1 := wI (wI h2 264 7 (h2.1 264 5)) 264 8 ((wI h2 264 7 (h2.1 264 5)).1 264 6)) (h2 := wI (wI h2 264 7 (h2.1 264 5)) 264 8 ((wI h2 264 7 (h2.1 264 5)).1 264 6)) rfl rfl).trans (mm_ite ?_ ?_)
      · refine (mm_by 1 (pc' := 156) (ls' := [.ref 264, .null]) (st' := [.ref 264]) (h' := wI (wI h2 264 7 (h2.1 264 5)) 264 8 ((wI h2 264 7 (h2.1 264 5)).1 264 6)) rfl).trans ?_
        refine (mm_c0 (y := 212) (as := [.ref 264]) (nx := 159) (rest := []) rfl rfl).trans (mm_congV fun h4 => ?_)
        exact mm_by_end 3 rfl
      · exact mm_by_end 10 rfl
    · refine (mm_by 1 (pc' := 114) (ls' := [.ref 264, .null]) (st' := [.ref 264]) (h' := h2) rfl).trans ?_
      refine (mm_c0 (y := 210) (as := [.ref 264]) (nx := 117) (rest := []) rfl rfl).trans (mm_congV fun h5 => ?_)
      exact mm_by 1 rfl
set_option maxRecDepth 100000 in
set_option maxHeartbeats 4000000 in
theorem U_X12_stands {d : Nat} {h : mm_H} : mm_M mm_T0 (d + 1) 212 [.ref 264] h = (mm_D (mm_M mm_T0 d) cd_X12_stands 31 [.ref 264, .int 0] [] (wI (wI (wI (wI h 264 53 1) 264 38 ((wI h 264 53 1).1 264 37)) 264 40 ((wI (wI h 264 53 1) 264 38 ((wI h 264 53 1).1 264 37)).1 264 39)) 264 47 ((wI (wI (wI h 264 53 1) 264 38 ((wI h 264 53 1).1 264 37)) 264 40 ((wI (wI h 264 53 1) 264 38 ((wI h 264 53 1).1 264 37)).1 264 39)).1 264 46))) := by
  refine (mm_M_eq (ls := [.ref 264, .null]) rfl (Nat.le_of_ble_eq_true rfl) rfl h).trans ?_
  exact mm_by 17 rfl
set_option maxRecDepth 100000 in
set_option maxHeartbeats 4000000 in
theorem U_X12_stands_31 {d : Nat} {x1 : Int32} {h : mm_H} : mm_D (mm_M mm_T0 d) cd_X12_stands 31 [.ref 264, .int x1] [] h = (if 8 ≤ x1 then (mm_D (mm_M mm_T0 d) cd_X12_stands 90 [.ref 264, .int 0] [] h) else (if x1 < 0 ∨ 16 ≤ x1.toNatClampNeg then none else (if (8 + x1) < 0 ∨ 16 ≤ (8 + x1).toNatClampNeg then none else (if x1 < 0 ∨ 16 ≤ x1.toNatClampNeg then none else (if (8 + x1) < 0 ∨ 16 ≤ (8 + x1).toNatClampNeg then none else (if x1 < 0 ∨ 16 ≤ x1.toNatClampNeg then none else (if (8 + x1) < 0 ∨ 16 ≤ (8 + x1).toNatClampNeg then none else (mm_D (mm_M mm_T0 d) cd_X12_stands 31 [.ref 264, .int (x1 + 1)] [] (wI (wI (wL h 292 ((8 + x1).toNatClampNeg) (h.2.1 292 x1.toNatClampNeg)) 294 ((8 + x1).toNatClampNeg) ((wL h 292 ((8 + x1).toNatClampNeg) (h.2.1 292 x1.toNatClampNeg)).1 294 x1.toNatClampNeg)) 295 ((8 + x1).toNatClampNeg) ((wI (wL h 292 ((8 + x1).toNatClampNeg) (h.2.1 292 x1.toNatClampNeg)) 294 ((8 + x1).toNatClampNeg) ((wL h 292 ((8 + x1).toNatClampNeg) (h.2.1 292 x1.toNatClampNeg)).1 294 x1.toNatClampNeg)).1 295 x1.toNatClampNeg)))))))))) := by
  refine (mm_by 2 (pc' := 34) (ls' := [.ref 264, .int x1]) (st' := [.int 8, .int x1]) (h' := h) rfl).trans ?_
  refine (mm_br (c := 8 ≤ x1) (p1 := 88) (p2 := 37) (l1 := [.ref 264, .int x1]) (l2 := [.ref 264, .int x1]) (s1 := []) (s2 := []) (h1 := h) (h2 := h) rfl rfl).trans (mm_ite ?_ ?_)
  · exact mm_by 2 rfl
  · refine (mm_by 8 (pc' := 50) (ls' := [.ref 264, .int x1]) (st' := [.int x1, .ref 292, .int (8 + x1), .ref 292]) (h' := h) rfl).trans ?_
    refine (mm_gd (c := x1 < 0 ∨ 16 ≤ x1.toNatClampNeg) (p1 := 51) (l1 := [.ref 264, .int x1]) (s1 := [.long (h.2.1 292 x1.toNatClampNeg), .int (8 + x1), .ref 292]) (h1 := h) rfl (q_lald (n := 16) rfl)).trans (mm_ite rfl ?_)
    refine (mm_gd (c := (8 + x1) < 0 ∨ 16 ≤ (8 + x1).toNatClampNeg) (p1 := 52) (l1 := [.ref 264, .int x1]) (s1 := []) (h1 := wL h 292 ((8 + x1).toNatClampNeg) (h.2.1 292 x1.toNatClampNeg)) rfl (q_last (n := 16) rfl)).trans (mm_ite rfl ?_)
    refine (mm_by 8 (pc' := 65) (ls' := [.ref 264, .int x1]) (st' := [.int x1, .ref 294, .int (8 + x1), .ref 294]) (h' := wL h 292 ((8 + x1).toNatClampNeg) (h.2.1 292 x1.toNatClampNeg)) rfl).trans ?_
    refine (mm_gd (c := x1 < 0 ∨ 16 ≤ x1.toNatClampNeg) (p1 := 66) (l1 := [.ref 264, .int x1]) (s1 := [.int ((wL h 292 ((8 + x1).toNatClampNeg) (h.2.1 292 x1.toNatClampNeg)).1 294 x1.toNatClampNeg), .int (8 + x1), .ref 294]) (h1 := wL h 292 ((8 + x1).toNatClampNeg) (h.2.1 292 x1.toNatClampNeg)) rfl (q_iald (n := 16) rfl)).trans (mm_ite rfl ?_)
    refine (mm_gd (c := (8 + x1) < 0 ∨ 16 ≤ (8 + x1).toNatClampNeg) (p1 := 67) (l1 := [.ref 264, .int x1]) (s1 := []) (h1 := wI (wL h 292 ((8 + x1).toNatClampNeg) (h.2.1 292 x1.toNatClampNeg)) 294 ((8 + x1).toNatClampNeg) ((wL h 292 ((8 + x1).toNatClampNeg) (h.2.1 292 x1.toNatClampNeg)).1 294 x1.toNatClampNeg)) rfl (q_iast (n := 16) rfl)).trans (mm_ite rfl ?_)
    refine (mm_by 8 (pc' := 80) (ls' := [.ref 264, .int x1]) (st' := [.int x1, .ref 295, .int (8 + x1), .ref 295]) (h' := wI (wL h 292 ((8 + x1).toNatClampNeg) (h.2.1 292 x1.toNatClampNeg)) 294 ((8 + x1).toNatClampNeg) ((wL h 292 ((8 + x1).toNatClampNeg) (h.2.1 292 x1.toNatClampNeg)).1 294 x1.toNatClampNeg)) rfl).trans ?_
    refine (mm_gd (c := x1 < 0 ∨ 16 ≤ x1.toNatClampNeg) (p1 := 81) (l1 := [.ref 264, .int x1]) (s1 := [.int ((wI (wL h 292 ((8 + x1).toNatClampNeg) (h.2.1 292 x1.toNatClampNeg)) 294 ((8 + x1).toNatClampNeg) ((wL h 292 ((8 + x1).toNatClampNeg) (h.2.1 292 x1.toNatClampNeg)).1 294 x1.toNatClampNeg)).1 295 x1.toNatClampNeg), .int (8 + x1), .ref 295]) (h1 := wI (wL h 292 ((8 + x1).toNatClampNeg) (h.2.1 292 x1.toNatClampNeg)) 294 ((8 + x1).toNatClampNeg) ((wL h 292 ((8 + x1).toNatClampNeg) (h.2.1 292 x1.toNatClampNeg)).1 294 x1.toNatClampNeg)) rfl (q_iald (n := 16) rfl)).trans (mm_ite rfl ?_)
    refine (mm_gd (c := (8 + x1) < 0 ∨ 16 ≤ (8 + x1).toNatClampNeg) (p1 := 82) (l1 := [.ref 264, .int x1]) (s1 := []) (h1 := wI (wI (wL h 292 ((8 + x1).toNatClampNeg) (h.2.1 292 x1.toNatClampNeg)) 294 ((8 + x1).toNatClampNeg) ((wL h 292 ((8 + x1).toNatClampNeg) (h.2.1 292 x1.toNatClampNeg)).1 294 x1.toNatClampNeg)) 295 ((8 + x1).toNatClampNeg) ((wI (wL h 292 ((8 + x1).toNatClampNeg) (h.2.1 292 x1.toNatClampNeg)) 294 ((8 + x1).toNatClampNeg) ((wL h 292 ((8 + x1).toNatClampNeg) (h.2.1 292 x1.toNatClampNeg)).1 294 x1.toNatClampNeg)).1 295 x1.toNatClampNeg)) rfl (q_iast (n := 16) rfl)).trans (mm_ite rfl ?_)
    exact mm_by 2 rfl
set_option maxRecDepth 100000 in
set_option maxHeartbeats 4000000 in
theorem U_X12_stands_90 {d : Nat} {x1 : Int32} {h : mm_H} : mm_D (mm_M mm_T0 d) cd_X12_stands 90 [.ref 264, .int x1] [] h = (if 3 ≤ x1 then (mm_D (mm_M mm_T0 d) cd_X12_stands 131 [.ref 264, .int 0] [] h) else (if x1 < 0 ∨ 6 ≤ x1.toNatClampNeg then none else (if (3 + x1) < 0 ∨ 6 ≤ (3 + x1).toNatClampNeg then none else (if x1 < 0 ∨ 6 ≤ x1.toNatClampNeg then none else (if (3 + x1) < 0 ∨ 6 ≤ (3 + x1).toNatClampNeg then none else (mm_D (mm_M mm_T0 d) cd_X12_stands 90 [.ref 264, .int (x1 + 1)] [] (wI (wI h 297 ((3 + x1).toNatClampNeg) (h.1 297 x1.toNatClampNeg)) 298 ((3 + x1).toNatClampNeg) ((wI h 297 ((3 + x1).toNatClampNeg) (h.1 297 x1.toNatClampNeg)).1 298 x1.toNatClampNeg)))))))) := by
  refine (mm_by 2 (pc' := 92) (ls' := [.ref 264, .int x1]) (st' := [.int 3, .int x1]) (h' := h) rfl).trans ?_
  refine (mm_br (c := 3 ≤ x1) (p1 := 129) (p2 := 95) (l1 := [.ref 264, .int x1]) (l2 := [.ref 264, .int x1]) (s1 := []) (s2 := []) (h1 := h) (h2 := h) rfl rfl).trans (mm_ite ?_ ?_)
  · exact mm_by 2 rfl
  · refine (mm_by 8 (pc' := 107) (ls' := [.ref 264, .int x1]) (st' := [.int x1, .ref 297, .int (3 + x1), .ref 297]) (h' := h) rfl).trans ?_
    refine (mm_gd (c := x1 < 0 ∨ 6 ≤ x1.toNatClampNeg) (p1 := 108) (l1 := [.ref 264, .int x1]) (s1 := [.int (h.1 297 x1.toNatClampNeg), .int (3 + x1), .ref 297]) (h1 := h) rfl (q_iald (n := 6) rfl)).trans (mm_ite rfl ?_)
    refine (mm_gd (c := (3 + x1) < 0 ∨ 6 ≤ (3 + x1).toNatClampNeg) (p1 := 109) (l1 := [.ref 264, .int x1]) (s1 := []) (h1 := wI h 297 ((3 + x1).toNatClampNeg) (h.1 297 x1.toNatClampNeg)) rfl (q_iast (n := 6) rfl)).trans (mm_ite rfl ?_)
    refine (mm_by 8 (pc' := 121) (ls' := [.ref 264, .int x1]) (st' := [.int x1, .ref 298, .int (3 + x1), .ref 298]) (h' := wI h 297 ((3 + x1).toNatClampNeg) (h.1 297 x1.toNatClampNeg)) rfl).trans ?_
    refine (mm_gd (c := x1 < 0 ∨ 6 ≤ x1.toNatClampNeg) (p1 := 122) (l1 := [.ref 264, .int x1]) (s1 := [.int ((wI h 297 ((3 + x1).toNatClampNeg) (h.1 297 x1.toNatClampNeg)).1 298 x1.toNatClampNeg), .int (3 + x1), .ref 298]) (h1 := wI h 297 ((3 + x1).toNatClampNeg) (h.1 297 x1.toNatClampNeg)) rfl (q_iald (n := 6) rfl)).trans (mm_ite rfl ?_)
    refine (mm_gd (c := (3 + x1) < 0 ∨ 6 ≤ (3 + x1).toNatClampNeg) (p1 := 123) (l1 := [.ref 264, .int x1]) (s1 := []) (h1 := wI (wI h 297 ((3 + x1).toNatClampNeg) (h.1 297 x1.toNatClampNeg)) 298 ((3 + x1).toNatClampNeg) ((wI h 297 ((3 + x1).toNatClampNeg) (h.1 297 x1.toNatClampNeg)).1 298 x1.toNatClampNeg)) rfl (q_iast (n := 6) rfl)).trans (mm_ite rfl ?_)
    exact mm_by 2 rfl
set_option maxRecDepth 100000 in
set_option maxHeartbeats 4000000 in
theorem U_X12_stands_131 {d : Nat} {x1 : Int32} {h : mm_H} : mm_D (mm_M mm_T0 d) cd_X12_stands 131 [.ref 264, .int x1] [] h = (if (h.1 264 51) ≤ x1 then (mm_D (mm_M mm_T0 d) cd_X12_stands 163 [.ref 264, .int 0] [] h) else (if x1 < 0 ∨ 3200 ≤ x1.toNatClampNeg then none else (if (1600 + x1) < 0 ∨ 3200 ≤ (1600 + x1).toNatClampNeg then none else (mm_D (mm_M mm_T0 d) cd_X12_stands 131 [.ref 264, .int (x1 + 1)] [] (wI h 299 ((1600 + x1).toNatClampNeg) (h.1 299 x1.toNatClampNeg)))))) := by
  refine (mm_by 3 (pc' := 136) (ls' := [.ref 264, .int x1]) (st' := [.int (h.1 264 51), .int x1]) (h' := h) rfl).trans ?_
  refine (mm_br (c := (h.1 264 51) ≤ x1) (p1 := 161) (p2 := 139) (l1 := [.ref 264, .int x1]) (l2 := [.ref 264, .int x1]) (s1 := []) (s2 := []) (h1 := h) (h2 := h) rfl rfl).trans (mm_ite ?_ ?_)
  · exact mm_by 2 rfl
  · refine (mm_by 8 (pc' := 153) (ls' := [.ref 264, .int x1]) (st' := [.int x1, .ref 299, .int (1600 + x1), .ref 299]) (h' := h) rfl).trans ?_
    refine (mm_gd (c := x1 < 0 ∨ 3200 ≤ x1.toNatClampNeg) (p1 := 154) (l1 := [.ref 264, .int x1]) (s1 := [.int (h.1 299 x1.toNatClampNeg), .int (1600 + x1), .ref 299]) (h1 := h) rfl (q_iald (n := 3200) rfl)).trans (mm_ite rfl ?_)
    refine (mm_gd (c := (1600 + x1) < 0 ∨ 3200 ≤ (1600 + x1).toNatClampNeg) (p1 := 155) (l1 := [.ref 264, .int x1]) (s1 := []) (h1 := wI h 299 ((1600 + x1).toNatClampNeg) (h.1 299 x1.toNatClampNeg)) rfl (q_iast (n := 3200) rfl)).trans (mm_ite rfl ?_)
    exact mm_by 2 rfl
set_option maxRecDepth 100000 in
set_option maxHeartbeats 4000000 in
theorem U_X12_stands_163 {d : Nat} {x1 : Int32} {h : mm_H} : mm_D (mm_M mm_T0 d) cd_X12_stands 163 [.ref 264, .int x1] [] h = (if 210 ≤ x1 then (mm_D (mm_M mm_T0 d) cd_X12_stands 185 [.ref 264, .int 0] [] h) else (if x1 < 0 ∨ 210 ≤ x1.toNatClampNeg then none else (mm_D (mm_M mm_T0 d) cd_X12_stands 163 [.ref 264, .int (x1 + 1)] [] (wI h 300 x1.toNatClampNeg 0)))) := by
  refine (mm_by 2 (pc' := 167) (ls' := [.ref 264, .int x1]) (st' := [.int 210, .int x1]) (h' := h) rfl).trans ?_
  refine (mm_br (c := 210 ≤ x1) (p1 := 183) (p2 := 170) (l1 := [.ref 264, .int x1]) (l2 := [.ref 264, .int x1]) (s1 := []) (s2 := []) (h1 := h) (h2 := h) rfl rfl).trans (mm_ite ?_ ?_)
  · exact mm_by 2 rfl
  · refine (mm_by 4 (pc' := 176) (ls' := [.ref 264, .int x1]) (st' := [.int 0, .int x1, .ref 300]) (h' := h) rfl).trans ?_
    refine (mm_gd (c := x1 < 0 ∨ 210 ≤ x1.toNatClampNeg) (p1 := 177) (l1 := [.ref 264, .int x1]) (s1 := []) (h1 := wI h 300 x1.toNatClampNeg 0) rfl (q_iast (n := 210) rfl)).trans (mm_ite rfl ?_)
    exact mm_by 2 rfl
set_option maxRecDepth 100000 in
set_option maxHeartbeats 4000000 in
theorem U_X12_stands_185 {d : Nat} {x1 : Int32} {h : mm_H} : mm_D (mm_M mm_T0 d) cd_X12_stands 185 [.ref 264, .int x1] [] h = (if (h.1 264 40) ≤ x1 then (mm_D (mm_M mm_T0 d) cd_X12_stands 236 [.ref 264, .int 0] [] h) else (if x1 < 0 ∨ 8 ≤ x1.toNatClampNeg then none else (if (1 + (3 * x1)) < 0 ∨ 210 ≤ (1 + (3 * x1)).toNatClampNeg then none else (if x1 < 0 ∨ 16 ≤ x1.toNatClampNeg then none else (if (2 + (3 * x1)) < 0 ∨ 210 ≤ (2 + (3 * x1)).toNatClampNeg then none else (mm_D (mm_M mm_T0 d) cd_X12_stands 185 [.ref 264, .int (x1 + 1)] [] (wI (wI h 300 ((1 + (3 * x1)).toNatClampNeg) (h.1 293 x1.toNatClampNeg)) 300 ((2 + (3 * x1)).toNatClampNeg) (10 * ((wI h 300 ((1 + (3 * x1)).toNatClampNeg) (h.1 293 x1.toNatClampNeg)).1 294 x1.toNatClampNeg))))))))) := by
  refine (mm_by 3 (pc' := 190) (ls' := [.ref 264, .int x1]) (st' := [.int (h.1 264 40), .int x1]) (h' := h) rfl).trans ?_
  refine (mm_br (c := (h.1 264 40) ≤ x1) (p1 := 234) (p2 := 193) (l1 := [.ref 264, .int x1]) (l2 := [.ref 264, .int x1]) (s1 := []) (s2 := []) (h1 := h) (h2 := h) rfl rfl).trans (mm_ite ?_ ?_)
  · exact mm_by 2 rfl
  · refine (mm_by 10 (pc' := 207) (ls' := [.ref 264, .int x1]) (st' := [.int x1, .ref 293, .int (1 + (3 * x1)), .ref 300]) (h' := h) rfl).trans ?_
    refine (mm_gd (c := x1 < 0 ∨ 8 ≤ x1.toNatClampNeg) (p1 := 208) (l1 := [.ref 264, .int x1]) (s1 := [.int (h.1 293 x1.toNatClampNeg), .int (1 + (3 * x1)), .ref 300]) (h1 := h) rfl (q_iald (n := 8) rfl)).trans (mm_ite rfl ?_)
    refine (mm_gd (c := (1 + (3 * x1)) < 0 ∨ 210 ≤ (1 + (3 * x1)).toNatClampNeg) (p1 := 209) (l1 := [.ref 264, .int x1]) (s1 := []) (h1 := wI h 300 ((1 + (3 * x1)).toNatClampNeg) (h.1 293 x1.toNatClampNeg)) rfl (q_iast (n := 210) rfl)).trans (mm_ite rfl ?_)
    refine (mm_by 11 (pc' := 225) (ls' := [.ref 264, .int x1]) (st' := [.int x1, .ref 294, .int 10, .int (2 + (3 * x1)), .ref 300]) (h' := wI h 300 ((1 + (3 * x1)).toNatClampNeg) (h.1 293 x1.toNatClampNeg)) rfl).trans ?_
    refine (mm_gd (c := x1 < 0 ∨ 16 ≤ x1.toNatClampNeg) (p1 := 226) (l1 := [.ref 264, .int x1]) (s1 := [.int ((wI h 300 ((1 + (3 * x1)).toNatClampNeg) (h.1 293 x1.toNatClampNeg)).1 294 x1.toNatClampNeg), .int 10, .int (2 + (3 * x1)), .ref 300]) (h1 := wI h 300 ((1 + (3 * x1)).toNatClampNeg) (h.1 293 x1.toNatClampNeg)) rfl (q_iald (n := 16) rfl)).trans (mm_ite rfl ?_)
    refine (mm_by 1 (pc' := 227) (ls' := [.ref 264, .int x1]) (st' := [.int (10 * ((wI h 300 ((1 + (3 * x1)).toNatClampNeg) (h.1 293 x1.toNatClampNeg)).1 294 x1.toNatClampNeg)), .int (2 + (3 * x1)), .ref 300]) (h' := wI h 300 ((1 + (3 * x1)).toNatClampNeg) (h.1 293 x1.toNatClampNeg)) rfl).trans ?_
    refine (mm_gd (c := (2 + (3 * x1)) < 0 ∨ 210 ≤ (2 + (3 * x1)).toNatClampNeg) (p1 := 228) (l1 := [.ref 264, .int x1]) (s1 := []) (h1 := wI (wI h 300 ((1 + (3 * x1)).toNatClampNeg) (h.1 293 x1.toNatClampNeg)) 300 ((2 + (3 * x1)).toNatClampNeg) (10 * ((wI h 300 ((1 + (3 * x1)).toNatClampNeg) (h.1 293 x1.toNatClampNeg)).1 294 x1.toNatClampNeg))) rfl (q_iast (n := 210) rfl)).trans (mm_ite rfl ?_)
    exact mm_by 2 rfl
set_option maxRecDepth 100000 in
set_option maxHeartbeats 4000000 in
theorem U_X12_stands_236 {d : Nat} {x1 : Int32} {h : mm_H} : mm_D (mm_M mm_T0 d) cd_X12_stands 236 [.ref 264, .int x1] [] h = (if 64 ≤ x1 then (some (none, wI (wI h 264 73 0) 264 67 0)) else (if x1 < 0 ∨ 64 ≤ x1.toNatClampNeg then none else (if (25 + x1) < 0 ∨ 210 ≤ (25 + x1).toNatClampNeg then none else (mm_D (mm_M mm_T0 d) cd_X12_stands 236 [.ref 264, .int (x1 + 1)] [] (wI h 300 ((25 + x1).toNatClampNeg) (h.1 296 x1.toNatClampNeg)))))) := by
  refine (mm_by 2 (pc' := 239) (ls' := [.ref 264, .int x1]) (st' := [.int 64, .int x1]) (h' := h) rfl).trans ?_
  refine (mm_br (c := 64 ≤ x1) (p1 := 263) (p2 := 242) (l1 := [.ref 264, .int x1]) (l2 := [.ref 264, .int x1]) (s1 := []) (s2 := []) (h1 := h) (h2 := h) rfl rfl).trans (mm_ite ?_ ?_)
  · exact mm_by_end 7 rfl
  · refine (mm_by 8 (pc' := 255) (ls' := [.ref 264, .int x1]) (st' := [.int x1, .ref 296, .int (25 + x1), .ref 300]) (h' := h) rfl).trans ?_
    refine (mm_gd (c := x1 < 0 ∨ 64 ≤ x1.toNatClampNeg) (p1 := 256) (l1 := [.ref 264, .int x1]) (s1 := [.int (h.1 296 x1.toNatClampNeg), .int (25 + x1), .ref 300]) (h1 := h) rfl (q_iald (n := 64) rfl)).trans (mm_ite rfl ?_)
    refine (mm_gd (c := (25 + x1) < 0 ∨ 210 ≤ (25 + x1).toNatClampNeg) (p1 := 257) (l1 := [.ref 264, .int x1]) (s1 := []) (h1 := wI h 300 ((25 + x1).toNatClampNeg) (h.1 296 x1.toNatClampNeg)) rfl (q_iast (n := 210) rfl)).trans (mm_ite rfl ?_)
    exact mm_by 2 rfl
set_option maxRecDepth 100000 in
set_option maxHeartbeats 4000000 in
theorem U_X12_fault {d : Nat} {x1 : Int32} {h : mm_H} : mm_M mm_T0 (d + 1) 213 [.ref 264, .int x1] h = (if ¬ x1 = 0 then (if ¬ x1 = 1 then (some (some (.int ((-1))), h)) else (some (some (.int (h.1 264 8)), h))) else (some (some (.int (h.1 264 7)), h))) := by
  refine (mm_M_eq (ls := [.ref 264, .int x1]) rfl (Nat.le_of_ble_eq_true rfl) rfl h).trans ?_
  refine (mm_by 1 (pc' := 1) (ls' := [.ref 264, .int x1]) (st' := [.int x1]) (h' := h) rfl).trans ?_
  refine (mm_br (c := ¬ x1 = 0) (p1 := 11) (p2 := 4) (l1 := [.ref 264, .int x1]) (l2 := [.ref 264, .int x1]) (s1 := []) (s2 := []) (h1 := h) (h2 := h) rfl rfl).trans (mm_ite ?_ ?_)
  · refine (mm_by 2 (pc' := 13) (ls' := [.ref 264, .int x1]) (st' := [.int 1, .int x1]) (h' := h) rfl).trans ?_
    refine (mm_br (c := ¬ x1 = 1) (p1 := 23) (p2 := 16) (l1 := [.ref 264, .int x1]) (l2 := [.ref 264, .int x1]) (s1 := []) (s2 := []) (h1 := h) (h2 := h) rfl rfl).trans (mm_ite ?_ ?_)
    · exact mm_by_end 2 rfl
    · exact mm_by_end 4 rfl
  · exact mm_by_end 4 rfl
set_option maxRecDepth 100000 in
set_option maxHeartbeats 4000000 in
theorem U_X12_isPerson {d : Nat} {x1 : Int64} {h : mm_H} : mm_M mm_T0 (d + 1) 214 [.ref 264, .long x1] h = (mm_bI (mm_M mm_T0 d 188 [.long x1, .long 0, .long (((h.1 264 40) - 1).toInt64)] h) (fun v2 h1 => mm_zr v2 h1)) := by
  refine (mm_M_eq (ls := [.ref 264, .long x1, .null]) rfl (Nat.le_of_ble_eq_true rfl) rfl h).trans ?_
  refine (mm_by 7 (pc' := 9) (ls' := [.ref 264, .long x1, .null]) (st' := [.long (((h.1 264 40) - 1).toInt64), .long 0, .long x1]) (h' := h) rfl).trans ?_
  refine (mm_c1 (y := 188) (as := [.long x1, .long 0, .long (((h.1 264 40) - 1).toInt64)]) (nx := 12) (rest := []) rfl rfl).trans (mm_congI fun v2 h1 => ?_)
  exact mm_zend rfl
set_option maxRecDepth 100000 in
set_option maxHeartbeats 4000000 in
theorem U_X12_isOther {d : Nat} {x1 : Int32} {x2 : Int64} {h : mm_H} : mm_M mm_T0 (d + 1) 215 [.ref 264, .int x1, .long x2] h = (mm_bI (mm_M mm_T0 d 214 [.ref 264, .long x2] h) (fun v2 h1 => if v2 = 0 then (some (some (.int 0), h1)) else (if (lg_cmp x2 x1.toInt64) = 0 then (some (some (.int 0), h1)) else (some (some (.int 1), h1))))) := by
  refine (mm_M_eq (ls := [.ref 264, .int x1, .long x2, .null]) rfl (Nat.le_of_ble_eq_true rfl) rfl h).trans ?_
  refine (mm_by 2 (pc' := 2) (ls' := [.ref 264, .int x1, .long x2, .null]) (st' := [.long x2, .ref 264]) (h' := h) rfl).trans ?_
  refine (mm_c1 (y := 214) (as := [.ref 264, .long x2]) (nx := 5) (rest := []) rfl rfl).trans (mm_congI fun v2 h1 => ?_)
  refine (mm_br (c := v2 = 0) (p1 := 19) (p2 := 8) (l1 := [.ref 264, .int x1, .long x2, .null]) (l2 := [.ref 264, .int x1, .long x2, .null]) (s1 := []) (s2 := []) (h1 := h1) (h2 := h1) rfl rfl).trans (mm_ite ?_ ?_)
  · exact mm_by_end 2 rfl
  · refine (mm_by 4 (pc' := 12) (ls' := [.ref 264, .int x1, .long x2, .null]) (st' := [.int (lg_cmp x2 x1.toInt64)]) (h' := h1) rfl).trans ?_
    refine (mm_br (c := (lg_cmp x2 x1.toInt64) = 0) (p1 := 19) (p2 := 15) (l1 := [.ref 264, .int x1, .long x2, .null]) (l2 := [.ref 264, .int x1, .long x2, .null]) (s1 := []) (s2 := []) (h1 := h1) (h2 := h1) rfl rfl).trans (mm_ite ?_ ?_)
    · exact mm_by_end 2 rfl
    · exact mm_by_end 3 rfl
set_option maxRecDepth 100000 in
set_option maxHeartbeats 4000000 in
theorem U_X12_areTwo {d : Nat} {x1 : Int32} {x2 : Int32} {h : mm_H} : mm_M mm_T0 (d + 1) 216 [.ref 264, .int x1, .int x2] h = (mm_bI (mm_M mm_T0 d 214 [.ref 264, .long x1.toInt64] h) (fun v2 h1 => if v2 = 0 then (some (some (.int 0), h1)) else (mm_bI (mm_M mm_T0 d 215 [.ref 264, .int x1, .long x2.toInt64] h1) (fun v4 h3 => if v4 = 0 then (some (some (.int 0), h3)) else (some (some (.int 1), h3)))))) := by
  refine (mm_M_eq (ls := [.ref 264, .int x1, .int x2]) rfl (Nat.le_of_ble_eq_true rfl) rfl h).trans ?_
  refine (mm_by 3 (pc' := 3) (ls' := [.ref 264, .int x1, .int x2]) (st' := [.long x1.toInt64, .ref 264]) (h' := h) rfl).trans ?_
  refine (mm_c1 (y := 214) (as := [.ref 264, .long x1.toInt64]) (nx := 6) (rest := []) rfl rfl).trans (mm_congI fun v2 h1 => ?_)
  refine (mm_br (c := v2 = 0) (p1 := 23) (p2 := 9) (l1 := [.ref 264, .int x1, .int x2]) (l2 := [.ref 264, .int x1, .int x2]) (s1 := []) (s2 := []) (h1 := h1) (h2 := h1) rfl rfl).trans (mm_ite ?_ ?_)
  · exact mm_by_end 2 rfl
  · refine (mm_by 4 (pc' := 13) (ls' := [.ref 264, .int x1, .int x2]) (st' := [.long x2.toInt64, .int x1, .ref 264]) (h' := h1) rfl).trans ?_
    refine (mm_c1 (y := 215) (as := [.ref 264, .int x1, .long x2.toInt64]) (nx := 16) (rest := []) rfl rfl).trans (mm_congI fun v4 h3 => ?_)
    refine (mm_br (c := v4 = 0) (p1 := 23) (p2 := 19) (l1 := [.ref 264, .int x1, .int x2]) (l2 := [.ref 264, .int x1, .int x2]) (s1 := []) (s2 := []) (h1 := h3) (h2 := h3) rfl rfl).trans (mm_ite ?_ ?_)
    · exact mm_by_end 2 rfl
    · exact mm_by_end 3 rfl
set_option maxRecDepth 100000 in
set_option maxHeartbeats 4000000 in
theorem U_X12_isHouse {d : Nat} {x1 : Int32} {h : mm_H} : mm_M mm_T0 (d + 1) 217 [.ref 264, .int x1] h = (if (h.1 264 53) = 0 then (some (some (.int 0), h)) else (mm_bI (mm_M mm_T0 d 188 [.long x1.toInt64, .long 0, .long (((h.1 264 38) - 1).toInt64)] h) (fun v2 h1 => if v2 = 0 then (some (some (.int 0), h1)) else (some (some (.int 1), h1))))) := by
  refine (mm_M_eq (ls := [.ref 264, .int x1]) rfl (Nat.le_of_ble_eq_true rfl) rfl h).trans ?_
  refine (mm_by 2 (pc' := 4) (ls' := [.ref 264, .int x1]) (st' := [.int (h.1 264 53)]) (h' := h) rfl).trans ?_
  refine (mm_br (c := (h.1 264 53) = 0) (p1 := 27) (p2 := 7) (l1 := [.ref 264, .int x1]) (l2 := [.ref 264, .int x1]) (s1 := []) (s2 := []) (h1 := h) (h2 := h) rfl rfl).trans (mm_ite ?_ ?_)
  · exact mm_by_end 2 rfl
  · refine (mm_by 8 (pc' := 17) (ls' := [.ref 264, .int x1]) (st' := [.long (((h.1 264 38) - 1).toInt64), .long 0, .long x1.toInt64]) (h' := h) rfl).trans ?_
    refine (mm_c1 (y := 188) (as := [.long x1.toInt64, .long 0, .long (((h.1 264 38) - 1).toInt64)]) (nx := 20) (rest := []) rfl rfl).trans (mm_congI fun v2 h1 => ?_)
    refine (mm_br (c := v2 = 0) (p1 := 27) (p2 := 23) (l1 := [.ref 264, .int x1]) (l2 := [.ref 264, .int x1]) (s1 := []) (s2 := []) (h1 := h1) (h2 := h1) rfl rfl).trans (mm_ite ?_ ?_)
    · exact mm_by_end 2 rfl
    · exact mm_by_end 3 rfl
set_option maxRecDepth 100000 in
set_option maxHeartbeats 4000000 in
theorem U_X12_houseOf {d : Nat} {x1 : Int32} {h : mm_H} : mm_M mm_T0 (d + 1) 218 [.ref 264, .int x1] h = (if (1 + (3 * x1)) < 0 ∨ 210 ≤ (1 + (3 * x1)).toNatClampNeg then none else (some (some (.int (h.1 300 (1 + (3 * x1)).toNatClampNeg)), h))) := by
  refine (mm_M_eq (ls := [.ref 264, .int x1]) rfl (Nat.le_of_ble_eq_true rfl) rfl h).trans ?_
  refine (mm_by 7 (pc' := 9) (ls' := [.ref 264, .int x1]) (st' := [.int (1 + (3 * x1)), .ref 300]) (h' := h) rfl).trans ?_
  refine (mm_gd (c := (1 + (3 * x1)) < 0 ∨ 210 ≤ (1 + (3 * x1)).toNatClampNeg) (p1 := 10) (l1 := [.ref 264, .int x1]) (s1 := [.int (h.1 300 (1 + (3 * x1)).toNatClampNeg)]) (h1 := h) rfl (q_iald (n := 210) rfl)).trans (mm_ite rfl ?_)
  exact mm_by_end 1 rfl
set_option maxRecDepth 100000 in
set_option maxHeartbeats 4000000 in
theorem U_X12_lookOf {d : Nat} {x1 : Int32} {h : mm_H} : mm_M mm_T0 (d + 1) 219 [.ref 264, .int x1] h = (if (2 + (3 * x1)) < 0 ∨ 210 ≤ (2 + (3 * x1)).toNatClampNeg then none else (some (some (.int (h.1 300 (2 + (3 * x1)).toNatClampNeg)), h))) := by
  refine (mm_M_eq (ls := [.ref 264, .int x1]) rfl (Nat.le_of_ble_eq_true rfl) rfl h).trans ?_
  refine (mm_by 7 (pc' := 9) (ls' := [.ref 264, .int x1]) (st' := [.int (2 + (3 * x1)), .ref 300]) (h' := h) rfl).trans ?_
  refine (mm_gd (c := (2 + (3 * x1)) < 0 ∨ 210 ≤ (2 + (3 * x1)).toNatClampNeg) (p1 := 10) (l1 := [.ref 264, .int x1]) (s1 := [.int (h.1 300 (2 + (3 * x1)).toNatClampNeg)]) (h1 := h) rfl (q_iald (n := 210) rfl)).trans (mm_ite rfl ?_)
  exact mm_by_end 1 rfl
set_option maxRecDepth 100000 in
set_option maxHeartbeats 4000000 in
theorem U_X12_doesSpare {d : Nat} {x1 : Int32} {h : mm_H} : mm_M mm_T0 (d + 1) 220 [.ref 264, .int x1] h = (if (3 + (3 * x1)) < 0 ∨ 210 ≤ (3 + (3 * x1)).toNatClampNeg then none else (if ¬ (h.1 300 (3 + (3 * x1)).toNatClampNeg) = 1 then (some (some (.int 0), h)) else (some (some (.int 1), h)))) := by
  refine (mm_M_eq (ls := [.ref 264, .int x1]) rfl (Nat.le_of_ble_eq_true rfl) rfl h).trans ?_
  refine (mm_by 7 (pc' := 9) (ls' := [.ref 264, .int x1]) (st' := [.int (3 + (3 * x1)), .ref 300]) (h' := h) rfl).trans ?_
  refine (mm_gd (c := (3 + (3 * x1)) < 0 ∨ 210 ≤ (3 + (3 * x1)).toNatClampNeg) (p1 := 10) (l1 := [.ref 264, .int x1]) (s1 := [.int (h.1 300 (3 + (3 * x1)).toNatClampNeg)]) (h1 := h) rfl (q_iald (n := 210) rfl)).trans (mm_ite rfl ?_)
  refine (mm_by 1 (pc' := 11) (ls' := [.ref 264, .int x1]) (st' := [.int 1, .int (h.1 300 (3 + (3 * x1)).toNatClampNeg)]) (h' := h) rfl).trans ?_
  refine (mm_br (c := ¬ (h.1 300 (3 + (3 * x1)).toNatClampNeg) = 1) (p1 := 18) (p2 := 14) (l1 := [.ref 264, .int x1]) (l2 := [.ref 264, .int x1]) (s1 := []) (s2 := []) (h1 := h) (h2 := h) rfl rfl).trans (mm_ite ?_ ?_)
  · exact mm_by_end 2 rfl
  · exact mm_by_end 3 rfl
set_option maxRecDepth 100000 in
set_option maxHeartbeats 4000000 in
theorem U_X12_faceOf {d : Nat} {x1 : Int32} {h : mm_H} : mm_M mm_T0 (d + 1) 221 [.ref 264, .int x1] h = (if (8 + x1) < 0 ∨ 16 ≤ (8 + x1).toNatClampNeg then none else (some (some (.int (h.1 294 (8 + x1).toNatClampNeg)), h))) := by
  refine (mm_M_eq (ls := [.ref 264, .int x1]) rfl (Nat.le_of_ble_eq_true rfl) rfl h).trans ?_
  refine (mm_by 5 (pc' := 8) (ls' := [.ref 264, .int x1]) (st' := [.int (8 + x1), .ref 294]) (h' := h) rfl).trans ?_
  refine (mm_gd (c := (8 + x1) < 0 ∨ 16 ≤ (8 + x1).toNatClampNeg) (p1 := 9) (l1 := [.ref 264, .int x1]) (s1 := [.int (h.1 294 (8 + x1).toNatClampNeg)]) (h1 := h) rfl (q_iald (n := 16) rfl)).trans (mm_ite rfl ?_)
  exact mm_by_end 1 rfl
set_option maxRecDepth 100000 in
set_option maxHeartbeats 4000000 in
theorem U_X12_kindOf {d : Nat} {x1 : Int32} {h : mm_H} : mm_M mm_T0 (d + 1) 222 [.ref 264, .int x1] h = (if (8 + x1) < 0 ∨ 16 ≤ (8 + x1).toNatClampNeg then none else (some (some (.int (h.1 295 (8 + x1).toNatClampNeg)), h))) := by
  refine (mm_M_eq (ls := [.ref 264, .int x1]) rfl (Nat.le_of_ble_eq_true rfl) rfl h).trans ?_
  refine (mm_by 5 (pc' := 8) (ls' := [.ref 264, .int x1]) (st' := [.int (8 + x1), .ref 295]) (h' := h) rfl).trans ?_
  refine (mm_gd (c := (8 + x1) < 0 ∨ 16 ≤ (8 + x1).toNatClampNeg) (p1 := 9) (l1 := [.ref 264, .int x1]) (s1 := [.int (h.1 295 (8 + x1).toNatClampNeg)]) (h1 := h) rfl (q_iald (n := 16) rfl)).trans (mm_ite rfl ?_)
  exact mm_by_end 1 rfl
set_option maxRecDepth 100000 in
set_option maxHeartbeats 4000000 in
theorem U_X12_thoughtOf {d : Nat} {x1 : Int32} {x2 : Int32} {h : mm_H} : mm_M mm_T0 (d + 1) 223 [.ref 264, .int x1, .int x2] h = (if ((25 + (8 * x1)) + x2) < 0 ∨ 210 ≤ ((25 + (8 * x1)) + x2).toNatClampNeg then none else (some (some (.int (h.1 300 ((25 + (8 * x1)) + x2).toNatClampNeg)), h))) := by
  refine (mm_M_eq (ls := [.ref 264, .int x1, .int x2]) rfl (Nat.le_of_ble_eq_true rfl) rfl h).trans ?_
  refine (mm_by 9 (pc' := 13) (ls' := [.ref 264, .int x1, .int x2]) (st' := [.int ((25 + (8 * x1)) + x2), .ref 300]) (h' := h) rfl).trans ?_
  refine (mm_gd (c := ((25 + (8 * x1)) + x2) < 0 ∨ 210 ≤ ((25 + (8 * x1)) + x2).toNatClampNeg) (p1 := 14) (l1 := [.ref 264, .int x1, .int x2]) (s1 := [.int (h.1 300 ((25 + (8 * x1)) + x2).toNatClampNeg)]) (h1 := h) rfl (q_iald (n := 210) rfl)).trans (mm_ite rfl ?_)
  exact mm_by_end 1 rfl
set_option maxRecDepth 100000 in
set_option maxHeartbeats 4000000 in
theorem U_X12_whoIn {d : Nat} {x1 : Int32} {h : mm_H} : mm_M mm_T0 (d + 1) 224 [.ref 264, .int x1] h = (mm_D (mm_M mm_T0 d) cd_X12_whoIn 2 [.ref 264, .int x1, .int 0] [] h) := by
  refine (mm_M_eq (ls := [.ref 264, .int x1, .null]) rfl (Nat.le_of_ble_eq_true rfl) rfl h).trans ?_
  exact mm_by 2 rfl
set_option maxRecDepth 100000 in
set_option maxHeartbeats 4000000 in
theorem U_X12_whoIn_2 {d : Nat} {x1 : Int32} {x2 : Int32} {h : mm_H} : mm_D (mm_M mm_T0 d) cd_X12_whoIn 2 [.ref 264, .int x1, .int x2] [] h = (if (h.1 264 40) ≤ x2 then (some (some (.int ((-1))), h)) else (mm_bI (mm_M mm_T0 d 218 [.ref 264, .int x2] h) (fun v2 h1 => if ¬ v2 = x1 then (mm_D (mm_M mm_T0 d) cd_X12_whoIn 2 [.ref 264, .int x1, .int (x2 + 1)] [] h1) else (some (some (.int x2), h1))))) := by
  refine (mm_by 3 (pc' := 7) (ls' := [.ref 264, .int x1, .int x2]) (st' := [.int (h.1 264 40), .int x2]) (h' := h) rfl).trans ?_
  refine (mm_br (c := (h.1 264 40) ≤ x2) (p1 := 27) (p2 := 10) (l1 := [.ref 264, .int x1, .int x2]) (l2 := [.ref 264, .int x1, .int x2]) (s1 := []) (s2 := []) (h1 := h) (h2 := h) rfl rfl).trans (mm_ite ?_ ?_)
  · exact mm_by_end 2 rfl
  · refine (mm_by 2 (pc' := 12) (ls' := [.ref 264, .int x1, .int x2]) (st' := [.int x2, .ref 264]) (h' := h) rfl).trans ?_
    refine (mm_c1 (y := 218) (as := [.ref 264, .int x2]) (nx := 15) (rest := []) rfl rfl).trans (mm_congI fun v2 h1 => ?_)
    refine (mm_by 1 (pc' := 16) (ls' := [.ref 264, .int x1, .int x2]) (st' := [.int x1, .int v2]) (h' := h1) rfl).trans ?_
    refine (mm_br (c := ¬ v2 = x1) (p1 := 21) (p2 := 19) (l1 := [.ref 264, .int x1, .int x2]) (l2 := [.ref 264, .int x1, .int x2]) (s1 := []) (s2 := []) (h1 := h1) (h2 := h1) rfl rfl).trans (mm_ite ?_ ?_)
    · exact mm_by 2 rfl
    · exact mm_by_end 2 rfl
set_option maxRecDepth 100000 in
set_option maxHeartbeats 4000000 in
theorem U_X12_neighbour {d : Nat} {x1 : Int32} {x2 : Int32} {h : mm_H} : mm_M mm_T0 (d + 1) 225 [.ref 264, .int x1, .int x2] h = (mm_bI (mm_M mm_T0 d 218 [.ref 264, .int x1] h) (fun v2 h1 => if ¬ x2 = 0 then (mm_bI (mm_M mm_T0 d 224 [.ref 264, .int (v2 + 1)] h1) (fun v4 h3 => some (some (.int v4), h3))) else (mm_bI (mm_M mm_T0 d 224 [.ref 264, .int (v2 + ((-1)))] h1) (fun v6 h5 => some (some (.int v6), h5))))) := by
  refine (mm_M_eq (ls := [.ref 264, .int x1, .int x2]) rfl (Nat.le_of_ble_eq_true rfl) rfl h).trans ?_
  refine (mm_by 3 (pc' := 3) (ls' := [.ref 264, .int x1, .int x2]) (st' := [.int x1, .ref 264, .ref 264]) (h' := h) rfl).trans ?_
  refine (mm_c1 (y := 218) (as := [.ref 264, .int x1]) (nx := 6) (rest := [.ref 264]) rfl rfl).trans (mm_congI fun v2 h1 => ?_)
  refine (mm_by 1 (pc' := 7) (ls' := [.ref 264, .int x1, .int x2]) (st' := [.int x2, .int v2, .ref 264]) (h' := h1) rfl).trans ?_
  refine (mm_br (c := ¬ x2 = 0) (p1 := 14) (p2 := 10) (l1 := [.ref 264, .int x1, .int x2]) (l2 := [.ref 264, .int x1, .int x2]) (s1 := [.int v2, .ref 264]) (s2 := [.int v2, .ref 264]) (h1 := h1) (h2 := h1) rfl rfl).trans (mm_ite ?_ ?_)
  · refine (mm_by 2 (pc' := 16) (ls' := [.ref 264, .int x1, .int x2]) (st' := [.int (v2 + 1), .ref 264]) (h' := h1) rfl).trans ?_
    refine (mm_c1 (y := 224) (as := [.ref 264, .int (v2 + 1)]) (nx := 19) (rest := []) rfl rfl).trans (mm_congI fun v4 h3 => ?_)
    exact mm_by_end 1 rfl
  · refine (mm_by 3 (pc' := 16) (ls' := [.ref 264, .int x1, .int x2]) (st' := [.int (v2 + ((-1))), .ref 264]) (h' := h1) rfl).trans ?_
    refine (mm_c1 (y := 224) (as := [.ref 264, .int (v2 + ((-1)))]) (nx := 19) (rest := []) rfl rfl).trans (mm_congI fun v6 h5 => ?_)
    exact mm_by_end 1 rfl
set_option maxRecDepth 100000 in
set_option maxHeartbeats 4000000 in
theorem U_X12_codesTell {d : Nat} {x1 : Int32} {h : mm_H} : mm_M mm_T0 (d + 1) 226 [.ref 264, .int x1] h = (if (3 + x1) < 0 ∨ 6 ≤ (3 + x1).toNatClampNeg then none else (mm_D (mm_M mm_T0 d) cd_X12_codesTell 19 [.ref 264, .int x1, .int ((wI (wI h 264 54 x1) 264 108 0).1 297 (3 + x1).toNatClampNeg), .null] [] (wI (wI h 264 54 x1) 264 108 0))) := by
  refine (mm_M_eq (ls := [.ref 264, .int x1, .null, .null]) rfl (Nat.le_of_ble_eq_true rfl) rfl h).trans ?_
  refine (mm_by 11 (pc' := 17) (ls' := [.ref 264, .int x1, .null, .null]) (st' := [.int (3 + x1), .ref 297]) (h' := wI (wI h 264 54 x1) 264 108 0) rfl).trans ?_
  refine (mm_gd (c := (3 + x1) < 0 ∨ 6 ≤ (3 + x1).toNatClampNeg) (p1 := 18) (l1 := [.ref 264, .int x1, .null, .null]) (s1 := [.int ((wI (wI h 264 54 x1) 264 108 0).1 297 (3 + x1).toNatClampNeg)]) (h1 := wI (wI h 264 54 x1) 264 108 0) rfl (q_iald (n := 6) rfl)).trans (mm_ite rfl ?_)
  exact mm_by 1 rfl
set_option maxRecDepth 100000 in
set_option maxHeartbeats 4000000 in
theorem U_X12_codesTell_19 {d : Nat} {x1 : Int32} {x2 : Int32} {h : mm_H} : mm_D (mm_M mm_T0 d) cd_X12_codesTell 19 [.ref 264, .int x1, .int x2, .null] [] h = (if (3 + x1) < 0 ∨ 6 ≤ (3 + x1).toNatClampNeg then none else (if (h.1 298 (3 + x1).toNatClampNeg) ≤ x2 then (some (some (.long (h.2.1 334 0)), h)) else (if (1600 + x2) < 0 ∨ 3200 ≤ (1600 + x2).toNatClampNeg then none else (if (h.1 299 (1600 + x2).toNatClampNeg) < 1000 then (if (h.1 299 (1600 + x2).toNatClampNeg) < 40 then (if ¬ (h.1 299 (1600 + x2).toNatClampNeg) = 13 then (if ¬ (h.1 299 (1600 + x2).toNatClampNeg) = 12 then (mm_bV (mm_M mm_T0 d 307 [.ref 264, .int (h.1 299 (1600 + x2).toNatClampNeg)] h) (fun h1 => mm_D (mm_M mm_T0 d) cd_X12_codesTell 19 [.ref 264, .int x1, .int (x2 + 1), .null] [] h1)) else (if ((h.1 264 108) - 1) < 0 ∨ 1700 ≤ ((h.1 264 108) - 1).toNatClampNeg then none else (if ((h.1 264 108) - 1) < 0 ∨ 1700 ≤ ((h.1 264 108) - 1).toNatClampNeg then none else (mm_D (mm_M mm_T0 d) cd_X12_codesTell 19 [.ref 264, .int x1, .int (x2 + 1), .null] [] (wL h 334 (((h.1 264 108) - 1).toNatClampNeg) (1 - (h.2.1 334 ((h.1 264 108) - 1).toNatClampNeg))))))) else (mm_bV (mm_M mm_T0 d 306 [.ref 264, .long 1] h) (fun h2 => mm_D (mm_M mm_T0 d) cd_X12_codesTell 19 [.ref 264, .int x1, .int (x2 + 1), .null] [] h2))) else (mm_bL (mm_M mm_T0 d 308 [.ref 264, .int ((h.1 299 (1600 + x2).toNatClampNeg) - 40), .int 0] h) (fun v4 h3 => mm_bV (mm_M mm_T0 d 306 [.ref 264, .long v4] h3) (fun h5 => mm_D (mm_M mm_T0 d) cd_X12_codesTell 19 [.ref 264, .int x1, .int (x2 + 1), .null] [] h5)))) else (mm_bV (mm_M mm_T0 d 306 [.ref 264, .long (((h.1 299 (1600 + x2).toNatClampNeg) - 1000).toInt64)] h) (fun h6 => mm_D (mm_M mm_T0 d) cd_X12_codesTell 19 [.ref 264, .int x1, .int (x2 + 1), .null] [] h6)))))) := by
  refine (mm_by 6 (pc' := 27) (ls' := [.ref 264, .int x1, .int x2, .null]) (st' := [.int (3 + x1), .ref 298, .int x2]) (h' := h) rfl).trans ?_
  refine (mm_gd (c := (3 + x1) < 0 ∨ 6 ≤ (3 + x1).toNatClampNeg) (p1 := 28) (l1 := [.ref 264, .int x1, .int x2, .null]) (s1 := [.int (h.1 298 (3 + x1).toNatClampNeg), .int x2]) (h1 := h) rfl (q_iald (n := 6) rfl)).trans (mm_ite rfl ?_)
  refine (mm_br (c := (h.1 298 (3 + x1).toNatClampNeg) ≤ x2) (p1 := 142) (p2 := 31) (l1 := [.ref 264, .int x1, .int x2, .null]) (l2 := [.ref 264, .int x1, .int x2, .null]) (s1 := []) (s2 := []) (h1 := h) (h2 := h) rfl rfl).trans (mm_ite ?_ ?_)
  · exact mm_by_end 5 rfl
  · refine (mm_by 5 (pc' := 40) (ls' := [.ref 264, .int x1, .int x2, .null]) (st' := [.int (1600 + x2), .ref 299]) (h' := h) rfl).trans ?_
    refine (mm_gd (c := (1600 + x2) < 0 ∨ 3200 ≤ (1600 + x2).toNatClampNeg) (p1 := 41) (l1 := [.ref 264, .int x1, .int x2, .null]) (s1 := [.int (h.1 299 (1600 + x2).toNatClampNeg)]) (h1 := h) rfl (q_iald (n := 3200) rfl)).trans (mm_ite rfl ?_)
    refine (mm_by 3 (pc' := 46) (ls' := [.ref 264, .int x1, .int x2, .int (h.1 299 (1600 + x2).toNatClampNeg)]) (st' := [.int 1000, .int (h.1 299 (1600 + x2).toNatClampNeg)]) (h' := h) rfl).trans ?_
    refine (mm_br (c := (h.1 299 (1600 + x2).toNatClampNeg) < 1000) (p1 := 62) (p2 := 49) (l1 := [.ref 264, .int x1, .int x2, .int (h.1 299 (1600 + x2).toNatClampNeg)]) (l2 := [.ref 264, .int x1, .int x2, .int (h.1 299 (1600 + x2).toNatClampNeg)]) (s1 := []) (s2 := []) (h1 := h) (h2 := h) rfl rfl).trans (mm_ite ?_ ?_)
    · refine (mm_by 2 (pc' := 65) (ls' := [.ref 264, .int x1, .int x2, .int (h.1 299 (1600 + x2).toNatClampNeg)]) (st' := [.int 40, .int (h.1 299 (1600 + x2).toNatClampNeg)]) (h' := h) rfl).trans ?_
      refine (mm_br (c := (h.1 299 (1600 + x2).toNatClampNeg) < 40) (p1 := 84) (p2 := 68) (l1 := [.ref 264, .int x1, .int x2, .int (h.1 299 (1600 + x2).toNatClampNeg)]) (l2 := [.ref 264, .int x1, .int x2, .int (h.1 299 (1600 + x2).toNatClampNeg)]) (s1 := []) (s2 := []) (h1 := h) (h2 := h) rfl rfl).trans (mm_ite ?_ ?_)
      · refine (mm_by 2 (pc' := 87) (ls' := [.ref 264, .int x1, .int x2, .int (h.1 299 (1600 + x2).toNatClampNeg)]) (st' := [.int 13, .int (h.1 299 (1600 + x2).toNatClampNeg)]) (h' := h) rfl).trans ?_
        refine (mm_br (c := ¬ (h.1 299 (1600 + x2).toNatClampNeg) = 13) (p1 := 98) (p2 := 90) (l1 := [.ref 264, .int x1, .int x2, .int (h.1 299 (1600 + x2).toNatClampNeg)]) (l2 := [.ref 264, .int x1, .int x2, .int (h.1 299 (1600 + x2).toNatClampNeg)]) (s1 := []) (s2 := []) (h1 := h) (h2 := h) rfl rfl).trans (mm_ite ?_ ?_)
        · refine (mm_by 2 (pc' := 101) (ls' := [.ref 264, .int x1, .int x2, .int (h.1 299 (1600 + x2).toNatClampNeg)]) (st' := [.int 12, .int (h.1 299 (1600 + x2).toNatClampNeg)]) (h' := h) rfl).trans ?_
          refine (mm_br (c := ¬ (h.1 299 (1600 + x2).toNatClampNeg) = 12) (p1 := 131) (p2 := 104) (l1 := [.ref 264, .int x1, .int x2, .int (h.1 299 (1600 + x2).toNatClampNeg)]) (l2 := [.ref 264, .int x1, .int x2, .int (h.1 299 (1600 + x2).toNatClampNeg)]) (s1 := []) (s2 := []) (h1 := h) (h2 := h) rfl rfl).trans (mm_ite ?_ ?_)
          · refine (mm_by 2 (pc' := 133) (ls' := [.ref 264, .int x1, .int x2, .int (h.1 299 (1600 + x2).toNatClampNeg)]) (st' := [.int (h.1 299 (1600 + x2).toNatClampNeg), .ref 264]) (h' := h) rfl).trans ?_
            refine (mm_c0 (y := 307) (as := [.ref 264, .int (h.1 299 (1600 + x2).toNatClampNeg)]) (nx := 136) (rest := []) rfl rfl).trans (mm_congV fun h1 => ?_)
            exact mm_by 2 rfl
          · refine (mm_by 13 (pc' := 125) (ls' := [.ref 264, .int x1, .int x2, .int (h.1 299 (1600 + x2).toNatClampNeg)]) (st' := [.int ((h.1 264 108) - 1), .ref 334, .long 1, .int ((h.1 264 108) - 1), .ref 334]) (h' := h) rfl).trans ?_
            refine (mm_gd (c := ((h.1 264 108) - 1) < 0 ∨ 1700 ≤ ((h.1 264 108) - 1).toNatClampNeg) (p1 := 126) (l1 := [.ref 264, .int x1, .int x2, .int (h.1 299 (1600 + x2).toNatClampNeg)]) (s1 := [.long (h.2.1 334 ((h.1 264 108) - 1).toNatClampNeg), .long 1, .int ((h.1 264 108) - 1), .ref 334]) (h1 := h) rfl (q_lald (n := 1700) rfl)).trans (mm_ite rfl ?_)
            refine (mm_by 1 (pc' := 127) (ls' := [.ref 264, .int x1, .int x2, .int (h.1 299 (1600 + x2).toNatClampNeg)]) (st' := [.long (1 - (h.2.1 334 ((h.1 264 108) - 1).toNatClampNeg)), .int ((h.1 264 108) - 1), .ref 334]) (h' := h) rfl).trans ?_
            refine (mm_gd (c := ((h.1 264 108) - 1) < 0 ∨ 1700 ≤ ((h.1 264 108) - 1).toNatClampNeg) (p1 := 128) (l1 := [.ref 264, .int x1, .int x2, .int (h.1 299 (1600 + x2).toNatClampNeg)]) (s1 := []) (h1 := wL h 334 (((h.1 264 108) - 1).toNatClampNeg) (1 - (h.2.1 334 ((h.1 264 108) - 1).toNatClampNeg))) rfl (q_last (n := 1700) rfl)).trans (mm_ite rfl ?_)
            exact mm_by 3 rfl
        · refine (mm_by 2 (pc' := 92) (ls' := [.ref 264, .int x1, .int x2, .int (h.1 299 (1600 + x2).toNatClampNeg)]) (st' := [.long 1, .ref 264]) (h' := h) rfl).trans ?_
          refine (mm_c0 (y := 306) (as := [.ref 264, .long 1]) (nx := 95) (rest := []) rfl rfl).trans (mm_congV fun h2 => ?_)
          exact mm_by 3 rfl
      · refine (mm_by 6 (pc' := 75) (ls' := [.ref 264, .int x1, .int x2, .int (h.1 299 (1600 + x2).toNatClampNeg)]) (st' := [.int 0, .int ((h.1 299 (1600 + x2).toNatClampNeg) - 40), .ref 264, .ref 264]) (h' := h) rfl).trans ?_
        refine (mm_c2 (y := 308) (as := [.ref 264, .int ((h.1 299 (1600 + x2).toNatClampNeg) - 40), .int 0]) (nx := 78) (rest := [.ref 264]) rfl rfl).trans (mm_congL fun v4 h3 => ?_)
        refine (mm_c0 (y := 306) (as := [.ref 264, .long v4]) (nx := 81) (rest := []) rfl rfl).trans (mm_congV fun h5 => ?_)
        exact mm_by 3 rfl
    · refine (mm_by 5 (pc' := 56) (ls' := [.ref 264, .int x1, .int x2, .int (h.1 299 (1600 + x2).toNatClampNeg)]) (st' := [.long (((h.1 299 (1600 + x2).toNatClampNeg) - 1000).toInt64), .ref 264]) (h' := h) rfl).trans ?_
      refine (mm_c0 (y := 306) (as := [.ref 264, .long (((h.1 299 (1600 + x2).toNatClampNeg) - 1000).toInt64)]) (nx := 59) (rest := []) rfl rfl).trans (mm_congV fun h6 => ?_)
      exact mm_by 3 rfl
set_option maxRecDepth 100000 in
set_option maxHeartbeats 4000000 in
theorem U_X12_cut {d : Nat} {x0 : Int64} {x2 : Int32} {h : mm_H} : mm_M mm_T0 (d + 1) 227 [.long x0, .int x2] h = (if 0 ≤ (lg_cmp x0 0) then (if (lg_cmp x0 x2.toInt64) ≤ 0 then (some (some (.int x0.toInt32), h)) else (some (some (.int x2), h))) else (some (some (.int 0), h))) := by
  refine (mm_M_eq (ls := [.long x0, .null, .int x2]) rfl (Nat.le_of_ble_eq_true rfl) rfl h).trans ?_
  refine (mm_by 3 (pc' := 3) (ls' := [.long x0, .null, .int x2]) (st' := [.int (lg_cmp x0 0)]) (h' := h) rfl).trans ?_
  refine (mm_br (c := 0 ≤ (lg_cmp x0 0)) (p1 := 10) (p2 := 6) (l1 := [.long x0, .null, .int x2]) (l2 := [.long x0, .null, .int x2]) (s1 := []) (s2 := []) (h1 := h) (h2 := h) rfl rfl).trans (mm_ite ?_ ?_)
  · refine (mm_by 4 (pc' := 14) (ls' := [.long x0, .null, .int x2]) (st' := [.int (lg_cmp x0 x2.toInt64)]) (h' := h) rfl).trans ?_
    refine (mm_br (c := (lg_cmp x0 x2.toInt64) ≤ 0) (p1 := 21) (p2 := 17) (l1 := [.long x0, .null, .int x2]) (l2 := [.long x0, .null, .int x2]) (s1 := []) (s2 := []) (h1 := h) (h2 := h) rfl rfl).trans (mm_ite ?_ ?_)
    · exact mm_by_end 3 rfl
    · exact mm_by_end 3 rfl
  · exact mm_by_end 3 rfl
set_option maxRecDepth 100000 in
set_option maxHeartbeats 4000000 in
theorem U_X12_painted {d : Nat} {x1 : Int32} {x2 : Int32} {x3 : Int32} {h : mm_H} : mm_M mm_T0 (d + 1) 228 [.ref 264, .int x1, .int x2, .int x3] h = (if ¬ (h.1 297 3) = ((-1)) then (mm_bI (mm_M mm_T0 d 221 [.ref 264, .int x1] h) (fun v2 h1 => mm_bI (mm_M mm_T0 d 222 [.ref 264, .int x2] (wI h1 264 57 v2)) (fun v4 h3 => mm_bI (mm_M mm_T0 d 223 [.ref 264, .int x2, .int x1] (wI h3 264 58 v4)) (fun v6 h5 => mm_bI (mm_M mm_T0 d 219 [.ref 264, .int x1] (wI h5 264 59 v6)) (fun v8 h7 => mm_bL (mm_M mm_T0 d 226 [.ref 264, .int 0] (wI (wI h7 264 60 v8) 264 61 x3)) (fun v10 h9 => mm_bI (mm_M mm_T0 d 227 [.long v10, .int 99] h9) (fun v12 h11 => some (some (.int v12), h11)))))))) else (mm_bI (mm_M mm_T0 d 219 [.ref 264, .int x1] h) (fun v14 h13 => some (some (.int v14), h13)))) := by
  refine (mm_M_eq (ls := [.ref 264, .int x1, .int x2, .int x3]) rfl (Nat.le_of_ble_eq_true rfl) rfl h).trans ?_
  refine (mm_by 5 (pc' := 7) (ls' := [.ref 264, .int x1, .int x2, .int x3]) (st' := [.int ((-1)), .int (h.1 297 3)]) (h' := h) rfl).trans ?_
  refine (mm_br (c := ¬ (h.1 297 3) = ((-1))) (p1 := 16) (p2 := 10) (l1 := [.ref 264, .int x1, .int x2, .int x3]) (l2 := [.ref 264, .int x1, .int x2, .int x3]) (s1 := []) (s2 := []) (h1 := h) (h2 := h) rfl rfl).trans (mm_ite ?_ ?_)
  · refine (mm_by 3 (pc' := 19) (ls' := [.ref 264, .int x1, .int x2, .int x3]) (st' := [.int x1, .ref 264, .ref 264]) (h' := h) rfl).trans ?_
    refine (mm_c1 (y := 221) (as := [.ref 264, .int x1]) (nx := 22) (rest := [.ref 264]) rfl rfl).trans (mm_congI fun v2 h1 => ?_)
    refine (mm_by 4 (pc' := 28) (ls' := [.ref 264, .int x1, .int x2, .int x3]) (st' := [.int x2, .ref 264, .ref 264]) (h' := wI h1 264 57 v2) rfl).trans ?_
    refine (mm_c1 (y := 222) (as := [.ref 264, .int x2]) (nx := 31) (rest := [.ref 264]) rfl rfl).trans (mm_congI fun v4 h3 => ?_)
    refine (mm_by 5 (pc' := 38) (ls' := [.ref 264, .int x1, .int x2, .int x3]) (st' := [.int x1, .int x2, .ref 264, .ref 264]) (h' := wI h3 264 58 v4) rfl).trans ?_
    refine (mm_c1 (y := 223) (as := [.ref 264, .int x2, .int x1]) (nx := 41) (rest := [.ref 264]) rfl rfl).trans (mm_congI fun v6 h5 => ?_)
    refine (mm_by 4 (pc' := 47) (ls' := [.ref 264, .int x1, .int x2, .int x3]) (st' := [.int x1, .ref 264, .ref 264]) (h' := wI h5 264 59 v6) rfl).trans ?_
    refine (mm_c1 (y := 219) (as := [.ref 264, .int x1]) (nx := 50) (rest := [.ref 264]) rfl rfl).trans (mm_congI fun v8 h7 => ?_)
    refine (mm_by 6 (pc' := 60) (ls' := [.ref 264, .int x1, .int x2, .int x3]) (st' := [.int 0, .ref 264]) (h' := wI (wI h7 264 60 v8) 264 61 x3) rfl).trans ?_
    refine (mm_c2 (y := 226) (as := [.ref 264, .int 0]) (nx := 63) (rest := []) rfl rfl).trans (mm_congL fun v10 h9 => ?_)
    refine (mm_by 1 (pc' := 65) (ls' := [.ref 264, .int x1, .int x2, .int x3]) (st' := [.int 99, .long v10]) (h' := h9) rfl).trans ?_
    refine (mm_c1 (y := 227) (as := [.long v10, .int 99]) (nx := 68) (rest := []) rfl rfl).trans (mm_congI fun v12 h11 => ?_)
    exact mm_by_end 1 rfl
  · refine (mm_by 2 (pc' := 12) (ls' := [.ref 264, .int x1, .int x2, .int x3]) (st' := [.int x1, .ref 264]) (h' := h) rfl).trans ?_
    refine (mm_c1 (y := 219) (as := [.ref 264, .int x1]) (nx := 15) (rest := []) rfl rfl).trans (mm_congI fun v14 h13 => ?_)
    exact mm_by_end 1 rfl
set_option maxRecDepth 100000 in
set_option maxHeartbeats 4000000 in
theorem U_X12_minded {d : Nat} {x1 : Int32} {x2 : Int32} {x3 : Int32} {h : mm_H} : mm_M mm_T0 (d + 1) 229 [.ref 264, .int x1, .int x2, .int x3] h = (if ¬ (h.1 297 4) = ((-1)) then (mm_bI (mm_M mm_T0 d 221 [.ref 264, .int x2] h) (fun v2 h1 => mm_bI (mm_M mm_T0 d 222 [.ref 264, .int x1] (wI h1 264 57 v2)) (fun v4 h3 => mm_bI (mm_M mm_T0 d 223 [.ref 264, .int x1, .int x2] (wI h3 264 58 v4)) (fun v6 h5 => mm_bL (mm_M mm_T0 d 226 [.ref 264, .int 1] (wI (wI h5 264 59 v6) 264 62 x3)) (fun v8 h7 => mm_bI (mm_M mm_T0 d 227 [.long v8, .int 9] h7) (fun v10 h9 => some (some (.int v10), h9))))))) else (mm_bI (mm_M mm_T0 d 223 [.ref 264, .int x1, .int x2] h) (fun v12 h11 => some (some (.int v12), h11)))) := by
  refine (mm_M_eq (ls := [.ref 264, .int x1, .int x2, .int x3]) rfl (Nat.le_of_ble_eq_true rfl) rfl h).trans ?_
  refine (mm_by 5 (pc' := 7) (ls' := [.ref 264, .int x1, .int x2, .int x3]) (st' := [.int ((-1)), .int (h.1 297 4)]) (h' := h) rfl).trans ?_
  refine (mm_br (c := ¬ (h.1 297 4) = ((-1))) (p1 := 17) (p2 := 10) (l1 := [.ref 264, .int x1, .int x2, .int x3]) (l2 := [.ref 264, .int x1, .int x2, .int x3]) (s1 := []) (s2 := []) (h1 := h) (h2 := h) rfl rfl).trans (mm_ite ?_ ?_)
  · refine (mm_by 3 (pc' := 20) (ls' := [.ref 264, .int x1, .int x2, .int x3]) (st' := [.int x2, .ref 264, .ref 264]) (h' := h) rfl).trans ?_
    refine (mm_c1 (y := 221) (as := [.ref 264, .int x2]) (nx := 23) (rest := [.ref 264]) rfl rfl).trans (mm_congI fun v2 h1 => ?_)
    refine (mm_by 4 (pc' := 29) (ls' := [.ref 264, .int x1, .int x2, .int x3]) (st' := [.int x1, .ref 264, .ref 264]) (h' := wI h1 264 57 v2) rfl).trans ?_
    refine (mm_c1 (y := 222) (as := [.ref 264, .int x1]) (nx := 32) (rest := [.ref 264]) rfl rfl).trans (mm_congI fun v4 h3 => ?_)
    refine (mm_by 5 (pc' := 39) (ls' := [.ref 264, .int x1, .int x2, .int x3]) (st' := [.int x2, .int x1, .ref 264, .ref 264]) (h' := wI h3 264 58 v4) rfl).trans ?_
    refine (mm_c1 (y := 223) (as := [.ref 264, .int x1, .int x2]) (nx := 42) (rest := [.ref 264]) rfl rfl).trans (mm_congI fun v6 h5 => ?_)
    refine (mm_by 6 (pc' := 52) (ls' := [.ref 264, .int x1, .int x2, .int x3]) (st' := [.int 1, .ref 264]) (h' := wI (wI h5 264 59 v6) 264 62 x3) rfl).trans ?_
    refine (mm_c2 (y := 226) (as := [.ref 264, .int 1]) (nx := 55) (rest := []) rfl rfl).trans (mm_congL fun v8 h7 => ?_)
    refine (mm_by 1 (pc' := 57) (ls' := [.ref 264, .int x1, .int x2, .int x3]) (st' := [.int 9, .long v8]) (h' := h7) rfl).trans ?_
    refine (mm_c1 (y := 227) (as := [.long v8, .int 9]) (nx := 60) (rest := []) rfl rfl).trans (mm_congI fun v10 h9 => ?_)
    exact mm_by_end 1 rfl
  · refine (mm_by 3 (pc' := 13) (ls' := [.ref 264, .int x1, .int x2, .int x3]) (st' := [.int x2, .int x1, .ref 264]) (h' := h) rfl).trans ?_
    refine (mm_c1 (y := 223) (as := [.ref 264, .int x1, .int x2]) (nx := 16) (rest := []) rfl rfl).trans (mm_congI fun v12 h11 => ?_)
    exact mm_by_end 1 rfl
set_option maxRecDepth 100000 in
set_option maxHeartbeats 4000000 in
theorem U_X12_isFeud {d : Nat} {x1 : Int32} {x2 : Int32} {h : mm_H} : mm_M mm_T0 (d + 1) 230 [.ref 264, .int x1, .int x2] h = (if ¬ (h.1 297 5) = ((-1)) then (mm_bI (mm_M mm_T0 d 221 [.ref 264, .int x2] h) (fun v2 h1 => mm_bI (mm_M mm_T0 d 222 [.ref 264, .int x1] (wI h1 264 57 v2)) (fun v4 h3 => mm_bI (mm_M mm_T0 d 223 [.ref 264, .int x1, .int x2] (wI h3 264 58 v4)) (fun v6 h5 => mm_bI (mm_M mm_T0 d 223 [.ref 264, .int x2, .int x1] (wI h5 264 59 v6)) (fun v8 h7 => mm_bL (mm_M mm_T0 d 226 [.ref 264, .int 2] (wI h7 264 63 v8)) (fun v10 h9 => if ¬ (lg_cmp v10 1) = 0 then (some (some (.int 0), h9)) else (some (some (.int 1), h9)))))))) else (mm_bI (mm_M mm_T0 d 223 [.ref 264, .int x1, .int x2] h) (fun v12 h11 => mm_bI (mm_M mm_T0 d 223 [.ref 264, .int x2, .int x1] h11) (fun v14 h13 => if 6 ≤ (v12 + v14) then (some (some (.int 0), h13)) else (some (some (.int 1), h13)))))) := by
  refine (mm_M_eq (ls := [.ref 264, .int x1, .int x2]) rfl (Nat.le_of_ble_eq_true rfl) rfl h).trans ?_
  refine (mm_by 5 (pc' := 7) (ls' := [.ref 264, .int x1, .int x2]) (st' := [.int ((-1)), .int (h.1 297 5)]) (h' := h) rfl).trans ?_
  refine (mm_br (c := ¬ (h.1 297 5) = ((-1))) (p1 := 34) (p2 := 10) (l1 := [.ref 264, .int x1, .int x2]) (l2 := [.ref 264, .int x1, .int x2]) (s1 := []) (s2 := []) (h1 := h) (h2 := h) rfl rfl).trans (mm_ite ?_ ?_)
  · refine (mm_by 3 (pc' := 37) (ls' := [.ref 264, .int x1, .int x2]) (st' := [.int x2, .ref 264, .ref 264]) (h' := h) rfl).trans ?_
    refine (mm_c1 (y := 221) (as := [.ref 264, .int x2]) (nx := 40) (rest := [.ref 264]) rfl rfl).trans (mm_congI fun v2 h1 => ?_)
    refine (mm_by 4 (pc' := 46) (ls' := [.ref 264, .int x1, .int x2]) (st' := [.int x1, .ref 264, .ref 264]) (h' := wI h1 264 57 v2) rfl).trans ?_
    refine (mm_c1 (y := 222) (as := [.ref 264, .int x1]) (nx := 49) (rest := [.ref 264]) rfl rfl).trans (mm_congI fun v4 h3 => ?_)
    refine (mm_by 5 (pc' := 56) (ls' := [.ref 264, .int x1, .int x2]) (st' := [.int x2, .int x1, .ref 264, .ref 264]) (h' := wI h3 264 58 v4) rfl).trans ?_
    refine (mm_c1 (y := 223) (as := [.ref 264, .int x1, .int x2]) (nx := 59) (rest := [.ref 264]) rfl rfl).trans (mm_congI fun v6 h5 => ?_)
    refine (mm_by 5 (pc' := 66) (ls' := [.ref 264, .int x1, .int x2]) (st' := [.int x1, .int x2, .ref 264, .ref 264]) (h' := wI h5 264 59 v6) rfl).trans ?_
    refine (mm_c1 (y := 223) (as := [.ref 264, .int x2, .int x1]) (nx := 69) (rest := [.ref 264]) rfl rfl).trans (mm_congI fun v8 h7 => ?_)
    refine (mm_by 3 (pc' := 74) (ls' := [.ref 264, .int x1, .int x2]) (st' := [.int 2, .ref 264]) (h' := wI h7 264 63 v8) rfl).trans ?_
    refine (mm_c2 (y := 226) (as := [.ref 264, .int 2]) (nx := 77) (rest := []) rfl rfl).trans (mm_congL fun v10 h9 => ?_)
    refine (mm_by 2 (pc' := 79) (ls' := [.ref 264, .int x1, .int x2]) (st' := [.int (lg_cmp v10 1)]) (h' := h9) rfl).trans ?_
    refine (mm_br (c := ¬ (lg_cmp v10 1) = 0) (p1 := 86) (p2 := 82) (l1 := [.ref 264, .int x1, .int x2]) (l2 := [.ref 264, .int x1, .int x2]) (s1 := []) (s2 := []) (h1 := h9) (h2 := h9) rfl rfl).trans (mm_ite ?_ ?_)
    · exact mm_by_end 2 rfl
    · exact mm_by_end 3 rfl
  · refine (mm_by 3 (pc' := 13) (ls' := [.ref 264, .int x1, .int x2]) (st' := [.int x2, .int x1, .ref 264]) (h' := h) rfl).trans ?_
    refine (mm_c1 (y := 223) (as := [.ref 264, .int x1, .int x2]) (nx := 16) (rest := []) rfl rfl).trans (mm_congI fun v12 h11 => ?_)
    refine (mm_by 3 (pc' := 19) (ls' := [.ref 264, .int x1, .int x2]) (st' := [.int x1, .int x2, .ref 264, .int v12]) (h' := h11) rfl).trans ?_
    refine (mm_c1 (y := 223) (as := [.ref 264, .int x2, .int x1]) (nx := 22) (rest := [.int v12]) rfl rfl).trans (mm_congI fun v14 h13 => ?_)
    refine (mm_by 2 (pc' := 25) (ls' := [.ref 264, .int x1, .int x2]) (st' := [.int 6, .int (v12 + v14)]) (h' := h13) rfl).trans ?_
    refine (mm_br (c := 6 ≤ (v12 + v14)) (p1 := 32) (p2 := 28) (l1 := [.ref 264, .int x1, .int x2]) (l2 := [.ref 264, .int x1, .int x2]) (s1 := []) (s2 := []) (h1 := h13) (h2 := h13) rfl rfl).trans (mm_ite ?_ ?_)
    · exact mm_by_end 2 rfl
    · exact mm_by_end 3 rfl
set_option maxRecDepth 100000 in
set_option maxHeartbeats 4000000 in
theorem U_X12_isKept {d : Nat} {x1 : Int32} {x2 : Int32} {h : mm_H} : mm_M mm_T0 (d + 1) 231 [.ref 264, .int x1, .int x2] h = (if (h.1 264 64) = 0 then (if ¬ (h.1 300 89) = 40 then (if ((90 + (3 * ((wI h 300 89 ((h.1 300 89) + 1)).1 300 89))) - 3) < 0 ∨ 210 ≤ ((90 + (3 * ((wI h 300 89 ((h.1 300 89) + 1)).1 300 89))) - 3).toNatClampNeg then none else (if (((90 + (3 * ((wI h 300 89 ((h.1 300 89) + 1)).1 300 89))) - 3) + 1) < 0 ∨ 210 ≤ (((90 + (3 * ((wI h 300 89 ((h.1 300 89) + 1)).1 300 89))) - 3) + 1).toNatClampNeg then none else (if (((90 + (3 * ((wI h 300 89 ((h.1 300 89) + 1)).1 300 89))) - 3) + 2) < 0 ∨ 210 ≤ (((90 + (3 * ((wI h 300 89 ((h.1 300 89) + 1)).1 300 89))) - 3) + 2).toNatClampNeg then none else (some (none, wI (wI (wI (wI h 300 89 ((h.1 300 89) + 1)) 300 (((90 + (3 * ((wI h 300 89 ((h.1 300 89) + 1)).1 300 89))) - 3).toNatClampNeg) ((wI h 300 89 ((h.1 300 89) + 1)).1 300 0)) 300 ((((90 + (3 * ((wI h 300 89 ((h.1 300 89) + 1)).1 300 89))) - 3) + 1).toNatClampNeg) x1) 300 ((((90 + (3 * ((wI h 300 89 ((h.1 300 89) + 1)).1 300 89))) - 3) + 2).toNatClampNeg) x2))))) else (mm_D (mm_M mm_T0 d) cd_X12_isKept 23 [.ref 264, .int x1, .int x2, .int 90] [] h)) else (some (none, h))) := by
  refine (mm_M_eq (ls := [.ref 264, .int x1, .int x2, .null]) rfl (Nat.le_of_ble_eq_true rfl) rfl h).trans ?_
  refine (mm_by 2 (pc' := 4) (ls' := [.ref 264, .int x1, .int x2, .null]) (st' := [.int (h.1 264 64)]) (h' := h) rfl).trans ?_
  refine (mm_br (c := (h.1 264 64) = 0) (p1 := 8) (p2 := 7) (l1 := [.ref 264, .int x1, .int x2, .null]) (l2 := [.ref 264, .int x1, .int x2, .null]) (s1 := []) (s2 := []) (h1 := h) (h2 := h) rfl rfl).trans (mm_ite ?_ ?_)
  · refine (mm_by 5 (pc' := 17) (ls' := [.ref 264, .int x1, .int x2, .null]) (st' := [.int 40, .int (h.1 300 89)]) (h' := h) rfl).trans ?_
    refine (mm_br (c := ¬ (h.1 300 89) = 40) (p1 := 53) (p2 := 20) (l1 := [.ref 264, .int x1, .int x2, .null]) (l2 := [.ref 264, .int x1, .int x2, .null]) (s1 := []) (s2 := []) (h1 := h) (h2 := h) rfl rfl).trans (mm_ite ?_ ?_)
    · refine (mm_by 26 (pc' := 90) (ls' := [.ref 264, .int x1, .int x2, .int ((90 + (3 * ((wI h 300 89 ((h.1 300 89) + 1)).1 300 89))) - 3)]) (st' := [.int ((wI h 300 89 ((h.1 300 89) + 1)).1 300 0), .int ((90 + (3 * ((wI h 300 89 ((h.1 300 89) + 1)).1 300 89))) - 3), .ref 300]) (h' := wI h 300 89 ((h.1 300 89) + 1)) rfl).trans ?_
      refine (mm_gd (c := ((90 + (3 * ((wI h 300 89 ((h.1 300 89) + 1)).1 300 89))) - 3) < 0 ∨ 210 ≤ ((90 + (3 * ((wI h 300 89 ((h.1 300 89) + 1)).1 300 89))) - 3).toNatClampNeg) (p1 := 91) (l1 := [.ref 264, .int x1, .int x2, .int ((90 + (3 * ((wI h 300 89 ((h.1 300 89) + 1)).1 300 89))) - 3)]) (s1 := []) (h1 := wI (wI h 300 89 ((h.1 300 89) + 1)) 300 (((90 + (3 * ((wI h 300 89 ((h.1 300 89) + 1)).1 300 89))) - 3).toNatClampNeg) ((wI h 300 89 ((h.1 300 89) + 1)).1 300 0)) rfl (q_iast (n := 210) rfl)).trans (mm_ite rfl ?_)
      refine (mm_by 6 (pc' := 99) (ls' := [.ref 264, .int x1, .int x2, .int ((90 + (3 * ((wI h 300 89 ((h.1 300 89) + 1)).1 300 89))) - 3)]) (st' := [.int x1, .int (((90 + (3 * ((wI h 300 89 ((h.1 300 89) + 1)).1 300 89))) - 3) + 1), .ref 300]) (h' := wI (wI h 300 89 ((h.1 300 89) + 1)) 300 (((90 + (3 * ((wI h 300 89 ((h.1 300 89) + 1)).1 300 89))) - 3).toNatClampNeg) ((wI h 300 89 ((h.1 300 89) + 1)).1 300 0)) rfl).trans ?_
      refine (mm_gd (c := (((90 + (3 * ((wI h 300 89 ((h.1 300 89) + 1)).1 300 89))) - 3) + 1) < 0 ∨ 210 ≤ (((90 + (3 * ((wI h 300 89 ((h.1 300 89) + 1)).1 300 89))) - 3) + 1).toNatClampNeg) (p1 := 100) (l1 := [.ref 264, .int x1, .int x2, .int ((90 + (3 * ((wI h 300 89 ((h.1 300 89) + 1)).1 300 89))) - 3)]) (s1 := []) (h1 := wI (wI (wI h 300 89 ((h.1 300 89) + 1)) 300 (((90 + (3 * ((wI h 300 89 ((h.1 300 89) + 1)).1 300 89))) - 3).toNatClampNeg) ((wI h 300 89 ((h.1 300 89) + 1)).1 300 0)) 300 ((((90 + (3 * ((wI h 300 89 ((h.1 300 89) + 1)).1 300 89))) - 3) + 1).toNatClampNeg) x1) rfl (q_iast (n := 210) rfl)).trans (mm_ite rfl ?_)
      refine (mm_by 6 (pc' := 108) (ls' := [.ref 264, .int x1, .int x2, .int ((90 + (3 * ((wI h 300 89 ((h.1 300 89) + 1)).1 300 89))) - 3)]) (st' := [.int x2, .int (((90 + (3 * ((wI h 300 89 ((h.1 300 89) + 1)).1 300 89))) - 3) + 2), .ref 300]) (h' := wI (wI (wI h 300 89 ((h.1 300 89) + 1)) 300 (((90 + (3 * ((wI h 300 89 ((h.1 300 89) + 1)).1 300 89))) - 3).toNatClampNeg) ((wI h 300 89 ((h.1 300 89) + 1)).1 300 0)) 300 ((((90 + (3 * ((wI h 300 89 ((h.1 300 89) + 1)).1 300 89))) - 3) + 1).toNatClampNeg) x1) rfl).trans ?_
      refine (mm_gd (c := (((90 + (3 * ((wI h 300 89 ((h.1 300 89) + 1)).1 300 89))) - 3) + 2) < 0 ∨ 210 ≤ (((90 + (3 * ((wI h 300 89 ((h.1 300 89) + 1)).1 300 89))) - 3) + 2).toNatClampNeg) (p1 := 109) (l1 := [.ref 264, .int x1, .int x2, .int ((90 + (3 * ((wI h 300 89 ((h.1 300 89) + 1)).1 300 89))) - 3)]) (s1 := []) (h1 := wI (wI (wI (wI h 300 89 ((h.1 300 89) + 1)) 300 (((90 + (3 * ((wI h 300 89 ((h.1 300 89) + 1)).1 300 89))) - 3).toNatClampNeg) ((wI h 300 89 ((h.1 300 89) + 1)).1 300 0)) 300 ((((90 + (3 * ((wI h 300 89 ((h.1 300 89) + 1)).1 300 89))) - 3) + 1).toNatClampNeg) x1) 300 ((((90 + (3 * ((wI h 300 89 ((h.1 300 89) + 1)).1 300 89))) - 3) + 2).toNatClampNeg) x2) rfl (q_iast (n := 210) rfl)).trans (mm_ite rfl ?_)
      exact mm_by_end 1 rfl
    · exact mm_by 2 rfl
  · exact mm_by_end 1 rfl
set_option maxRecDepth 100000 in
set_option maxHeartbeats 4000000 in
theorem U_X12_isKept_23 {d : Nat} {x1 : Int32} {x2 : Int32} {x3 : Int32} {h : mm_H} : mm_D (mm_M mm_T0 d) cd_X12_isKept 23 [.ref 264, .int x1, .int x2, .int x3] [] h = (if 207 ≤ x3 then (if ((90 + (3 * (h.1 300 89))) - 3) < 0 ∨ 210 ≤ ((90 + (3 * (h.1 300 89))) - 3).toNatClampNeg then none else (if (((90 + (3 * (h.1 300 89))) - 3) + 1) < 0 ∨ 210 ≤ (((90 + (3 * (h.1 300 89))) - 3) + 1).toNatClampNeg then none else (if (((90 + (3 * (h.1 300 89))) - 3) + 2) < 0 ∨ 210 ≤ (((90 + (3 * (h.1 300 89))) - 3) + 2).toNatClampNeg then none else (some (none, wI (wI (wI h 300 (((90 + (3 * (h.1 300 89))) - 3).toNatClampNeg) (h.1 300 0)) 300 ((((90 + (3 * (h.1 300 89))) - 3) + 1).toNatClampNeg) x1) 300 ((((90 + (3 * (h.1 300 89))) - 3) + 2).toNatClampNeg) x2))))) else (if (x3 + 3) < 0 ∨ 210 ≤ (x3 + 3).toNatClampNeg then none else (if x3 < 0 ∨ 210 ≤ x3.toNatClampNeg then none else (mm_D (mm_M mm_T0 d) cd_X12_isKept 23 [.ref 264, .int x1, .int x2, .int (x3 + 1)] [] (wI h 300 x3.toNatClampNeg (h.1 300 (x3 + 3).toNatClampNeg)))))) := by
  refine (mm_by 2 (pc' := 27) (ls' := [.ref 264, .int x1, .int x2, .int x3]) (st' := [.int 207, .int x3]) (h' := h) rfl).trans ?_
  refine (mm_br (c := 207 ≤ x3) (p1 := 50) (p2 := 30) (l1 := [.ref 264, .int x1, .int x2, .int x3]) (l2 := [.ref 264, .int x1, .int x2, .int x3]) (s1 := []) (s2 := []) (h1 := h) (h2 := h) rfl rfl).trans (mm_ite ?_ ?_)
  · refine (mm_by 19 (pc' := 90) (ls' := [.ref 264, .int x1, .int x2, .int ((90 + (3 * (h.1 300 89))) - 3)]) (st' := [.int (h.1 300 0), .int ((90 + (3 * (h.1 300 89))) - 3), .ref 300]) (h' := h) rfl).trans ?_
    refine (mm_gd (c := ((90 + (3 * (h.1 300 89))) - 3) < 0 ∨ 210 ≤ ((90 + (3 * (h.1 300 89))) - 3).toNatClampNeg) (p1 := 91) (l1 := [.ref 264, .int x1, .int x2, .int ((90 + (3 * (h.1 300 89))) - 3)]) (s1 := []) (h1 := wI h 300 (((90 + (3 * (h.1 300 89))) - 3).toNatClampNeg) (h.1 300 0)) rfl (q_iast (n := 210) rfl)).trans (mm_ite rfl ?_)
    refine (mm_by 6 (pc' := 99) (ls' := [.ref 264, .int x1, .int x2, .int ((90 + (3 * (h.1 300 89))) - 3)]) (st' := [.int x1, .int (((90 + (3 * (h.1 300 89))) - 3) + 1), .ref 300]) (h' := wI h 300 (((90 + (3 * (h.1 300 89))) - 3).toNatClampNeg) (h.1 300 0)) rfl).trans ?_
    refine (mm_gd (c := (((90 + (3 * (h.1 300 89))) - 3) + 1) < 0 ∨ 210 ≤ (((90 + (3 * (h.1 300 89))) - 3) + 1).toNatClampNeg) (p1 := 100) (l1 := [.ref 264, .int x1, .int x2, .int ((90 + (3 * (h.1 300 89))) - 3)]) (s1 := []) (h1 := wI (wI h 300 (((90 + (3 * (h.1 300 89))) - 3).toNatClampNeg) (h.1 300 0)) 300 ((((90 + (3 * (h.1 300 89))) - 3) + 1).toNatClampNeg) x1) rfl (q_iast (n := 210) rfl)).trans (mm_ite rfl ?_)
    refine (mm_by 6 (pc' := 108) (ls' := [.ref 264, .int x1, .int x2, .int ((90 + (3 * (h.1 300 89))) - 3)]) (st' := [.int x2, .int (((90 + (3 * (h.1 300 89))) - 3) + 2), .ref 300]) (h' := wI (wI h 300 (((90 + (3 * (h.1 300 89))) - 3).toNatClampNeg) (h.1 300 0)) 300 ((((90 + (3 * (h.1 300 89))) - 3) + 1).toNatClampNeg) x1) rfl).trans ?_
    refine (mm_gd (c := (((90 + (3 * (h.1 300 89))) - 3) + 2) < 0 ∨ 210 ≤ (((90 + (3 * (h.1 300 89))) - 3) + 2).toNatClampNeg) (p1 := 109) (l1 := [.ref 264, .int x1, .int x2, .int ((90 + (3 * (h.1 300 89))) - 3)]) (s1 := []) (h1 := wI (wI (wI h 300 (((90 + (3 * (h.1 300 89))) - 3).toNatClampNeg) (h.1 300 0)) 300 ((((90 + (3 * (h.1 300 89))) - 3) + 1).toNatClampNeg) x1) 300 ((((90 + (3 * (h.1 300 89))) - 3) + 2).toNatClampNeg) x2) rfl (q_iast (n := 210) rfl)).trans (mm_ite rfl ?_)
    exact mm_by_end 1 rfl
  · refine (mm_by 8 (pc' := 42) (ls' := [.ref 264, .int x1, .int x2, .int x3]) (st' := [.int (x3 + 3), .ref 300, .int x3, .ref 300]) (h' := h) rfl).trans ?_
    refine (mm_gd (c := (x3 + 3) < 0 ∨ 210 ≤ (x3 + 3).toNatClampNeg) (p1 := 43) (l1 := [.ref 264, .int x1, .int x2, .int x3]) (s1 := [.int (h.1 300 (x3 + 3).toNatClampNeg), .int x3, .ref 300]) (h1 := h) rfl (q_iald (n := 210) rfl)).trans (mm_ite rfl ?_)
    refine (mm_gd (c := x3 < 0 ∨ 210 ≤ x3.toNatClampNeg) (p1 := 44) (l1 := [.ref 264, .int x1, .int x2, .int x3]) (s1 := []) (h1 := wI h 300 x3.toNatClampNeg (h.1 300 (x3 + 3).toNatClampNeg)) rfl (q_iast (n := 210) rfl)).trans (mm_ite rfl ?_)
    exact mm_by 2 rfl
