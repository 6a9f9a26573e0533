set_option maxRecDepth 100000 in
set_option maxHeartbeats 4000000 in
theorem U_J0_length_8abf5 {d : Nat} {h : mm_H} : mm_M mm_T0 (d + 1) 0 [.ref 336] h = (mm_bI (mm_M mm_T0 d 2 [.ref 336] h) (fun v2 h1 => some (some (.int ((Int32.ofNat mm_txt.length) >>> (v2 &&& 31))), h1))) := by
  refine (mm_M_eq (ls := [.ref 336]) rfl (Nat.le_of_ble_eq_true rfl) rfl h).trans ?_
  refine (mm_by 4 (pc' := 6) (ls' := [.ref 336]) (st' := [.ref 336, .int (Int32.ofNat mm_txt.length)]) (h' := h) rfl).trans ?_
  refine (mm_c1 (y := 2) (as := [.ref 336]) (nx := 9) (rest := [.int (Int32.ofNat mm_txt.length)]) rfl rfl).trans (mm_congI fun v2 h1 => ?_)
  exact mm_by_end 2 rfl
set_option maxRecDepth 100000 in
set_option maxHeartbeats 4000000 in
theorem U_J0_charAt_5068e {d : Nat} {x1 : Int32} {h : mm_H} : mm_M mm_T0 (d + 1) 1 [.ref 336, .int x1] h = (mm_bI (mm_M mm_T0 d 3 [.ref 336] h) (fun v2 h1 => if v2 = 0 then (none) else (mm_bI (mm_M mm_T0 d 5 [.ref 337, .int x1] h1) (fun v4 h3 => mm_nr .char v4 h3)))) := by
  refine (mm_M_eq (ls := [.ref 336, .int x1]) rfl (Nat.le_of_ble_eq_true rfl) rfl h).trans ?_
  refine (mm_by 1 (pc' := 1) (ls' := [.ref 336, .int x1]) (st' := [.ref 336]) (h' := h) rfl).trans ?_
  refine (mm_c1 (y := 3) (as := [.ref 336]) (nx := 4) (rest := []) rfl rfl).trans (mm_congI fun v2 h1 => ?_)
  refine (mm_br (c := v2 = 0) (p1 := 16) (p2 := 7) (l1 := [.ref 336, .int x1]) (l2 := [.ref 336, .int x1]) (s1 := []) (s2 := []) (h1 := h1) (h2 := h1) rfl rfl).trans (mm_ite ?_ ?_)
  · exact mm_miss rfl
  · refine (mm_by 3 (pc' := 12) (ls' := [.ref 336, .int x1]) (st' := [.int x1, .ref 337]) (h' := h1) rfl).trans ?_
    refine (mm_c1 (y := 5) (as := [.ref 337, .int x1]) (nx := 15) (rest := []) rfl rfl).trans (mm_congI fun v4 h3 => ?_)
    exact mm_nend rfl
set_option maxRecDepth 100000 in
set_option maxHeartbeats 4000000 in
theorem U_J0_coder_7d493 {d : Nat} {h : mm_H} : mm_M mm_T0 (d + 1) 2 [.ref 336] h = (mm_nr .byte 0 h) := by
  refine (mm_M_eq (ls := [.ref 336]) rfl (Nat.le_of_ble_eq_true rfl) rfl h).trans ?_
  refine (mm_by 5 (pc' := 14) (ls' := [.ref 336]) (st' := [.int 0]) (h' := h) rfl).trans ?_
  exact mm_nend rfl
set_option maxRecDepth 100000 in
set_option maxHeartbeats 4000000 in
theorem U_J0_isLatin1_aae02 {d : Nat} {h : mm_H} : mm_M mm_T0 (d + 1) 3 [.ref 336] h = (some (some (.int 1), h)) := by
  refine (mm_M_eq (ls := [.ref 336]) rfl (Nat.le_of_ble_eq_true rfl) rfl h).trans ?_
  exact mm_by_end 8 rfl
set_option maxRecDepth 100000 in
set_option maxHeartbeats 4000000 in
theorem U_J1_charAt_3b067 {d : Nat} {x1 : Int32} {h : mm_H} : mm_M mm_T0 (d + 1) 5 [.ref 337, .int x1] h = (mm_bV (mm_M mm_T0 d 4 [.int x1, .int (Int32.ofNat mm_txt.length)] h) (fun h1 => if x1 < 0 ∨ mm_txt.length ≤ x1.toNatClampNeg then none else (mm_nr .char ((((mm_txt.getD x1.toNatClampNeg 0) &&& 255).toUInt32 % 65536).toInt32) h1))) := by
  refine (mm_M_eq (ls := [.ref 337, .int x1]) rfl (Nat.le_of_ble_eq_true rfl) rfl h).trans ?_
  refine (mm_by 3 (pc' := 3) (ls' := [.ref 337, .int x1]) (st' := [.int (Int32.ofNat mm_txt.length), .int x1]) (h' := h) rfl).trans ?_
  refine (mm_c0 (y := 4) (as := [.int x1, .int (Int32.ofNat mm_txt.length)]) (nx := 6) (rest := []) rfl rfl).trans (mm_congV fun h1 => ?_)
  refine (mm_by 2 (pc' := 8) (ls' := [.ref 337, .int x1]) (st' := [.int x1, .ref 337]) (h' := h1) rfl).trans ?_
  refine (mm_gd (c := x1 < 0 ∨ mm_txt.length ≤ x1.toNatClampNeg) (p1 := 9) (l1 := [.ref 337, .int x1]) (s1 := [.int (mm_txt.getD x1.toNatClampNeg 0)]) (h1 := h1) rfl rfl).trans (mm_ite rfl ?_)
  refine (mm_by 3 (pc' := 14) (ls' := [.ref 337, .int x1]) (st' := [.int ((((mm_txt.getD x1.toNatClampNeg 0) &&& 255).toUInt32 % 65536).toInt32)]) (h' := h1) rfl).trans ?_
  exact mm_nend rfl
set_option maxRecDepth 100000 in
set_option maxHeartbeats 4000000 in
theorem U_J6_bitCount_0f7a4 {d : Nat} {x0 : Int32} {h : mm_H} : mm_M mm_T0 (d + 1) 6 [.int x0] h = (some (some (.int ((((((((x0 - (((x0.toUInt32 >>> ((1 : Int32).toUInt32 &&& Int32.toUInt32 31)).toInt32) &&& 1431655765)) &&& 858993459) + ((((x0 - (((x0.toUInt32 >>> ((1 : Int32).toUInt32 &&& Int32.toUInt32 31)).toInt32) &&& 1431655765)).toUInt32 >>> ((2 : Int32).toUInt32 &&& Int32.toUInt32 31)).toInt32) &&& 858993459)) + (((((x0 - (((x0.toUInt32 >>> ((1 : Int32).toUInt32 &&& Int32.toUInt32 31)).toInt32) &&& 1431655765)) &&& 858993459) + ((((x0 - (((x0.toUInt32 >>> ((1 : Int32).toUInt32 &&& Int32.toUInt32 31)).toInt32) &&& 1431655765)).toUInt32 >>> ((2 : Int32).toUInt32 &&& Int32.toUInt32 31)).toInt32) &&& 858993459)).toUInt32 >>> ((4 : Int32).toUInt32 &&& Int32.toUInt32 31)).toInt32)) &&& 252645135) + (((((((x0 - (((x0.toUInt32 >>> ((1 : Int32).toUInt32 &&& Int32.toUInt32 31)).toInt32) &&& 1431655765)) &&& 858993459) + ((((x0 - (((x0.toUInt32 >>> ((1 : Int32).toUInt32 &&& Int32.toUInt32 31)).toInt32) &&& 1431655765)).toUInt32 >>> ((2 : Int32).toUInt32 &&& Int32.toUInt32 31)).toInt32) &&& 858993459)) + (((((x0 - (((x0.toUInt32 >>> ((1 : Int32).toUInt32 &&& Int32.toUInt32 31)).toInt32) &&& 1431655765)) &&& 858993459) + ((((x0 - (((x0.toUInt32 >>> ((1 : Int32).toUInt32 &&& Int32.toUInt32 31)).toInt32) &&& 1431655765)).toUInt32 >>> ((2 : Int32).toUInt32 &&& Int32.toUInt32 31)).toInt32) &&& 858993459)).toUInt32 >>> ((4 : Int32).toUInt32 &&& Int32.toUInt32 31)).toInt32)) &&& 252645135).toUInt32 >>> ((8 : Int32).toUInt32 &&& Int32.toUInt32 31)).toInt32)) + ((((((((x0 - (((x0.toUInt32 >>> ((1 : Int32).toUInt32 &&& Int32.toUInt32 31)).toInt32) &&& 1431655765)) &&& 858993459) + ((((x0 - (((x0.toUInt32 >>> ((1 : Int32).toUInt32 &&& Int32.toUInt32 31)).toInt32) &&& 1431655765)).toUInt32 >>> ((2 : Int32).toUInt32 &&& Int32.toUInt32 31)).toInt32) &&& 858993459)) + (((((x0 - (((x0.toUInt32 >>> ((1 : Int32).toUInt32 &&& Int32.toUInt32 31)).toInt32) &&& 1431655765)) &&& 858993459) + ((((x0 - (((x0.toUInt32 >>> ((1 : Int32).toUInt32 &&& Int32.toUInt32 31)).toInt32) &&& 1431655765)).toUInt32 >>> ((2 : Int32).toUInt32 &&& Int32.toUInt32 31)).toInt32) &&& 858993459)).toUInt32 >>> ((4 : Int32).toUInt32 &&& Int32.toUInt32 31)).toInt32)) &&& 252645135) + (((((((x0 - (((x0.toUInt32 >>> ((1 : Int32).toUInt32 &&& Int32.toUInt32 31)).toInt32) &&& 1431655765)) &&& 858993459) + ((((x0 - (((x0.toUInt32 >>> ((1 : Int32).toUInt32 &&& Int32.toUInt32 31)).toInt32) &&& 1431655765)).toUInt32 >>> ((2 : Int32).toUInt32 &&& Int32.toUInt32 31)).toInt32) &&& 858993459)) + (((((x0 - (((x0.toUInt32 >>> ((1 : Int32).toUInt32 &&& Int32.toUInt32 31)).toInt32) &&& 1431655765)) &&& 858993459) + ((((x0 - (((x0.toUInt32 >>> ((1 : Int32).toUInt32 &&& Int32.toUInt32 31)).toInt32) &&& 1431655765)).toUInt32 >>> ((2 : Int32).toUInt32 &&& Int32.toUInt32 31)).toInt32) &&& 858993459)).toUInt32 >>> ((4 : Int32).toUInt32 &&& Int32.toUInt32 31)).toInt32)) &&& 252645135).toUInt32 >>> ((8 : Int32).toUInt32 &&& Int32.toUInt32 31)).toInt32)).toUInt32 >>> ((16 : Int32).toUInt32 &&& Int32.toUInt32 31)).toInt32)) &&& 63)), h)) := by
  refine (mm_M_eq (ls := [.int x0]) rfl (Nat.le_of_ble_eq_true rfl) rfl h).trans ?_
  exact mm_by_end 42 rfl
set_option maxRecDepth 100000 in
set_option maxHeartbeats 4000000 in
theorem U_J9_floorDiv_7cf53 {d : Nat} {x0 : Int32} {x1 : Int32} {h : mm_H} : mm_M mm_T0 (d + 1) 7 [.int x0, .int x1] h = (if x1 = 0 then none else (if 0 ≤ (x0 ^^^ x1) then (some (some (.int (x0 / x1)), h)) else (if ((x0 / x1) * x1) = x0 then (some (some (.int (x0 / x1)), h)) else (some (some (.int ((x0 / x1) - 1)), h))))) := by
  refine (mm_M_eq (ls := [.int x0, .int x1, .null]) rfl (Nat.le_of_ble_eq_true rfl) rfl h).trans ?_
  refine (mm_by 2 (pc' := 2) (ls' := [.int x0, .int x1, .null]) (st' := [.int x1, .int x0]) (h' := h) rfl).trans ?_
  refine (mm_gd (c := x1 = 0) (p1 := 3) (l1 := [.int x0, .int x1, .null]) (s1 := [.int (x0 / x1)]) (h1 := h) rfl rfl).trans (mm_ite rfl ?_)
  refine (mm_by 4 (pc' := 7) (ls' := [.int x0, .int x1, .int (x0 / x1)]) (st' := [.int (x0 ^^^ x1)]) (h' := h) rfl).trans ?_
  refine (mm_br (c := 0 ≤ (x0 ^^^ x1)) (p1 := 21) (p2 := 10) (l1 := [.int x0, .int x1, .int (x0 / x1)]) (l2 := [.int x0, .int x1, .int (x0 / x1)]) (s1 := []) (s2 := []) (h1 := h) (h2 := h) rfl rfl).trans (mm_ite ?_ ?_)
  · exact mm_by_end 2 rfl
  · refine (mm_by 4 (pc' := 14) (ls' := [.int x0, .int x1, .int (x0 / x1)]) (st' := [.int x0, .int ((x0 / x1) * x1)]) (h' := h) rfl).trans ?_
    refine (mm_br (c := ((x0 / x1) * x1) = x0) (p1 := 21) (p2 := 17) (l1 := [.int x0, .int x1, .int (x0 / x1)]) (l2 := [.int x0, .int x1, .int (x0 / x1)]) (s1 := []) (s2 := []) (h1 := h) (h2 := h) rfl rfl).trans (mm_ite ?_ ?_)
    · exact mm_by_end 2 rfl
    · exact mm_by_end 4 rfl
set_option maxRecDepth 100000 in
set_option maxHeartbeats 4000000 in
theorem U_J9_floorMod_7cf53 {d : Nat} {x0 : Int32} {x1 : Int32} {h : mm_H} : mm_M mm_T0 (d + 1) 8 [.int x0, .int x1] h = (if x1 = 0 then none else (if 0 ≤ (x0 ^^^ x1) then (some (some (.int (x0 - x0 / x1 * x1)), h)) else (if (x0 - x0 / x1 * x1) = 0 then (some (some (.int (x0 - x0 / x1 * x1)), h)) else (some (some (.int ((x0 - x0 / x1 * x1) + x1)), h))))) := by
  refine (mm_M_eq (ls := [.int x0, .int x1, .null]) rfl (Nat.le_of_ble_eq_true rfl) rfl h).trans ?_
  refine (mm_by 2 (pc' := 2) (ls' := [.int x0, .int x1, .null]) (st' := [.int x1, .int x0]) (h' := h) rfl).trans ?_
  refine (mm_gd (c := x1 = 0) (p1 := 3) (l1 := [.int x0, .int x1, .null]) (s1 := [.int (x0 - x0 / x1 * x1)]) (h1 := h) rfl rfl).trans (mm_ite rfl ?_)
  refine (mm_by 4 (pc' := 7) (ls' := [.int x0, .int x1, .int (x0 - x0 / x1 * x1)]) (st' := [.int (x0 ^^^ x1)]) (h' := h) rfl).trans ?_
  refine (mm_br (c := 0 ≤ (x0 ^^^ x1)) (p1 := 18) (p2 := 10) (l1 := [.int x0, .int x1, .int (x0 - x0 / x1 * x1)]) (l2 := [.int x0, .int x1, .int (x0 - x0 / x1 * x1)]) (s1 := []) (s2 := []) (h1 := h) (h2 := h) rfl rfl).trans (mm_ite ?_ ?_)
  · exact mm_by_end 2 rfl
  · refine (mm_by 1 (pc' := 11) (ls' := [.int x0, .int x1, .int (x0 - x0 / x1 * x1)]) (st' := [.int (x0 - x0 / x1 * x1)]) (h' := h) rfl).trans ?_
    refine (mm_br (c := (x0 - x0 / x1 * x1) = 0) (p1 := 18) (p2 := 14) (l1 := [.int x0, .int x1, .int (x0 - x0 / x1 * x1)]) (l2 := [.int x0, .int x1, .int (x0 - x0 / x1 * x1)]) (s1 := []) (s2 := []) (h1 := h) (h2 := h) rfl rfl).trans (mm_ite ?_ ?_)
    · exact mm_by_end 2 rfl
    · exact mm_by_end 4 rfl
set_option maxRecDepth 100000 in
set_option maxHeartbeats 4000000 in
theorem U_J9_max_7cf53 {d : Nat} {x0 : Int32} {x1 : Int32} {h : mm_H} : mm_M mm_T0 (d + 1) 9 [.int x0, .int x1] h = (if x0 < x1 then (some (some (.int x1), h)) else (some (some (.int x0), h))) := by
  refine (mm_M_eq (ls := [.int x0, .int x1]) rfl (Nat.le_of_ble_eq_true rfl) rfl h).trans ?_
  refine (mm_by 2 (pc' := 2) (ls' := [.int x0, .int x1]) (st' := [.int x1, .int x0]) (h' := h) rfl).trans ?_
  refine (mm_br (c := x0 < x1) (p1 := 9) (p2 := 5) (l1 := [.int x0, .int x1]) (l2 := [.int x0, .int x1]) (s1 := []) (s2 := []) (h1 := h) (h2 := h) rfl rfl).trans (mm_ite ?_ ?_)
  · exact mm_by_end 2 rfl
  · exact mm_by_end 3 rfl
set_option maxRecDepth 100000 in
set_option maxHeartbeats 4000000 in
theorem U_J9_max_f86c9 {d : Nat} {x0 : Int64} {x2 : Int64} {h : mm_H} : mm_M mm_T0 (d + 1) 10 [.long x0, .long x2] h = (if (lg_cmp x0 x2) < 0 then (some (some (.long x2), h)) else (some (some (.long x0), h))) := by
  refine (mm_M_eq (ls := [.long x0, .null, .long x2, .null]) rfl (Nat.le_of_ble_eq_true rfl) rfl h).trans ?_
  refine (mm_by 3 (pc' := 3) (ls' := [.long x0, .null, .long x2, .null]) (st' := [.int (lg_cmp x0 x2)]) (h' := h) rfl).trans ?_
  refine (mm_br (c := (lg_cmp x0 x2) < 0) (p1 := 10) (p2 := 6) (l1 := [.long x0, .null, .long x2, .null]) (l2 := [.long x0, .null, .long x2, .null]) (s1 := []) (s2 := []) (h1 := h) (h2 := h) rfl rfl).trans (mm_ite ?_ ?_)
  · exact mm_by_end 2 rfl
  · exact mm_by_end 3 rfl
set_option maxRecDepth 100000 in
set_option maxHeartbeats 4000000 in
theorem U_J9_min_7cf53 {d : Nat} {x0 : Int32} {x1 : Int32} {h : mm_H} : mm_M mm_T0 (d + 1) 11 [.int x0, .int x1] h = (if x1 < x0 then (some (some (.int x1), h)) else (some (some (.int x0), h))) := by
  refine (mm_M_eq (ls := [.int x0, .int x1]) rfl (Nat.le_of_ble_eq_true rfl) rfl h).trans ?_
  refine (mm_by 2 (pc' := 2) (ls' := [.int x0, .int x1]) (st' := [.int x1, .int x0]) (h' := h) rfl).trans ?_
  refine (mm_br (c := x1 < x0) (p1 := 9) (p2 := 5) (l1 := [.int x0, .int x1]) (l2 := [.int x0, .int x1]) (s1 := []) (s2 := []) (h1 := h) (h2 := h) rfl rfl).trans (mm_ite ?_ ?_)
  · exact mm_by_end 2 rfl
  · exact mm_by_end 3 rfl
set_option maxRecDepth 100000 in
set_option maxHeartbeats 4000000 in
theorem U_J9_min_f86c9 {d : Nat} {x0 : Int64} {x2 : Int64} {h : mm_H} : mm_M mm_T0 (d + 1) 12 [.long x0, .long x2] h = (if 0 < (lg_cmp x0 x2) then (some (some (.long x2), h)) else (some (some (.long x0), h))) := by
  refine (mm_M_eq (ls := [.long x0, .null, .long x2, .null]) rfl (Nat.le_of_ble_eq_true rfl) rfl h).trans ?_
  refine (mm_by 3 (pc' := 3) (ls' := [.long x0, .null, .long x2, .null]) (st' := [.int (lg_cmp x0 x2)]) (h' := h) rfl).trans ?_
  refine (mm_br (c := 0 < (lg_cmp x0 x2)) (p1 := 10) (p2 := 6) (l1 := [.long x0, .null, .long x2, .null]) (l2 := [.long x0, .null, .long x2, .null]) (s1 := []) (s2 := []) (h1 := h) (h2 := h) rfl rfl).trans (mm_ite ?_ ?_)
  · exact mm_by_end 2 rfl
  · exact mm_by_end 3 rfl
set_option maxRecDepth 100000 in
set_option maxHeartbeats 4000000 in
theorem U_X0_countSeen {d : Nat} {h : mm_H} : mm_M mm_T0 (d + 1) 13 [.ref 204] h = (some (some (.int (h.1 204 2)), h)) := by
  refine (mm_M_eq (ls := [.ref 204]) rfl (Nat.le_of_ble_eq_true rfl) rfl h).trans ?_
  exact mm_by_end 3 rfl
set_option maxRecDepth 100000 in
set_option maxHeartbeats 4000000 in
theorem U_X0_forgetSeen {d : Nat} {h : mm_H} : mm_M mm_T0 (d + 1) 14 [.ref 204] h = (some (none, wI h 204 2 0)) := by
  refine (mm_M_eq (ls := [.ref 204]) rfl (Nat.le_of_ble_eq_true rfl) rfl h).trans ?_
  exact mm_by_end 4 rfl
set_option maxRecDepth 100000 in
set_option maxHeartbeats 4000000 in
theorem U_X0_sceneAfter {d : Nat} {t : Nat} {s : Nat} {x3 : Int32} {h : mm_H} (ht : mm_isT t) (hs : mm_isS s) : mm_M mm_T0 (d + 1) 15 [.ref 204, .ref t, .ref s, .int x3] h = (mm_bV (mm_M mm_T0 d 100 [.ref 205, .ref s] h) (fun h1 => mm_bV (mm_M mm_T0 d 141 [.ref t, .ref 205, .int x3] h1) (fun h2 => some (some (.ref 205), h2)))) := by
  refine (mm_M_eq (ls := [.ref 204, .ref t, .ref s, .int x3]) rfl (Nat.le_of_ble_eq_true rfl) rfl h).trans ?_
  refine (mm_by 3 (pc' := 5) (ls' := [.ref 204, .ref t, .ref s, .int x3]) (st' := [.ref s, .ref 205]) (h' := h) rfl).trans ?_
  refine (mm_c0 (y := 100) (as := [.ref 205, .ref s]) (nx := 8) (rest := []) rfl rfl).trans (mm_congV fun h1 => ?_)
  refine (mm_by 4 (pc' := 14) (ls' := [.ref 204, .ref t, .ref s, .int x3]) (st' := [.int x3, .ref 205, .ref t]) (h' := h1) rfl).trans ?_
  refine (mm_c0 (y := 141) (as := [.ref t, .ref 205, .int x3]) (nx := 17) (rest := []) rfl (if_pos ⟨(isT_0 ht), Nat.le_of_ble_eq_true rfl⟩)).trans (mm_congV fun h2 => ?_)
  exact mm_by_end 3 rfl
set_option maxRecDepth 100000 in
set_option maxHeartbeats 4000000 in
theorem U_X0_firstCurtain {d : Nat} {t : Nat} {s : Nat} {x3 : Int32} {h : mm_H} (ht : mm_isT t) (hs : mm_isS s) : mm_M mm_T0 (d + 1) 16 [.ref 204, .ref t, .ref s, .int x3] h = (mm_bV (mm_M mm_T0 d 100 [.ref 205, .ref s] h) (fun h1 => mm_bI (mm_M mm_T0 d 11 [.int 60, .int (999 - (h1.1 s 11))] h1) (fun v3 h2 => mm_D (mm_M mm_T0 d) cd_X0_firstCurtain 26 [.ref 204, .ref t, .null, .int x3, .int v3, .int 0] [] h2))) := by
  refine (mm_M_eq (ls := [.ref 204, .ref t, .ref s, .int x3, .null, .null]) rfl (Nat.le_of_ble_eq_true rfl) rfl h).trans ?_
  refine (mm_by 3 (pc' := 5) (ls' := [.ref 204, .ref t, .ref s, .int x3, .null, .null]) (st' := [.ref s, .ref 205]) (h' := h) rfl).trans ?_
  refine (mm_c0 (y := 100) (as := [.ref 205, .ref s]) (nx := 8) (rest := []) rfl rfl).trans (mm_congV fun h1 => ?_)
  refine (mm_by 3 (pc' := 14) (ls' := [.ref 204, .ref t, .ref s, .int x3, .null, .null]) (st' := [.ref s, .int 999, .int 60]) (h' := h1) rfl).trans ?_
  refine (mm_go (pc' := 17) (ls' := [.ref 204, .ref t, .ref s, .int x3, .null, .null]) (st' := [.int (h1.1 s 11), .int 999, .int 60]) (h' := h1) rfl (q_get (isS_0 hs))).trans ?_
  refine (mm_by 1 (pc' := 18) (ls' := [.ref 204, .ref t, .ref s, .int x3, .null, .null]) (st' := [.int (999 - (h1.1 s 11)), .int 60]) (h' := h1) rfl).trans ?_
  refine (mm_c1 (y := 11) (as := [.int 60, .int (999 - (h1.1 s 11))]) (nx := 21) (rest := []) rfl rfl).trans (mm_congI fun v3 h2 => ?_)
  exact mm_by 3 rfl
set_option maxRecDepth 100000 in
set_option maxHeartbeats 4000000 in
theorem U_X0_firstCurtain_26 {d : Nat} {t : Nat} {s : Nat} {x3 : Int32} {x4 : Int32} {x5 : Int32} {h : mm_H} (ht : mm_isT t) (hs : mm_isS s) : mm_D (mm_M mm_T0 d) cd_X0_firstCurtain 26 [.ref 204, .ref t, .null, .int x3, .int x4, .int x5] [] h = (if x4 < x5 then (some (some (.int ((-1))), h)) else (mm_bI (mm_M mm_T0 d 106 [.ref 205, .int x3] h) (fun v2 h1 => if ¬ v2 = 0 then (mm_bV (mm_M mm_T0 d 141 [.ref t, .ref 205, .int 1] h1) (fun h3 => mm_D (mm_M mm_T0 d) cd_X0_firstCurtain 26 [.ref 204, .ref t, .null, .int x3, .int x4, .int (x5 + 1)] [] h3)) else (some (some (.int x5), h1))))) := by
  refine (mm_by 2 (pc' := 30) (ls' := [.ref 204, .ref t, .null, .int x3, .int x4, .int x5]) (st' := [.int x4, .int x5]) (h' := h) rfl).trans ?_
  refine (mm_br (c := x4 < x5) (p1 := 62) (p2 := 33) (l1 := [.ref 204, .ref t, .null, .int x3, .int x4, .int x5]) (l2 := [.ref 204, .ref t, .null, .int x3, .int x4, .int x5]) (s1 := []) (s2 := []) (h1 := h) (h2 := h) rfl rfl).trans (mm_ite ?_ ?_)
  · exact mm_by_end 2 rfl
  · refine (mm_by 3 (pc' := 38) (ls' := [.ref 204, .ref t, .null, .int x3, .int x4, .int x5]) (st' := [.int x3, .ref 205]) (h' := h) rfl).trans ?_
    refine (mm_c1 (y := 106) (as := [.ref 205, .int x3]) (nx := 41) (rest := []) rfl rfl).trans (mm_congI fun v2 h1 => ?_)
    refine (mm_br (c := ¬ v2 = 0) (p1 := 47) (p2 := 44) (l1 := [.ref 204, .ref t, .null, .int x3, .int x4, .int x5]) (l2 := [.ref 204, .ref t, .null, .int x3, .int x4, .int x5]) (s1 := []) (s2 := []) (h1 := h1) (h2 := h1) rfl rfl).trans (mm_ite ?_ ?_)
    · refine (mm_by 4 (pc' := 53) (ls' := [.ref 204, .ref t, .null, .int x3, .int x4, .int x5]) (st' := [.int 1, .ref 205, .ref t]) (h' := h1) rfl).trans ?_
      refine (mm_c0 (y := 141) (as := [.ref t, .ref 205, .int 1]) (nx := 56) (rest := []) rfl (if_pos ⟨(isT_0 ht), Nat.le_of_ble_eq_true rfl⟩)).trans (mm_congV fun h3 => ?_)
      exact mm_by 2 rfl
    · exact mm_by_end 2 rfl
set_option maxRecDepth 100000 in
set_option maxHeartbeats 4000000 in
theorem U_X0_findChange {d : Nat} {t : Nat} {s : Nat} {x3 : Int32} {h : mm_H} (ht : mm_isT t) (hs : mm_isS s) : mm_M mm_T0 (d + 1) 17 [.ref 204, .ref t, .ref s, .int x3] h = (mm_bA (mm_M mm_T0 d 15 [.ref 204, .ref t, .ref s, .int x3] (wI h 204 6 ((-1)))) (fun v2 h1 => if mm_sh v2 = (0, 7) then (mm_bI (mm_M mm_T0 d 124 [.ref v2] h1) (fun v4 h3 => mm_D (mm_M mm_T0 d) cd_X0_findChange 22 [.ref 204, .ref t, .ref s, .int x3, .int 0, .null] [] (wI h3 204 8 v4))) else none)) := by
  refine (mm_M_eq (ls := [.ref 204, .ref t, .ref s, .int x3, .null, .null]) rfl (Nat.le_of_ble_eq_true rfl) rfl h).trans ?_
  refine (mm_by 8 (pc' := 10) (ls' := [.ref 204, .ref t, .ref s, .int x3, .null, .null]) (st' := [.int x3, .ref s, .ref t, .ref 204, .ref 204]) (h' := wI h 204 6 ((-1))) rfl).trans ?_
  refine (mm_c3 (y := 15) (as := [.ref 204, .ref t, .ref s, .int x3]) (nx := 13) (rest := [.ref 204]) rfl rfl).trans (mm_congA fun v2 h1 => ?_)
  refine (mm_d1 (b := v2) (ci := 7) (y := 124) (as := [.ref v2]) (nx := 16) (rest := [.ref 204]) rfl rfl (Nat.le_of_ble_eq_true rfl)).trans (mm_ite (mm_congI fun v4 h3 => ?_) rfl)
  exact mm_by 3 rfl
set_option maxRecDepth 100000 in
set_option maxHeartbeats 4000000 in
theorem U_X0_findChange_22 {d : Nat} {t : Nat} {s : Nat} {x3 : Int32} {x4 : Int32} {h : mm_H} (ht : mm_isT t) (hs : mm_isS s) : mm_D (mm_M mm_T0 d) cd_X0_findChange 22 [.ref 204, .ref t, .ref s, .int x3, .int x4, .null] [] h = (if (h.1 s 9) ≤ x4 then (if (h.1 204 6) = ((-1)) then (some (some (.int 0), h)) else (some (some (.int 1), h))) else (mm_D (mm_M mm_T0 d) cd_X0_findChange 37 [.ref 204, .ref t, .ref s, .int x3, .int x4, .int (x4 + 1)] [] h)) := by
  refine (mm_by 2 (pc' := 25) (ls' := [.ref 204, .ref t, .ref s, .int x3, .int x4, .null]) (st' := [.ref s, .int x4]) (h' := h) rfl).trans ?_
  refine (mm_go (pc' := 28) (ls' := [.ref 204, .ref t, .ref s, .int x3, .int x4, .null]) (st' := [.int (h.1 s 9), .int x4]) (h' := h) rfl (q_get (isS_0 hs))).trans ?_
  refine (mm_br (c := (h.1 s 9) ≤ x4) (p1 := 123) (p2 := 31) (l1 := [.ref 204, .ref t, .ref s, .int x3, .int x4, .null]) (l2 := [.ref 204, .ref t, .ref s, .int x3, .int x4, .null]) (s1 := []) (s2 := []) (h1 := h) (h2 := h) rfl rfl).trans (mm_ite ?_ ?_)
  · refine (mm_by 3 (pc' := 128) (ls' := [.ref 204, .ref t, .ref s, .int x3, .int x4, .null]) (st' := [.int ((-1)), .int (h.1 204 6)]) (h' := h) rfl).trans ?_
    refine (mm_br (c := (h.1 204 6) = ((-1))) (p1 := 135) (p2 := 131) (l1 := [.ref 204, .ref t, .ref s, .int x3, .int x4, .null]) (l2 := [.ref 204, .ref t, .ref s, .int x3, .int x4, .null]) (s1 := []) (s2 := []) (h1 := h) (h2 := h) rfl rfl).trans (mm_ite ?_ ?_)
    · exact mm_by_end 2 rfl
    · exact mm_by_end 3 rfl
  · exact mm_by 4 rfl
set_option maxRecDepth 100000 in
set_option maxHeartbeats 4000000 in
theorem U_X0_findChange_37 {d : Nat} {t : Nat} {s : Nat} {x3 : Int32} {x4 : Int32} {x5 : Int32} {h : mm_H} (ht : mm_isT t) (hs : mm_isS s) : mm_D (mm_M mm_T0 d) cd_X0_findChange 37 [.ref 204, .ref t, .ref s, .int x3, .int x4, .int x5] [] h = (if (h.1 s 9) ≤ x5 then (mm_D (mm_M mm_T0 d) cd_X0_findChange 22 [.ref 204, .ref t, .ref s, .int x3, .int (x4 + 1), .null] [] h) else (mm_bV (mm_M mm_T0 d 100 [.ref 205, .ref s] h) (fun h1 => mm_bV (mm_M mm_T0 d 117 [.ref 205, .int x4, .int x5] h1) (fun h2 => mm_bV (mm_M mm_T0 d 141 [.ref t, .ref 205, .int x3] h2) (fun h3 => mm_bI (mm_M mm_T0 d 124 [.ref 205] h3) (fun v5 h4 => if v5 ≤ (h4.1 204 8) then (mm_D (mm_M mm_T0 d) cd_X0_findChange 37 [.ref 204, .ref t, .ref s, .int x3, .int x4, .int (x5 + 1)] [] h4) else (mm_bI (mm_M mm_T0 d 124 [.ref 205] (wI (wI h4 204 6 x4) 204 7 x5)) (fun v7 h6 => mm_D (mm_M mm_T0 d) cd_X0_findChange 37 [.ref 204, .ref t, .ref s, .int x3, .int x4, .int (x5 + 1)] [] (wI h6 204 8 v7))))))))) := by
  refine (mm_by 2 (pc' := 40) (ls' := [.ref 204, .ref t, .ref s, .int x3, .int x4, .int x5]) (st' := [.ref s, .int x5]) (h' := h) rfl).trans ?_
  refine (mm_go (pc' := 43) (ls' := [.ref 204, .ref t, .ref s, .int x3, .int x4, .int x5]) (st' := [.int (h.1 s 9), .int x5]) (h' := h) rfl (q_get (isS_0 hs))).trans ?_
  refine (mm_br (c := (h.1 s 9) ≤ x5) (p1 := 117) (p2 := 46) (l1 := [.ref 204, .ref t, .ref s, .int x3, .int x4, .int x5]) (l2 := [.ref 204, .ref t, .ref s, .int x3, .int x4, .int x5]) (s1 := []) (s2 := []) (h1 := h) (h2 := h) rfl rfl).trans (mm_ite ?_ ?_)
  · exact mm_by 2 rfl
  · refine (mm_by 3 (pc' := 51) (ls' := [.ref 204, .ref t, .ref s, .int x3, .int x4, .int x5]) (st' := [.ref s, .ref 205]) (h' := h) rfl).trans ?_
    refine (mm_c0 (y := 100) (as := [.ref 205, .ref s]) (nx := 54) (rest := []) rfl rfl).trans (mm_congV fun h1 => ?_)
    refine (mm_by 4 (pc' := 62) (ls' := [.ref 204, .ref t, .ref s, .int x3, .int x4, .int x5]) (st' := [.int x5, .int x4, .ref 205]) (h' := h1) rfl).trans ?_
    refine (mm_c0 (y := 117) (as := [.ref 205, .int x4, .int x5]) (nx := 65) (rest := []) rfl rfl).trans (mm_congV fun h2 => ?_)
    refine (mm_by 4 (pc' := 71) (ls' := [.ref 204, .ref t, .ref s, .int x3, .int x4, .int x5]) (st' := [.int x3, .ref 205, .ref t]) (h' := h2) rfl).trans ?_
    refine (mm_c0 (y := 141) (as := [.ref t, .ref 205, .int x3]) (nx := 74) (rest := []) rfl (if_pos ⟨(isT_0 ht), Nat.le_of_ble_eq_true rfl⟩)).trans (mm_congV fun h3 => ?_)
    refine (mm_by 2 (pc' := 78) (ls' := [.ref 204, .ref t, .ref s, .int x3, .int x4, .int x5]) (st' := [.ref 205]) (h' := h3) rfl).trans ?_
    refine (mm_c1 (y := 124) (as := [.ref 205]) (nx := 81) (rest := []) rfl rfl).trans (mm_congI fun v5 h4 => ?_)
    refine (mm_by 2 (pc' := 85) (ls' := [.ref 204, .ref t, .ref s, .int x3, .int x4, .int x5]) (st' := [.int (h4.1 204 8), .int v5]) (h' := h4) rfl).trans ?_
    refine (mm_br (c := v5 ≤ (h4.1 204 8)) (p1 := 111) (p2 := 88) (l1 := [.ref 204, .ref t, .ref s, .int x3, .int x4, .int x5]) (l2 := [.ref 204, .ref t, .ref s, .int x3, .int x4, .int x5]) (s1 := []) (s2 := []) (h1 := h4) (h2 := h4) rfl rfl).trans (mm_ite ?_ ?_)
    · exact mm_by 2 rfl
    · refine (mm_by 9 (pc' := 105) (ls' := [.ref 204, .ref t, .ref s, .int x3, .int x4, .int x5]) (st' := [.ref 205, .ref 204]) (h' := wI (wI h4 204 6 x4) 204 7 x5) rfl).trans ?_
      refine (mm_c1 (y := 124) (as := [.ref 205]) (nx := 108) (rest := [.ref 204]) rfl rfl).trans (mm_congI fun v7 h6 => ?_)
      exact mm_by 3 rfl
set_option maxRecDepth 100000 in
set_option maxHeartbeats 4000000 in
theorem U_X0_findHome {d : Nat} {t : Nat} {s : Nat} {x3 : Int32} {x4 : Int32} {x5 : Int32} {h : mm_H} (ht : mm_isT t) (hs : mm_isS s) : mm_M mm_T0 (d + 1) 18 [.ref 204, .ref t, .ref s, .int x3, .int x4, .int x5] h = (if ((wI (wI h 204 6 ((-1))) 204 8 ((-1))).1 s 10) < 8 then (mm_D (mm_M mm_T0 d) cd_X0_findHome 24 [.ref 204, .ref t, .ref s, .int x3, .int x4, .int x5, .int 0] [] (wI (wI h 204 6 ((-1))) 204 8 ((-1)))) else (some (some (.int 0), wI (wI h 204 6 ((-1))) 204 8 ((-1))))) := by
  refine (mm_M_eq (ls := [.ref 204, .ref t, .ref s, .int x3, .int x4, .int x5, .null]) rfl (Nat.le_of_ble_eq_true rfl) rfl h).trans ?_
  refine (mm_by 7 (pc' := 11) (ls' := [.ref 204, .ref t, .ref s, .int x3, .int x4, .int x5, .null]) (st' := [.ref s]) (h' := wI (wI h 204 6 ((-1))) 204 8 ((-1))) rfl).trans ?_
  refine (mm_go (pc' := 14) (ls' := [.ref 204, .ref t, .ref s, .int x3, .int x4, .int x5, .null]) (st' := [.int ((wI (wI h 204 6 ((-1))) 204 8 ((-1))).1 s 10)]) (h' := wI (wI h 204 6 ((-1))) 204 8 ((-1))) rfl (q_get (isS_0 hs))).trans ?_
  refine (mm_by 1 (pc' := 16) (ls' := [.ref 204, .ref t, .ref s, .int x3, .int x4, .int x5, .null]) (st' := [.int 8, .int ((wI (wI h 204 6 ((-1))) 204 8 ((-1))).1 s 10)]) (h' := wI (wI h 204 6 ((-1))) 204 8 ((-1))) rfl).trans ?_
  refine (mm_br (c := ((wI (wI h 204 6 ((-1))) 204 8 ((-1))).1 s 10) < 8) (p1 := 21) (p2 := 19) (l1 := [.ref 204, .ref t, .ref s, .int x3, .int x4, .int x5, .null]) (l2 := [.ref 204, .ref t, .ref s, .int x3, .int x4, .int x5, .null]) (s1 := []) (s2 := []) (h1 := wI (wI h 204 6 ((-1))) 204 8 ((-1))) (h2 := wI (wI h 204 6 ((-1))) 204 8 ((-1))) rfl rfl).trans (mm_ite ?_ ?_)
  · exact mm_by 2 rfl
  · exact mm_by_end 2 rfl
set_option maxRecDepth 100000 in
set_option maxHeartbeats 4000000 in
theorem U_X0_findHome_24 {d : Nat} {t : Nat} {s : Nat} {x3 : Int32} {x4 : Int32} {x5 : Int32} {x6 : Int32} {h : mm_H} (ht : mm_isT t) (hs : mm_isS s) : mm_D (mm_M mm_T0 d) cd_X0_findHome 24 [.ref 204, .ref t, .ref s, .int x3, .int x4, .int x5, .int x6] [] h = (if (h.1 s 9) ≤ x6 then (if (h.1 204 6) = ((-1)) then (some (some (.int 0), h)) else (some (some (.int 1), h))) else (mm_bI (mm_M mm_T0 d 104 [.ref s, .int x6] h) (fun v2 h1 => if ¬ v2 = ((-1)) then (mm_D (mm_M mm_T0 d) cd_X0_findHome 24 [.ref 204, .ref t, .ref s, .int x3, .int x4, .int x5, .int (x6 + 1)] [] h1) else (mm_bV (mm_M mm_T0 d 100 [.ref 205, .ref s] h1) (fun h3 => mm_bV (mm_M mm_T0 d 118 [.ref 205, .int x6, .int x3, .int x4] h3) (fun h4 => mm_bV (mm_M mm_T0 d 141 [.ref t, .ref 205, .int x5] h4) (fun h5 => mm_bI (mm_M mm_T0 d 106 [.ref 205, .int (h5.1 s 10)] h5) (fun v7 h6 => if v7 ≤ (h6.1 204 8) then (mm_D (mm_M mm_T0 d) cd_X0_findHome 24 [.ref 204, .ref t, .ref s, .int x3, .int x4, .int x5, .int (x6 + 1)] [] h6) else (mm_bI (mm_M mm_T0 d 106 [.ref 205, .int ((wI h6 204 6 x6).1 s 10)] (wI h6 204 6 x6)) (fun v9 h8 => mm_D (mm_M mm_T0 d) cd_X0_findHome 24 [.ref 204, .ref t, .ref s, .int x3, .int x4, .int x5, .int (x6 + 1)] [] (wI h8 204 8 v9))))))))))) := by
  refine (mm_by 2 (pc' := 27) (ls' := [.ref 204, .ref t, .ref s, .int x3, .int x4, .int x5, .int x6]) (st' := [.ref s, .int x6]) (h' := h) rfl).trans ?_
  refine (mm_go (pc' := 30) (ls' := [.ref 204, .ref t, .ref s, .int x3, .int x4, .int x5, .int x6]) (st' := [.int (h.1 s 9), .int x6]) (h' := h) rfl (q_get (isS_0 hs))).trans ?_
  refine (mm_br (c := (h.1 s 9) ≤ x6) (p1 := 118) (p2 := 33) (l1 := [.ref 204, .ref t, .ref s, .int x3, .int x4, .int x5, .int x6]) (l2 := [.ref 204, .ref t, .ref s, .int x3, .int x4, .int x5, .int x6]) (s1 := []) (s2 := []) (h1 := h) (h2 := h) rfl rfl).trans (mm_ite ?_ ?_)
  · refine (mm_by 3 (pc' := 123) (ls' := [.ref 204, .ref t, .ref s, .int x3, .int x4, .int x5, .int x6]) (st' := [.int ((-1)), .int (h.1 204 6)]) (h' := h) rfl).trans ?_
    refine (mm_br (c := (h.1 204 6) = ((-1))) (p1 := 130) (p2 := 126) (l1 := [.ref 204, .ref t, .ref s, .int x3, .int x4, .int x5, .int x6]) (l2 := [.ref 204, .ref t, .ref s, .int x3, .int x4, .int x5, .int x6]) (s1 := []) (s2 := []) (h1 := h) (h2 := h) rfl rfl).trans (mm_ite ?_ ?_)
    · exact mm_by_end 2 rfl
    · exact mm_by_end 3 rfl
  · refine (mm_by 2 (pc' := 36) (ls' := [.ref 204, .ref t, .ref s, .int x3, .int x4, .int x5, .int x6]) (st' := [.int x6, .ref s]) (h' := h) rfl).trans ?_
    refine (mm_c1 (y := 104) (as := [.ref s, .int x6]) (nx := 39) (rest := []) rfl (if_pos ⟨(isS_0 hs), Nat.le_of_ble_eq_true rfl⟩)).trans (mm_congI fun v2 h1 => ?_)
    refine (mm_by 1 (pc' := 40) (ls' := [.ref 204, .ref t, .ref s, .int x3, .int x4, .int x5, .int x6]) (st' := [.int ((-1)), .int v2]) (h' := h1) rfl).trans ?_
    refine (mm_br (c := ¬ v2 = ((-1))) (p1 := 112) (p2 := 43) (l1 := [.ref 204, .ref t, .ref s, .int x3, .int x4, .int x5, .int x6]) (l2 := [.ref 204, .ref t, .ref s, .int x3, .int x4, .int x5, .int x6]) (s1 := []) (s2 := []) (h1 := h1) (h2 := h1) rfl rfl).trans (mm_ite ?_ ?_)
    · exact mm_by 2 rfl
    · refine (mm_by 3 (pc' := 48) (ls' := [.ref 204, .ref t, .ref s, .int x3, .int x4, .int x5, .int x6]) (st' := [.ref s, .ref 205]) (h' := h1) rfl).trans ?_
      refine (mm_c0 (y := 100) (as := [.ref 205, .ref s]) (nx := 51) (rest := []) rfl rfl).trans (mm_congV fun h3 => ?_)
      refine (mm_by 5 (pc' := 60) (ls' := [.ref 204, .ref t, .ref s, .int x3, .int x4, .int x5, .int x6]) (st' := [.int x4, .int x3, .int x6, .ref 205]) (h' := h3) rfl).trans ?_
      refine (mm_c0 (y := 118) (as := [.ref 205, .int x6, .int x3, .int x4]) (nx := 63) (rest := []) rfl rfl).trans (mm_congV fun h4 => ?_)
      refine (mm_by 4 (pc' := 70) (ls' := [.ref 204, .ref t, .ref s, .int x3, .int x4, .int x5, .int x6]) (st' := [.int x5, .ref 205, .ref t]) (h' := h4) rfl).trans ?_
      refine (mm_c0 (y := 141) (as := [.ref t, .ref 205, .int x5]) (nx := 73) (rest := []) rfl (if_pos ⟨(isT_0 ht), Nat.le_of_ble_eq_true rfl⟩)).trans (mm_congV fun h5 => ?_)
      refine (mm_by 3 (pc' := 78) (ls' := [.ref 204, .ref t, .ref s, .int x3, .int x4, .int x5, .int x6]) (st' := [.ref s, .ref 205]) (h' := h5) rfl).trans ?_
      refine (mm_go (pc' := 81) (ls' := [.ref 204, .ref t, .ref s, .int x3, .int x4, .int x5, .int x6]) (st' := [.int (h5.1 s 10), .ref 205]) (h' := h5) rfl (q_get (isS_0 hs))).trans ?_
      refine (mm_c1 (y := 106) (as := [.ref 205, .int (h5.1 s 10)]) (nx := 84) (rest := []) rfl rfl).trans (mm_congI fun v7 h6 => ?_)
      refine (mm_by 2 (pc' := 88) (ls' := [.ref 204, .ref t, .ref s, .int x3, .int x4, .int x5, .int x6]) (st' := [.int (h6.1 204 8), .int v7]) (h' := h6) rfl).trans ?_
      refine (mm_br (c := v7 ≤ (h6.1 204 8)) (p1 := 112) (p2 := 91) (l1 := [.ref 204, .ref t, .ref s, .int x3, .int x4, .int x5, .int x6]) (l2 := [.ref 204, .ref t, .ref s, .int x3, .int x4, .int x5, .int x6]) (s1 := []) (s2 := []) (h1 := h6) (h2 := h6) rfl rfl).trans (mm_ite ?_ ?_)
      · exact mm_by 2 rfl
      · refine (mm_by 7 (pc' := 103) (ls' := [.ref 204, .ref t, .ref s, .int x3, .int x4, .int x5, .int x6]) (st' := [.ref s, .ref 205, .ref 204]) (h' := wI h6 204 6 x6) rfl).trans ?_
        refine (mm_go (pc' := 106) (ls' := [.ref 204, .ref t, .ref s, .int x3, .int x4, .int x5, .int x6]) (st' := [.int ((wI h6 204 6 x6).1 s 10), .ref 205, .ref 204]) (h' := wI h6 204 6 x6) rfl (q_get (isS_0 hs))).trans ?_
        refine (mm_c1 (y := 106) (as := [.ref 205, .int ((wI h6 204 6 x6).1 s 10)]) (nx := 109) (rest := [.ref 204]) rfl rfl).trans (mm_congI fun v9 h8 => ?_)
        exact mm_by 3 rfl
set_option maxRecDepth 100000 in
set_option maxHeartbeats 4000000 in
theorem U_X0_fewestToPart {d : Nat} {t : Nat} {s : Nat} {h : mm_H} (ht : mm_isT t) (hs : mm_isS s) : mm_M mm_T0 (d + 1) 19 [.ref 204, .ref t, .ref s] h = (mm_bI (mm_M mm_T0 d 147 [.ref t, .ref s] h) (fun v2 h1 => mm_D (mm_M mm_T0 d) cd_X0_fewestToPart 23 [.null, .null, .ref s, .int v2, .int ((1 : Int32) <<< ((h1.1 s 10) &&& 31)), .int (((1 : Int32) <<< ((h1.1 s 10) &&& 31)) - 1), .int 0] [] h1)) := by
  refine (mm_M_eq (ls := [.ref 204, .ref t, .ref s, .null, .null, .null, .null]) rfl (Nat.le_of_ble_eq_true rfl) rfl h).trans ?_
  refine (mm_by 2 (pc' := 2) (ls' := [.ref 204, .ref t, .ref s, .null, .null, .null, .null]) (st' := [.ref s, .ref t]) (h' := h) rfl).trans ?_
  refine (mm_c1 (y := 147) (as := [.ref t, .ref s]) (nx := 5) (rest := []) rfl (if_pos ⟨(isT_0 ht), Nat.le_of_ble_eq_true rfl⟩)).trans (mm_congI fun v2 h1 => ?_)
  refine (mm_by 3 (pc' := 8) (ls' := [.ref 204, .ref t, .ref s, .int v2, .null, .null, .null]) (st' := [.ref s, .int 1]) (h' := h1) rfl).trans ?_
  refine (mm_go (pc' := 11) (ls' := [.ref 204, .ref t, .ref s, .int v2, .null, .null, .null]) (st' := [.int (h1.1 s 10), .int 1]) (h' := h1) rfl (q_get (isS_0 hs))).trans ?_
  exact mm_by 8 rfl
set_option maxRecDepth 100000 in
set_option maxHeartbeats 4000000 in
theorem U_X0_fewestToPart_23 {d : Nat} {t : Nat} {s : Nat} {x3 : Int32} {x4 : Int32} {x5 : Int32} {x6 : Int32} {h : mm_H} (ht : mm_isT t) (hs : mm_isS s) : mm_D (mm_M mm_T0 d) cd_X0_fewestToPart 23 [.null, .null, .ref s, .int x3, .int x4, .int x5, .int x6] [] h = (if x4 ≤ x6 then (some (some (.int x5), h)) else (mm_bI (mm_M mm_T0 d 6 [.int x6] h) (fun v2 h1 => mm_bI (mm_M mm_T0 d 6 [.int x5] h1) (fun v4 h3 => if v4 ≤ v2 then (mm_D (mm_M mm_T0 d) cd_X0_fewestToPart 23 [.null, .null, .ref s, .int x3, .int x4, .int x5, .int (x6 + 1)] [] h3) else (mm_bI (mm_M mm_T0 d 20 [.ref s, .int x3, .int x6] h3) (fun v6 h5 => if v6 = 0 then (mm_D (mm_M mm_T0 d) cd_X0_fewestToPart 23 [.null, .null, .ref s, .int x3, .int x4, .int x5, .int (x6 + 1)] [] h5) else (mm_D (mm_M mm_T0 d) cd_X0_fewestToPart 23 [.null, .null, .ref s, .int x3, .int x4, .int x6, .int (x6 + 1)] [] h5))))))) := by
  refine (mm_by 2 (pc' := 27) (ls' := [.null, .null, .ref s, .int x3, .int x4, .int x5, .int x6]) (st' := [.int x4, .int x6]) (h' := h) rfl).trans ?_
  refine (mm_br (c := x4 ≤ x6) (p1 := 63) (p2 := 30) (l1 := [.null, .null, .ref s, .int x3, .int x4, .int x5, .int x6]) (l2 := [.null, .null, .ref s, .int x3, .int x4, .int x5, .int x6]) (s1 := []) (s2 := []) (h1 := h) (h2 := h) rfl rfl).trans (mm_ite ?_ ?_)
  · exact mm_by_end 2 rfl
  · refine (mm_by 1 (pc' := 32) (ls' := [.null, .null, .ref s, .int x3, .int x4, .int x5, .int x6]) (st' := [.int x6]) (h' := h) rfl).trans ?_
    refine (mm_c1 (y := 6) (as := [.int x6]) (nx := 35) (rest := []) rfl rfl).trans (mm_congI fun v2 h1 => ?_)
    refine (mm_by 1 (pc' := 37) (ls' := [.null, .null, .ref s, .int x3, .int x4, .int x5, .int x6]) (st' := [.int x5, .int v2]) (h' := h1) rfl).trans ?_
    refine (mm_c1 (y := 6) (as := [.int x5]) (nx := 40) (rest := [.int v2]) rfl rfl).trans (mm_congI fun v4 h3 => ?_)
    refine (mm_br (c := v4 ≤ v2) (p1 := 57) (p2 := 43) (l1 := [.null, .null, .ref s, .int x3, .int x4, .int x5, .int x6]) (l2 := [.null, .null, .ref s, .int x3, .int x4, .int x5, .int x6]) (s1 := []) (s2 := []) (h1 := h3) (h2 := h3) rfl rfl).trans (mm_ite ?_ ?_)
    · exact mm_by 2 rfl
    · refine (mm_by 3 (pc' := 47) (ls' := [.null, .null, .ref s, .int x3, .int x4, .int x5, .int x6]) (st' := [.int x6, .int x3, .ref s]) (h' := h3) rfl).trans ?_
      refine (mm_c1 (y := 20) (as := [.ref s, .int x3, .int x6]) (nx := 50) (rest := []) rfl rfl).trans (mm_congI fun v6 h5 => ?_)
      refine (mm_br (c := v6 = 0) (p1 := 57) (p2 := 53) (l1 := [.null, .null, .ref s, .int x3, .int x4, .int x5, .int x6]) (l2 := [.null, .null, .ref s, .int x3, .int x4, .int x5, .int x6]) (s1 := []) (s2 := []) (h1 := h5) (h2 := h5) rfl rfl).trans (mm_ite ?_ ?_)
      · exact mm_by 2 rfl
      · exact mm_by 4 rfl
set_option maxRecDepth 100000 in
set_option maxHeartbeats 4000000 in
theorem U_X0_parts {d : Nat} {s : Nat} {x1 : Int32} {x2 : Int32} {h : mm_H} (hs : mm_isS s) : mm_M mm_T0 (d + 1) 20 [.ref s, .int x1, .int x2] h = (mm_D (mm_M mm_T0 d) cd_X0_parts 2 [.ref s, .int x1, .int x2, .int 0, .null, .null, .null] [] h) := by
  refine (mm_M_eq (ls := [.ref s, .int x1, .int x2, .null, .null, .null, .null]) rfl (Nat.le_of_ble_eq_true rfl) rfl h).trans ?_
  exact mm_by 2 rfl
set_option maxRecDepth 100000 in
set_option maxHeartbeats 4000000 in
theorem U_X0_parts_2 {d : Nat} {s : Nat} {x1 : Int32} {x2 : Int32} {x3 : Int32} {h : mm_H} (hs : mm_isS s) : mm_D (mm_M mm_T0 d) cd_X0_parts 2 [.ref s, .int x1, .int x2, .int x3, .null, .null, .null] [] h = (if (h.1 s 9) ≤ x3 then (some (some (.int 1), h)) else (mm_bI (mm_M mm_T0 d 104 [.ref s, .int x3] h) (fun v2 h1 => mm_bI (mm_M mm_T0 d 104 [.ref s, .int (x3 + 1)] h1) (fun v4 h3 => if v2 = ((-1)) then (mm_D (mm_M mm_T0 d) cd_X0_parts 2 [.ref s, .int x1, .int x2, .int (x3 + 1), .null, .null, .null] [] h3) else (if v4 = ((-1)) then (mm_D (mm_M mm_T0 d) cd_X0_parts 2 [.ref s, .int x1, .int x2, .int (x3 + 1), .null, .null, .null] [] h3) else (if ¬ ((x1 >>> (x3 &&& 31)) &&& 1) = 1 then (mm_D (mm_M mm_T0 d) cd_X0_parts 2 [.ref s, .int x1, .int x2, .int (x3 + 1), .null, .null, .null] [] h3) else (if ¬ ((x2 >>> (v2 &&& 31)) &&& 1) = 0 then (mm_D (mm_M mm_T0 d) cd_X0_parts 2 [.ref s, .int x1, .int x2, .int (x3 + 1), .null, .null, .null] [] h3) else (if ¬ ((x2 >>> (v4 &&& 31)) &&& 1) = 0 then (mm_D (mm_M mm_T0 d) cd_X0_parts 2 [.ref s, .int x1, .int x2, .int (x3 + 1), .null, .null, .null] [] h3) else (some (some (.int 0), h3)))))))))) := by
  refine (mm_by 2 (pc' := 4) (ls' := [.ref s, .int x1, .int x2, .int x3, .null, .null, .null]) (st' := [.ref s, .int x3]) (h' := h) rfl).trans ?_
  refine (mm_go (pc' := 7) (ls' := [.ref s, .int x1, .int x2, .int x3, .null, .null, .null]) (st' := [.int (h.1 s 9), .int x3]) (h' := h) rfl (q_get (isS_0 hs))).trans ?_
  refine (mm_br (c := (h.1 s 9) ≤ x3) (p1 := 85) (p2 := 10) (l1 := [.ref s, .int x1, .int x2, .int x3, .null, .null, .null]) (l2 := [.ref s, .int x1, .int x2, .int x3, .null, .null, .null]) (s1 := []) (s2 := []) (h1 := h) (h2 := h) rfl rfl).trans (mm_ite ?_ ?_)
  · exact mm_by_end 2 rfl
  · refine (mm_by 2 (pc' := 12) (ls' := [.ref s, .int x1, .int x2, .int x3, .null, .null, .null]) (st' := [.int x3, .ref s]) (h' := h) rfl).trans ?_
    refine (mm_c1 (y := 104) (as := [.ref s, .int x3]) (nx := 15) (rest := []) rfl (if_pos ⟨(isS_0 hs), Nat.le_of_ble_eq_true rfl⟩)).trans (mm_congI fun v2 h1 => ?_)
    refine (mm_by 5 (pc' := 21) (ls' := [.ref s, .int x1, .int x2, .int x3, .int v2, .null, .null]) (st' := [.int (x3 + 1), .ref s]) (h' := h1) rfl).trans ?_
    refine (mm_c1 (y := 104) (as := [.ref s, .int (x3 + 1)]) (nx := 24) (rest := []) rfl (if_pos ⟨(isS_0 hs), Nat.le_of_ble_eq_true rfl⟩)).trans (mm_congI fun v4 h3 => ?_)
    refine (mm_by 3 (pc' := 29) (ls' := [.ref s, .int x1, .int x2, .int x3, .int v2, .int v4, .null]) (st' := [.int ((-1)), .int v2]) (h' := h3) rfl).trans ?_
    refine (mm_br (c := v2 = ((-1))) (p1 := 51) (p2 := 32) (l1 := [.ref s, .int x1, .int x2, .int x3, .int v2, .int v4, .null]) (l2 := [.ref s, .int x1, .int x2, .int x3, .int v2, .int v4, .null]) (s1 := []) (s2 := []) (h1 := h3) (h2 := h3) rfl rfl).trans (mm_ite ?_ ?_)
    · exact mm_by 6 rfl
    · refine (mm_by 2 (pc' := 35) (ls' := [.ref s, .int x1, .int x2, .int x3, .int v2, .int v4, .null]) (st' := [.int ((-1)), .int v4]) (h' := h3) rfl).trans ?_
      refine (mm_br (c := v4 = ((-1))) (p1 := 51) (p2 := 38) (l1 := [.ref s, .int x1, .int x2, .int x3, .int v2, .int v4, .null]) (l2 := [.ref s, .int x1, .int x2, .int x3, .int v2, .int v4, .null]) (s1 := []) (s2 := []) (h1 := h3) (h2 := h3) rfl rfl).trans (mm_ite ?_ ?_)
      · exact mm_by 6 rfl
      · refine (mm_by 6 (pc' := 44) (ls' := [.ref s, .int x1, .int x2, .int x3, .int v2, .int v4, .null]) (st' := [.int 1, .int ((x1 >>> (x3 &&& 31)) &&& 1)]) (h' := h3) rfl).trans ?_
        refine (mm_br (c := ¬ ((x1 >>> (x3 &&& 31)) &&& 1) = 1) (p1 := 51) (p2 := 47) (l1 := [.ref s, .int x1, .int x2, .int x3, .int v2, .int v4, .null]) (l2 := [.ref s, .int x1, .int x2, .int x3, .int v2, .int v4, .null]) (s1 := []) (s2 := []) (h1 := h3) (h2 := h3) rfl rfl).trans (mm_ite ?_ ?_)
        · exact mm_by 6 rfl
        · refine (mm_by 10 (pc' := 65) (ls' := [.ref s, .int x1, .int x2, .int x3, .int v2, .int v4, .int 1]) (st' := [.int ((x2 >>> (v2 &&& 31)) &&& 1)]) (h' := h3) rfl).trans ?_
          refine (mm_br (c := ¬ ((x2 >>> (v2 &&& 31)) &&& 1) = 0) (p1 := 79) (p2 := 68) (l1 := [.ref s, .int x1, .int x2, .int x3, .int v2, .int v4, .int 1]) (l2 := [.ref s, .int x1, .int x2, .int x3, .int v2, .int v4, .int 1]) (s1 := []) (s2 := []) (h1 := h3) (h2 := h3) rfl rfl).trans (mm_ite ?_ ?_)
          · exact mm_by 2 rfl
          · refine (mm_by 5 (pc' := 74) (ls' := [.ref s, .int x1, .int x2, .int x3, .int v2, .int v4, .int 1]) (st' := [.int ((x2 >>> (v4 &&& 31)) &&& 1)]) (h' := h3) rfl).trans ?_
            refine (mm_br (c := ¬ ((x2 >>> (v4 &&& 31)) &&& 1) = 0) (p1 := 79) (p2 := 77) (l1 := [.ref s, .int x1, .int x2, .int x3, .int v2, .int v4, .int 1]) (l2 := [.ref s, .int x1, .int x2, .int x3, .int v2, .int v4, .int 1]) (s1 := []) (s2 := []) (h1 := h3) (h2 := h3) rfl rfl).trans (mm_ite ?_ ?_)
            · exact mm_by 2 rfl
            · exact mm_by_end 2 rfl
set_option maxRecDepth 100000 in
set_option maxHeartbeats 4000000 in
theorem U_X0_forgetOutcomes {d : Nat} {h : mm_H} : mm_M mm_T0 (d + 1) 21 [.ref 204] h = (mm_D (mm_M mm_T0 d) cd_X0_forgetOutcomes 2 [.ref 204, .int 0] [] h) := by
  refine (mm_M_eq (ls := [.ref 204, .null]) rfl (Nat.le_of_ble_eq_true rfl) rfl h).trans ?_
  exact mm_by 2 rfl
set_option maxRecDepth 100000 in
set_option maxHeartbeats 4000000 in
theorem U_X0_forgetOutcomes_2 {d : Nat} {x1 : Int32} {h : mm_H} : mm_D (mm_M mm_T0 d) cd_X0_forgetOutcomes 2 [.ref 204, .int x1] [] h = (if 256 ≤ x1 then (some (none, h)) else (if x1 < 0 ∨ 256 ≤ x1.toNatClampNeg then none else (mm_D (mm_M mm_T0 d) cd_X0_forgetOutcomes 2 [.ref 204, .int (x1 + 1)] [] (wI h 216 x1.toNatClampNeg 0)))) := by
  refine (mm_by 2 (pc' := 6) (ls' := [.ref 204, .int x1]) (st' := [.int 256, .int x1]) (h' := h) rfl).trans ?_
  refine (mm_br (c := 256 ≤ x1) (p1 := 22) (p2 := 9) (l1 := [.ref 204, .int x1]) (l2 := [.ref 204, .int x1]) (s1 := []) (s2 := []) (h1 := h) (h2 := h) rfl rfl).trans (mm_ite ?_ ?_)
  · exact mm_by_end 1 rfl
  · refine (mm_by 4 (pc' := 15) (ls' := [.ref 204, .int x1]) (st' := [.int 0, .int x1, .ref 216]) (h' := h) rfl).trans ?_
    refine (mm_gd (c := x1 < 0 ∨ 256 ≤ x1.toNatClampNeg) (p1 := 16) (l1 := [.ref 204, .int x1]) (s1 := []) (h1 := wI h 216 x1.toNatClampNeg 0) rfl (q_zast0 (n := 256) rfl)).trans (mm_ite rfl ?_)
    exact mm_by 2 rfl
set_option maxRecDepth 100000 in
set_option maxHeartbeats 4000000 in
theorem U_X0_isAtRest {d : Nat} {t : Nat} {s : Nat} {x3 : Int32} {x4 : Int32} {h : mm_H} (ht : mm_isT t) (hs : mm_isS s) : mm_M mm_T0 (d + 1) 22 [.ref 204, .ref t, .ref s, .int x3, .int x4] h = (mm_D (mm_M mm_T0 d) cd_X0_isAtRest 3 [.ref 204, .ref t, .ref s, .int x3, .int x4, .int 0, .null] [] h) := by
  refine (mm_M_eq (ls := [.ref 204, .ref t, .ref s, .int x3, .int x4, .null, .null]) rfl (Nat.le_of_ble_eq_true rfl) rfl h).trans ?_
  exact mm_by 2 rfl
set_option maxRecDepth 100000 in
set_option maxHeartbeats 4000000 in
theorem U_X0_isAtRest_3 {d : Nat} {t : Nat} {s : Nat} {x3 : Int32} {x4 : Int32} {x5 : Int32} {h : mm_H} (ht : mm_isT t) (hs : mm_isS s) : mm_D (mm_M mm_T0 d) cd_X0_isAtRest 3 [.ref 204, .ref t, .ref s, .int x3, .int x4, .int x5, .null] [] h = (if (h.1 s 10) ≤ x5 then (some (some (.int 1), h)) else (mm_bI (mm_M mm_T0 d 23 [.ref 204, .ref t, .ref s, .int x3, .int (x4 ^^^ ((1 : Int32) <<< (x5 &&& 31))), .int x5] h) (fun v2 h1 => mm_bI (mm_M mm_T0 d 23 [.ref 204, .ref t, .ref s, .int x3, .int x4, .int x5] h1) (fun v4 h3 => if v2 ≤ v4 then (mm_D (mm_M mm_T0 d) cd_X0_isAtRest 3 [.ref 204, .ref t, .ref s, .int x3, .int x4, .int (x5 + 1), .null] [] h3) else (some (some (.int 0), h3)))))) := by
  refine (mm_by 2 (pc' := 6) (ls' := [.ref 204, .ref t, .ref s, .int x3, .int x4, .int x5, .null]) (st' := [.ref s, .int x5]) (h' := h) rfl).trans ?_
  refine (mm_go (pc' := 9) (ls' := [.ref 204, .ref t, .ref s, .int x3, .int x4, .int x5, .null]) (st' := [.int (h.1 s 10), .int x5]) (h' := h) rfl (q_get (isS_0 hs))).trans ?_
  refine (mm_br (c := (h.1 s 10) ≤ x5) (p1 := 54) (p2 := 12) (l1 := [.ref 204, .ref t, .ref s, .int x3, .int x4, .int x5, .null]) (l2 := [.ref 204, .ref t, .ref s, .int x3, .int x4, .int x5, .null]) (s1 := []) (s2 := []) (h1 := h) (h2 := h) rfl rfl).trans (mm_ite ?_ ?_)
  · exact mm_by_end 2 rfl
  · refine (mm_by 12 (pc' := 29) (ls' := [.ref 204, .ref t, .ref s, .int x3, .int x4, .int x5, .int (x4 ^^^ ((1 : Int32) <<< (x5 &&& 31)))]) (st' := [.int x5, .int (x4 ^^^ ((1 : Int32) <<< (x5 &&& 31))), .int x3, .ref s, .ref t, .ref 204]) (h' := h) rfl).trans ?_
    refine (mm_c1 (y := 23) (as := [.ref 204, .ref t, .ref s, .int x3, .int (x4 ^^^ ((1 : Int32) <<< (x5 &&& 31))), .int x5]) (nx := 32) (rest := []) rfl rfl).trans (mm_congI fun v2 h1 => ?_)
    refine (mm_by 6 (pc' := 40) (ls' := [.ref 204, .ref t, .ref s, .int x3, .int x4, .int x5, .int (x4 ^^^ ((1 : Int32) <<< (x5 &&& 31)))]) (st' := [.int x5, .int x4, .int x3, .ref s, .ref t, .ref 204, .int v2]) (h' := h1) rfl).trans ?_
    refine (mm_c1 (y := 23) (as := [.ref 204, .ref t, .ref s, .int x3, .int x4, .int x5]) (nx := 43) (rest := [.int v2]) rfl rfl).trans (mm_congI fun v4 h3 => ?_)
    refine (mm_br (c := v2 ≤ v4) (p1 := 48) (p2 := 46) (l1 := [.ref 204, .ref t, .ref s, .int x3, .int x4, .int x5, .int (x4 ^^^ ((1 : Int32) <<< (x5 &&& 31)))]) (l2 := [.ref 204, .ref t, .ref s, .int x3, .int x4, .int x5, .int (x4 ^^^ ((1 : Int32) <<< (x5 &&& 31)))]) (s1 := []) (s2 := []) (h1 := h3) (h2 := h3) rfl rfl).trans (mm_ite ?_ ?_)
    · exact mm_by 2 rfl
    · exact mm_by_end 2 rfl
set_option maxRecDepth 100000 in
set_option maxHeartbeats 4000000 in
theorem U_X0_lookIn {d : Nat} {t : Nat} {s : Nat} {x3 : Int32} {x4 : Int32} {x5 : Int32} {h : mm_H} (ht : mm_isT t) (hs : mm_isS s) : mm_M mm_T0 (d + 1) 23 [.ref 204, .ref t, .ref s, .int x3, .int x4, .int x5] h = (if x4 < 0 then (some (some (.int 0), h)) else (if 256 ≤ x4 then (some (some (.int 0), h)) else (mm_bI (mm_M mm_T0 d 102 [.ref s, .int x5] h) (fun v2 h1 => if ¬ v2 = 0 then (if x4 < 0 ∨ 256 ≤ x4.toNatClampNeg then none else (if ¬ (h1.1 216 x4.toNatClampNeg) = 0 then (if ((x4 * 8) + x5) < 0 ∨ 2048 ≤ ((x4 * 8) + x5).toNatClampNeg then none else (some (some (.int (h1.1 215 ((x4 * 8) + x5).toNatClampNeg)), h1))) else (if x4 < 0 ∨ 256 ≤ x4.toNatClampNeg then none else (mm_bV (mm_M mm_T0 d 100 [.ref 205, .ref s] (wI h1 216 x4.toNatClampNeg 1)) (fun h3 => mm_D (mm_M mm_T0 d) cd_X0_lookIn 53 [.ref 204, .ref t, .ref s, .int x3, .int x4, .int x5, .int 0] [] h3))))) else (some (some (.int 0), h1)))))) := by
  refine (mm_M_eq (ls := [.ref 204, .ref t, .ref s, .int x3, .int x4, .int x5, .null]) rfl (Nat.le_of_ble_eq_true rfl) rfl h).trans ?_
  refine (mm_by 1 (pc' := 2) (ls' := [.ref 204, .ref t, .ref s, .int x3, .int x4, .int x5, .null]) (st' := [.int x4]) (h' := h) rfl).trans ?_
  refine (mm_br (c := x4 < 0) (p1 := 22) (p2 := 5) (l1 := [.ref 204, .ref t, .ref s, .int x3, .int x4, .int x5, .null]) (l2 := [.ref 204, .ref t, .ref s, .int x3, .int x4, .int x5, .null]) (s1 := []) (s2 := []) (h1 := h) (h2 := h) rfl rfl).trans (mm_ite ?_ ?_)
  · exact mm_by_end 2 rfl
  · refine (mm_by 2 (pc' := 10) (ls' := [.ref 204, .ref t, .ref s, .int x3, .int x4, .int x5, .null]) (st' := [.int 256, .int x4]) (h' := h) rfl).trans ?_
    refine (mm_br (c := 256 ≤ x4) (p1 := 22) (p2 := 13) (l1 := [.ref 204, .ref t, .ref s, .int x3, .int x4, .int x5, .null]) (l2 := [.ref 204, .ref t, .ref s, .int x3, .int x4, .int x5, .null]) (s1 := []) (s2 := []) (h1 := h) (h2 := h) rfl rfl).trans (mm_ite ?_ ?_)
    · exact mm_by_end 2 rfl
    · refine (mm_by 2 (pc' := 16) (ls' := [.ref 204, .ref t, .ref s, .int x3, .int x4, .int x5, .null]) (st' := [.int x5, .ref s]) (h' := h) rfl).trans ?_
      refine (mm_c1 (y := 102) (as := [.ref s, .int x5]) (nx := 19) (rest := []) rfl (if_pos ⟨(isS_0 hs), Nat.le_of_ble_eq_true rfl⟩)).trans (mm_congI fun v2 h1 => ?_)
      refine (mm_br (c := ¬ v2 = 0) (p1 := 24) (p2 := 22) (l1 := [.ref 204, .ref t, .ref s, .int x3, .int x4, .int x5, .null]) (l2 := [.ref 204, .ref t, .ref s, .int x3, .int x4, .int x5, .null]) (s1 := []) (s2 := []) (h1 := h1) (h2 := h1) rfl rfl).trans (mm_ite ?_ ?_)
      · refine (mm_by 3 (pc' := 30) (ls' := [.ref 204, .ref t, .ref s, .int x3, .int x4, .int x5, .null]) (st' := [.int x4, .ref 216]) (h' := h1) rfl).trans ?_
        refine (mm_gd (c := x4 < 0 ∨ 256 ≤ x4.toNatClampNeg) (p1 := 31) (l1 := [.ref 204, .ref t, .ref s, .int x3, .int x4, .int x5, .null]) (s1 := [.int (h1.1 216 x4.toNatClampNeg)]) (h1 := h1) rfl (q_zald (n := 256) rfl)).trans (mm_ite rfl ?_)
        refine (mm_br (c := ¬ (h1.1 216 x4.toNatClampNeg) = 0) (p1 := 131) (p2 := 34) (l1 := [.ref 204, .ref t, .ref s, .int x3, .int x4, .int x5, .null]) (l2 := [.ref 204, .ref t, .ref s, .int x3, .int x4, .int x5, .null]) (s1 := []) (s2 := []) (h1 := h1) (h2 := h1) rfl rfl).trans (mm_ite ?_ ?_)
        · refine (mm_by 7 (pc' := 143) (ls' := [.ref 204, .ref t, .ref s, .int x3, .int x4, .int x5, .null]) (st' := [.int ((x4 * 8) + x5), .ref 215]) (h' := h1) rfl).trans ?_
          refine (mm_gd (c := ((x4 * 8) + x5) < 0 ∨ 2048 ≤ ((x4 * 8) + x5).toNatClampNeg) (p1 := 144) (l1 := [.ref 204, .ref t, .ref s, .int x3, .int x4, .int x5, .null]) (s1 := [.int (h1.1 215 ((x4 * 8) + x5).toNatClampNeg)]) (h1 := h1) rfl (q_iald (n := 2048) rfl)).trans (mm_ite rfl ?_)
          exact mm_by_end 1 rfl
        · refine (mm_by 4 (pc' := 41) (ls' := [.ref 204, .ref t, .ref s, .int x3, .int x4, .int x5, .null]) (st' := [.int 1, .int x4, .ref 216]) (h' := h1) rfl).trans ?_
          refine (mm_gd (c := x4 < 0 ∨ 256 ≤ x4.toNatClampNeg) (p1 := 42) (l1 := [.ref 204, .ref t, .ref s, .int x3, .int x4, .int x5, .null]) (s1 := []) (h1 := wI h1 216 x4.toNatClampNeg 1) rfl (q_zast1 (n := 256) rfl)).trans (mm_ite rfl ?_)
          refine (mm_by 3 (pc' := 47) (ls' := [.ref 204, .ref t, .ref s, .int x3, .int x4, .int x5, .null]) (st' := [.ref s, .ref 205]) (h' := wI h1 216 x4.toNatClampNeg 1) rfl).trans ?_
          refine (mm_c0 (y := 100) (as := [.ref 205, .ref s]) (nx := 50) (rest := []) rfl rfl).trans (mm_congV fun h3 => ?_)
          exact mm_by 2 rfl
      · exact mm_by_end 2 rfl
set_option maxRecDepth 100000 in
set_option maxHeartbeats 4000000 in
theorem U_X0_lookIn_53 {d : Nat} {t : Nat} {s : Nat} {x3 : Int32} {x4 : Int32} {x5 : Int32} {x6 : Int32} {h : mm_H} (ht : mm_isT t) (hs : mm_isS s) : mm_D (mm_M mm_T0 d) cd_X0_lookIn 53 [.ref 204, .ref t, .ref s, .int x3, .int x4, .int x5, .int x6] [] h = (if (h.1 s 10) ≤ x6 then (mm_bV (mm_M mm_T0 d 141 [.ref t, .ref 205, .int x3] h) (fun h1 => mm_D (mm_M mm_T0 d) cd_X0_lookIn 96 [.ref 204, .null, .null, .null, .int x4, .int x5, .int 0] [] h1)) else (mm_bV (mm_M mm_T0 d 114 [.ref 205, .int x6, .int ((x4 >>> (x6 &&& 31)) &&& 1)] h) (fun h2 => mm_D (mm_M mm_T0 d) cd_X0_lookIn 53 [.ref 204, .ref t, .ref s, .int x3, .int x4, .int x5, .int (x6 + 1)] [] h2))) := by
  refine (mm_by 2 (pc' := 56) (ls' := [.ref 204, .ref t, .ref s, .int x3, .int x4, .int x5, .int x6]) (st' := [.ref s, .int x6]) (h' := h) rfl).trans ?_
  refine (mm_go (pc' := 59) (ls' := [.ref 204, .ref t, .ref s, .int x3, .int x4, .int x5, .int x6]) (st' := [.int (h.1 s 10), .int x6]) (h' := h) rfl (q_get (isS_0 hs))).trans ?_
  refine (mm_br (c := (h.1 s 10) ≤ x6) (p1 := 84) (p2 := 62) (l1 := [.ref 204, .ref t, .ref s, .int x3, .int x4, .int x5, .int x6]) (l2 := [.ref 204, .ref t, .ref s, .int x3, .int x4, .int x5, .int x6]) (s1 := []) (s2 := []) (h1 := h) (h2 := h) rfl rfl).trans (mm_ite ?_ ?_)
  · refine (mm_by 4 (pc' := 90) (ls' := [.ref 204, .ref t, .ref s, .int x3, .int x4, .int x5, .int x6]) (st' := [.int x3, .ref 205, .ref t]) (h' := h) rfl).trans ?_
    refine (mm_c0 (y := 141) (as := [.ref t, .ref 205, .int x3]) (nx := 93) (rest := []) rfl (if_pos ⟨(isT_0 ht), Nat.le_of_ble_eq_true rfl⟩)).trans (mm_congV fun h1 => ?_)
    exact mm_by 2 rfl
  · refine (mm_by 8 (pc' := 75) (ls' := [.ref 204, .ref t, .ref s, .int x3, .int x4, .int x5, .int x6]) (st' := [.int ((x4 >>> (x6 &&& 31)) &&& 1), .int x6, .ref 205]) (h' := h) rfl).trans ?_
    refine (mm_c0 (y := 114) (as := [.ref 205, .int x6, .int ((x4 >>> (x6 &&& 31)) &&& 1)]) (nx := 78) (rest := []) rfl rfl).trans (mm_congV fun h2 => ?_)
    exact mm_by 2 rfl
set_option maxRecDepth 100000 in
set_option maxHeartbeats 4000000 in
theorem U_X0_lookIn_96 {d : Nat} {t : Nat} {s : Nat} {x4 : Int32} {x5 : Int32} {x6 : Int32} {h : mm_H} (ht : mm_isT t) (hs : mm_isS s) : mm_D (mm_M mm_T0 d) cd_X0_lookIn 96 [.ref 204, .null, .null, .null, .int x4, .int x5, .int x6] [] h = (if 8 ≤ x6 then (if ((x4 * 8) + x5) < 0 ∨ 2048 ≤ ((x4 * 8) + x5).toNatClampNeg then none else (some (some (.int (h.1 215 ((x4 * 8) + x5).toNatClampNeg)), h))) else (mm_bI (mm_M mm_T0 d 106 [.ref 205, .int x6] h) (fun v2 h1 => if ((x4 * 8) + x6) < 0 ∨ 2048 ≤ ((x4 * 8) + x6).toNatClampNeg then none else (mm_D (mm_M mm_T0 d) cd_X0_lookIn 96 [.ref 204, .null, .null, .null, .int x4, .int x5, .int (x6 + 1)] [] (wI h1 215 (((x4 * 8) + x6).toNatClampNeg) v2))))) := by
  refine (mm_by 2 (pc' := 100) (ls' := [.ref 204, .null, .null, .null, .int x4, .int x5, .int x6]) (st' := [.int 8, .int x6]) (h' := h) rfl).trans ?_
  refine (mm_br (c := 8 ≤ x6) (p1 := 131) (p2 := 103) (l1 := [.ref 204, .null, .null, .null, .int x4, .int x5, .int x6]) (l2 := [.ref 204, .null, .null, .null, .int x4, .int x5, .int x6]) (s1 := []) (s2 := []) (h1 := h) (h2 := h) rfl rfl).trans (mm_ite ?_ ?_)
  · refine (mm_by 7 (pc' := 143) (ls' := [.ref 204, .null, .null, .null, .int x4, .int x5, .int x6]) (st' := [.int ((x4 * 8) + x5), .ref 215]) (h' := h) rfl).trans ?_
    refine (mm_gd (c := ((x4 * 8) + x5) < 0 ∨ 2048 ≤ ((x4 * 8) + x5).toNatClampNeg) (p1 := 144) (l1 := [.ref 204, .null, .null, .null, .int x4, .int x5, .int x6]) (s1 := [.int (h.1 215 ((x4 * 8) + x5).toNatClampNeg)]) (h1 := h) rfl (q_iald (n := 2048) rfl)).trans (mm_ite rfl ?_)
    exact mm_by_end 1 rfl
  · refine (mm_by 10 (pc' := 121) (ls' := [.ref 204, .null, .null, .null, .int x4, .int x5, .int x6]) (st' := [.int x6, .ref 205, .int ((x4 * 8) + x6), .ref 215]) (h' := h) rfl).trans ?_
    refine (mm_c1 (y := 106) (as := [.ref 205, .int x6]) (nx := 124) (rest := [.int ((x4 * 8) + x6), .ref 215]) rfl rfl).trans (mm_congI fun v2 h1 => ?_)
    refine (mm_gd (c := ((x4 * 8) + x6) < 0 ∨ 2048 ≤ ((x4 * 8) + x6).toNatClampNeg) (p1 := 125) (l1 := [.ref 204, .null, .null, .null, .int x4, .int x5, .int x6]) (s1 := []) (h1 := wI h1 215 (((x4 * 8) + x6).toNatClampNeg) v2) rfl (q_iast (n := 2048) rfl)).trans (mm_ite rfl ?_)
    exact mm_by 2 rfl
set_option maxRecDepth 100000 in
set_option maxHeartbeats 4000000 in
theorem U_X0_readSeen {d : Nat} {s : Nat} {h : mm_H} (hs : mm_isS s) : mm_M mm_T0 (d + 1) 24 [.ref 204, .ref 1, .ref s] h = (mm_bI (mm_M mm_T0 d 125 [.ref 1] h) (fun v2 h1 => if v2 = 0 then (some (some (.int 0), h1)) else (if 48 < v2 then (some (some (.int 0), h1)) else (if (v2 - v2 / 3 * 3) = 0 then (mm_D (mm_M mm_T0 d) cd_X0_readSeen 29 [.ref 204, .ref 1, .ref s, .int v2, .int 0, .null] [] h1) else (some (some (.int 0), h1)))))) := by
  refine (mm_M_eq (ls := [.ref 204, .ref 1, .ref s, .null, .null, .null]) rfl (Nat.le_of_ble_eq_true rfl) rfl h).trans ?_
  refine (mm_by 1 (pc' := 1) (ls' := [.ref 204, .ref 1, .ref s, .null, .null, .null]) (st' := [.ref 1]) (h' := h) rfl).trans ?_
  refine (mm_c1 (y := 125) (as := [.ref 1]) (nx := 4) (rest := []) rfl rfl).trans (mm_congI fun v2 h1 => ?_)
  refine (mm_by 2 (pc' := 6) (ls' := [.ref 204, .ref 1, .ref s, .int v2, .null, .null]) (st' := [.int v2]) (h' := h1) rfl).trans ?_
  refine (mm_br (c := v2 = 0) (p1 := 24) (p2 := 9) (l1 := [.ref 204, .ref 1, .ref s, .int v2, .null, .null]) (l2 := [.ref 204, .ref 1, .ref s, .int v2, .null, .null]) (s1 := []) (s2 := []) (h1 := h1) (h2 := h1) rfl rfl).trans (mm_ite ?_ ?_)
  · exact mm_by_end 2 rfl
  · refine (mm_by 4 (pc' := 15) (ls' := [.ref 204, .ref 1, .ref s, .int v2, .null, .null]) (st' := [.int 48, .int v2]) (h' := h1) rfl).trans ?_
    refine (mm_br (c := 48 < v2) (p1 := 24) (p2 := 18) (l1 := [.ref 204, .ref 1, .ref s, .int v2, .null, .null]) (l2 := [.ref 204, .ref 1, .ref s, .int v2, .null, .null]) (s1 := []) (s2 := []) (h1 := h1) (h2 := h1) rfl rfl).trans (mm_ite ?_ ?_)
    · exact mm_by_end 2 rfl
    · refine (mm_by 3 (pc' := 21) (ls' := [.ref 204, .ref 1, .ref s, .int v2, .null, .null]) (st' := [.int (v2 - v2 / 3 * 3)]) (h' := h1) rfl).trans ?_
      refine (mm_br (c := (v2 - v2 / 3 * 3) = 0) (p1 := 26) (p2 := 24) (l1 := [.ref 204, .ref 1, .ref s, .int v2, .null, .null]) (l2 := [.ref 204, .ref 1, .ref s, .int v2, .null, .null]) (s1 := []) (s2 := []) (h1 := h1) (h2 := h1) rfl rfl).trans (mm_ite ?_ ?_)
      · exact mm_by 2 rfl
      · exact mm_by_end 2 rfl
set_option maxRecDepth 100000 in
set_option maxHeartbeats 4000000 in
theorem U_X0_readSeen_29 {d : Nat} {s : Nat} {x3 : Int32} {x4 : Int32} {h : mm_H} (hs : mm_isS s) : mm_D (mm_M mm_T0 d) cd_X0_readSeen 29 [.ref 204, .ref 1, .ref s, .int x3, .int x4, .null] [] h = (if x3 ≤ x4 then (mm_D (mm_M mm_T0 d) cd_X0_readSeen 97 [.ref 204, .ref 1, .null, .int x3, .int 0, .null] [] h) else (mm_bI (mm_M mm_T0 d 126 [.ref 1, .int x4] h) (fun v2 h1 => if 30 < v2 then (some (some (.int 0), h1)) else (mm_bI (mm_M mm_T0 d 126 [.ref 1, .int (x4 + 1)] h1) (fun v4 h3 => mm_bI (mm_M mm_T0 d 102 [.ref s, .int v4] h3) (fun v6 h5 => if v6 = 0 then (some (some (.int 0), h5)) else (mm_bI (mm_M mm_T0 d 126 [.ref 1, .int (x4 + 2)] h5) (fun v8 h7 => if v8 ≤ 99 then (mm_D (mm_M mm_T0 d) cd_X0_readSeen 29 [.ref 204, .ref 1, .ref s, .int x3, .int (x4 + 3), .null] [] h7) else (some (some (.int 0), h7)))))))))) := by
  refine (mm_by 2 (pc' := 32) (ls' := [.ref 204, .ref 1, .ref s, .int x3, .int x4, .null]) (st' := [.int x3, .int x4]) (h' := h) rfl).trans ?_
  refine (mm_br (c := x3 ≤ x4) (p1 := 94) (p2 := 35) (l1 := [.ref 204, .ref 1, .ref s, .int x3, .int x4, .null]) (l2 := [.ref 204, .ref 1, .ref s, .int x3, .int x4, .null]) (s1 := []) (s2 := []) (h1 := h) (h2 := h) rfl rfl).trans (mm_ite ?_ ?_)
  · exact mm_by 2 rfl
  · refine (mm_by 2 (pc' := 38) (ls' := [.ref 204, .ref 1, .ref s, .int x3, .int x4, .null]) (st' := [.int x4, .ref 1]) (h' := h) rfl).trans ?_
    refine (mm_c1 (y := 126) (as := [.ref 1, .int x4]) (nx := 41) (rest := []) rfl rfl).trans (mm_congI fun v2 h1 => ?_)
    refine (mm_by 1 (pc' := 43) (ls' := [.ref 204, .ref 1, .ref s, .int x3, .int x4, .null]) (st' := [.int 30, .int v2]) (h' := h1) rfl).trans ?_
    refine (mm_br (c := 30 < v2) (p1 := 65) (p2 := 46) (l1 := [.ref 204, .ref 1, .ref s, .int x3, .int x4, .null]) (l2 := [.ref 204, .ref 1, .ref s, .int x3, .int x4, .null]) (s1 := []) (s2 := []) (h1 := h1) (h2 := h1) rfl rfl).trans (mm_ite ?_ ?_)
    · exact mm_by_end 6 rfl
    · refine (mm_by 5 (pc' := 52) (ls' := [.ref 204, .ref 1, .ref s, .int x3, .int x4, .null]) (st' := [.int (x4 + 1), .ref 1, .ref s]) (h' := h1) rfl).trans ?_
      refine (mm_c1 (y := 126) (as := [.ref 1, .int (x4 + 1)]) (nx := 55) (rest := [.ref s]) rfl rfl).trans (mm_congI fun v4 h3 => ?_)
      refine (mm_c1 (y := 102) (as := [.ref s, .int v4]) (nx := 58) (rest := []) rfl (if_pos ⟨(isS_0 hs), Nat.le_of_ble_eq_true rfl⟩)).trans (mm_congI fun v6 h5 => ?_)
      refine (mm_br (c := v6 = 0) (p1 := 65) (p2 := 61) (l1 := [.ref 204, .ref 1, .ref s, .int x3, .int x4, .null]) (l2 := [.ref 204, .ref 1, .ref s, .int x3, .int x4, .null]) (s1 := []) (s2 := []) (h1 := h5) (h2 := h5) rfl rfl).trans (mm_ite ?_ ?_)
      · exact mm_by_end 6 rfl
      · refine (mm_by 9 (pc' := 78) (ls' := [.ref 204, .ref 1, .ref s, .int x3, .int x4, .int 1]) (st' := [.int (x4 + 2), .ref 1]) (h' := h5) rfl).trans ?_
        refine (mm_c1 (y := 126) (as := [.ref 1, .int (x4 + 2)]) (nx := 81) (rest := []) rfl rfl).trans (mm_congI fun v8 h7 => ?_)
        refine (mm_by 1 (pc' := 83) (ls' := [.ref 204, .ref 1, .ref s, .int x3, .int x4, .int 1]) (st' := [.int 99, .int v8]) (h' := h7) rfl).trans ?_
        refine (mm_br (c := v8 ≤ 99) (p1 := 88) (p2 := 86) (l1 := [.ref 204, .ref 1, .ref s, .int x3, .int x4, .int 1]) (l2 := [.ref 204, .ref 1, .ref s, .int x3, .int x4, .int 1]) (s1 := []) (s2 := []) (h1 := h7) (h2 := h7) rfl rfl).trans (mm_ite ?_ ?_)
        · exact mm_by 2 rfl
        · exact mm_by_end 2 rfl
set_option maxRecDepth 100000 in
set_option maxHeartbeats 4000000 in
theorem U_X0_readSeen_97 {d : Nat} {s : Nat} {x3 : Int32} {x4 : Int32} {h : mm_H} (hs : mm_isS s) : mm_D (mm_M mm_T0 d) cd_X0_readSeen 97 [.ref 204, .ref 1, .null, .int x3, .int x4, .null] [] h = (if x3 ≤ x4 then (some (some (.int 1), wI h 204 2 (x3 / 3))) else (if 48 ≤ x4 then (some (some (.int 1), wI h 204 2 (x3 / 3))) else (mm_bI (mm_M mm_T0 d 126 [.ref 1, .int x4] h) (fun v2 h1 => if x4 < 0 ∨ 48 ≤ x4.toNatClampNeg then none else (mm_D (mm_M mm_T0 d) cd_X0_readSeen 97 [.ref 204, .ref 1, .null, .int x3, .int (x4 + 1), .null] [] (wI h1 214 x4.toNatClampNeg v2)))))) := by
  refine (mm_by 2 (pc' := 100) (ls' := [.ref 204, .ref 1, .null, .int x3, .int x4, .null]) (st' := [.int x3, .int x4]) (h' := h) rfl).trans ?_
  refine (mm_br (c := x3 ≤ x4) (p1 := 132) (p2 := 103) (l1 := [.ref 204, .ref 1, .null, .int x3, .int x4, .null]) (l2 := [.ref 204, .ref 1, .null, .int x3, .int x4, .null]) (s1 := []) (s2 := []) (h1 := h) (h2 := h) rfl rfl).trans (mm_ite ?_ ?_)
  · exact mm_by_end 7 rfl
  · refine (mm_by 4 (pc' := 110) (ls' := [.ref 204, .ref 1, .null, .int x3, .int x4, .null]) (st' := [.int 48, .int x4]) (h' := h) rfl).trans ?_
    refine (mm_br (c := 48 ≤ x4) (p1 := 132) (p2 := 113) (l1 := [.ref 204, .ref 1, .null, .int x3, .int x4, .null]) (l2 := [.ref 204, .ref 1, .null, .int x3, .int x4, .null]) (s1 := []) (s2 := []) (h1 := h) (h2 := h) rfl rfl).trans (mm_ite ?_ ?_)
    · exact mm_by_end 7 rfl
    · refine (mm_by 5 (pc' := 122) (ls' := [.ref 204, .ref 1, .null, .int x3, .int x4, .null]) (st' := [.int x4, .ref 1, .int x4, .ref 214]) (h' := h) rfl).trans ?_
      refine (mm_c1 (y := 126) (as := [.ref 1, .int x4]) (nx := 125) (rest := [.int x4, .ref 214]) rfl rfl).trans (mm_congI fun v2 h1 => ?_)
      refine (mm_gd (c := x4 < 0 ∨ 48 ≤ x4.toNatClampNeg) (p1 := 126) (l1 := [.ref 204, .ref 1, .null, .int x3, .int x4, .null]) (s1 := []) (h1 := wI h1 214 x4.toNatClampNeg v2) rfl (q_iast (n := 48) rfl)).trans (mm_ite rfl ?_)
      exact mm_by 2 rfl
set_option maxRecDepth 100000 in
set_option maxHeartbeats 4000000 in
theorem U_X0_possibleThoughts {d : Nat} {t : Nat} {s : Nat} {x3 : Int32} {x4 : Int32} {h : mm_H} (ht : mm_isT t) (hs : mm_isS s) : mm_M mm_T0 (d + 1) 25 [.ref 204, .ref t, .ref s, .int x3, .int x4] h = (mm_D (mm_M mm_T0 d) cd_X0_possibleThoughts 6 [.ref 204, .ref t, .ref s, .int x3, .int x4, .int 0, .int 0] [] h) := by
  refine (mm_M_eq (ls := [.ref 204, .ref t, .ref s, .int x3, .int x4, .null, .null]) rfl (Nat.le_of_ble_eq_true rfl) rfl h).trans ?_
  exact mm_by 4 rfl
set_option maxRecDepth 100000 in
set_option maxHeartbeats 4000000 in
theorem U_X0_possibleThoughts_6 {d : Nat} {t : Nat} {s : Nat} {x3 : Int32} {x4 : Int32} {x5 : Int32} {x6 : Int32} {h : mm_H} (ht : mm_isT t) (hs : mm_isS s) : mm_D (mm_M mm_T0 d) cd_X0_possibleThoughts 6 [.ref 204, .ref t, .ref s, .int x3, .int x4, .int x5, .int x6] [] h = (if 9 < x6 then (some (some (.int x5), h)) else (mm_bV (mm_M mm_T0 d 100 [.ref 205, .ref s] h) (fun h1 => mm_bV (mm_M mm_T0 d 115 [.ref 205, .int x3, .int x4, .int x6] h1) (fun h2 => mm_bI (mm_M mm_T0 d 27 [.ref 204, .ref t] h2) (fun v4 h3 => if v4 = 0 then (mm_D (mm_M mm_T0 d) cd_X0_possibleThoughts 6 [.ref 204, .ref t, .ref s, .int x3, .int x4, .int (x5 ||| 0), .int (x6 + 1)] [] h3) else (mm_D (mm_M mm_T0 d) cd_X0_possibleThoughts 6 [.ref 204, .ref t, .ref s, .int x3, .int x4, .int (x5 ||| ((1 : Int32) <<< (x6 &&& 31))), .int (x6 + 1)] [] h3)))))) := by
  refine (mm_by 2 (pc' := 10) (ls' := [.ref 204, .ref t, .ref s, .int x3, .int x4, .int x5, .int x6]) (st' := [.int 9, .int x6]) (h' := h) rfl).trans ?_
  refine (mm_br (c := 9 < x6) (p1 := 60) (p2 := 13) (l1 := [.ref 204, .ref t, .ref s, .int x3, .int x4, .int x5, .int x6]) (l2 := [.ref 204, .ref t, .ref s, .int x3, .int x4, .int x5, .int x6]) (s1 := []) (s2 := []) (h1 := h) (h2 := h) rfl rfl).trans (mm_ite ?_ ?_)
  · exact mm_by_end 2 rfl
  · refine (mm_by 3 (pc' := 18) (ls' := [.ref 204, .ref t, .ref s, .int x3, .int x4, .int x5, .int x6]) (st' := [.ref s, .ref 205]) (h' := h) rfl).trans ?_
    refine (mm_c0 (y := 100) (as := [.ref 205, .ref s]) (nx := 21) (rest := []) rfl rfl).trans (mm_congV fun h1 => ?_)
    refine (mm_by 5 (pc' := 30) (ls' := [.ref 204, .ref t, .ref s, .int x3, .int x4, .int x5, .int x6]) (st' := [.int x6, .int x4, .int x3, .ref 205]) (h' := h1) rfl).trans ?_
    refine (mm_c0 (y := 115) (as := [.ref 205, .int x3, .int x4, .int x6]) (nx := 33) (rest := []) rfl rfl).trans (mm_congV fun h2 => ?_)
    refine (mm_by 3 (pc' := 37) (ls' := [.ref 204, .ref t, .ref s, .int x3, .int x4, .int x5, .int x6]) (st' := [.ref t, .ref 204, .int x5]) (h' := h2) rfl).trans ?_
    refine (mm_c1 (y := 27) (as := [.ref 204, .ref t]) (nx := 40) (rest := [.int x5]) rfl rfl).trans (mm_congI fun v4 h3 => ?_)
    refine (mm_br (c := v4 = 0) (p1 := 50) (p2 := 43) (l1 := [.ref 204, .ref t, .ref s, .int x3, .int x4, .int x5, .int x6]) (l2 := [.ref 204, .ref t, .ref s, .int x3, .int x4, .int x5, .int x6]) (s1 := [.int x5]) (s2 := [.int x5]) (h1 := h3) (h2 := h3) rfl rfl).trans (mm_ite ?_ ?_)
    · exact mm_by 5 rfl
    · exact mm_by 8 rfl
set_option maxRecDepth 100000 in
set_option maxHeartbeats 4000000 in
theorem U_X0_possibleFaces {d : Nat} {t : Nat} {s : Nat} {x3 : Int32} {h : mm_H} (ht : mm_isT t) (hs : mm_isS s) : mm_M mm_T0 (d + 1) 26 [.ref 204, .ref t, .ref s, .int x3] h = (mm_D (mm_M mm_T0 d) cd_X0_possibleFaces 6 [.ref 204, .ref t, .ref s, .int x3, .int 0, .int 0] [] h) := by
  refine (mm_M_eq (ls := [.ref 204, .ref t, .ref s, .int x3, .null, .null]) rfl (Nat.le_of_ble_eq_true rfl) rfl h).trans ?_
  exact mm_by 4 rfl
set_option maxRecDepth 100000 in
set_option maxHeartbeats 4000000 in
theorem U_X0_possibleFaces_6 {d : Nat} {t : Nat} {s : Nat} {x3 : Int32} {x4 : Int32} {x5 : Int32} {h : mm_H} (ht : mm_isT t) (hs : mm_isS s) : mm_D (mm_M mm_T0 d) cd_X0_possibleFaces 6 [.ref 204, .ref t, .ref s, .int x3, .int x4, .int x5] [] h = (if 9 < x5 then (some (some (.int x4), h)) else (mm_bV (mm_M mm_T0 d 100 [.ref 205, .ref s] h) (fun h1 => mm_bV (mm_M mm_T0 d 113 [.ref 205, .int x3, .int x5] h1) (fun h2 => mm_bI (mm_M mm_T0 d 27 [.ref 204, .ref t] h2) (fun v4 h3 => if v4 = 0 then (mm_D (mm_M mm_T0 d) cd_X0_possibleFaces 6 [.ref 204, .ref t, .ref s, .int x3, .int (x4 ||| 0), .int (x5 + 1)] [] h3) else (mm_D (mm_M mm_T0 d) cd_X0_possibleFaces 6 [.ref 204, .ref t, .ref s, .int x3, .int (x4 ||| ((1 : Int32) <<< (x5 &&& 31))), .int (x5 + 1)] [] h3)))))) := by
  refine (mm_by 2 (pc' := 10) (ls' := [.ref 204, .ref t, .ref s, .int x3, .int x4, .int x5]) (st' := [.int 9, .int x5]) (h' := h) rfl).trans ?_
  refine (mm_br (c := 9 < x5) (p1 := 58) (p2 := 13) (l1 := [.ref 204, .ref t, .ref s, .int x3, .int x4, .int x5]) (l2 := [.ref 204, .ref t, .ref s, .int x3, .int x4, .int x5]) (s1 := []) (s2 := []) (h1 := h) (h2 := h) rfl rfl).trans (mm_ite ?_ ?_)
  · exact mm_by_end 2 rfl
  · refine (mm_by 3 (pc' := 18) (ls' := [.ref 204, .ref t, .ref s, .int x3, .int x4, .int x5]) (st' := [.ref s, .ref 205]) (h' := h) rfl).trans ?_
    refine (mm_c0 (y := 100) (as := [.ref 205, .ref s]) (nx := 21) (rest := []) rfl rfl).trans (mm_congV fun h1 => ?_)
    refine (mm_by 4 (pc' := 28) (ls' := [.ref 204, .ref t, .ref s, .int x3, .int x4, .int x5]) (st' := [.int x5, .int x3, .ref 205]) (h' := h1) rfl).trans ?_
    refine (mm_c0 (y := 113) (as := [.ref 205, .int x3, .int x5]) (nx := 31) (rest := []) rfl rfl).trans (mm_congV fun h2 => ?_)
    refine (mm_by 3 (pc' := 35) (ls' := [.ref 204, .ref t, .ref s, .int x3, .int x4, .int x5]) (st' := [.ref t, .ref 204, .int x4]) (h' := h2) rfl).trans ?_
    refine (mm_c1 (y := 27) (as := [.ref 204, .ref t]) (nx := 38) (rest := [.int x4]) rfl rfl).trans (mm_congI fun v4 h3 => ?_)
    refine (mm_br (c := v4 = 0) (p1 := 48) (p2 := 41) (l1 := [.ref 204, .ref t, .ref s, .int x3, .int x4, .int x5]) (l2 := [.ref 204, .ref t, .ref s, .int x3, .int x4, .int x5]) (s1 := [.int x4]) (s2 := [.int x4]) (h1 := h3) (h2 := h3) rfl rfl).trans (mm_ite ?_ ?_)
    · exact mm_by 5 rfl
    · exact mm_by 8 rfl
set_option maxRecDepth 100000 in
set_option maxHeartbeats 4000000 in
theorem U_X0_comesAsSeen {d : Nat} {t : Nat} {h : mm_H} (ht : mm_isT t) : mm_M mm_T0 (d + 1) 27 [.ref 204, .ref t] h = (mm_D (mm_M mm_T0 d) cd_X0_comesAsSeen 4 [.ref 204, .ref t, .int 0, .int 0] [] h) := by
  refine (mm_M_eq (ls := [.ref 204, .ref t, .null, .null]) rfl (Nat.le_of_ble_eq_true rfl) rfl h).trans ?_
  exact mm_by 4 rfl
set_option maxRecDepth 100000 in
set_option maxHeartbeats 4000000 in
theorem U_X0_comesAsSeen_4 {d : Nat} {t : Nat} {x2 : Int32} {x3 : Int32} {h : mm_H} (ht : mm_isT t) : mm_D (mm_M mm_T0 d) cd_X0_comesAsSeen 4 [.ref 204, .ref t, .int x2, .int x3] [] h = (if (h.1 204 2) ≤ x3 then (if ((h.1 205 11) + x2) ≤ 999 then (mm_D (mm_M mm_T0 d) cd_X0_comesAsSeen 48 [.ref 204, .ref t, .int x2, .int 0] [] h) else (some (some (.int 0), h))) else (mm_bI (mm_M mm_T0 d 29 [.ref 204, .int x3, .int 0] h) (fun v2 h1 => mm_bI (mm_M mm_T0 d 9 [.int x2, .int v2] h1) (fun v4 h3 => mm_D (mm_M mm_T0 d) cd_X0_comesAsSeen 4 [.ref 204, .ref t, .int v4, .int (x3 + 1)] [] h3)))) := by
  refine (mm_by 3 (pc' := 9) (ls' := [.ref 204, .ref t, .int x2, .int x3]) (st' := [.int (h.1 204 2), .int x3]) (h' := h) rfl).trans ?_
  refine (mm_br (c := (h.1 204 2) ≤ x3) (p1 := 29) (p2 := 12) (l1 := [.ref 204, .ref t, .int x2, .int x3]) (l2 := [.ref 204, .ref t, .int x2, .int x3]) (s1 := []) (s2 := []) (h1 := h) (h2 := h) rfl rfl).trans (mm_ite ?_ ?_)
  · refine (mm_by 6 (pc' := 41) (ls' := [.ref 204, .ref t, .int x2, .int x3]) (st' := [.int 999, .int ((h.1 205 11) + x2)]) (h' := h) rfl).trans ?_
    refine (mm_br (c := ((h.1 205 11) + x2) ≤ 999) (p1 := 46) (p2 := 44) (l1 := [.ref 204, .ref t, .int x2, .int x3]) (l2 := [.ref 204, .ref t, .int x2, .int x3]) (s1 := []) (s2 := []) (h1 := h) (h2 := h) rfl rfl).trans (mm_ite ?_ ?_)
    · exact mm_by 2 rfl
    · exact mm_by_end 2 rfl
  · refine (mm_by 4 (pc' := 16) (ls' := [.ref 204, .ref t, .int x2, .int x3]) (st' := [.int 0, .int x3, .ref 204, .int x2]) (h' := h) rfl).trans ?_
    refine (mm_c1 (y := 29) (as := [.ref 204, .int x3, .int 0]) (nx := 19) (rest := [.int x2]) rfl rfl).trans (mm_congI fun v2 h1 => ?_)
    refine (mm_c1 (y := 9) (as := [.int x2, .int v2]) (nx := 22) (rest := []) rfl rfl).trans (mm_congI fun v4 h3 => ?_)
    exact mm_by 3 rfl
set_option maxRecDepth 100000 in
set_option maxHeartbeats 4000000 in
theorem U_X0_comesAsSeen_48 {d : Nat} {t : Nat} {x2 : Int32} {x3 : Int32} {h : mm_H} (ht : mm_isT t) : mm_D (mm_M mm_T0 d) cd_X0_comesAsSeen 48 [.ref 204, .ref t, .int x2, .int x3] [] h = (if x2 < x3 then (some (some (.int 1), h)) else (mm_bI (mm_M mm_T0 d 28 [.ref 204, .int x3] h) (fun v2 h1 => if ¬ v2 = 0 then (mm_bV (mm_M mm_T0 d 141 [.ref t, .ref 205, .int 1] h1) (fun h3 => mm_D (mm_M mm_T0 d) cd_X0_comesAsSeen 48 [.ref 204, .ref t, .int x2, .int (x3 + 1)] [] h3)) else (some (some (.int 0), h1))))) := by
  refine (mm_by 2 (pc' := 50) (ls' := [.ref 204, .ref t, .int x2, .int x3]) (st' := [.int x2, .int x3]) (h' := h) rfl).trans ?_
  refine (mm_br (c := x2 < x3) (p1 := 78) (p2 := 53) (l1 := [.ref 204, .ref t, .int x2, .int x3]) (l2 := [.ref 204, .ref t, .int x2, .int x3]) (s1 := []) (s2 := []) (h1 := h) (h2 := h) rfl rfl).trans (mm_ite ?_ ?_)
  · exact mm_by_end 2 rfl
  · refine (mm_by 2 (pc' := 55) (ls' := [.ref 204, .ref t, .int x2, .int x3]) (st' := [.int x3, .ref 204]) (h' := h) rfl).trans ?_
    refine (mm_c1 (y := 28) (as := [.ref 204, .int x3]) (nx := 58) (rest := []) rfl rfl).trans (mm_congI fun v2 h1 => ?_)
    refine (mm_br (c := ¬ v2 = 0) (p1 := 63) (p2 := 61) (l1 := [.ref 204, .ref t, .int x2, .int x3]) (l2 := [.ref 204, .ref t, .int x2, .int x3]) (s1 := []) (s2 := []) (h1 := h1) (h2 := h1) rfl rfl).trans (mm_ite ?_ ?_)
    · refine (mm_by 4 (pc' := 69) (ls' := [.ref 204, .ref t, .int x2, .int x3]) (st' := [.int 1, .ref 205, .ref t]) (h' := h1) rfl).trans ?_
      refine (mm_c0 (y := 141) (as := [.ref t, .ref 205, .int 1]) (nx := 72) (rest := []) rfl (if_pos ⟨(isT_0 ht), Nat.le_of_ble_eq_true rfl⟩)).trans (mm_congV fun h3 => ?_)
      exact mm_by 2 rfl
    · exact mm_by_end 2 rfl
set_option maxRecDepth 100000 in
set_option maxHeartbeats 4000000 in
theorem U_X0_isAsSeen {d : Nat} {x1 : Int32} {h : mm_H} : mm_M mm_T0 (d + 1) 28 [.ref 204, .int x1] h = (mm_D (mm_M mm_T0 d) cd_X0_isAsSeen 2 [.ref 204, .int x1, .int 0] [] h) := by
  refine (mm_M_eq (ls := [.ref 204, .int x1, .null]) rfl (Nat.le_of_ble_eq_true rfl) rfl h).trans ?_
  exact mm_by 2 rfl
set_option maxRecDepth 100000 in
set_option maxHeartbeats 4000000 in
theorem U_X0_isAsSeen_2 {d : Nat} {x1 : Int32} {x2 : Int32} {h : mm_H} : mm_D (mm_M mm_T0 d) cd_X0_isAsSeen 2 [.ref 204, .int x1, .int x2] [] h = (if (h.1 204 2) ≤ x2 then (some (some (.int 1), h)) else (mm_bI (mm_M mm_T0 d 29 [.ref 204, .int x2, .int 0] h) (fun v2 h1 => if ¬ v2 = x1 then (mm_D (mm_M mm_T0 d) cd_X0_isAsSeen 2 [.ref 204, .int x1, .int (x2 + 1)] [] h1) else (mm_bI (mm_M mm_T0 d 29 [.ref 204, .int x2, .int 1] h1) (fun v4 h3 => mm_bI (mm_M mm_T0 d 106 [.ref 205, .int v4] h3) (fun v6 h5 => mm_bI (mm_M mm_T0 d 29 [.ref 204, .int x2, .int 2] h5) (fun v8 h7 => if v6 = v8 then (mm_D (mm_M mm_T0 d) cd_X0_isAsSeen 2 [.ref 204, .int x1, .int (x2 + 1)] [] h7) else (some (some (.int 0), h7))))))))) := by
  refine (mm_by 3 (pc' := 7) (ls' := [.ref 204, .int x1, .int x2]) (st' := [.int (h.1 204 2), .int x2]) (h' := h) rfl).trans ?_
  refine (mm_br (c := (h.1 204 2) ≤ x2) (p1 := 50) (p2 := 10) (l1 := [.ref 204, .int x1, .int x2]) (l2 := [.ref 204, .int x1, .int x2]) (s1 := []) (s2 := []) (h1 := h) (h2 := h) rfl rfl).trans (mm_ite ?_ ?_)
  · exact mm_by_end 2 rfl
  · refine (mm_by 3 (pc' := 13) (ls' := [.ref 204, .int x1, .int x2]) (st' := [.int 0, .int x2, .ref 204]) (h' := h) rfl).trans ?_
    refine (mm_c1 (y := 29) (as := [.ref 204, .int x2, .int 0]) (nx := 16) (rest := []) rfl rfl).trans (mm_congI fun v2 h1 => ?_)
    refine (mm_by 1 (pc' := 17) (ls' := [.ref 204, .int x1, .int x2]) (st' := [.int x1, .int v2]) (h' := h1) rfl).trans ?_
    refine (mm_br (c := ¬ v2 = x1) (p1 := 44) (p2 := 20) (l1 := [.ref 204, .int x1, .int x2]) (l2 := [.ref 204, .int x1, .int x2]) (s1 := []) (s2 := []) (h1 := h1) (h2 := h1) rfl rfl).trans (mm_ite ?_ ?_)
    · exact mm_by 2 rfl
    · refine (mm_by 5 (pc' := 27) (ls' := [.ref 204, .int x1, .int x2]) (st' := [.int 1, .int x2, .ref 204, .ref 205]) (h' := h1) rfl).trans ?_
      refine (mm_c1 (y := 29) (as := [.ref 204, .int x2, .int 1]) (nx := 30) (rest := [.ref 205]) rfl rfl).trans (mm_congI fun v4 h3 => ?_)
      refine (mm_c1 (y := 106) (as := [.ref 205, .int v4]) (nx := 33) (rest := []) rfl rfl).trans (mm_congI fun v6 h5 => ?_)
      refine (mm_by 3 (pc' := 36) (ls' := [.ref 204, .int x1, .int x2]) (st' := [.int 2, .int x2, .ref 204, .int v6]) (h' := h5) rfl).trans ?_
      refine (mm_c1 (y := 29) (as := [.ref 204, .int x2, .int 2]) (nx := 39) (rest := [.int v6]) rfl rfl).trans (mm_congI fun v8 h7 => ?_)
      refine (mm_br (c := v6 = v8) (p1 := 44) (p2 := 42) (l1 := [.ref 204, .int x1, .int x2]) (l2 := [.ref 204, .int x1, .int x2]) (s1 := []) (s2 := []) (h1 := h7) (h2 := h7) rfl rfl).trans (mm_ite ?_ ?_)
      · exact mm_by 2 rfl
      · exact mm_by_end 2 rfl
set_option maxRecDepth 100000 in
set_option maxHeartbeats 4000000 in
theorem U_X0_seenAt {d : Nat} {x1 : Int32} {x2 : Int32} {h : mm_H} : mm_M mm_T0 (d + 1) 29 [.ref 204, .int x1, .int x2] h = (if ((x1 * 3) + x2) < 0 then (some (some (.int 0), h)) else (if 48 ≤ ((x1 * 3) + x2) then (some (some (.int 0), h)) else (if ((x1 * 3) + x2) < 0 ∨ 48 ≤ ((x1 * 3) + x2).toNatClampNeg then none else (some (some (.int (h.1 214 ((x1 * 3) + x2).toNatClampNeg)), h))))) := by
  refine (mm_M_eq (ls := [.ref 204, .int x1, .int x2, .null]) rfl (Nat.le_of_ble_eq_true rfl) rfl h).trans ?_
  refine (mm_by 7 (pc' := 7) (ls' := [.ref 204, .int x1, .int x2, .int ((x1 * 3) + x2)]) (st' := [.int ((x1 * 3) + x2)]) (h' := h) rfl).trans ?_
  refine (mm_br (c := ((x1 * 3) + x2) < 0) (p1 := 28) (p2 := 10) (l1 := [.ref 204, .int x1, .int x2, .int ((x1 * 3) + x2)]) (l2 := [.ref 204, .int x1, .int x2, .int ((x1 * 3) + x2)]) (s1 := []) (s2 := []) (h1 := h) (h2 := h) rfl rfl).trans (mm_ite ?_ ?_)
  · exact mm_by_end 2 rfl
  · refine (mm_by 4 (pc' := 16) (ls' := [.ref 204, .int x1, .int x2, .int ((x1 * 3) + x2)]) (st' := [.int 48, .int ((x1 * 3) + x2)]) (h' := h) rfl).trans ?_
    refine (mm_br (c := 48 ≤ ((x1 * 3) + x2)) (p1 := 28) (p2 := 19) (l1 := [.ref 204, .int x1, .int x2, .int ((x1 * 3) + x2)]) (l2 := [.ref 204, .int x1, .int x2, .int ((x1 * 3) + x2)]) (s1 := []) (s2 := []) (h1 := h) (h2 := h) rfl rfl).trans (mm_ite ?_ ?_)
    · exact mm_by_end 2 rfl
    · refine (mm_by 3 (pc' := 24) (ls' := [.ref 204, .int x1, .int x2, .int ((x1 * 3) + x2)]) (st' := [.int ((x1 * 3) + x2), .ref 214]) (h' := h) rfl).trans ?_
      refine (mm_gd (c := ((x1 * 3) + x2) < 0 ∨ 48 ≤ ((x1 * 3) + x2).toNatClampNeg) (p1 := 25) (l1 := [.ref 204, .int x1, .int x2, .int ((x1 * 3) + x2)]) (s1 := [.int (h.1 214 ((x1 * 3) + x2).toNatClampNeg)]) (h1 := h) rfl (q_iald (n := 48) rfl)).trans (mm_ite rfl ?_)
      exact mm_by_end 2 rfl
set_option maxRecDepth 100000 in
set_option maxHeartbeats 4000000 in
theorem U_X0_findTelling {d : Nat} {t : Nat} {s : Nat} {x3 : Int32} {x4 : Int32} {x5 : Int32} {h : mm_H} (ht : mm_isT t) (hs : mm_isS s) : mm_M mm_T0 (d + 1) 30 [.ref 204, .ref t, .ref s, .int x3, .int x4, .int x5] h = (mm_bI (mm_M mm_T0 d 11 [.int 30, .int (999 - (h.1 s 11))] h) (fun v2 h1 => mm_D (mm_M mm_T0 d) cd_X0_findTelling 29 [.ref 204, .ref t, .ref s, .int x3, .int x4, .int x5, .int v2, .int 0, .null] [] (wI (wI h1 204 9 ((-1))) 204 10 11))) := by
  refine (mm_M_eq (ls := [.ref 204, .ref t, .ref s, .int x3, .int x4, .int x5, .null, .null, .null]) rfl (Nat.le_of_ble_eq_true rfl) rfl h).trans ?_
  refine (mm_by 3 (pc' := 6) (ls' := [.ref 204, .ref t, .ref s, .int x3, .int x4, .int x5, .null, .null, .null]) (st' := [.ref s, .int 999, .int 30]) (h' := h) rfl).trans ?_
  refine (mm_go (pc' := 9) (ls' := [.ref 204, .ref t, .ref s, .int x3, .int x4, .int x5, .null, .null, .null]) (st' := [.int (h.1 s 11), .int 999, .int 30]) (h' := h) rfl (q_get (isS_0 hs))).trans ?_
  refine (mm_by 1 (pc' := 10) (ls' := [.ref 204, .ref t, .ref s, .int x3, .int x4, .int x5, .null, .null, .null]) (st' := [.int (999 - (h.1 s 11)), .int 30]) (h' := h) rfl).trans ?_
  refine (mm_c1 (y := 11) (as := [.int 30, .int (999 - (h.1 s 11))]) (nx := 13) (rest := []) rfl rfl).trans (mm_congI fun v2 h1 => ?_)
  exact mm_by 9 rfl
set_option maxRecDepth 100000 in
set_option maxHeartbeats 4000000 in
theorem U_X0_findTelling_29 {d : Nat} {t : Nat} {s : Nat} {x3 : Int32} {x4 : Int32} {x5 : Int32} {x6 : Int32} {x7 : Int32} {h : mm_H} (ht : mm_isT t) (hs : mm_isS s) : mm_D (mm_M mm_T0 d) cd_X0_findTelling 29 [.ref 204, .ref t, .ref s, .int x3, .int x4, .int x5, .int x6, .int x7, .null] [] h = (if 9 < x7 then (mm_D (mm_M mm_T0 d) cd_X0_findTelling 117 [.ref 204, .null, .null, .null, .null, .int x5, .int x6, .int 1, .null] [] h) else (mm_bV (mm_M mm_T0 d 100 [.ref 205, .ref s] h) (fun h1 => mm_bV (mm_M mm_T0 d 115 [.ref 205, .int x3, .int x4, .int x7] h1) (fun h2 => mm_D (mm_M mm_T0 d) cd_X0_findTelling 59 [.ref 204, .ref t, .ref s, .int x3, .int x4, .int x5, .int x6, .int x7, .int 1] [] h2)))) := by
  refine (mm_by 2 (pc' := 33) (ls' := [.ref 204, .ref t, .ref s, .int x3, .int x4, .int x5, .int x6, .int x7, .null]) (st' := [.int 9, .int x7]) (h' := h) rfl).trans ?_
  refine (mm_br (c := 9 < x7) (p1 := 114) (p2 := 36) (l1 := [.ref 204, .ref t, .ref s, .int x3, .int x4, .int x5, .int x6, .int x7, .null]) (l2 := [.ref 204, .ref t, .ref s, .int x3, .int x4, .int x5, .int x6, .int x7, .null]) (s1 := []) (s2 := []) (h1 := h) (h2 := h) rfl rfl).trans (mm_ite ?_ ?_)
  · exact mm_by 2 rfl
  · refine (mm_by 3 (pc' := 41) (ls' := [.ref 204, .ref t, .ref s, .int x3, .int x4, .int x5, .int x6, .int x7, .null]) (st' := [.ref s, .ref 205]) (h' := h) rfl).trans ?_
    refine (mm_c0 (y := 100) (as := [.ref 205, .ref s]) (nx := 44) (rest := []) rfl rfl).trans (mm_congV fun h1 => ?_)
    refine (mm_by 5 (pc' := 53) (ls' := [.ref 204, .ref t, .ref s, .int x3, .int x4, .int x5, .int x6, .int x7, .null]) (st' := [.int x7, .int x4, .int x3, .ref 205]) (h' := h1) rfl).trans ?_
    refine (mm_c0 (y := 115) (as := [.ref 205, .int x3, .int x4, .int x7]) (nx := 56) (rest := []) rfl rfl).trans (mm_congV fun h2 => ?_)
    exact mm_by 2 rfl
set_option maxRecDepth 100000 in
set_option maxHeartbeats 4000000 in
theorem U_X0_findTelling_59 {d : Nat} {t : Nat} {s : Nat} {x3 : Int32} {x4 : Int32} {x5 : Int32} {x6 : Int32} {x7 : Int32} {x8 : Int32} {h : mm_H} (ht : mm_isT t) (hs : mm_isS s) : mm_D (mm_M mm_T0 d) cd_X0_findTelling 59 [.ref 204, .ref t, .ref s, .int x3, .int x4, .int x5, .int x6, .int x7, .int x8] [] h = (if x6 < x8 then (mm_D (mm_M mm_T0 d) cd_X0_findTelling 29 [.ref 204, .ref t, .ref s, .int x3, .int x4, .int x5, .int x6, .int (x7 + 1), .null] [] h) else (if x5 = 0 then (mm_D (mm_M mm_T0 d) cd_X0_findTelling 29 [.ref 204, .ref t, .ref s, .int x3, .int x4, .int x5, .int x6, .int (x7 + 1), .null] [] h) else (mm_bV (mm_M mm_T0 d 141 [.ref t, .ref 205, .int 1] h) (fun h1 => mm_bI (mm_M mm_T0 d 106 [.ref 205, .int x4] h1) (fun v3 h2 => if ((x7 * 31) + x8) < 0 ∨ 310 ≤ ((x7 * 31) + x8).toNatClampNeg then none else (mm_D (mm_M mm_T0 d) cd_X0_findTelling 59 [.ref 204, .ref t, .ref s, .int x3, .int x4, .int x5, .int x6, .int x7, .int (x8 + 1)] [] (wI h2 217 (((x7 * 31) + x8).toNatClampNeg) v3))))))) := by
  refine (mm_by 2 (pc' := 63) (ls' := [.ref 204, .ref t, .ref s, .int x3, .int x4, .int x5, .int x6, .int x7, .int x8]) (st' := [.int x6, .int x8]) (h' := h) rfl).trans ?_
  refine (mm_br (c := x6 < x8) (p1 := 108) (p2 := 66) (l1 := [.ref 204, .ref t, .ref s, .int x3, .int x4, .int x5, .int x6, .int x7, .int x8]) (l2 := [.ref 204, .ref t, .ref s, .int x3, .int x4, .int x5, .int x6, .int x7, .int x8]) (s1 := []) (s2 := []) (h1 := h) (h2 := h) rfl rfl).trans (mm_ite ?_ ?_)
  · exact mm_by 2 rfl
  · refine (mm_by 1 (pc' := 68) (ls' := [.ref 204, .ref t, .ref s, .int x3, .int x4, .int x5, .int x6, .int x7, .int x8]) (st' := [.int x5]) (h' := h) rfl).trans ?_
    refine (mm_br (c := x5 = 0) (p1 := 108) (p2 := 71) (l1 := [.ref 204, .ref t, .ref s, .int x3, .int x4, .int x5, .int x6, .int x7, .int x8]) (l2 := [.ref 204, .ref t, .ref s, .int x3, .int x4, .int x5, .int x6, .int x7, .int x8]) (s1 := []) (s2 := []) (h1 := h) (h2 := h) rfl rfl).trans (mm_ite ?_ ?_)
    · exact mm_by 2 rfl
    · refine (mm_by 4 (pc' := 77) (ls' := [.ref 204, .ref t, .ref s, .int x3, .int x4, .int x5, .int x6, .int x7, .int x8]) (st' := [.int 1, .ref 205, .ref t]) (h' := h) rfl).trans ?_
      refine (mm_c0 (y := 141) (as := [.ref t, .ref 205, .int 1]) (nx := 80) (rest := []) rfl (if_pos ⟨(isT_0 ht), Nat.le_of_ble_eq_true rfl⟩)).trans (mm_congV fun h1 => ?_)
      refine (mm_by 10 (pc' := 98) (ls' := [.ref 204, .ref t, .ref s, .int x3, .int x4, .int x5, .int x6, .int x7, .int x8]) (st' := [.int x4, .ref 205, .int ((x7 * 31) + x8), .ref 217]) (h' := h1) rfl).trans ?_
      refine (mm_c1 (y := 106) (as := [.ref 205, .int x4]) (nx := 101) (rest := [.int ((x7 * 31) + x8), .ref 217]) rfl rfl).trans (mm_congI fun v3 h2 => ?_)
      refine (mm_gd (c := ((x7 * 31) + x8) < 0 ∨ 310 ≤ ((x7 * 31) + x8).toNatClampNeg) (p1 := 102) (l1 := [.ref 204, .ref t, .ref s, .int x3, .int x4, .int x5, .int x6, .int x7, .int x8]) (s1 := []) (h1 := wI h2 217 (((x7 * 31) + x8).toNatClampNeg) v3) rfl (q_iast (n := 310) rfl)).trans (mm_ite rfl ?_)
      exact mm_by 2 rfl
set_option maxRecDepth 100000 in
set_option maxHeartbeats 4000000 in
theorem U_X0_findTelling_117 {d : Nat} {t : Nat} {s : Nat} {x5 : Int32} {x6 : Int32} {x7 : Int32} {h : mm_H} (ht : mm_isT t) (hs : mm_isS s) : mm_D (mm_M mm_T0 d) cd_X0_findTelling 117 [.ref 204, .null, .null, .null, .null, .int x5, .int x6, .int x7, .null] [] h = (if x6 < x7 then (if (h.1 204 9) = ((-1)) then (some (some (.int 0), h)) else (some (some (.int 1), h))) else (if x5 = 0 then (if (h.1 204 9) = ((-1)) then (some (some (.int 0), h)) else (some (some (.int 1), h))) else (mm_bI (mm_M mm_T0 d 31 [.ref 204, .int x5, .int x7] h) (fun v2 h1 => if (h1.1 204 10) ≤ v2 then (mm_D (mm_M mm_T0 d) cd_X0_findTelling 117 [.ref 204, .null, .null, .null, .null, .int x5, .int x6, .int (x7 + 1), .null] [] h1) else (mm_D (mm_M mm_T0 d) cd_X0_findTelling 117 [.ref 204, .null, .null, .null, .null, .int x5, .int x6, .int (x7 + 1), .null] [] (wI (wI h1 204 9 x7) 204 10 v2)))))) := by
  refine (mm_by 2 (pc' := 121) (ls' := [.ref 204, .null, .null, .null, .null, .int x5, .int x6, .int x7, .null]) (st' := [.int x6, .int x7]) (h' := h) rfl).trans ?_
  refine (mm_br (c := x6 < x7) (p1 := 166) (p2 := 124) (l1 := [.ref 204, .null, .null, .null, .null, .int x5, .int x6, .int x7, .null]) (l2 := [.ref 204, .null, .null, .null, .null, .int x5, .int x6, .int x7, .null]) (s1 := []) (s2 := []) (h1 := h) (h2 := h) rfl rfl).trans (mm_ite ?_ ?_)
  · refine (mm_by 3 (pc' := 171) (ls' := [.ref 204, .null, .null, .null, .null, .int x5, .int x6, .int x7, .null]) (st' := [.int ((-1)), .int (h.1 204 9)]) (h' := h) rfl).trans ?_
    refine (mm_br (c := (h.1 204 9) = ((-1))) (p1 := 178) (p2 := 174) (l1 := [.ref 204, .null, .null, .null, .null, .int x5, .int x6, .int x7, .null]) (l2 := [.ref 204, .null, .null, .null, .null, .int x5, .int x6, .int x7, .null]) (s1 := []) (s2 := []) (h1 := h) (h2 := h) rfl rfl).trans (mm_ite ?_ ?_)
    · exact mm_by_end 2 rfl
    · exact mm_by_end 3 rfl
  · refine (mm_by 1 (pc' := 126) (ls' := [.ref 204, .null, .null, .null, .null, .int x5, .int x6, .int x7, .null]) (st' := [.int x5]) (h' := h) rfl).trans ?_
    refine (mm_br (c := x5 = 0) (p1 := 166) (p2 := 129) (l1 := [.ref 204, .null, .null, .null, .null, .int x5, .int x6, .int x7, .null]) (l2 := [.ref 204, .null, .null, .null, .null, .int x5, .int x6, .int x7, .null]) (s1 := []) (s2 := []) (h1 := h) (h2 := h) rfl rfl).trans (mm_ite ?_ ?_)
    · refine (mm_by 3 (pc' := 171) (ls' := [.ref 204, .null, .null, .null, .null, .int x5, .int x6, .int x7, .null]) (st' := [.int ((-1)), .int (h.1 204 9)]) (h' := h) rfl).trans ?_
      refine (mm_br (c := (h.1 204 9) = ((-1))) (p1 := 178) (p2 := 174) (l1 := [.ref 204, .null, .null, .null, .null, .int x5, .int x6, .int x7, .null]) (l2 := [.ref 204, .null, .null, .null, .null, .int x5, .int x6, .int x7, .null]) (s1 := []) (s2 := []) (h1 := h) (h2 := h) rfl rfl).trans (mm_ite ?_ ?_)
      · exact mm_by_end 2 rfl
      · exact mm_by_end 3 rfl
    · refine (mm_by 3 (pc' := 134) (ls' := [.ref 204, .null, .null, .null, .null, .int x5, .int x6, .int x7, .null]) (st' := [.int x7, .int x5, .ref 204]) (h' := h) rfl).trans ?_
      refine (mm_c1 (y := 31) (as := [.ref 204, .int x5, .int x7]) (nx := 137) (rest := []) rfl rfl).trans (mm_congI fun v2 h1 => ?_)
      refine (mm_by 4 (pc' := 145) (ls' := [.ref 204, .null, .null, .null, .null, .int x5, .int x6, .int x7, .int v2]) (st' := [.int (h1.1 204 10), .int v2]) (h' := h1) rfl).trans ?_
      refine (mm_br (c := (h1.1 204 10) ≤ v2) (p1 := 160) (p2 := 148) (l1 := [.ref 204, .null, .null, .null, .null, .int x5, .int x6, .int x7, .int v2]) (l2 := [.ref 204, .null, .null, .null, .null, .int x5, .int x6, .int x7, .int v2]) (s1 := []) (s2 := []) (h1 := h1) (h2 := h1) rfl rfl).trans (mm_ite ?_ ?_)
      · exact mm_by 2 rfl
      · exact mm_by 8 rfl
set_option maxRecDepth 100000 in
set_option maxHeartbeats 4000000 in
theorem U_X0_mostLeft {d : Nat} {x1 : Int32} {x2 : Int32} {h : mm_H} : mm_M mm_T0 (d + 1) 31 [.ref 204, .int x1, .int x2] h = (mm_D (mm_M mm_T0 d) cd_X0_mostLeft 5 [.ref 204, .int x1, .int x2, .int 0, .int 0, .null, .null, .null] [] h) := by
  refine (mm_M_eq (ls := [.ref 204, .int x1, .int x2, .null, .null, .null, .null, .null]) rfl (Nat.le_of_ble_eq_true rfl) rfl h).trans ?_
  exact mm_by 4 rfl
set_option maxRecDepth 100000 in
set_option maxHeartbeats 4000000 in
theorem U_X0_mostLeft_5 {d : Nat} {x1 : Int32} {x2 : Int32} {x3 : Int32} {x4 : Int32} {h : mm_H} : mm_D (mm_M mm_T0 d) cd_X0_mostLeft 5 [.ref 204, .int x1, .int x2, .int x3, .int x4, .null, .null, .null] [] h = (if 9 < x4 then (some (some (.int x3), h)) else (mm_D (mm_M mm_T0 d) cd_X0_mostLeft 18 [.ref 204, .int x1, .int x2, .int x3, .int x4, .int 0, .int 0, .null] [] h)) := by
  refine (mm_by 2 (pc' := 9) (ls' := [.ref 204, .int x1, .int x2, .int x3, .int x4, .null, .null, .null]) (st' := [.int 9, .int x4]) (h' := h) rfl).trans ?_
  refine (mm_br (c := 9 < x4) (p1 := 98) (p2 := 12) (l1 := [.ref 204, .int x1, .int x2, .int x3, .int x4, .null, .null, .null]) (l2 := [.ref 204, .int x1, .int x2, .int x3, .int x4, .null, .null, .null]) (s1 := []) (s2 := []) (h1 := h) (h2 := h) rfl rfl).trans (mm_ite ?_ ?_)
  · exact mm_by_end 2 rfl
  · exact mm_by 4 rfl
set_option maxRecDepth 100000 in
set_option maxHeartbeats 4000000 in
theorem U_X0_mostLeft_18 {d : Nat} {x1 : Int32} {x2 : Int32} {x3 : Int32} {x4 : Int32} {x5 : Int32} {x6 : Int32} {h : mm_H} : mm_D (mm_M mm_T0 d) cd_X0_mostLeft 18 [.ref 204, .int x1, .int x2, .int x3, .int x4, .int x5, .int x6, .null] [] h = (if 9 < x6 then (mm_bI (mm_M mm_T0 d 9 [.int x3, .int x5] h) (fun v2 h1 => mm_D (mm_M mm_T0 d) cd_X0_mostLeft 5 [.ref 204, .int x1, .int x2, .int v2, .int (x4 + 1), .null, .null, .null] [] h1)) else (if ¬ (((x1 >>> (x4 &&& 31)) &&& (x1 >>> (x6 &&& 31))) &&& 1) = 1 then (mm_D (mm_M mm_T0 d) cd_X0_mostLeft 18 [.ref 204, .int x1, .int x2, .int x3, .int x4, .int (x5 + 0), .int (x6 + 1), .null] [] h) else (mm_bI (mm_M mm_T0 d 32 [.ref 204, .int x4, .int x2] h) (fun v4 h3 => mm_bI (mm_M mm_T0 d 32 [.ref 204, .int x6, .int x2] h3) (fun v6 h5 => if ¬ v4 = v6 then (mm_D (mm_M mm_T0 d) cd_X0_mostLeft 18 [.ref 204, .int x1, .int x2, .int x3, .int x4, .int (x5 + 0), .int (x6 + 1), .null] [] h5) else (mm_D (mm_M mm_T0 d) cd_X0_mostLeft 18 [.ref 204, .int x1, .int x2, .int x3, .int x4, .int (x5 + 1), .int (x6 + 1), .null] [] h5)))))) := by
  refine (mm_by 2 (pc' := 22) (ls' := [.ref 204, .int x1, .int x2, .int x3, .int x4, .int x5, .int x6, .null]) (st' := [.int 9, .int x6]) (h' := h) rfl).trans ?_
  refine (mm_br (c := 9 < x6) (p1 := 85) (p2 := 25) (l1 := [.ref 204, .int x1, .int x2, .int x3, .int x4, .int x5, .int x6, .null]) (l2 := [.ref 204, .int x1, .int x2, .int x3, .int x4, .int x5, .int x6, .null]) (s1 := []) (s2 := []) (h1 := h) (h2 := h) rfl rfl).trans (mm_ite ?_ ?_)
  · refine (mm_by 2 (pc' := 88) (ls' := [.ref 204, .int x1, .int x2, .int x3, .int x4, .int x5, .int x6, .null]) (st' := [.int x5, .int x3]) (h' := h) rfl).trans ?_
    refine (mm_c1 (y := 9) (as := [.int x3, .int x5]) (nx := 91) (rest := []) rfl rfl).trans (mm_congI fun v2 h1 => ?_)
    exact mm_by 3 rfl
  · refine (mm_by 10 (pc' := 37) (ls' := [.ref 204, .int x1, .int x2, .int x3, .int x4, .int x5, .int x6, .null]) (st' := [.int 1, .int (((x1 >>> (x4 &&& 31)) &&& (x1 >>> (x6 &&& 31))) &&& 1)]) (h' := h) rfl).trans ?_
    refine (mm_br (c := ¬ (((x1 >>> (x4 &&& 31)) &&& (x1 >>> (x6 &&& 31))) &&& 1) = 1) (p1 := 44) (p2 := 40) (l1 := [.ref 204, .int x1, .int x2, .int x3, .int x4, .int x5, .int x6, .null]) (l2 := [.ref 204, .int x1, .int x2, .int x3, .int x4, .int x5, .int x6, .null]) (s1 := []) (s2 := []) (h1 := h) (h2 := h) rfl rfl).trans (mm_ite ?_ ?_)
    · exact mm_by 10 rfl
    · refine (mm_by 9 (pc' := 58) (ls' := [.ref 204, .int x1, .int x2, .int x3, .int x4, .int x5, .int x6, .int 1]) (st' := [.int x2, .int x4, .ref 204, .int x5]) (h' := h) rfl).trans ?_
      refine (mm_c1 (y := 32) (as := [.ref 204, .int x4, .int x2]) (nx := 61) (rest := [.int x5]) rfl rfl).trans (mm_congI fun v4 h3 => ?_)
      refine (mm_by 3 (pc' := 65) (ls' := [.ref 204, .int x1, .int x2, .int x3, .int x4, .int x5, .int x6, .int 1]) (st' := [.int x2, .int x6, .ref 204, .int v4, .int x5]) (h' := h3) rfl).trans ?_
      refine (mm_c1 (y := 32) (as := [.ref 204, .int x6, .int x2]) (nx := 68) (rest := [.int v4, .int x5]) rfl rfl).trans (mm_congI fun v6 h5 => ?_)
      refine (mm_br (c := ¬ v4 = v6) (p1 := 75) (p2 := 71) (l1 := [.ref 204, .int x1, .int x2, .int x3, .int x4, .int x5, .int x6, .int 1]) (l2 := [.ref 204, .int x1, .int x2, .int x3, .int x4, .int x5, .int x6, .int 1]) (s1 := [.int x5]) (s2 := [.int x5]) (h1 := h5) (h2 := h5) rfl rfl).trans (mm_ite ?_ ?_)
      · exact mm_by 5 rfl
      · exact mm_by 6 rfl
set_option maxRecDepth 100000 in
set_option maxHeartbeats 4000000 in
theorem U_X0_lookBy {d : Nat} {x1 : Int32} {x2 : Int32} {h : mm_H} : mm_M mm_T0 (d + 1) 32 [.ref 204, .int x1, .int x2] h = (if ((x1 * 31) + x2) < 0 then (some (some (.int 0), h)) else (if 310 ≤ ((x1 * 31) + x2) then (some (some (.int 0), h)) else (if ((x1 * 31) + x2) < 0 ∨ 310 ≤ ((x1 * 31) + x2).toNatClampNeg then none else (some (some (.int (h.1 217 ((x1 * 31) + x2).toNatClampNeg)), h))))) := by
  refine (mm_M_eq (ls := [.ref 204, .int x1, .int x2, .null]) rfl (Nat.le_of_ble_eq_true rfl) rfl h).trans ?_
  refine (mm_by 7 (pc' := 8) (ls' := [.ref 204, .int x1, .int x2, .int ((x1 * 31) + x2)]) (st' := [.int ((x1 * 31) + x2)]) (h' := h) rfl).trans ?_
  refine (mm_br (c := ((x1 * 31) + x2) < 0) (p1 := 29) (p2 := 11) (l1 := [.ref 204, .int x1, .int x2, .int ((x1 * 31) + x2)]) (l2 := [.ref 204, .int x1, .int x2, .int ((x1 * 31) + x2)]) (s1 := []) (s2 := []) (h1 := h) (h2 := h) rfl rfl).trans (mm_ite ?_ ?_)
  · exact mm_by_end 2 rfl
  · refine (mm_by 4 (pc' := 17) (ls' := [.ref 204, .int x1, .int x2, .int ((x1 * 31) + x2)]) (st' := [.int 310, .int ((x1 * 31) + x2)]) (h' := h) rfl).trans ?_
    refine (mm_br (c := 310 ≤ ((x1 * 31) + x2)) (p1 := 29) (p2 := 20) (l1 := [.ref 204, .int x1, .int x2, .int ((x1 * 31) + x2)]) (l2 := [.ref 204, .int x1, .int x2, .int ((x1 * 31) + x2)]) (s1 := []) (s2 := []) (h1 := h) (h2 := h) rfl rfl).trans (mm_ite ?_ ?_)
    · exact mm_by_end 2 rfl
    · refine (mm_by 3 (pc' := 25) (ls' := [.ref 204, .int x1, .int x2, .int ((x1 * 31) + x2)]) (st' := [.int ((x1 * 31) + x2), .ref 217]) (h' := h) rfl).trans ?_
      refine (mm_gd (c := ((x1 * 31) + x2) < 0 ∨ 310 ≤ ((x1 * 31) + x2).toNatClampNeg) (p1 := 26) (l1 := [.ref 204, .int x1, .int x2, .int ((x1 * 31) + x2)]) (s1 := [.int (h.1 217 ((x1 * 31) + x2).toNatClampNeg)]) (h1 := h) rfl (q_iald (n := 310) rfl)).trans (mm_ite rfl ?_)
      exact mm_by_end 2 rfl
set_option maxRecDepth 100000 in
set_option maxHeartbeats 4000000 in
theorem U_X1_clear {d : Nat} {c : Nat} {h : mm_H} (hc : mm_isC c) : mm_M mm_T0 (d + 1) 33 [.ref c] h = (mm_D (mm_M mm_T0 d) cd_X1_clear 7 [.ref c, .int 0] [] (wI h c 5 0)) := by
  refine (mm_M_eq (ls := [.ref c, .null]) rfl (Nat.le_of_ble_eq_true rfl) rfl h).trans ?_
  refine (mm_by 2 (pc' := 2) (ls' := [.ref c, .null]) (st' := [.int 0, .ref c]) (h' := h) rfl).trans ?_
  refine (mm_go (pc' := 5) (ls' := [.ref c, .null]) (st' := []) (h' := wI h c 5 0) rfl (q_putI (isC_0 hc))).trans ?_
  exact mm_by 2 rfl
set_option maxRecDepth 100000 in
set_option maxHeartbeats 4000000 in
theorem U_X1_clear_7 {d : Nat} {c : Nat} {x1 : Int32} {h : mm_H} (hc : mm_isC c) : mm_D (mm_M mm_T0 d) cd_X1_clear 7 [.ref c, .int x1] [] h = (if 4 ≤ x1 then (some (none, h)) else (if x1 < 0 ∨ 4 ≤ x1.toNatClampNeg then none else (if x1 < 0 ∨ 4 ≤ x1.toNatClampNeg then none else (mm_D (mm_M mm_T0 d) cd_X1_clear 7 [.ref c, .int (x1 + 1)] [] (wI (wI h (c + 2) x1.toNatClampNeg ((-1))) (c + 3) x1.toNatClampNeg ((-1))))))) := by
  refine (mm_by 2 (pc' := 9) (ls' := [.ref c, .int x1]) (st' := [.int 4, .int x1]) (h' := h) rfl).trans ?_
  refine (mm_br (c := 4 ≤ x1) (p1 := 32) (p2 := 12) (l1 := [.ref c, .int x1]) (l2 := [.ref c, .int x1]) (s1 := []) (s2 := []) (h1 := h) (h2 := h) rfl rfl).trans (mm_ite ?_ ?_)
  · exact mm_by_end 1 rfl
  · refine (mm_by 1 (pc' := 13) (ls' := [.ref c, .int x1]) (st' := [.ref c]) (h' := h) rfl).trans ?_
    refine (mm_go (pc' := 16) (ls' := [.ref c, .int x1]) (st' := [.ref (c + 2)]) (h' := h) rfl (q_get (isC_0 hc))).trans ?_
    refine (mm_by 2 (pc' := 18) (ls' := [.ref c, .int x1]) (st' := [.int ((-1)), .int x1, .ref (c + 2)]) (h' := h) rfl).trans ?_
    refine (mm_gd (c := x1 < 0 ∨ 4 ≤ x1.toNatClampNeg) (p1 := 19) (l1 := [.ref c, .int x1]) (s1 := []) (h1 := wI h (c + 2) x1.toNatClampNeg ((-1))) rfl (q_iast (n := 4) (isC_2 hc))).trans (mm_ite rfl ?_)
    refine (mm_by 1 (pc' := 20) (ls' := [.ref c, .int x1]) (st' := [.ref c]) (h' := wI h (c + 2) x1.toNatClampNeg ((-1))) rfl).trans ?_
    refine (mm_go (pc' := 23) (ls' := [.ref c, .int x1]) (st' := [.ref (c + 3)]) (h' := wI h (c + 2) x1.toNatClampNeg ((-1))) rfl (q_get (isC_0 hc))).trans ?_
    refine (mm_by 2 (pc' := 25) (ls' := [.ref c, .int x1]) (st' := [.int ((-1)), .int x1, .ref (c + 3)]) (h' := wI h (c + 2) x1.toNatClampNeg ((-1))) rfl).trans ?_
    refine (mm_gd (c := x1 < 0 ∨ 4 ≤ x1.toNatClampNeg) (p1 := 26) (l1 := [.ref c, .int x1]) (s1 := []) (h1 := wI (wI h (c + 2) x1.toNatClampNeg ((-1))) (c + 3) x1.toNatClampNeg ((-1))) rfl (q_iast (n := 4) (isC_3 hc))).trans (mm_ite rfl ?_)
    exact mm_by 2 rfl
set_option maxRecDepth 100000 in
set_option maxHeartbeats 4000000 in
theorem U_X1_isTold {d : Nat} {c : Nat} {x1 : Int32} {h : mm_H} (hc : mm_isC c) : mm_M mm_T0 (d + 1) 34 [.ref c, .int x1] h = (if x1 < 0 then (some (some (.int 0), h)) else (if 4 ≤ x1 then (some (some (.int 0), h)) else (if x1 < 0 ∨ 4 ≤ x1.toNatClampNeg then none else (if (h.1 (c + 2) x1.toNatClampNeg) = ((-1)) then (some (some (.int 0), h)) else (some (some (.int 1), h)))))) := by
  refine (mm_M_eq (ls := [.ref c, .int x1]) rfl (Nat.le_of_ble_eq_true rfl) rfl h).trans ?_
  refine (mm_by 1 (pc' := 1) (ls' := [.ref c, .int x1]) (st' := [.int x1]) (h' := h) rfl).trans ?_
  refine (mm_br (c := x1 < 0) (p1 := 23) (p2 := 4) (l1 := [.ref c, .int x1]) (l2 := [.ref c, .int x1]) (s1 := []) (s2 := []) (h1 := h) (h2 := h) rfl rfl).trans (mm_ite ?_ ?_)
  · exact mm_by_end 2 rfl
  · refine (mm_by 2 (pc' := 6) (ls' := [.ref c, .int x1]) (st' := [.int 4, .int x1]) (h' := h) rfl).trans ?_
    refine (mm_br (c := 4 ≤ x1) (p1 := 23) (p2 := 9) (l1 := [.ref c, .int x1]) (l2 := [.ref c, .int x1]) (s1 := []) (s2 := []) (h1 := h) (h2 := h) rfl rfl).trans (mm_ite ?_ ?_)
    · exact mm_by_end 2 rfl
    · refine (mm_by 1 (pc' := 10) (ls' := [.ref c, .int x1]) (st' := [.ref c]) (h' := h) rfl).trans ?_
      refine (mm_go (pc' := 13) (ls' := [.ref c, .int x1]) (st' := [.ref (c + 2)]) (h' := h) rfl (q_get (isC_0 hc))).trans ?_
      refine (mm_by 1 (pc' := 14) (ls' := [.ref c, .int x1]) (st' := [.int x1, .ref (c + 2)]) (h' := h) rfl).trans ?_
      refine (mm_gd (c := x1 < 0 ∨ 4 ≤ x1.toNatClampNeg) (p1 := 15) (l1 := [.ref c, .int x1]) (s1 := [.int (h.1 (c + 2) x1.toNatClampNeg)]) (h1 := h) rfl (q_iald (n := 4) (isC_2 hc))).trans (mm_ite rfl ?_)
      refine (mm_by 1 (pc' := 16) (ls' := [.ref c, .int x1]) (st' := [.int ((-1)), .int (h.1 (c + 2) x1.toNatClampNeg)]) (h' := h) rfl).trans ?_
      refine (mm_br (c := (h.1 (c + 2) x1.toNatClampNeg) = ((-1))) (p1 := 23) (p2 := 19) (l1 := [.ref c, .int x1]) (l2 := [.ref c, .int x1]) (s1 := []) (s2 := []) (h1 := h) (h2 := h) rfl rfl).trans (mm_ite ?_ ?_)
      · exact mm_by_end 2 rfl
      · exact mm_by_end 3 rfl
set_option maxRecDepth 100000 in
set_option maxHeartbeats 4000000 in
theorem U_X1_openRule {d : Nat} {c : Nat} {x1 : Int32} {h : mm_H} (hc : mm_isC c) : mm_M mm_T0 (d + 1) 35 [.ref c, .int x1] h = (if x1 < 0 then (some (none, h)) else (if 4 ≤ x1 then (some (none, h)) else (if x1 < 0 ∨ 4 ≤ x1.toNatClampNeg then none else (if x1 < 0 ∨ 4 ≤ x1.toNatClampNeg then none else (some (none, wI (wI h (c + 2) x1.toNatClampNeg (h.1 c 5)) (c + 3) x1.toNatClampNeg ((wI h (c + 2) x1.toNatClampNeg (h.1 c 5)).1 c 5))))))) := by
  refine (mm_M_eq (ls := [.ref c, .int x1]) rfl (Nat.le_of_ble_eq_true rfl) rfl h).trans ?_
  refine (mm_by 1 (pc' := 1) (ls' := [.ref c, .int x1]) (st' := [.int x1]) (h' := h) rfl).trans ?_
  refine (mm_br (c := x1 < 0) (p1 := 29) (p2 := 4) (l1 := [.ref c, .int x1]) (l2 := [.ref c, .int x1]) (s1 := []) (s2 := []) (h1 := h) (h2 := h) rfl rfl).trans (mm_ite ?_ ?_)
  · exact mm_by_end 1 rfl
  · refine (mm_by 2 (pc' := 6) (ls' := [.ref c, .int x1]) (st' := [.int 4, .int x1]) (h' := h) rfl).trans ?_
    refine (mm_br (c := 4 ≤ x1) (p1 := 29) (p2 := 9) (l1 := [.ref c, .int x1]) (l2 := [.ref c, .int x1]) (s1 := []) (s2 := []) (h1 := h) (h2 := h) rfl rfl).trans (mm_ite ?_ ?_)
    · exact mm_by_end 1 rfl
    · refine (mm_by 1 (pc' := 10) (ls' := [.ref c, .int x1]) (st' := [.ref c]) (h' := h) rfl).trans ?_
      refine (mm_go (pc' := 13) (ls' := [.ref c, .int x1]) (st' := [.ref (c + 2)]) (h' := h) rfl (q_get (isC_0 hc))).trans ?_
      refine (mm_by 2 (pc' := 15) (ls' := [.ref c, .int x1]) (st' := [.ref c, .int x1, .ref (c + 2)]) (h' := h) rfl).trans ?_
      refine (mm_go (pc' := 18) (ls' := [.ref c, .int x1]) (st' := [.int (h.1 c 5), .int x1, .ref (c + 2)]) (h' := h) rfl (q_get (isC_0 hc))).trans ?_
      refine (mm_gd (c := x1 < 0 ∨ 4 ≤ x1.toNatClampNeg) (p1 := 19) (l1 := [.ref c, .int x1]) (s1 := []) (h1 := wI h (c + 2) x1.toNatClampNeg (h.1 c 5)) rfl (q_iast (n := 4) (isC_2 hc))).trans (mm_ite rfl ?_)
      refine (mm_by 1 (pc' := 20) (ls' := [.ref c, .int x1]) (st' := [.ref c]) (h' := wI h (c + 2) x1.toNatClampNeg (h.1 c 5)) rfl).trans ?_
      refine (mm_go (pc' := 23) (ls' := [.ref c, .int x1]) (st' := [.ref (c + 3)]) (h' := wI h (c + 2) x1.toNatClampNeg (h.1 c 5)) rfl (q_get (isC_0 hc))).trans ?_
      refine (mm_by 2 (pc' := 25) (ls' := [.ref c, .int x1]) (st' := [.ref c, .int x1, .ref (c + 3)]) (h' := wI h (c + 2) x1.toNatClampNeg (h.1 c 5)) rfl).trans ?_
      refine (mm_go (pc' := 28) (ls' := [.ref c, .int x1]) (st' := [.int ((wI h (c + 2) x1.toNatClampNeg (h.1 c 5)).1 c 5), .int x1, .ref (c + 3)]) (h' := wI h (c + 2) x1.toNatClampNeg (h.1 c 5)) rfl (q_get (isC_0 hc))).trans ?_
      refine (mm_gd (c := x1 < 0 ∨ 4 ≤ x1.toNatClampNeg) (p1 := 29) (l1 := [.ref c, .int x1]) (s1 := []) (h1 := wI (wI h (c + 2) x1.toNatClampNeg (h.1 c 5)) (c + 3) x1.toNatClampNeg ((wI h (c + 2) x1.toNatClampNeg (h.1 c 5)).1 c 5)) rfl (q_iast (n := 4) (isC_3 hc))).trans (mm_ite rfl ?_)
      exact mm_by_end 1 rfl
set_option maxRecDepth 100000 in
set_option maxHeartbeats 4000000 in
theorem U_X1_closeRule {d : Nat} {c : Nat} {x1 : Int32} {h : mm_H} (hc : mm_isC c) : mm_M mm_T0 (d + 1) 36 [.ref c, .int x1] h = (if x1 < 0 then (some (none, h)) else (if 4 ≤ x1 then (some (none, h)) else (if x1 < 0 ∨ 4 ≤ x1.toNatClampNeg then none else (some (none, wI h (c + 3) x1.toNatClampNeg (h.1 c 5)))))) := by
  refine (mm_M_eq (ls := [.ref c, .int x1]) rfl (Nat.le_of_ble_eq_true rfl) rfl h).trans ?_
  refine (mm_by 1 (pc' := 1) (ls' := [.ref c, .int x1]) (st' := [.int x1]) (h' := h) rfl).trans ?_
  refine (mm_br (c := x1 < 0) (p1 := 19) (p2 := 4) (l1 := [.ref c, .int x1]) (l2 := [.ref c, .int x1]) (s1 := []) (s2 := []) (h1 := h) (h2 := h) rfl rfl).trans (mm_ite ?_ ?_)
  · exact mm_by_end 1 rfl
  · refine (mm_by 2 (pc' := 6) (ls' := [.ref c, .int x1]) (st' := [.int 4, .int x1]) (h' := h) rfl).trans ?_
    refine (mm_br (c := 4 ≤ x1) (p1 := 19) (p2 := 9) (l1 := [.ref c, .int x1]) (l2 := [.ref c, .int x1]) (s1 := []) (s2 := []) (h1 := h) (h2 := h) rfl rfl).trans (mm_ite ?_ ?_)
    · exact mm_by_end 1 rfl
    · refine (mm_by 1 (pc' := 10) (ls' := [.ref c, .int x1]) (st' := [.ref c]) (h' := h) rfl).trans ?_
      refine (mm_go (pc' := 13) (ls' := [.ref c, .int x1]) (st' := [.ref (c + 3)]) (h' := h) rfl (q_get (isC_0 hc))).trans ?_
      refine (mm_by 2 (pc' := 15) (ls' := [.ref c, .int x1]) (st' := [.ref c, .int x1, .ref (c + 3)]) (h' := h) rfl).trans ?_
      refine (mm_go (pc' := 18) (ls' := [.ref c, .int x1]) (st' := [.int (h.1 c 5), .int x1, .ref (c + 3)]) (h' := h) rfl (q_get (isC_0 hc))).trans ?_
      refine (mm_gd (c := x1 < 0 ∨ 4 ≤ x1.toNatClampNeg) (p1 := 19) (l1 := [.ref c, .int x1]) (s1 := []) (h1 := wI h (c + 3) x1.toNatClampNeg (h.1 c 5)) rfl (q_iast (n := 4) (isC_3 hc))).trans (mm_ite rfl ?_)
      exact mm_by_end 1 rfl
set_option maxRecDepth 100000 in
set_option maxHeartbeats 4000000 in
theorem U_X1_add {d : Nat} {c : Nat} {x1 : Int32} {h : mm_H} (hc : mm_isC c) : mm_M mm_T0 (d + 1) 37 [.ref c, .int x1] h = (if 1620 ≤ (h.1 c 5) then (some (none, h)) else (if (h.1 c 5) < 0 ∨ 1620 ≤ (h.1 c 5).toNatClampNeg then none else (some (none, wI (wI h (c + 1) ((h.1 c 5).toNatClampNeg) x1) c 5 (((wI h (c + 1) ((h.1 c 5).toNatClampNeg) x1).1 c 5) + 1))))) := by
  refine (mm_M_eq (ls := [.ref c, .int x1]) rfl (Nat.le_of_ble_eq_true rfl) rfl h).trans ?_
  refine (mm_by 1 (pc' := 1) (ls' := [.ref c, .int x1]) (st' := [.ref c]) (h' := h) rfl).trans ?_
  refine (mm_go (pc' := 4) (ls' := [.ref c, .int x1]) (st' := [.int (h.1 c 5)]) (h' := h) rfl (q_get (isC_0 hc))).trans ?_
  refine (mm_by 1 (pc' := 5) (ls' := [.ref c, .int x1]) (st' := [.ref c, .int (h.1 c 5)]) (h' := h) rfl).trans ?_
  refine (mm_go (pc' := 8) (ls' := [.ref c, .int x1]) (st' := [.ref (c + 1), .int (h.1 c 5)]) (h' := h) rfl (q_get (isC_0 hc))).trans ?_
  refine (mm_go (pc' := 9) (ls' := [.ref c, .int x1]) (st' := [.int 1620, .int (h.1 c 5)]) (h' := h) rfl (q_alen (isC_1 hc) (by decide) (by decide))).trans ?_
  refine (mm_br (c := 1620 ≤ (h.1 c 5)) (p1 := 32) (p2 := 12) (l1 := [.ref c, .int x1]) (l2 := [.ref c, .int x1]) (s1 := []) (s2 := []) (h1 := h) (h2 := h) rfl rfl).trans (mm_ite ?_ ?_)
  · exact mm_by_end 1 rfl
  · refine (mm_by 1 (pc' := 13) (ls' := [.ref c, .int x1]) (st' := [.ref c]) (h' := h) rfl).trans ?_
    refine (mm_go (pc' := 16) (ls' := [.ref c, .int x1]) (st' := [.ref (c + 1)]) (h' := h) rfl (q_get (isC_0 hc))).trans ?_
    refine (mm_by 1 (pc' := 17) (ls' := [.ref c, .int x1]) (st' := [.ref c, .ref (c + 1)]) (h' := h) rfl).trans ?_
    refine (mm_go (pc' := 20) (ls' := [.ref c, .int x1]) (st' := [.int (h.1 c 5), .ref (c + 1)]) (h' := h) rfl (q_get (isC_0 hc))).trans ?_
    refine (mm_by 1 (pc' := 21) (ls' := [.ref c, .int x1]) (st' := [.int x1, .int (h.1 c 5), .ref (c + 1)]) (h' := h) rfl).trans ?_
    refine (mm_gd (c := (h.1 c 5) < 0 ∨ 1620 ≤ (h.1 c 5).toNatClampNeg) (p1 := 22) (l1 := [.ref c, .int x1]) (s1 := []) (h1 := wI h (c + 1) ((h.1 c 5).toNatClampNeg) x1) rfl (q_iast (n := 1620) (isC_1 hc))).trans (mm_ite rfl ?_)
    refine (mm_by 2 (pc' := 24) (ls' := [.ref c, .int x1]) (st' := [.ref c, .ref c]) (h' := wI h (c + 1) ((h.1 c 5).toNatClampNeg) x1) rfl).trans ?_
    refine (mm_go (pc' := 27) (ls' := [.ref c, .int x1]) (st' := [.int ((wI h (c + 1) ((h.1 c 5).toNatClampNeg) x1).1 c 5), .ref c]) (h' := wI h (c + 1) ((h.1 c 5).toNatClampNeg) x1) rfl (q_get (isC_0 hc))).trans ?_
    refine (mm_by 2 (pc' := 29) (ls' := [.ref c, .int x1]) (st' := [.int (((wI h (c + 1) ((h.1 c 5).toNatClampNeg) x1).1 c 5) + 1), .ref c]) (h' := wI h (c + 1) ((h.1 c 5).toNatClampNeg) x1) rfl).trans ?_
    refine (mm_go (pc' := 32) (ls' := [.ref c, .int x1]) (st' := []) (h' := wI (wI h (c + 1) ((h.1 c 5).toNatClampNeg) x1) c 5 (((wI h (c + 1) ((h.1 c 5).toNatClampNeg) x1).1 c 5) + 1)) rfl (q_putI (isC_0 hc))).trans ?_
    exact mm_by_end 1 rfl
set_option maxRecDepth 100000 in
set_option maxHeartbeats 4000000 in
theorem U_X1_setValue {d : Nat} {c : Nat} {x1 : Int32} {x2 : Int32} {h : mm_H} (hc : mm_isC c) : mm_M mm_T0 (d + 1) 38 [.ref c, .int x1, .int x2] h = (if x1 < 0 then (some (none, h)) else (if 25 ≤ x1 then (some (none, h)) else (if x1 < 0 ∨ 25 ≤ x1.toNatClampNeg then none else (some (none, wI h (c + 4) x1.toNatClampNeg x2))))) := by
  refine (mm_M_eq (ls := [.ref c, .int x1, .int x2]) rfl (Nat.le_of_ble_eq_true rfl) rfl h).trans ?_
  refine (mm_by 1 (pc' := 1) (ls' := [.ref c, .int x1, .int x2]) (st' := [.int x1]) (h' := h) rfl).trans ?_
  refine (mm_br (c := x1 < 0) (p1 := 20) (p2 := 4) (l1 := [.ref c, .int x1, .int x2]) (l2 := [.ref c, .int x1, .int x2]) (s1 := []) (s2 := []) (h1 := h) (h2 := h) rfl rfl).trans (mm_ite ?_ ?_)
  · exact mm_by_end 1 rfl
  · refine (mm_by 2 (pc' := 6) (ls' := [.ref c, .int x1, .int x2]) (st' := [.ref c, .int x1]) (h' := h) rfl).trans ?_
    refine (mm_go (pc' := 9) (ls' := [.ref c, .int x1, .int x2]) (st' := [.ref (c + 4), .int x1]) (h' := h) rfl (q_get (isC_0 hc))).trans ?_
    refine (mm_go (pc' := 10) (ls' := [.ref c, .int x1, .int x2]) (st' := [.int 25, .int x1]) (h' := h) rfl (q_alen (isC_4 hc) (by decide) (by decide))).trans ?_
    refine (mm_br (c := 25 ≤ x1) (p1 := 20) (p2 := 13) (l1 := [.ref c, .int x1, .int x2]) (l2 := [.ref c, .int x1, .int x2]) (s1 := []) (s2 := []) (h1 := h) (h2 := h) rfl rfl).trans (mm_ite ?_ ?_)
    · exact mm_by_end 1 rfl
    · refine (mm_by 1 (pc' := 14) (ls' := [.ref c, .int x1, .int x2]) (st' := [.ref c]) (h' := h) rfl).trans ?_
      refine (mm_go (pc' := 17) (ls' := [.ref c, .int x1, .int x2]) (st' := [.ref (c + 4)]) (h' := h) rfl (q_get (isC_0 hc))).trans ?_
      refine (mm_by 2 (pc' := 19) (ls' := [.ref c, .int x1, .int x2]) (st' := [.int x2, .int x1, .ref (c + 4)]) (h' := h) rfl).trans ?_
      refine (mm_gd (c := x1 < 0 ∨ 25 ≤ x1.toNatClampNeg) (p1 := 20) (l1 := [.ref c, .int x1, .int x2]) (s1 := []) (h1 := wI h (c + 4) x1.toNatClampNeg x2) rfl (q_iast (n := 25) (isC_4 hc))).trans (mm_ite rfl ?_)
      exact mm_by_end 1 rfl
set_option maxRecDepth 100000 in
set_option maxHeartbeats 4000000 in
theorem U_X1_work {d : Nat} {c : Nat} {x1 : Int32} {s : Nat} {h : mm_H} (hc : mm_isC c) (hs : mm_isS s) : mm_M mm_T0 (d + 1) 39 [.ref c, .int x1, .ref s] h = (mm_bI (mm_M mm_T0 d 34 [.ref c, .int x1] h) (fun v2 h1 => if ¬ v2 = 0 then (if x1 < 0 ∨ 4 ≤ x1.toNatClampNeg then none else (mm_bI (mm_M mm_T0 d 11 [.int ((wI h1 c 6 0).1 (c + 3) x1.toNatClampNeg), .int ((wI h1 c 6 0).1 c 5)] (wI h1 c 6 0)) (fun v4 h3 => if x1 < 0 ∨ 4 ≤ x1.toNatClampNeg then none else (mm_bI (mm_M mm_T0 d 9 [.int 0, .int (h3.1 (c + 2) x1.toNatClampNeg)] h3) (fun v6 h5 => mm_D (mm_M mm_T0 d) cd_X1_work 41 [.ref c, .null, .ref s, .int v4, .int v6, .null, .null] [] h5))))) else (some (some (.int 0), h1)))) := by
  refine (mm_M_eq (ls := [.ref c, .int x1, .ref s, .null, .null, .null, .null]) rfl (Nat.le_of_ble_eq_true rfl) rfl h).trans ?_
  refine (mm_by 2 (pc' := 2) (ls' := [.ref c, .int x1, .ref s, .null, .null, .null, .null]) (st' := [.int x1, .ref c]) (h' := h) rfl).trans ?_
  refine (mm_c1 (y := 34) (as := [.ref c, .int x1]) (nx := 5) (rest := []) rfl (if_pos ⟨(isC_0 hc), Nat.le_of_ble_eq_true rfl⟩)).trans (mm_congI fun v2 h1 => ?_)
  refine (mm_br (c := ¬ v2 = 0) (p1 := 10) (p2 := 8) (l1 := [.ref c, .int x1, .ref s, .null, .null, .null, .null]) (l2 := [.ref c, .int x1, .ref s, .null, .null, .null, .null]) (s1 := []) (s2 := []) (h1 := h1) (h2 := h1) rfl rfl).trans (mm_ite ?_ ?_)
  · refine (mm_by 2 (pc' := 12) (ls' := [.ref c, .int x1, .ref s, .null, .null, .null, .null]) (st' := [.int 0, .ref c]) (h' := h1) rfl).trans ?_
    refine (mm_go (pc' := 15) (ls' := [.ref c, .int x1, .ref s, .null, .null, .null, .null]) (st' := []) (h' := wI h1 c 6 0) rfl (q_putI (isC_0 hc))).trans ?_
    refine (mm_by 1 (pc' := 16) (ls' := [.ref c, .int x1, .ref s, .null, .null, .null, .null]) (st' := [.ref c]) (h' := wI h1 c 6 0) rfl).trans ?_
    refine (mm_go (pc' := 19) (ls' := [.ref c, .int x1, .ref s, .null, .null, .null, .null]) (st' := [.ref (c + 3)]) (h' := wI h1 c 6 0) rfl (q_get (isC_0 hc))).trans ?_
    refine (mm_by 1 (pc' := 20) (ls' := [.ref c, .int x1, .ref s, .null, .null, .null, .null]) (st' := [.int x1, .ref (c + 3)]) (h' := wI h1 c 6 0) rfl).trans ?_
    refine (mm_gd (c := x1 < 0 ∨ 4 ≤ x1.toNatClampNeg) (p1 := 21) (l1 := [.ref c, .int x1, .ref s, .null, .null, .null, .null]) (s1 := [.int ((wI h1 c 6 0).1 (c + 3) x1.toNatClampNeg)]) (h1 := wI h1 c 6 0) rfl (q_iald (n := 4) (isC_3 hc))).trans (mm_ite rfl ?_)
    refine (mm_by 1 (pc' := 22) (ls' := [.ref c, .int x1, .ref s, .null, .null, .null, .null]) (st' := [.ref c, .int ((wI h1 c 6 0).1 (c + 3) x1.toNatClampNeg)]) (h' := wI h1 c 6 0) rfl).trans ?_
    refine (mm_go (pc' := 25) (ls' := [.ref c, .int x1, .ref s, .null, .null, .null, .null]) (st' := [.int ((wI h1 c 6 0).1 c 5), .int ((wI h1 c 6 0).1 (c + 3) x1.toNatClampNeg)]) (h' := wI h1 c 6 0) rfl (q_get (isC_0 hc))).trans ?_
    refine (mm_c1 (y := 11) (as := [.int ((wI h1 c 6 0).1 (c + 3) x1.toNatClampNeg), .int ((wI h1 c 6 0).1 c 5)]) (nx := 28) (rest := []) rfl rfl).trans (mm_congI fun v4 h3 => ?_)
    refine (mm_by 3 (pc' := 31) (ls' := [.ref c, .int x1, .ref s, .int v4, .null, .null, .null]) (st' := [.ref c, .int 0]) (h' := h3) rfl).trans ?_
    refine (mm_go (pc' := 34) (ls' := [.ref c, .int x1, .ref s, .int v4, .null, .null, .null]) (st' := [.ref (c + 2), .int 0]) (h' := h3) rfl (q_get (isC_0 hc))).trans ?_
    refine (mm_by 1 (pc' := 35) (ls' := [.ref c, .int x1, .ref s, .int v4, .null, .null, .null]) (st' := [.int x1, .ref (c + 2), .int 0]) (h' := h3) rfl).trans ?_
    refine (mm_gd (c := x1 < 0 ∨ 4 ≤ x1.toNatClampNeg) (p1 := 36) (l1 := [.ref c, .int x1, .ref s, .int v4, .null, .null, .null]) (s1 := [.int (h3.1 (c + 2) x1.toNatClampNeg), .int 0]) (h1 := h3) rfl (q_iald (n := 4) (isC_2 hc))).trans (mm_ite rfl ?_)
    refine (mm_c1 (y := 9) (as := [.int 0, .int (h3.1 (c + 2) x1.toNatClampNeg)]) (nx := 39) (rest := []) rfl rfl).trans (mm_congI fun v6 h5 => ?_)
    exact mm_by 1 rfl
  · exact mm_by_end 2 rfl
set_option maxRecDepth 100000 in
set_option maxHeartbeats 4000000 in
theorem U_X1_work_41 {d : Nat} {c : Nat} {s : Nat} {x3 : Int32} {x4 : Int32} {h : mm_H} (hc : mm_isC c) (hs : mm_isS s) : mm_D (mm_M mm_T0 d) cd_X1_work 41 [.ref c, .null, .ref s, .int x3, .int x4, .null, .null] [] h = (if x3 ≤ x4 then (mm_bI (mm_M mm_T0 d 42 [.ref c] h) (fun v2 h1 => some (some (.int v2), h1))) else (if x4 < 0 ∨ 1620 ≤ x4.toNatClampNeg then none else (if 10000 ≤ (h.1 (c + 1) x4.toNatClampNeg) then (if 11000 ≤ (h.1 (c + 1) x4.toNatClampNeg) then (if (h.1 (c + 1) x4.toNatClampNeg) < 11011 then (mm_bI (mm_M mm_T0 d 42 [.ref c] h) (fun v4 h3 => mm_bI (mm_M mm_T0 d 42 [.ref c] h3) (fun v6 h5 => mm_bI (mm_M mm_T0 d 44 [.int (h.1 (c + 1) x4.toNatClampNeg), .int v6, .int v4] h5) (fun v8 h7 => mm_bV (mm_M mm_T0 d 41 [.ref c, .int v8] h7) (fun h9 => mm_D (mm_M mm_T0 d) cd_X1_work 41 [.ref c, .null, .ref s, .int x3, .int (x4 + 1), .null, .null] [] h9))))) else (mm_bI (mm_M mm_T0 d 42 [.ref c] h) (fun v11 h10 => mm_bI (mm_M mm_T0 d 43 [.ref c, .int (h.1 (c + 1) x4.toNatClampNeg), .int v11, .ref s] h10) (fun v13 h12 => mm_bV (mm_M mm_T0 d 41 [.ref c, .int v13] h12) (fun h14 => mm_D (mm_M mm_T0 d) cd_X1_work 41 [.ref c, .null, .ref s, .int x3, .int (x4 + 1), .null, .null] [] h14))))) else (mm_bI (mm_M mm_T0 d 40 [.ref c, .int ((h.1 (c + 1) x4.toNatClampNeg) - 10000)] h) (fun v16 h15 => mm_bV (mm_M mm_T0 d 41 [.ref c, .int v16] h15) (fun h17 => mm_D (mm_M mm_T0 d) cd_X1_work 41 [.ref c, .null, .ref s, .int x3, .int (x4 + 1), .null, .null] [] h17)))) else (mm_bV (mm_M mm_T0 d 41 [.ref c, .int (h.1 (c + 1) x4.toNatClampNeg)] h) (fun h18 => mm_D (mm_M mm_T0 d) cd_X1_work 41 [.ref c, .null, .ref s, .int x3, .int (x4 + 1), .null, .null] [] h18))))) := by
  refine (mm_by 2 (pc' := 44) (ls' := [.ref c, .null, .ref s, .int x3, .int x4, .null, .null]) (st' := [.int x3, .int x4]) (h' := h) rfl).trans ?_
  refine (mm_br (c := x3 ≤ x4) (p1 := 151) (p2 := 47) (l1 := [.ref c, .null, .ref s, .int x3, .int x4, .null, .null]) (l2 := [.ref c, .null, .ref s, .int x3, .int x4, .null, .null]) (s1 := []) (s2 := []) (h1 := h) (h2 := h) rfl rfl).trans (mm_ite ?_ ?_)
  · refine (mm_by 1 (pc' := 152) (ls' := [.ref c, .null, .ref s, .int x3, .int x4, .null, .null]) (st' := [.ref c]) (h' := h) rfl).trans ?_
    refine (mm_c1 (y := 42) (as := [.ref c]) (nx := 155) (rest := []) rfl (if_pos ⟨(isC_0 hc), Nat.le_of_ble_eq_true rfl⟩)).trans (mm_congI fun v2 h1 => ?_)
    exact mm_by_end 1 rfl
  · refine (mm_by 1 (pc' := 48) (ls' := [.ref c, .null, .ref s, .int x3, .int x4, .null, .null]) (st' := [.ref c]) (h' := h) rfl).trans ?_
    refine (mm_go (pc' := 51) (ls' := [.ref c, .null, .ref s, .int x3, .int x4, .null, .null]) (st' := [.ref (c + 1)]) (h' := h) rfl (q_get (isC_0 hc))).trans ?_
    refine (mm_by 1 (pc' := 53) (ls' := [.ref c, .null, .ref s, .int x3, .int x4, .null, .null]) (st' := [.int x4, .ref (c + 1)]) (h' := h) rfl).trans ?_
    refine (mm_gd (c := x4 < 0 ∨ 1620 ≤ x4.toNatClampNeg) (p1 := 54) (l1 := [.ref c, .null, .ref s, .int x3, .int x4, .null, .null]) (s1 := [.int (h.1 (c + 1) x4.toNatClampNeg)]) (h1 := h) rfl (q_iald (n := 1620) (isC_1 hc))).trans (mm_ite rfl ?_)
    refine (mm_by 3 (pc' := 61) (ls' := [.ref c, .null, .ref s, .int x3, .int x4, .int (h.1 (c + 1) x4.toNatClampNeg), .null]) (st' := [.int 10000, .int (h.1 (c + 1) x4.toNatClampNeg)]) (h' := h) rfl).trans ?_
    refine (mm_br (c := 10000 ≤ (h.1 (c + 1) x4.toNatClampNeg)) (p1 := 73) (p2 := 64) (l1 := [.ref c, .null, .ref s, .int x3, .int x4, .int (h.1 (c + 1) x4.toNatClampNeg), .null]) (l2 := [.ref c, .null, .ref s, .int x3, .int x4, .int (h.1 (c + 1) x4.toNatClampNeg), .null]) (s1 := []) (s2 := []) (h1 := h) (h2 := h) rfl rfl).trans (mm_ite ?_ ?_)
    · refine (mm_by 2 (pc' := 78) (ls' := [.ref c, .null, .ref s, .int x3, .int x4, .int (h.1 (c + 1) x4.toNatClampNeg), .null]) (st' := [.int 11000, .int (h.1 (c + 1) x4.toNatClampNeg)]) (h' := h) rfl).trans ?_
      refine (mm_br (c := 11000 ≤ (h.1 (c + 1) x4.toNatClampNeg)) (p1 := 98) (p2 := 81) (l1 := [.ref c, .null, .ref s, .int x3, .int x4, .int (h.1 (c + 1) x4.toNatClampNeg), .null]) (l2 := [.ref c, .null, .ref s, .int x3, .int x4, .int (h.1 (c + 1) x4.toNatClampNeg), .null]) (s1 := []) (s2 := []) (h1 := h) (h2 := h) rfl rfl).trans (mm_ite ?_ ?_)
      · refine (mm_by 2 (pc' := 103) (ls' := [.ref c, .null, .ref s, .int x3, .int x4, .int (h.1 (c + 1) x4.toNatClampNeg), .null]) (st' := [.int 11011, .int (h.1 (c + 1) x4.toNatClampNeg)]) (h' := h) rfl).trans ?_
        refine (mm_br (c := (h.1 (c + 1) x4.toNatClampNeg) < 11011) (p1 := 124) (p2 := 106) (l1 := [.ref c, .null, .ref s, .int x3, .int x4, .int (h.1 (c + 1) x4.toNatClampNeg), .null]) (l2 := [.ref c, .null, .ref s, .int x3, .int x4, .int (h.1 (c + 1) x4.toNatClampNeg), .null]) (s1 := []) (s2 := []) (h1 := h) (h2 := h) rfl rfl).trans (mm_ite ?_ ?_)
        · refine (mm_by 1 (pc' := 125) (ls' := [.ref c, .null, .ref s, .int x3, .int x4, .int (h.1 (c + 1) x4.toNatClampNeg), .null]) (st' := [.ref c]) (h' := h) rfl).trans ?_
          refine (mm_c1 (y := 42) (as := [.ref c]) (nx := 128) (rest := []) rfl (if_pos ⟨(isC_0 hc), Nat.le_of_ble_eq_true rfl⟩)).trans (mm_congI fun v4 h3 => ?_)
          refine (mm_by 4 (pc' := 134) (ls' := [.ref c, .null, .ref s, .int x3, .int x4, .int (h.1 (c + 1) x4.toNatClampNeg), .int v4]) (st' := [.ref c, .int (h.1 (c + 1) x4.toNatClampNeg), .ref c]) (h' := h3) rfl).trans ?_
          refine (mm_c1 (y := 42) (as := [.ref c]) (nx := 137) (rest := [.int (h.1 (c + 1) x4.toNatClampNeg), .ref c]) rfl (if_pos ⟨(isC_0 hc), Nat.le_of_ble_eq_true rfl⟩)).trans (mm_congI fun v6 h5 => ?_)
          refine (mm_by 1 (pc' := 139) (ls' := [.ref c, .null, .ref s, .int x3, .int x4, .int (h.1 (c + 1) x4.toNatClampNeg), .int v4]) (st' := [.int v4, .int v6, .int (h.1 (c + 1) x4.toNatClampNeg), .ref c]) (h' := h5) rfl).trans ?_
          refine (mm_c1 (y := 44) (as := [.int (h.1 (c + 1) x4.toNatClampNeg), .int v6, .int v4]) (nx := 142) (rest := [.ref c]) rfl rfl).trans (mm_congI fun v8 h7 => ?_)
          refine (mm_c0 (y := 41) (as := [.ref c, .int v8]) (nx := 145) (rest := []) rfl (if_pos ⟨(isC_0 hc), Nat.le_of_ble_eq_true rfl⟩)).trans (mm_congV fun h9 => ?_)
          exact mm_by 2 rfl
        · refine (mm_by 4 (pc' := 111) (ls' := [.ref c, .null, .ref s, .int x3, .int x4, .int (h.1 (c + 1) x4.toNatClampNeg), .null]) (st' := [.ref c, .int (h.1 (c + 1) x4.toNatClampNeg), .ref c, .ref c]) (h' := h) rfl).trans ?_
          refine (mm_c1 (y := 42) (as := [.ref c]) (nx := 114) (rest := [.int (h.1 (c + 1) x4.toNatClampNeg), .ref c, .ref c]) rfl (if_pos ⟨(isC_0 hc), Nat.le_of_ble_eq_true rfl⟩)).trans (mm_congI fun v11 h10 => ?_)
          refine (mm_by 1 (pc' := 115) (ls' := [.ref c, .null, .ref s, .int x3, .int x4, .int (h.1 (c + 1) x4.toNatClampNeg), .null]) (st' := [.ref s, .int v11, .int (h.1 (c + 1) x4.toNatClampNeg), .ref c, .ref c]) (h' := h10) rfl).trans ?_
          refine (mm_c1 (y := 43) (as := [.ref c, .int (h.1 (c + 1) x4.toNatClampNeg), .int v11, .ref s]) (nx := 118) (rest := [.ref c]) rfl (if_pos ⟨(isC_0 hc), Nat.le_of_ble_eq_true rfl⟩)).trans (mm_congI fun v13 h12 => ?_)
          refine (mm_c0 (y := 41) (as := [.ref c, .int v13]) (nx := 121) (rest := []) rfl (if_pos ⟨(isC_0 hc), Nat.le_of_ble_eq_true rfl⟩)).trans (mm_congV fun h14 => ?_)
          exact mm_by 3 rfl
      · refine (mm_by 5 (pc' := 89) (ls' := [.ref c, .null, .ref s, .int x3, .int x4, .int (h.1 (c + 1) x4.toNatClampNeg), .null]) (st' := [.int ((h.1 (c + 1) x4.toNatClampNeg) - 10000), .ref c, .ref c]) (h' := h) rfl).trans ?_
        refine (mm_c1 (y := 40) (as := [.ref c, .int ((h.1 (c + 1) x4.toNatClampNeg) - 10000)]) (nx := 92) (rest := [.ref c]) rfl (if_pos ⟨(isC_0 hc), Nat.le_of_ble_eq_true rfl⟩)).trans (mm_congI fun v16 h15 => ?_)
        refine (mm_c0 (y := 41) (as := [.ref c, .int v16]) (nx := 95) (rest := []) rfl (if_pos ⟨(isC_0 hc), Nat.le_of_ble_eq_true rfl⟩)).trans (mm_congV fun h17 => ?_)
        exact mm_by 3 rfl
    · refine (mm_by 2 (pc' := 67) (ls' := [.ref c, .null, .ref s, .int x3, .int x4, .int (h.1 (c + 1) x4.toNatClampNeg), .null]) (st' := [.int (h.1 (c + 1) x4.toNatClampNeg), .ref c]) (h' := h) rfl).trans ?_
      refine (mm_c0 (y := 41) (as := [.ref c, .int (h.1 (c + 1) x4.toNatClampNeg)]) (nx := 70) (rest := []) rfl (if_pos ⟨(isC_0 hc), Nat.le_of_ble_eq_true rfl⟩)).trans (mm_congV fun h18 => ?_)
      exact mm_by 3 rfl
set_option maxRecDepth 100000 in
set_option maxHeartbeats 4000000 in
theorem U_X1_valueOf {d : Nat} {c : Nat} {x1 : Int32} {h : mm_H} (hc : mm_isC c) : mm_M mm_T0 (d + 1) 40 [.ref c, .int x1] h = (if x1 < 0 then (some (some (.int 0), h)) else (if 25 ≤ x1 then (some (some (.int 0), h)) else (if x1 < 0 ∨ 25 ≤ x1.toNatClampNeg then none else (some (some (.int (h.1 (c + 4) x1.toNatClampNeg)), h))))) := by
  refine (mm_M_eq (ls := [.ref c, .int x1]) rfl (Nat.le_of_ble_eq_true rfl) rfl h).trans ?_
  refine (mm_by 1 (pc' := 1) (ls' := [.ref c, .int x1]) (st' := [.int x1]) (h' := h) rfl).trans ?_
  refine (mm_br (c := x1 < 0) (p1 := 22) (p2 := 4) (l1 := [.ref c, .int x1]) (l2 := [.ref c, .int x1]) (s1 := []) (s2 := []) (h1 := h) (h2 := h) rfl rfl).trans (mm_ite ?_ ?_)
  · exact mm_by_end 2 rfl
  · refine (mm_by 2 (pc' := 6) (ls' := [.ref c, .int x1]) (st' := [.ref c, .int x1]) (h' := h) rfl).trans ?_
    refine (mm_go (pc' := 9) (ls' := [.ref c, .int x1]) (st' := [.ref (c + 4), .int x1]) (h' := h) rfl (q_get (isC_0 hc))).trans ?_
    refine (mm_go (pc' := 10) (ls' := [.ref c, .int x1]) (st' := [.int 25, .int x1]) (h' := h) rfl (q_alen (isC_4 hc) (by decide) (by decide))).trans ?_
    refine (mm_br (c := 25 ≤ x1) (p1 := 22) (p2 := 13) (l1 := [.ref c, .int x1]) (l2 := [.ref c, .int x1]) (s1 := []) (s2 := []) (h1 := h) (h2 := h) rfl rfl).trans (mm_ite ?_ ?_)
    · exact mm_by_end 2 rfl
    · refine (mm_by 1 (pc' := 14) (ls' := [.ref c, .int x1]) (st' := [.ref c]) (h' := h) rfl).trans ?_
      refine (mm_go (pc' := 17) (ls' := [.ref c, .int x1]) (st' := [.ref (c + 4)]) (h' := h) rfl (q_get (isC_0 hc))).trans ?_
      refine (mm_by 1 (pc' := 18) (ls' := [.ref c, .int x1]) (st' := [.int x1, .ref (c + 4)]) (h' := h) rfl).trans ?_
      refine (mm_gd (c := x1 < 0 ∨ 25 ≤ x1.toNatClampNeg) (p1 := 19) (l1 := [.ref c, .int x1]) (s1 := [.int (h.1 (c + 4) x1.toNatClampNeg)]) (h1 := h) rfl (q_iald (n := 25) (isC_4 hc))).trans (mm_ite rfl ?_)
      exact mm_by_end 2 rfl
set_option maxRecDepth 100000 in
set_option maxHeartbeats 4000000 in
theorem U_X1_push {d : Nat} {c : Nat} {x1 : Int32} {h : mm_H} (hc : mm_isC c) : mm_M mm_T0 (d + 1) 41 [.ref c, .int x1] h = (if 64 ≤ (h.1 c 6) then (some (none, h)) else (if (h.1 c 6) < 0 ∨ 64 ≤ (h.1 c 6).toNatClampNeg then none else (some (none, wI (wI h (c + 5) ((h.1 c 6).toNatClampNeg) x1) c 6 (((wI h (c + 5) ((h.1 c 6).toNatClampNeg) x1).1 c 6) + 1))))) := by
  refine (mm_M_eq (ls := [.ref c, .int x1]) rfl (Nat.le_of_ble_eq_true rfl) rfl h).trans ?_
  refine (mm_by 1 (pc' := 1) (ls' := [.ref c, .int x1]) (st' := [.ref c]) (h' := h) rfl).trans ?_
  refine (mm_go (pc' := 4) (ls' := [.ref c, .int x1]) (st' := [.int (h.1 c 6)]) (h' := h) rfl (q_get (isC_0 hc))).trans ?_
  refine (mm_by 1 (pc' := 5) (ls' := [.ref c, .int x1]) (st' := [.ref c, .int (h.1 c 6)]) (h' := h) rfl).trans ?_
  refine (mm_go (pc' := 8) (ls' := [.ref c, .int x1]) (st' := [.ref (c + 5), .int (h.1 c 6)]) (h' := h) rfl (q_get (isC_0 hc))).trans ?_
  refine (mm_go (pc' := 9) (ls' := [.ref c, .int x1]) (st' := [.int 64, .int (h.1 c 6)]) (h' := h) rfl (q_alen (isC_5 hc) (by decide) (by decide))).trans ?_
  refine (mm_br (c := 64 ≤ (h.1 c 6)) (p1 := 32) (p2 := 12) (l1 := [.ref c, .int x1]) (l2 := [.ref c, .int x1]) (s1 := []) (s2 := []) (h1 := h) (h2 := h) rfl rfl).trans (mm_ite ?_ ?_)
  · exact mm_by_end 1 rfl
  · refine (mm_by 1 (pc' := 13) (ls' := [.ref c, .int x1]) (st' := [.ref c]) (h' := h) rfl).trans ?_
    refine (mm_go (pc' := 16) (ls' := [.ref c, .int x1]) (st' := [.ref (c + 5)]) (h' := h) rfl (q_get (isC_0 hc))).trans ?_
    refine (mm_by 1 (pc' := 17) (ls' := [.ref c, .int x1]) (st' := [.ref c, .ref (c + 5)]) (h' := h) rfl).trans ?_
    refine (mm_go (pc' := 20) (ls' := [.ref c, .int x1]) (st' := [.int (h.1 c 6), .ref (c + 5)]) (h' := h) rfl (q_get (isC_0 hc))).trans ?_
    refine (mm_by 1 (pc' := 21) (ls' := [.ref c, .int x1]) (st' := [.int x1, .int (h.1 c 6), .ref (c + 5)]) (h' := h) rfl).trans ?_
    refine (mm_gd (c := (h.1 c 6) < 0 ∨ 64 ≤ (h.1 c 6).toNatClampNeg) (p1 := 22) (l1 := [.ref c, .int x1]) (s1 := []) (h1 := wI h (c + 5) ((h.1 c 6).toNatClampNeg) x1) rfl (q_iast (n := 64) (isC_5 hc))).trans (mm_ite rfl ?_)
    refine (mm_by 2 (pc' := 24) (ls' := [.ref c, .int x1]) (st' := [.ref c, .ref c]) (h' := wI h (c + 5) ((h.1 c 6).toNatClampNeg) x1) rfl).trans ?_
    refine (mm_go (pc' := 27) (ls' := [.ref c, .int x1]) (st' := [.int ((wI h (c + 5) ((h.1 c 6).toNatClampNeg) x1).1 c 6), .ref c]) (h' := wI h (c + 5) ((h.1 c 6).toNatClampNeg) x1) rfl (q_get (isC_0 hc))).trans ?_
    refine (mm_by 2 (pc' := 29) (ls' := [.ref c, .int x1]) (st' := [.int (((wI h (c + 5) ((h.1 c 6).toNatClampNeg) x1).1 c 6) + 1), .ref c]) (h' := wI h (c + 5) ((h.1 c 6).toNatClampNeg) x1) rfl).trans ?_
    refine (mm_go (pc' := 32) (ls' := [.ref c, .int x1]) (st' := []) (h' := wI (wI h (c + 5) ((h.1 c 6).toNatClampNeg) x1) c 6 (((wI h (c + 5) ((h.1 c 6).toNatClampNeg) x1).1 c 6) + 1)) rfl (q_putI (isC_0 hc))).trans ?_
    exact mm_by_end 1 rfl
set_option maxRecDepth 100000 in
set_option maxHeartbeats 4000000 in
theorem U_X1_pop {d : Nat} {c : Nat} {h : mm_H} (hc : mm_isC c) : mm_M mm_T0 (d + 1) 42 [.ref c] h = (if 0 < (h.1 c 6) then (if ((wI h c 6 ((h.1 c 6) - 1)).1 c 6) < 0 ∨ 64 ≤ ((wI h c 6 ((h.1 c 6) - 1)).1 c 6).toNatClampNeg then none else (some (some (.int ((wI h c 6 ((h.1 c 6) - 1)).1 (c + 5) ((wI h c 6 ((h.1 c 6) - 1)).1 c 6).toNatClampNeg)), wI h c 6 ((h.1 c 6) - 1)))) else (some (some (.int 0), h))) := by
  refine (mm_M_eq (ls := [.ref c]) rfl (Nat.le_of_ble_eq_true rfl) rfl h).trans ?_
  refine (mm_by 1 (pc' := 1) (ls' := [.ref c]) (st' := [.ref c]) (h' := h) rfl).trans ?_
  refine (mm_go (pc' := 4) (ls' := [.ref c]) (st' := [.int (h.1 c 6)]) (h' := h) rfl (q_get (isC_0 hc))).trans ?_
  refine (mm_br (c := 0 < (h.1 c 6)) (p1 := 9) (p2 := 7) (l1 := [.ref c]) (l2 := [.ref c]) (s1 := []) (s2 := []) (h1 := h) (h2 := h) rfl rfl).trans (mm_ite ?_ ?_)
  · refine (mm_by 2 (pc' := 11) (ls' := [.ref c]) (st' := [.ref c, .ref c]) (h' := h) rfl).trans ?_
    refine (mm_go (pc' := 14) (ls' := [.ref c]) (st' := [.int (h.1 c 6), .ref c]) (h' := h) rfl (q_get (isC_0 hc))).trans ?_
    refine (mm_by 2 (pc' := 16) (ls' := [.ref c]) (st' := [.int ((h.1 c 6) - 1), .ref c]) (h' := h) rfl).trans ?_
    refine (mm_go (pc' := 19) (ls' := [.ref c]) (st' := []) (h' := wI h c 6 ((h.1 c 6) - 1)) rfl (q_putI (isC_0 hc))).trans ?_
    refine (mm_by 1 (pc' := 20) (ls' := [.ref c]) (st' := [.ref c]) (h' := wI h c 6 ((h.1 c 6) - 1)) rfl).trans ?_
    refine (mm_go (pc' := 23) (ls' := [.ref c]) (st' := [.ref (c + 5)]) (h' := wI h c 6 ((h.1 c 6) - 1)) rfl (q_get (isC_0 hc))).trans ?_
    refine (mm_by 1 (pc' := 24) (ls' := [.ref c]) (st' := [.ref c, .ref (c + 5)]) (h' := wI h c 6 ((h.1 c 6) - 1)) rfl).trans ?_
    refine (mm_go (pc' := 27) (ls' := [.ref c]) (st' := [.int ((wI h c 6 ((h.1 c 6) - 1)).1 c 6), .ref (c + 5)]) (h' := wI h c 6 ((h.1 c 6) - 1)) rfl (q_get (isC_0 hc))).trans ?_
    refine (mm_gd (c := ((wI h c 6 ((h.1 c 6) - 1)).1 c 6) < 0 ∨ 64 ≤ ((wI h c 6 ((h.1 c 6) - 1)).1 c 6).toNatClampNeg) (p1 := 28) (l1 := [.ref c]) (s1 := [.int ((wI h c 6 ((h.1 c 6) - 1)).1 (c + 5) ((wI h c 6 ((h.1 c 6) - 1)).1 c 6).toNatClampNeg)]) (h1 := wI h c 6 ((h.1 c 6) - 1)) rfl (q_iald (n := 64) (isC_5 hc))).trans (mm_ite rfl ?_)
    exact mm_by_end 1 rfl
  · exact mm_by_end 2 rfl
set_option maxRecDepth 100000 in
set_option maxHeartbeats 4000000 in
theorem U_X1_turned {d : Nat} {c : Nat} {x1 : Int32} {x2 : Int32} {s : Nat} {h : mm_H} (hc : mm_isC c) (hs : mm_isS s) : mm_M mm_T0 (d + 1) 43 [.ref c, .int x1, .int x2, .ref s] h = (if x1 = 11011 then (some (some (.int (1 - x2)), h)) else (if x1 = 11012 then (mm_bI (mm_M mm_T0 d 110 [.ref s, .int (h.1 (c + 4) 16), .int x2] h) (fun v2 h1 => some (some (.int v2), h1))) else (if x1 = 11013 then (mm_bI (mm_M mm_T0 d 110 [.ref s, .int x2, .int (h.1 (c + 4) 16)] h) (fun v4 h3 => some (some (.int v4), h3))) else (some (some (.int 0), h))))) := by
  refine (mm_M_eq (ls := [.ref c, .int x1, .int x2, .ref s]) rfl (Nat.le_of_ble_eq_true rfl) rfl h).trans ?_
  refine (mm_by 1 (pc' := 1) (ls' := [.ref c, .int x1, .int x2, .ref s]) (st' := [.int x1]) (h' := h) rfl).trans ?_
  refine (mm_go (pc' := mm_sw [(11011, 28), (11012, 32), (11013, 45)] 58 x1) (ls' := [.ref c, .int x1, .int x2, .ref s]) (st' := []) (h' := h) rfl rfl).trans ?_
  refine mm_sw_c.trans (mm_ite ?_ ?_)
  · exact mm_by_end 4 rfl
  · refine mm_sw_c.trans (mm_ite ?_ ?_)
    · refine (mm_by 2 (pc' := 34) (ls' := [.ref c, .int x1, .int x2, .ref s]) (st' := [.ref c, .ref s]) (h' := h) rfl).trans ?_
      refine (mm_go (pc' := 37) (ls' := [.ref c, .int x1, .int x2, .ref s]) (st' := [.ref (c + 4), .ref s]) (h' := h) rfl (q_get (isC_0 hc))).trans ?_
      refine (mm_by 1 (pc' := 39) (ls' := [.ref c, .int x1, .int x2, .ref s]) (st' := [.int 16, .ref (c + 4), .ref s]) (h' := h) rfl).trans ?_
      refine (mm_go (pc' := 40) (ls' := [.ref c, .int x1, .int x2, .ref s]) (st' := [.int (h.1 (c + 4) 16), .ref s]) (h' := h) rfl ((q_iald (n := 25) (isC_4 hc)).trans (if_neg (by decide)))).trans ?_
      refine (mm_by 1 (pc' := 41) (ls' := [.ref c, .int x1, .int x2, .ref s]) (st' := [.int x2, .int (h.1 (c + 4) 16), .ref s]) (h' := h) rfl).trans ?_
      refine (mm_c1 (y := 110) (as := [.ref s, .int (h.1 (c + 4) 16), .int x2]) (nx := 44) (rest := []) rfl (if_pos ⟨(isS_0 hs), Nat.le_of_ble_eq_true rfl⟩)).trans (mm_congI fun v2 h1 => ?_)
      exact mm_by_end 1 rfl
    · refine mm_sw_c.trans (mm_ite ?_ ?_)
      · refine (mm_by 3 (pc' := 48) (ls' := [.ref c, .int x1, .int x2, .ref s]) (st' := [.ref c, .int x2, .ref s]) (h' := h) rfl).trans ?_
        refine (mm_go (pc' := 51) (ls' := [.ref c, .int x1, .int x2, .ref s]) (st' := [.ref (c + 4), .int x2, .ref s]) (h' := h) rfl (q_get (isC_0 hc))).trans ?_
        refine (mm_by 1 (pc' := 53) (ls' := [.ref c, .int x1, .int x2, .ref s]) (st' := [.int 16, .ref (c + 4), .int x2, .ref s]) (h' := h) rfl).trans ?_
        refine (mm_go (pc' := 54) (ls' := [.ref c, .int x1, .int x2, .ref s]) (st' := [.int (h.1 (c + 4) 16), .int x2, .ref s]) (h' := h) rfl ((q_iald (n := 25) (isC_4 hc)).trans (if_neg (by decide)))).trans ?_
        refine (mm_c1 (y := 110) (as := [.ref s, .int x2, .int (h.1 (c + 4) 16)]) (nx := 57) (rest := []) rfl (if_pos ⟨(isS_0 hs), Nat.le_of_ble_eq_true rfl⟩)).trans (mm_congI fun v4 h3 => ?_)
        exact mm_by_end 1 rfl
      · refine Eq.trans (show mm_D _ _ (mm_sw [] 58 x1) _ _ _ = mm_D _ _ 58 _ _ _ from rfl) ?_
        exact mm_by_end 2 rfl
set_option maxRecDepth 100000 in
set_option maxHeartbeats 4000000 in
theorem U_X1_joined {d : Nat} {x0 : Int32} {x1 : Int32} {x2 : Int32} {h : mm_H} : mm_M mm_T0 (d + 1) 44 [.int x0, .int x1, .int x2] h = (if x0 = 11000 then (mm_bI (mm_M mm_T0 d 45 [.long (x1.toInt64 + x2.toInt64)] h) (fun v2 h1 => some (some (.int v2), h1))) else (if x0 = 11001 then (mm_bI (mm_M mm_T0 d 45 [.long (x1.toInt64 - x2.toInt64)] h) (fun v4 h3 => some (some (.int v4), h3))) else (if x0 = 11002 then (mm_bI (mm_M mm_T0 d 45 [.long (x1.toInt64 * x2.toInt64)] h) (fun v6 h5 => some (some (.int v6), h5))) else (if x0 = 11003 then (if ¬ x2 = 0 then (mm_bI (mm_M mm_T0 d 7 [.int x1, .int x2] h) (fun v8 h7 => some (some (.int v8), h7))) else (some (some (.int 0), h))) else (if x0 = 11004 then (if x2 ≤ x1 then (some (some (.int 0), h)) else (some (some (.int 1), h))) else (if x0 = 11005 then (if x1 ≤ x2 then (some (some (.int 0), h)) else (some (some (.int 1), h))) else (if x0 = 11006 then (if ¬ x1 = x2 then (some (some (.int 0), h)) else (some (some (.int 1), h))) else (if x0 = 11007 then (mm_bI (mm_M mm_T0 d 11 [.int x1, .int x2] h) (fun v10 h9 => some (some (.int v10), h9))) else (if x0 = 11008 then (mm_bI (mm_M mm_T0 d 9 [.int x1, .int x2] h) (fun v12 h11 => some (some (.int v12), h11))) else (if x0 = 11009 then (mm_bI (mm_M mm_T0 d 11 [.int x1, .int x2] h) (fun v14 h13 => some (some (.int v14), h13))) else (if x0 = 11010 then (mm_bI (mm_M mm_T0 d 9 [.int x1, .int x2] h) (fun v16 h15 => some (some (.int v16), h15))) else (some (some (.int 0), h))))))))))))) := by
  refine (mm_M_eq (ls := [.int x0, .int x1, .int x2]) rfl (Nat.le_of_ble_eq_true rfl) rfl h).trans ?_
  refine (mm_by 1 (pc' := 1) (ls' := [.int x0, .int x1, .int x2]) (st' := [.int x0]) (h' := h) rfl).trans ?_
  refine (mm_go (pc' := mm_sw [(11000, 60), (11001, 69), (11002, 78), (11003, 87), (11004, 101), (11005, 112), (11006, 123), (11007, 134), (11008, 140), (11009, 134), (11010, 140)] 146 x0) (ls' := [.int x0, .int x1, .int x2]) (st' := []) (h' := h) rfl rfl).trans ?_
  refine mm_sw_c.trans (mm_ite ?_ ?_)
  · refine (mm_by 5 (pc' := 65) (ls' := [.int x0, .int x1, .int x2]) (st' := [.long (x1.toInt64 + x2.toInt64)]) (h' := h) rfl).trans ?_
    refine (mm_c1 (y := 45) (as := [.long (x1.toInt64 + x2.toInt64)]) (nx := 68) (rest := []) rfl rfl).trans (mm_congI fun v2 h1 => ?_)
    exact mm_by_end 1 rfl
  · refine mm_sw_c.trans (mm_ite ?_ ?_)
    · refine (mm_by 5 (pc' := 74) (ls' := [.int x0, .int x1, .int x2]) (st' := [.long (x1.toInt64 - x2.toInt64)]) (h' := h) rfl).trans ?_
      refine (mm_c1 (y := 45) (as := [.long (x1.toInt64 - x2.toInt64)]) (nx := 77) (rest := []) rfl rfl).trans (mm_congI fun v4 h3 => ?_)
      exact mm_by_end 1 rfl
    · refine mm_sw_c.trans (mm_ite ?_ ?_)
      · refine (mm_by 5 (pc' := 83) (ls' := [.int x0, .int x1, .int x2]) (st' := [.long (x1.toInt64 * x2.toInt64)]) (h' := h) rfl).trans ?_
        refine (mm_c1 (y := 45) (as := [.long (x1.toInt64 * x2.toInt64)]) (nx := 86) (rest := []) rfl rfl).trans (mm_congI fun v6 h5 => ?_)
        exact mm_by_end 1 rfl
      · refine mm_sw_c.trans (mm_ite ?_ ?_)
        · refine (mm_by 1 (pc' := 88) (ls' := [.int x0, .int x1, .int x2]) (st' := [.int x2]) (h' := h) rfl).trans ?_
          refine (mm_br (c := ¬ x2 = 0) (p1 := 95) (p2 := 91) (l1 := [.int x0, .int x1, .int x2]) (l2 := [.int x0, .int x1, .int x2]) (s1 := []) (s2 := []) (h1 := h) (h2 := h) rfl rfl).trans (mm_ite ?_ ?_)
          · refine (mm_by 2 (pc' := 97) (ls' := [.int x0, .int x1, .int x2]) (st' := [.int x2, .int x1]) (h' := h) rfl).trans ?_
            refine (mm_c1 (y := 7) (as := [.int x1, .int x2]) (nx := 100) (rest := []) rfl rfl).trans (mm_congI fun v8 h7 => ?_)
            exact mm_by_end 1 rfl
          · exact mm_by_end 3 rfl
        · refine mm_sw_c.trans (mm_ite ?_ ?_)
          · refine (mm_by 2 (pc' := 103) (ls' := [.int x0, .int x1, .int x2]) (st' := [.int x2, .int x1]) (h' := h) rfl).trans ?_
            refine (mm_br (c := x2 ≤ x1) (p1 := 110) (p2 := 106) (l1 := [.int x0, .int x1, .int x2]) (l2 := [.int x0, .int x1, .int x2]) (s1 := []) (s2 := []) (h1 := h) (h2 := h) rfl rfl).trans (mm_ite ?_ ?_)
            · exact mm_by_end 2 rfl
            · exact mm_by_end 3 rfl
          · refine mm_sw_c.trans (mm_ite ?_ ?_)
            · refine (mm_by 2 (pc' := 114) (ls' := [.int x0, .int x1, .int x2]) (st' := [.int x2, .int x1]) (h' := h) rfl).trans ?_
              refine (mm_br (c := x1 ≤ x2) (p1 := 121) (p2 := 117) (l1 := [.int x0, .int x1, .int x2]) (l2 := [.int x0, .int x1, .int x2]) (s1 := []) (s2 := []) (h1 := h) (h2 := h) rfl rfl).trans (mm_ite ?_ ?_)
              · exact mm_by_end 2 rfl
              · exact mm_by_end 3 rfl
            · refine mm_sw_c.trans (mm_ite ?_ ?_)
              · refine (mm_by 2 (pc' := 125) (ls' := [.int x0, .int x1, .int x2]) (st' := [.int x2, .int x1]) (h' := h) rfl).trans ?_
                refine (mm_br (c := ¬ x1 = x2) (p1 := 132) (p2 := 128) (l1 := [.int x0, .int x1, .int x2]) (l2 := [.int x0, .int x1, .int x2]) (s1 := []) (s2 := []) (h1 := h) (h2 := h) rfl rfl).trans (mm_ite ?_ ?_)
                · exact mm_by_end 2 rfl
                · exact mm_by_end 3 rfl
              · refine mm_sw_c.trans (mm_ite ?_ ?_)
                · refine (mm_by 2 (pc' := 136) (ls' := [.int x0, .int x1, .int x2]) (st' := [.int x2, .int x1]) (h' := h) rfl).trans ?_
                  refine (mm_c1 (y := 11) (as := [.int x1, .int x2]) (nx := 139) (rest := []) rfl rfl).trans (mm_congI fun v10 h9 => ?_)
                  exact mm_by_end 1 rfl
                · refine mm_sw_c.trans (mm_ite ?_ ?_)
                  · refine (mm_by 2 (pc' := 142) (ls' := [.int x0, .int x1, .int x2]) (st' := [.int x2, .int x1]) (h' := h) rfl).trans ?_
                    refine (mm_c1 (y := 9) (as := [.int x1, .int x2]) (nx := 145) (rest := []) rfl rfl).trans (mm_congI fun v12 h11 => ?_)
                    exact mm_by_end 1 rfl
                  · refine mm_sw_c.trans (mm_ite ?_ ?_)
                    · refine (mm_by 2 (pc' := 136) (ls' := [.int x0, .int x1, .int x2]) (st' := [.int x2, .int x1]) (h' := h) rfl).trans ?_
                      refine (mm_c1 (y := 11) (as := [.int x1, .int x2]) (nx := 139) (rest := []) rfl rfl).trans (mm_congI fun v14 h13 => ?_)
                      exact mm_by_end 1 rfl
                    · refine mm_sw_c.trans (mm_ite ?_ ?_)
                      · refine (mm_by 2 (pc' := 142) (ls' := [.int x0, .int x1, .int x2]) (st' := [.int x2, .int x1]) (h' := h) rfl).trans ?_
                        refine (mm_c1 (y := 9) (as := [.int x1, .int x2]) (nx := 145) (rest := []) rfl rfl).trans (mm_congI fun v16 h15 => ?_)
                        exact mm_by_end 1 rfl
                      · refine Eq.trans (show mm_D _ _ (mm_sw [] 146 x0) _ _ _ = mm_D _ _ 146 _ _ _ from rfl) ?_
                        exact mm_by_end 2 rfl
set_option maxRecDepth 100000 in
set_option maxHeartbeats 4000000 in
theorem U_X1_held {d : Nat} {x0 : Int64} {h : mm_H} : mm_M mm_T0 (d + 1) 45 [.long x0] h = (if (lg_cmp x0 1000000) ≤ 0 then (if 0 ≤ (lg_cmp x0 ((-1000000))) then (some (some (.int x0.toInt32), h)) else (some (some (.int ((-1000000))), h))) else (some (some (.int 1000000), h))) := by
  refine (mm_M_eq (ls := [.long x0, .null]) rfl (Nat.le_of_ble_eq_true rfl) rfl h).trans ?_
  refine (mm_by 3 (pc' := 5) (ls' := [.long x0, .null]) (st' := [.int (lg_cmp x0 1000000)]) (h' := h) rfl).trans ?_
  refine (mm_br (c := (lg_cmp x0 1000000) ≤ 0) (p1 := 11) (p2 := 8) (l1 := [.long x0, .null]) (l2 := [.long x0, .null]) (s1 := []) (s2 := []) (h1 := h) (h2 := h) rfl rfl).trans (mm_ite ?_ ?_)
  · refine (mm_by 3 (pc' := 16) (ls' := [.long x0, .null]) (st' := [.int (lg_cmp x0 ((-1000000)))]) (h' := h) rfl).trans ?_
    refine (mm_br (c := 0 ≤ (lg_cmp x0 ((-1000000)))) (p1 := 24) (p2 := 19) (l1 := [.long x0, .null]) (l2 := [.long x0, .null]) (s1 := []) (s2 := []) (h1 := h) (h2 := h) rfl rfl).trans (mm_ite ?_ ?_)
    · exact mm_by_end 3 rfl
    · exact mm_by_end 3 rfl
  · exact mm_by_end 2 rfl
set_option maxRecDepth 100000 in
set_option maxHeartbeats 4000000 in
theorem U_X2_readRule {d : Nat} {c : Nat} {x2 : Int32} {x3 : Int32} {h : mm_H} (hc : mm_isC c) : mm_M mm_T0 (d + 1) 46 [.ref 11, .ref c, .int x2, .int x3] h = (mm_bI (mm_M mm_T0 d 34 [.ref c, .int x2] h) (fun v2 h1 => if v2 = 0 then (mm_bV (mm_M mm_T0 d 75 [.ref 3] h1) (fun h3 => if mm_sh ((wI (wR h3 11 1 c) 11 2 x2).2.2 11 1) = (0, 1) then (mm_bV (mm_M mm_T0 d 35 [.ref ((wI (wR h3 11 1 c) 11 2 x2).2.2 11 1), .int ((wI (wR h3 11 1 c) 11 2 x2).1 11 2)] (wI (wR h3 11 1 c) 11 2 x2)) (fun h4 => if x3 = 0 then (mm_bI (mm_M mm_T0 d 52 [.ref 11, .int 0] h4) (fun v6 h5 => if mm_sh (h5.2.2 11 1) = (0, 1) then (mm_bV (mm_M mm_T0 d 36 [.ref (h5.2.2 11 1), .int (h5.1 11 2)] h5) (fun h7 => mm_zr v6 h7)) else none)) else (mm_bI (mm_M mm_T0 d 47 [.ref 11, .int 0] h4) (fun v9 h8 => if mm_sh (h8.2.2 11 1) = (0, 1) then (mm_bV (mm_M mm_T0 d 36 [.ref (h8.2.2 11 1), .int (h8.1 11 2)] h8) (fun h10 => mm_zr v9 h10)) else none)))) else none)) else (mm_bI (mm_M mm_T0 d 89 [.ref 3, .int 5] h1) (fun v12 h11 => mm_zr v12 h11)))) := by
  refine (mm_M_eq (ls := [.ref 11, .ref c, .int x2, .int x3, .null]) rfl (Nat.le_of_ble_eq_true rfl) rfl h).trans ?_
  refine (mm_by 2 (pc' := 2) (ls' := [.ref 11, .ref c, .int x2, .int x3, .null]) (st' := [.int x2, .ref c]) (h' := h) rfl).trans ?_
  refine (mm_c1 (y := 34) (as := [.ref c, .int x2]) (nx := 5) (rest := []) rfl (if_pos ⟨(isC_0 hc), Nat.le_of_ble_eq_true rfl⟩)).trans (mm_congI fun v2 h1 => ?_)
  refine (mm_br (c := v2 = 0) (p1 := 17) (p2 := 8) (l1 := [.ref 11, .ref c, .int x2, .int x3, .null]) (l2 := [.ref 11, .ref c, .int x2, .int x3, .null]) (s1 := []) (s2 := []) (h1 := h1) (h2 := h1) rfl rfl).trans (mm_ite ?_ ?_)
  · refine (mm_by 2 (pc' := 21) (ls' := [.ref 11, .ref c, .int x2, .int x3, .null]) (st' := [.ref 3]) (h' := h1) rfl).trans ?_
    refine (mm_c0 (y := 75) (as := [.ref 3]) (nx := 24) (rest := []) rfl rfl).trans (mm_congV fun h3 => ?_)
    refine (mm_by 10 (pc' := 42) (ls' := [.ref 11, .ref c, .int x2, .int x3, .null]) (st' := [.int ((wI (wR h3 11 1 c) 11 2 x2).1 11 2), .ref ((wI (wR h3 11 1 c) 11 2 x2).2.2 11 1)]) (h' := wI (wR h3 11 1 c) 11 2 x2) rfl).trans ?_
    refine (mm_d0 (b := (wI (wR h3 11 1 c) 11 2 x2).2.2 11 1) (ci := 1) (y := 35) (as := [.ref ((wI (wR h3 11 1 c) 11 2 x2).2.2 11 1), .int ((wI (wR h3 11 1 c) 11 2 x2).1 11 2)]) (nx := 45) (rest := []) rfl rfl (Nat.le_of_ble_eq_true rfl)).trans (mm_ite (mm_congV fun h4 => ?_) rfl)
    refine (mm_by 1 (pc' := 46) (ls' := [.ref 11, .ref c, .int x2, .int x3, .null]) (st' := [.int x3]) (h' := h4) rfl).trans ?_
    refine (mm_br (c := x3 = 0) (p1 := 57) (p2 := 49) (l1 := [.ref 11, .ref c, .int x2, .int x3, .null]) (l2 := [.ref 11, .ref c, .int x2, .int x3, .null]) (s1 := []) (s2 := []) (h1 := h4) (h2 := h4) rfl rfl).trans (mm_ite ?_ ?_)
    · refine (mm_by 2 (pc' := 59) (ls' := [.ref 11, .ref c, .int x2, .int x3, .null]) (st' := [.int 0, .ref 11]) (h' := h4) rfl).trans ?_
      refine (mm_c1 (y := 52) (as := [.ref 11, .int 0]) (nx := 62) (rest := []) rfl rfl).trans (mm_congI fun v6 h5 => ?_)
      refine (mm_by 5 (pc' := 72) (ls' := [.ref 11, .ref c, .int x2, .int x3, .int v6]) (st' := [.int (h5.1 11 2), .ref (h5.2.2 11 1)]) (h' := h5) rfl).trans ?_
      refine (mm_d0 (b := h5.2.2 11 1) (ci := 1) (y := 36) (as := [.ref (h5.2.2 11 1), .int (h5.1 11 2)]) (nx := 75) (rest := []) rfl rfl (Nat.le_of_ble_eq_true rfl)).trans (mm_ite (mm_congV fun h7 => ?_) rfl)
      refine (mm_by 1 (pc' := 77) (ls' := [.ref 11, .ref c, .int x2, .int x3, .int v6]) (st' := [.int v6]) (h' := h7) rfl).trans ?_
      exact mm_zend rfl
    · refine (mm_by 2 (pc' := 51) (ls' := [.ref 11, .ref c, .int x2, .int x3, .null]) (st' := [.int 0, .ref 11]) (h' := h4) rfl).trans ?_
      refine (mm_c1 (y := 47) (as := [.ref 11, .int 0]) (nx := 54) (rest := []) rfl rfl).trans (mm_congI fun v9 h8 => ?_)
      refine (mm_by 6 (pc' := 72) (ls' := [.ref 11, .ref c, .int x2, .int x3, .int v9]) (st' := [.int (h8.1 11 2), .ref (h8.2.2 11 1)]) (h' := h8) rfl).trans ?_
      refine (mm_d0 (b := h8.2.2 11 1) (ci := 1) (y := 36) (as := [.ref (h8.2.2 11 1), .int (h8.1 11 2)]) (nx := 75) (rest := []) rfl rfl (Nat.le_of_ble_eq_true rfl)).trans (mm_ite (mm_congV fun h10 => ?_) rfl)
      refine (mm_by 1 (pc' := 77) (ls' := [.ref 11, .ref c, .int x2, .int x3, .int v9]) (st' := [.int v9]) (h' := h10) rfl).trans ?_
      exact mm_zend rfl
  · refine (mm_by 3 (pc' := 13) (ls' := [.ref 11, .ref c, .int x2, .int x3, .null]) (st' := [.int 5, .ref 3]) (h' := h1) rfl).trans ?_
    refine (mm_c1 (y := 89) (as := [.ref 3, .int 5]) (nx := 16) (rest := []) rfl rfl).trans (mm_congI fun v12 h11 => ?_)
    exact mm_zend rfl
set_option maxRecDepth 100000 in
set_option maxHeartbeats 4000000 in
theorem U_X2_readTest {d : Nat} {x1 : Int32} {h : mm_H} : mm_M mm_T0 (d + 1) 47 [.ref 11, .int x1] h = (mm_bI (mm_M mm_T0 d 48 [.ref 11, .int x1] h) (fun v2 h1 => if ¬ v2 = 0 then (mm_D (mm_M mm_T0 d) cd_X2_readTest 14 [.ref 11, .int x1, .int 0, .int 0, .null] [] h1) else (some (some (.int 0), h1)))) := by
  refine (mm_M_eq (ls := [.ref 11, .int x1, .null, .null, .null]) rfl (Nat.le_of_ble_eq_true rfl) rfl h).trans ?_
  refine (mm_by 2 (pc' := 2) (ls' := [.ref 11, .int x1, .null, .null, .null]) (st' := [.int x1, .ref 11]) (h' := h) rfl).trans ?_
  refine (mm_c1 (y := 48) (as := [.ref 11, .int x1]) (nx := 5) (rest := []) rfl rfl).trans (mm_congI fun v2 h1 => ?_)
  refine (mm_br (c := ¬ v2 = 0) (p1 := 10) (p2 := 8) (l1 := [.ref 11, .int x1, .null, .null, .null]) (l2 := [.ref 11, .int x1, .null, .null, .null]) (s1 := []) (s2 := []) (h1 := h1) (h2 := h1) rfl rfl).trans (mm_ite ?_ ?_)
  · exact mm_by 4 rfl
  · exact mm_by_end 2 rfl
set_option maxRecDepth 100000 in
set_option maxHeartbeats 4000000 in
theorem U_X2_readTest_14 {d : Nat} {x1 : Int32} {x2 : Int32} {x3 : Int32} {h : mm_H} : mm_D (mm_M mm_T0 d) cd_X2_readTest 14 [.ref 11, .int x1, .int x2, .int x3, .null] [] h = (if 1600 ≤ x3 then (if x2 = 0 then (some (some (.int 1), h)) else (if mm_sh (h.2.2 11 1) = (0, 1) then (mm_bV (mm_M mm_T0 d 37 [.ref (h.2.2 11 1), .int 11010] h) (fun h1 => some (some (.int 1), h1))) else none)) else (mm_bI (mm_M mm_T0 d 79 [.ref 3, .int 20] h) (fun v3 h2 => if ¬ v3 = 0 then (mm_bI (mm_M mm_T0 d 79 [.ref 3, .int 20] h2) (fun v5 h4 => if ¬ v5 = 0 then (mm_bV (mm_M mm_T0 d 75 [.ref 3] h4) (fun h6 => mm_bI (mm_M mm_T0 d 48 [.ref 11, .int x1] h6) (fun v8 h7 => if ¬ v8 = 0 then (if v5 = 0 then (mm_D (mm_M mm_T0 d) cd_X2_readTest 14 [.ref 11, .int x1, .int 1, .int (x3 + 1), .null] [] h7) else (if mm_sh (h7.2.2 11 1) = (0, 1) then (mm_bV (mm_M mm_T0 d 37 [.ref (h7.2.2 11 1), .int 11009] h7) (fun h9 => mm_D (mm_M mm_T0 d) cd_X2_readTest 14 [.ref 11, .int x1, .int x2, .int (x3 + 1), .null] [] h9)) else none)) else (some (some (.int 0), h7))))) else (if x2 = 0 then (mm_bV (mm_M mm_T0 d 75 [.ref 3] h4) (fun h10 => mm_bI (mm_M mm_T0 d 48 [.ref 11, .int x1] h10) (fun v12 h11 => if ¬ v12 = 0 then (if v5 = 0 then (mm_D (mm_M mm_T0 d) cd_X2_readTest 14 [.ref 11, .int x1, .int 1, .int (x3 + 1), .null] [] h11) else (if mm_sh (h11.2.2 11 1) = (0, 1) then (mm_bV (mm_M mm_T0 d 37 [.ref (h11.2.2 11 1), .int 11009] h11) (fun h13 => mm_D (mm_M mm_T0 d) cd_X2_readTest 14 [.ref 11, .int x1, .int x2, .int (x3 + 1), .null] [] h13)) else none)) else (some (some (.int 0), h11))))) else (if mm_sh (h4.2.2 11 1) = (0, 1) then (mm_bV (mm_M mm_T0 d 37 [.ref (h4.2.2 11 1), .int 11010] h4) (fun h14 => mm_bV (mm_M mm_T0 d 75 [.ref 3] h14) (fun h15 => mm_bI (mm_M mm_T0 d 48 [.ref 11, .int x1] h15) (fun v17 h16 => if ¬ v17 = 0 then (if v5 = 0 then (mm_D (mm_M mm_T0 d) cd_X2_readTest 14 [.ref 11, .int x1, .int 1, .int (x3 + 1), .null] [] h16) else (if mm_sh (h16.2.2 11 1) = (0, 1) then (mm_bV (mm_M mm_T0 d 37 [.ref (h16.2.2 11 1), .int 11009] h16) (fun h18 => mm_D (mm_M mm_T0 d) cd_X2_readTest 14 [.ref 11, .int x1, .int x2, .int (x3 + 1), .null] [] h18)) else none)) else (some (some (.int 0), h16)))))) else none)))) else (mm_bI (mm_M mm_T0 d 79 [.ref 3, .int 19] h2) (fun v20 h19 => if v20 = 0 then (if x2 = 0 then (some (some (.int 1), h19)) else (if mm_sh (h19.2.2 11 1) = (0, 1) then (mm_bV (mm_M mm_T0 d 37 [.ref (h19.2.2 11 1), .int 11010] h19) (fun h21 => some (some (.int 1), h21))) else none)) else (mm_bI (mm_M mm_T0 d 79 [.ref 3, .int 20] h19) (fun v23 h22 => if ¬ v23 = 0 then (mm_bV (mm_M mm_T0 d 75 [.ref 3] h22) (fun h24 => mm_bI (mm_M mm_T0 d 48 [.ref 11, .int x1] h24) (fun v26 h25 => if ¬ v26 = 0 then (if v23 = 0 then (mm_D (mm_M mm_T0 d) cd_X2_readTest 14 [.ref 11, .int x1, .int 1, .int (x3 + 1), .null] [] h25) else (if mm_sh (h25.2.2 11 1) = (0, 1) then (mm_bV (mm_M mm_T0 d 37 [.ref (h25.2.2 11 1), .int 11009] h25) (fun h27 => mm_D (mm_M mm_T0 d) cd_X2_readTest 14 [.ref 11, .int x1, .int x2, .int (x3 + 1), .null] [] h27)) else none)) else (some (some (.int 0), h25))))) else (if x2 = 0 then (mm_bV (mm_M mm_T0 d 75 [.ref 3] h22) (fun h28 => mm_bI (mm_M mm_T0 d 48 [.ref 11, .int x1] h28) (fun v30 h29 => if ¬ v30 = 0 then (if v23 = 0 then (mm_D (mm_M mm_T0 d) cd_X2_readTest 14 [.ref 11, .int x1, .int 1, .int (x3 + 1), .null] [] h29) else (if mm_sh (h29.2.2 11 1) = (0, 1) then (mm_bV (mm_M mm_T0 d 37 [.ref (h29.2.2 11 1), .int 11009] h29) (fun h31 => mm_D (mm_M mm_T0 d) cd_X2_readTest 14 [.ref 11, .int x1, .int x2, .int (x3 + 1), .null] [] h31)) else none)) else (some (some (.int 0), h29))))) else (if mm_sh (h22.2.2 11 1) = (0, 1) then (mm_bV (mm_M mm_T0 d 37 [.ref (h22.2.2 11 1), .int 11010] h22) (fun h32 => mm_bV (mm_M mm_T0 d 75 [.ref 3] h32) (fun h33 => mm_bI (mm_M mm_T0 d 48 [.ref 11, .int x1] h33) (fun v35 h34 => if ¬ v35 = 0 then (if v23 = 0 then (mm_D (mm_M mm_T0 d) cd_X2_readTest 14 [.ref 11, .int x1, .int 1, .int (x3 + 1), .null] [] h34) else (if mm_sh (h34.2.2 11 1) = (0, 1) then (mm_bV (mm_M mm_T0 d 37 [.ref (h34.2.2 11 1), .int 11009] h34) (fun h36 => mm_D (mm_M mm_T0 d) cd_X2_readTest 14 [.ref 11, .int x1, .int x2, .int (x3 + 1), .null] [] h36)) else none)) else (some (some (.int 0), h34)))))) else none))))))))) := by
  refine (mm_by 2 (pc' := 18) (ls' := [.ref 11, .int x1, .int x2, .int x3, .null]) (st' := [.int 1600, .int x3]) (h' := h) rfl).trans ?_
  refine (mm_br (c := 1600 ≤ x3) (p1 := 118) (p2 := 21) (l1 := [.ref 11, .int x1, .int x2, .int x3, .null]) (l2 := [.ref 11, .int x1, .int x2, .int x3, .null]) (s1 := []) (s2 := []) (h1 := h) (h2 := h) rfl rfl).trans (mm_ite ?_ ?_)
  · refine (mm_by 1 (pc' := 119) (ls' := [.ref 11, .int x1, .int x2, .int x3, .null]) (st' := [.int x2]) (h' := h) rfl).trans ?_
    refine (mm_br (c := x2 = 0) (p1 := 132) (p2 := 122) (l1 := [.ref 11, .int x1, .int x2, .int x3, .null]) (l2 := [.ref 11, .int x1, .int x2, .int x3, .null]) (s1 := []) (s2 := []) (h1 := h) (h2 := h) rfl rfl).trans (mm_ite ?_ ?_)
    · exact mm_by_end 2 rfl
    · refine (mm_by 3 (pc' := 129) (ls' := [.ref 11, .int x1, .int x2, .int x3, .null]) (st' := [.int 11010, .ref (h.2.2 11 1)]) (h' := h) rfl).trans ?_
      refine (mm_d0 (b := h.2.2 11 1) (ci := 1) (y := 37) (as := [.ref (h.2.2 11 1), .int 11010]) (nx := 132) (rest := []) rfl rfl (Nat.le_of_ble_eq_true rfl)).trans (mm_ite (mm_congV fun h1 => ?_) rfl)
      exact mm_by_end 2 rfl
  · refine (mm_by 3 (pc' := 27) (ls' := [.ref 11, .int x1, .int x2, .int x3, .null]) (st' := [.int 20, .ref 3]) (h' := h) rfl).trans ?_
    refine (mm_c1 (y := 79) (as := [.ref 3, .int 20]) (nx := 30) (rest := []) rfl rfl).trans (mm_congI fun v3 h2 => ?_)
    refine (mm_br (c := ¬ v3 = 0) (p1 := 45) (p2 := 33) (l1 := [.ref 11, .int x1, .int x2, .int x3, .null]) (l2 := [.ref 11, .int x1, .int x2, .int x3, .null]) (s1 := []) (s2 := []) (h1 := h2) (h2 := h2) rfl rfl).trans (mm_ite ?_ ?_)
    · refine (mm_by 3 (pc' := 51) (ls' := [.ref 11, .int x1, .int x2, .int x3, .null]) (st' := [.int 20, .ref 3]) (h' := h2) rfl).trans ?_
      refine (mm_c1 (y := 79) (as := [.ref 3, .int 20]) (nx := 54) (rest := []) rfl rfl).trans (mm_congI fun v5 h4 => ?_)
      refine (mm_by 2 (pc' := 58) (ls' := [.ref 11, .int x1, .int x2, .int x3, .int v5]) (st' := [.int v5]) (h' := h4) rfl).trans ?_
      refine (mm_br (c := ¬ v5 = 0) (p1 := 75) (p2 := 61) (l1 := [.ref 11, .int x1, .int x2, .int x3, .int v5]) (l2 := [.ref 11, .int x1, .int x2, .int x3, .int v5]) (s1 := []) (s2 := []) (h1 := h4) (h2 := h4) rfl rfl).trans (mm_ite ?_ ?_)
      · refine (mm_by 2 (pc' := 79) (ls' := [.ref 11, .int x1, .int x2, .int x3, .int v5]) (st' := [.ref 3]) (h' := h4) rfl).trans ?_
        refine (mm_c0 (y := 75) (as := [.ref 3]) (nx := 82) (rest := []) rfl rfl).trans (mm_congV fun h6 => ?_)
        refine (mm_by 2 (pc' := 84) (ls' := [.ref 11, .int x1, .int x2, .int x3, .int v5]) (st' := [.int x1, .ref 11]) (h' := h6) rfl).trans ?_
        refine (mm_c1 (y := 48) (as := [.ref 11, .int x1]) (nx := 87) (rest := []) rfl rfl).trans (mm_congI fun v8 h7 => ?_)
        refine (mm_br (c := ¬ v8 = 0) (p1 := 92) (p2 := 90) (l1 := [.ref 11, .int x1, .int x2, .int x3, .int v5]) (l2 := [.ref 11, .int x1, .int x2, .int x3, .int v5]) (s1 := []) (s2 := []) (h1 := h7) (h2 := h7) rfl rfl).trans (mm_ite ?_ ?_)
        · refine (mm_by 1 (pc' := 94) (ls' := [.ref 11, .int x1, .int x2, .int x3, .int v5]) (st' := [.int v5]) (h' := h7) rfl).trans ?_
          refine (mm_br (c := v5 = 0) (p1 := 110) (p2 := 97) (l1 := [.ref 11, .int x1, .int x2, .int x3, .int v5]) (l2 := [.ref 11, .int x1, .int x2, .int x3, .int v5]) (s1 := []) (s2 := []) (h1 := h7) (h2 := h7) rfl rfl).trans (mm_ite ?_ ?_)
          · exact mm_by 4 rfl
          · refine (mm_by 3 (pc' := 104) (ls' := [.ref 11, .int x1, .int x2, .int x3, .int v5]) (st' := [.int 11009, .ref (h7.2.2 11 1)]) (h' := h7) rfl).trans ?_
            refine (mm_d0 (b := h7.2.2 11 1) (ci := 1) (y := 37) (as := [.ref (h7.2.2 11 1), .int 11009]) (nx := 107) (rest := []) rfl rfl (Nat.le_of_ble_eq_true rfl)).trans (mm_ite (mm_congV fun h9 => ?_) rfl)
            exact mm_by 3 rfl
        · exact mm_by_end 2 rfl
      · refine (mm_by 1 (pc' := 62) (ls' := [.ref 11, .int x1, .int x2, .int x3, .int v5]) (st' := [.int x2]) (h' := h4) rfl).trans ?_
        refine (mm_br (c := x2 = 0) (p1 := 75) (p2 := 65) (l1 := [.ref 11, .int x1, .int x2, .int x3, .int v5]) (l2 := [.ref 11, .int x1, .int x2, .int x3, .int v5]) (s1 := []) (s2 := []) (h1 := h4) (h2 := h4) rfl rfl).trans (mm_ite ?_ ?_)
        · refine (mm_by 2 (pc' := 79) (ls' := [.ref 11, .int x1, .int x2, .int x3, .int v5]) (st' := [.ref 3]) (h' := h4) rfl).trans ?_
          refine (mm_c0 (y := 75) (as := [.ref 3]) (nx := 82) (rest := []) rfl rfl).trans (mm_congV fun h10 => ?_)
          refine (mm_by 2 (pc' := 84) (ls' := [.ref 11, .int x1, .int x2, .int x3, .int v5]) (st' := [.int x1, .ref 11]) (h' := h10) rfl).trans ?_
          refine (mm_c1 (y := 48) (as := [.ref 11, .int x1]) (nx := 87) (rest := []) rfl rfl).trans (mm_congI fun v12 h11 => ?_)
          refine (mm_br (c := ¬ v12 = 0) (p1 := 92) (p2 := 90) (l1 := [.ref 11, .int x1, .int x2, .int x3, .int v5]) (l2 := [.ref 11, .int x1, .int x2, .int x3, .int v5]) (s1 := []) (s2 := []) (h1 := h11) (h2 := h11) rfl rfl).trans (mm_ite ?_ ?_)
          · refine (mm_by 1 (pc' := 94) (ls' := [.ref 11, .int x1, .int x2, .int x3, .int v5]) (st' := [.int v5]) (h' := h11) rfl).trans ?_
            refine (mm_br (c := v5 = 0) (p1 := 110) (p2 := 97) (l1 := [.ref 11, .int x1, .int x2, .int x3, .int v5]) (l2 := [.ref 11, .int x1, .int x2, .int x3, .int v5]) (s1 := []) (s2 := []) (h1 := h11) (h2 := h11) rfl rfl).trans (mm_ite ?_ ?_)
            · exact mm_by 4 rfl
            · refine (mm_by 3 (pc' := 104) (ls' := [.ref 11, .int x1, .int x2, .int x3, .int v5]) (st' := [.int 11009, .ref (h11.2.2 11 1)]) (h' := h11) rfl).trans ?_
              refine (mm_d0 (b := h11.2.2 11 1) (ci := 1) (y := 37) (as := [.ref (h11.2.2 11 1), .int 11009]) (nx := 107) (rest := []) rfl rfl (Nat.le_of_ble_eq_true rfl)).trans (mm_ite (mm_congV fun h13 => ?_) rfl)
              exact mm_by 3 rfl
          · exact mm_by_end 2 rfl
        · refine (mm_by 3 (pc' := 72) (ls' := [.ref 11, .int x1, .int x2, .int x3, .int v5]) (st' := [.int 11010, .ref (h4.2.2 11 1)]) (h' := h4) rfl).trans ?_
          refine (mm_d0 (b := h4.2.2 11 1) (ci := 1) (y := 37) (as := [.ref (h4.2.2 11 1), .int 11010]) (nx := 75) (rest := []) rfl rfl (Nat.le_of_ble_eq_true rfl)).trans (mm_ite (mm_congV fun h14 => ?_) rfl)
          refine (mm_by 2 (pc' := 79) (ls' := [.ref 11, .int x1, .int x2, .int x3, .int v5]) (st' := [.ref 3]) (h' := h14) rfl).trans ?_
          refine (mm_c0 (y := 75) (as := [.ref 3]) (nx := 82) (rest := []) rfl rfl).trans (mm_congV fun h15 => ?_)
          refine (mm_by 2 (pc' := 84) (ls' := [.ref 11, .int x1, .int x2, .int x3, .int v5]) (st' := [.int x1, .ref 11]) (h' := h15) rfl).trans ?_
          refine (mm_c1 (y := 48) (as := [.ref 11, .int x1]) (nx := 87) (rest := []) rfl rfl).trans (mm_congI fun v17 h16 => ?_)
          refine (mm_br (c := ¬ v17 = 0) (p1 := 92) (p2 := 90) (l1 := [.ref 11, .int x1, .int x2, .int x3, .int v5]) (l2 := [.ref 11, .int x1, .int x2, .int x3, .int v5]) (s1 := []) (s2 := []) (h1 := h16) (h2 := h16) rfl rfl).trans (mm_ite ?_ ?_)
          · refine (mm_by 1 (pc' := 94) (ls' := [.ref 11, .int x1, .int x2, .int x3, .int v5]) (st' := [.int v5]) (h' := h16) rfl).trans ?_
            refine (mm_br (c := v5 = 0) (p1 := 110) (p2 := 97) (l1 := [.ref 11, .int x1, .int x2, .int x3, .int v5]) (l2 := [.ref 11, .int x1, .int x2, .int x3, .int v5]) (s1 := []) (s2 := []) (h1 := h16) (h2 := h16) rfl rfl).trans (mm_ite ?_ ?_)
            · exact mm_by 4 rfl
            · refine (mm_by 3 (pc' := 104) (ls' := [.ref 11, .int x1, .int x2, .int x3, .int v5]) (st' := [.int 11009, .ref (h16.2.2 11 1)]) (h' := h16) rfl).trans ?_
              refine (mm_d0 (b := h16.2.2 11 1) (ci := 1) (y := 37) (as := [.ref (h16.2.2 11 1), .int 11009]) (nx := 107) (rest := []) rfl rfl (Nat.le_of_ble_eq_true rfl)).trans (mm_ite (mm_congV fun h18 => ?_) rfl)
              exact mm_by 3 rfl
          · exact mm_by_end 2 rfl
    · refine (mm_by 3 (pc' := 39) (ls' := [.ref 11, .int x1, .int x2, .int x3, .null]) (st' := [.int 19, .ref 3]) (h' := h2) rfl).trans ?_
      refine (mm_c1 (y := 79) (as := [.ref 3, .int 19]) (nx := 42) (rest := []) rfl rfl).trans (mm_congI fun v20 h19 => ?_)
      refine (mm_br (c := v20 = 0) (p1 := 118) (p2 := 45) (l1 := [.ref 11, .int x1, .int x2, .int x3, .null]) (l2 := [.ref 11, .int x1, .int x2, .int x3, .null]) (s1 := []) (s2 := []) (h1 := h19) (h2 := h19) rfl rfl).trans (mm_ite ?_ ?_)
      · refine (mm_by 1 (pc' := 119) (ls' := [.ref 11, .int x1, .int x2, .int x3, .null]) (st' := [.int x2]) (h' := h19) rfl).trans ?_
        refine (mm_br (c := x2 = 0) (p1 := 132) (p2 := 122) (l1 := [.ref 11, .int x1, .int x2, .int x3, .null]) (l2 := [.ref 11, .int x1, .int x2, .int x3, .null]) (s1 := []) (s2 := []) (h1 := h19) (h2 := h19) rfl rfl).trans (mm_ite ?_ ?_)
        · exact mm_by_end 2 rfl
        · refine (mm_by 3 (pc' := 129) (ls' := [.ref 11, .int x1, .int x2, .int x3, .null]) (st' := [.int 11010, .ref (h19.2.2 11 1)]) (h' := h19) rfl).trans ?_
          refine (mm_d0 (b := h19.2.2 11 1) (ci := 1) (y := 37) (as := [.ref (h19.2.2 11 1), .int 11010]) (nx := 132) (rest := []) rfl rfl (Nat.le_of_ble_eq_true rfl)).trans (mm_ite (mm_congV fun h21 => ?_) rfl)
          exact mm_by_end 2 rfl
      · refine (mm_by 3 (pc' := 51) (ls' := [.ref 11, .int x1, .int x2, .int x3, .null]) (st' := [.int 20, .ref 3]) (h' := h19) rfl).trans ?_
        refine (mm_c1 (y := 79) (as := [.ref 3, .int 20]) (nx := 54) (rest := []) rfl rfl).trans (mm_congI fun v23 h22 => ?_)
        refine (mm_by 2 (pc' := 58) (ls' := [.ref 11, .int x1, .int x2, .int x3, .int v23]) (st' := [.int v23]) (h' := h22) rfl).trans ?_
        refine (mm_br (c := ¬ v23 = 0) (p1 := 75) (p2 := 61) (l1 := [.ref 11, .int x1, .int x2, .int x3, .int v23]) (l2 := [.ref 11, .int x1, .int x2, .int x3, .int v23]) (s1 := []) (s2 := []) (h1 := h22) (h2 := h22) rfl rfl).trans (mm_ite ?_ ?_)
        · refine (mm_by 2 (pc' := 79) (ls' := [.ref 11, .int x1, .int x2, .int x3, .int v23]) (st' := [.ref 3]) (h' := h22) rfl).trans ?_
          refine (mm_c0 (y := 75) (as := [.ref 3]) (nx := 82) (rest := []) rfl rfl).trans (mm_congV fun h24 => ?_)
          refine (mm_by 2 (pc' := 84) (ls' := [.ref 11, .int x1, .int x2, .int x3, .int v23]) (st' := [.int x1, .ref 11]) (h' := h24) rfl).trans ?_
          refine (mm_c1 (y := 48) (as := [.ref 11, .int x1]) (nx := 87) (rest := []) rfl rfl).trans (mm_congI fun v26 h25 => ?_)
          refine (mm_br (c := ¬ v26 = 0) (p1 := 92) (p2 := 90) (l1 := [.ref 11, .int x1, .int x2, .int x3, .int v23]) (l2 := [.ref 11, .int x1, .int x2, .int x3, .int v23]) (s1 := []) (s2 := []) (h1 := h25) (h2 := h25) rfl rfl).trans (mm_ite ?_ ?_)
          · refine (mm_by 1 (pc' := 94) (ls' := [.ref 11, .int x1, .int x2, .int x3, .int v23]) (st' := [.int v23]) (h' := h25) rfl).trans ?_
            refine (mm_br (c := v23 = 0) (p1 := 110) (p2 := 97) (l1 := [.ref 11, .int x1, .int x2, .int x3, .int v23]) (l2 := [.ref 11, .int x1, .int x2, .int x3, .int v23]) (s1 := []) (s2 := []) (h1 := h25) (h2 := h25) rfl rfl).trans (mm_ite ?_ ?_)
            · exact mm_by 4 rfl
            · refine (mm_by 3 (pc' := 104) (ls' := [.ref 11, .int x1, .int x2, .int x3, .int v23]) (st' := [.int 11009, .ref (h25.2.2 11 1)]) (h' := h25) rfl).trans ?_
              refine (mm_d0 (b := h25.2.2 11 1) (ci := 1) (y := 37) (as := [.ref (h25.2.2 11 1), .int 11009]) (nx := 107) (rest := []) rfl rfl (Nat.le_of_ble_eq_true rfl)).trans (mm_ite (mm_congV fun h27 => ?_) rfl)
              exact mm_by 3 rfl
          · exact mm_by_end 2 rfl
        · refine (mm_by 1 (pc' := 62) (ls' := [.ref 11, .int x1, .int x2, .int x3, .int v23]) (st' := [.int x2]) (h' := h22) rfl).trans ?_
          refine (mm_br (c := x2 = 0) (p1 := 75) (p2 := 65) (l1 := [.ref 11, .int x1, .int x2, .int x3, .int v23]) (l2 := [.ref 11, .int x1, .int x2, .int x3, .int v23]) (s1 := []) (s2 := []) (h1 := h22) (h2 := h22) rfl rfl).trans (mm_ite ?_ ?_)
          · refine (mm_by 2 (pc' := 79) (ls' := [.ref 11, .int x1, .int x2, .int x3, .int v23]) (st' := [.ref 3]) (h' := h22) rfl).trans ?_
            refine (mm_c0 (y := 75) (as := [.ref 3]) (nx := 82) (rest := []) rfl rfl).trans (mm_congV fun h28 => ?_)
            refine (mm_by 2 (pc' := 84) (ls' := [.ref 11, .int x1, .int x2, .int x3, .int v23]) (st' := [.int x1, .ref 11]) (h' := h28) rfl).trans ?_
            refine (mm_c1 (y := 48) (as := [.ref 11, .int x1]) (nx := 87) (rest := []) rfl rfl).trans (mm_congI fun v30 h29 => ?_)
            refine (mm_br (c := ¬ v30 = 0) (p1 := 92) (p2 := 90) (l1 := [.ref 11, .int x1, .int x2, .int x3, .int v23]) (l2 := [.ref 11, .int x1, .int x2, .int x3, .int v23]) (s1 := []) (s2 := []) (h1 := h29) (h2 := h29) rfl rfl).trans (mm_ite ?_ ?_)
            · refine (mm_by 1 (pc' := 94) (ls' := [.ref 11, .int x1, .int x2, .int x3, .int v23]) (st' := [.int v23]) (h' := h29) rfl).trans ?_
              refine (mm_br (c := v23 = 0) (p1 := 110) (p2 := 97) (l1 := [.ref 11, .int x1, .int x2, .int x3, .int v23]) (l2 := [.ref 11, .int x1, .int x2, .int x3, .int v23]) (s1 := []) (s2 := []) (h1 := h29) (h2 := h29) rfl rfl).trans (mm_ite ?_ ?_)
              · exact mm_by 4 rfl
              · refine (mm_by 3 (pc' := 104) (ls' := [.ref 11, .int x1, .int x2, .int x3, .int v23]) (st' := [.int 11009, .ref (h29.2.2 11 1)]) (h' := h29) rfl).trans ?_
                refine (mm_d0 (b := h29.2.2 11 1) (ci := 1) (y := 37) (as := [.ref (h29.2.2 11 1), .int 11009]) (nx := 107) (rest := []) rfl rfl (Nat.le_of_ble_eq_true rfl)).trans (mm_ite (mm_congV fun h31 => ?_) rfl)
                exact mm_by 3 rfl
            · exact mm_by_end 2 rfl
          · refine (mm_by 3 (pc' := 72) (ls' := [.ref 11, .int x1, .int x2, .int x3, .int v23]) (st' := [.int 11010, .ref (h22.2.2 11 1)]) (h' := h22) rfl).trans ?_
            refine (mm_d0 (b := h22.2.2 11 1) (ci := 1) (y := 37) (as := [.ref (h22.2.2 11 1), .int 11010]) (nx := 75) (rest := []) rfl rfl (Nat.le_of_ble_eq_true rfl)).trans (mm_ite (mm_congV fun h32 => ?_) rfl)
            refine (mm_by 2 (pc' := 79) (ls' := [.ref 11, .int x1, .int x2, .int x3, .int v23]) (st' := [.ref 3]) (h' := h32) rfl).trans ?_
            refine (mm_c0 (y := 75) (as := [.ref 3]) (nx := 82) (rest := []) rfl rfl).trans (mm_congV fun h33 => ?_)
            refine (mm_by 2 (pc' := 84) (ls' := [.ref 11, .int x1, .int x2, .int x3, .int v23]) (st' := [.int x1, .ref 11]) (h' := h33) rfl).trans ?_
            refine (mm_c1 (y := 48) (as := [.ref 11, .int x1]) (nx := 87) (rest := []) rfl rfl).trans (mm_congI fun v35 h34 => ?_)
            refine (mm_br (c := ¬ v35 = 0) (p1 := 92) (p2 := 90) (l1 := [.ref 11, .int x1, .int x2, .int x3, .int v23]) (l2 := [.ref 11, .int x1, .int x2, .int x3, .int v23]) (s1 := []) (s2 := []) (h1 := h34) (h2 := h34) rfl rfl).trans (mm_ite ?_ ?_)
            · refine (mm_by 1 (pc' := 94) (ls' := [.ref 11, .int x1, .int x2, .int x3, .int v23]) (st' := [.int v23]) (h' := h34) rfl).trans ?_
              refine (mm_br (c := v23 = 0) (p1 := 110) (p2 := 97) (l1 := [.ref 11, .int x1, .int x2, .int x3, .int v23]) (l2 := [.ref 11, .int x1, .int x2, .int x3, .int v23]) (s1 := []) (s2 := []) (h1 := h34) (h2 := h34) rfl rfl).trans (mm_ite ?_ ?_)
              · exact mm_by 4 rfl
              · refine (mm_by 3 (pc' := 104) (ls' := [.ref 11, .int x1, .int x2, .int x3, .int v23]) (st' := [.int 11009, .ref (h34.2.2 11 1)]) (h' := h34) rfl).trans ?_
                refine (mm_d0 (b := h34.2.2 11 1) (ci := 1) (y := 37) (as := [.ref (h34.2.2 11 1), .int 11009]) (nx := 107) (rest := []) rfl rfl (Nat.le_of_ble_eq_true rfl)).trans (mm_ite (mm_congV fun h36 => ?_) rfl)
                exact mm_by 3 rfl
            · exact mm_by_end 2 rfl
set_option maxRecDepth 100000 in
set_option maxHeartbeats 4000000 in
theorem U_X2_readFact {d : Nat} {x1 : Int32} {h : mm_H} : mm_M mm_T0 (d + 1) 48 [.ref 11, .int x1] h = (mm_bI (mm_M mm_T0 d 79 [.ref 3, .int 21] h) (fun v2 h1 => if v2 = 0 then (mm_bI (mm_M mm_T0 d 80 [.ref 3, .int 91] h1) (fun v4 h3 => if v4 = 0 then (mm_bI (mm_M mm_T0 d 79 [.ref 3, .int 22] h3) (fun v6 h5 => if v6 = 0 then (mm_bI (mm_M mm_T0 d 52 [.ref 11, .int x1] h5) (fun v8 h7 => if ¬ v8 = 0 then (mm_bI (mm_M mm_T0 d 51 [.ref 11] h7) (fun v10 h9 => if ¬ v10 = ((-1)) then (mm_bV (mm_M mm_T0 d 75 [.ref 3] h9) (fun h11 => mm_bI (mm_M mm_T0 d 52 [.ref 11, .int x1] h11) (fun v13 h12 => if mm_sh (h12.2.2 11 1) = (0, 1) then (mm_bV (mm_M mm_T0 d 37 [.ref (h12.2.2 11 1), .int v10] h12) (fun h14 => mm_zr v13 h14)) else none))) else (mm_bI (mm_M mm_T0 d 88 [.ref 3] h9) (fun v16 h15 => mm_zr v16 h15)))) else (some (some (.int 0), h7)))) else (if mm_sh (h5.2.2 11 1) = (0, 1) then (mm_bV (mm_M mm_T0 d 37 [.ref (h5.2.2 11 1), .int 1] h5) (fun h17 => mm_bV (mm_M mm_T0 d 75 [.ref 3] h17) (fun h18 => some (some (.int 1), h18)))) else none))) else (mm_bI (mm_M mm_T0 d 50 [.ref 11, .int x1] h3) (fun v20 h19 => mm_zr v20 h19)))) else (mm_bI (mm_M mm_T0 d 49 [.ref 11, .int x1] h1) (fun v22 h21 => mm_zr v22 h21)))) := by
  refine (mm_M_eq (ls := [.ref 11, .int x1, .null, .null]) rfl (Nat.le_of_ble_eq_true rfl) rfl h).trans ?_
  refine (mm_by 3 (pc' := 6) (ls' := [.ref 11, .int x1, .null, .null]) (st' := [.int 21, .ref 3]) (h' := h) rfl).trans ?_
  refine (mm_c1 (y := 79) (as := [.ref 3, .int 21]) (nx := 9) (rest := []) rfl rfl).trans (mm_congI fun v2 h1 => ?_)
  refine (mm_br (c := v2 = 0) (p1 := 18) (p2 := 12) (l1 := [.ref 11, .int x1, .null, .null]) (l2 := [.ref 11, .int x1, .null, .null]) (s1 := []) (s2 := []) (h1 := h1) (h2 := h1) rfl rfl).trans (mm_ite ?_ ?_)
  · refine (mm_by 3 (pc' := 24) (ls' := [.ref 11, .int x1, .null, .null]) (st' := [.int 91, .ref 3]) (h' := h1) rfl).trans ?_
    refine (mm_c1 (y := 80) (as := [.ref 3, .int 91]) (nx := 27) (rest := []) rfl rfl).trans (mm_congI fun v4 h3 => ?_)
    refine (mm_br (c := v4 = 0) (p1 := 36) (p2 := 30) (l1 := [.ref 11, .int x1, .null, .null]) (l2 := [.ref 11, .int x1, .null, .null]) (s1 := []) (s2 := []) (h1 := h3) (h2 := h3) rfl rfl).trans (mm_ite ?_ ?_)
    · refine (mm_by 3 (pc' := 42) (ls' := [.ref 11, .int x1, .null, .null]) (st' := [.int 22, .ref 3]) (h' := h3) rfl).trans ?_
      refine (mm_c1 (y := 79) (as := [.ref 3, .int 22]) (nx := 45) (rest := []) rfl rfl).trans (mm_congI fun v6 h5 => ?_)
      refine (mm_br (c := v6 = 0) (p1 := 65) (p2 := 48) (l1 := [.ref 11, .int x1, .null, .null]) (l2 := [.ref 11, .int x1, .null, .null]) (s1 := []) (s2 := []) (h1 := h5) (h2 := h5) rfl rfl).trans (mm_ite ?_ ?_)
      · refine (mm_by 2 (pc' := 67) (ls' := [.ref 11, .int x1, .null, .null]) (st' := [.int x1, .ref 11]) (h' := h5) rfl).trans ?_
        refine (mm_c1 (y := 52) (as := [.ref 11, .int x1]) (nx := 70) (rest := []) rfl rfl).trans (mm_congI fun v8 h7 => ?_)
        refine (mm_br (c := ¬ v8 = 0) (p1 := 75) (p2 := 73) (l1 := [.ref 11, .int x1, .null, .null]) (l2 := [.ref 11, .int x1, .null, .null]) (s1 := []) (s2 := []) (h1 := h7) (h2 := h7) rfl rfl).trans (mm_ite ?_ ?_)
        · refine (mm_by 1 (pc' := 76) (ls' := [.ref 11, .int x1, .null, .null]) (st' := [.ref 11]) (h' := h7) rfl).trans ?_
          refine (mm_c1 (y := 51) (as := [.ref 11]) (nx := 79) (rest := []) rfl rfl).trans (mm_congI fun v10 h9 => ?_)
          refine (mm_by 3 (pc' := 82) (ls' := [.ref 11, .int x1, .int v10, .null]) (st' := [.int ((-1)), .int v10]) (h' := h9) rfl).trans ?_
          refine (mm_br (c := ¬ v10 = ((-1))) (p1 := 93) (p2 := 85) (l1 := [.ref 11, .int x1, .int v10, .null]) (l2 := [.ref 11, .int x1, .int v10, .null]) (s1 := []) (s2 := []) (h1 := h9) (h2 := h9) rfl rfl).trans (mm_ite ?_ ?_)
          · refine (mm_by 2 (pc' := 97) (ls' := [.ref 11, .int x1, .int v10, .null]) (st' := [.ref 3]) (h' := h9) rfl).trans ?_
            refine (mm_c0 (y := 75) (as := [.ref 3]) (nx := 100) (rest := []) rfl rfl).trans (mm_congV fun h11 => ?_)
            refine (mm_by 2 (pc' := 102) (ls' := [.ref 11, .int x1, .int v10, .null]) (st' := [.int x1, .ref 11]) (h' := h11) rfl).trans ?_
            refine (mm_c1 (y := 52) (as := [.ref 11, .int x1]) (nx := 105) (rest := []) rfl rfl).trans (mm_congI fun v13 h12 => ?_)
            refine (mm_by 4 (pc' := 111) (ls' := [.ref 11, .int x1, .int v10, .int v13]) (st' := [.int v10, .ref (h12.2.2 11 1)]) (h' := h12) rfl).trans ?_
            refine (mm_d0 (b := h12.2.2 11 1) (ci := 1) (y := 37) (as := [.ref (h12.2.2 11 1), .int v10]) (nx := 114) (rest := []) rfl rfl (Nat.le_of_ble_eq_true rfl)).trans (mm_ite (mm_congV fun h14 => ?_) rfl)
            refine (mm_by 1 (pc' := 115) (ls' := [.ref 11, .int x1, .int v10, .int v13]) (st' := [.int v13]) (h' := h14) rfl).trans ?_
            exact mm_zend rfl
          · refine (mm_by 2 (pc' := 89) (ls' := [.ref 11, .int x1, .int v10, .null]) (st' := [.ref 3]) (h' := h9) rfl).trans ?_
            refine (mm_c1 (y := 88) (as := [.ref 3]) (nx := 92) (rest := []) rfl rfl).trans (mm_congI fun v16 h15 => ?_)
            exact mm_zend rfl
        · exact mm_by_end 2 rfl
      · refine (mm_by 3 (pc' := 53) (ls' := [.ref 11, .int x1, .null, .null]) (st' := [.int 1, .ref (h5.2.2 11 1)]) (h' := h5) rfl).trans ?_
        refine (mm_d0 (b := h5.2.2 11 1) (ci := 1) (y := 37) (as := [.ref (h5.2.2 11 1), .int 1]) (nx := 56) (rest := []) rfl rfl (Nat.le_of_ble_eq_true rfl)).trans (mm_ite (mm_congV fun h17 => ?_) rfl)
        refine (mm_by 2 (pc' := 60) (ls' := [.ref 11, .int x1, .null, .null]) (st' := [.ref 3]) (h' := h17) rfl).trans ?_
        refine (mm_c0 (y := 75) (as := [.ref 3]) (nx := 63) (rest := []) rfl rfl).trans (mm_congV fun h18 => ?_)
        exact mm_by_end 2 rfl
    · refine (mm_by 2 (pc' := 32) (ls' := [.ref 11, .int x1, .null, .null]) (st' := [.int x1, .ref 11]) (h' := h3) rfl).trans ?_
      refine (mm_c1 (y := 50) (as := [.ref 11, .int x1]) (nx := 35) (rest := []) rfl rfl).trans (mm_congI fun v20 h19 => ?_)
      exact mm_zend rfl
  · refine (mm_by 2 (pc' := 14) (ls' := [.ref 11, .int x1, .null, .null]) (st' := [.int x1, .ref 11]) (h' := h1) rfl).trans ?_
    refine (mm_c1 (y := 49) (as := [.ref 11, .int x1]) (nx := 17) (rest := []) rfl rfl).trans (mm_congI fun v22 h21 => ?_)
    exact mm_zend rfl
set_option maxRecDepth 100000 in
set_option maxHeartbeats 4000000 in
theorem U_X2_readNot {d : Nat} {x1 : Int32} {h : mm_H} : mm_M mm_T0 (d + 1) 49 [.ref 11, .int x1] h = (mm_bI (mm_M mm_T0 d 87 [.ref 3, .int x1] h) (fun v2 h1 => if ¬ v2 = 0 then (mm_bV (mm_M mm_T0 d 75 [.ref 3] h1) (fun h3 => mm_bI (mm_M mm_T0 d 48 [.ref 11, .int (x1 + 1)] h3) (fun v5 h4 => if mm_sh (h4.2.2 11 1) = (0, 1) then (mm_bV (mm_M mm_T0 d 37 [.ref (h4.2.2 11 1), .int 11011] h4) (fun h6 => mm_zr v5 h6)) else none))) else (some (some (.int 0), h1)))) := by
  refine (mm_M_eq (ls := [.ref 11, .int x1, .null]) rfl (Nat.le_of_ble_eq_true rfl) rfl h).trans ?_
  refine (mm_by 3 (pc' := 5) (ls' := [.ref 11, .int x1, .null]) (st' := [.int x1, .ref 3]) (h' := h) rfl).trans ?_
  refine (mm_c1 (y := 87) (as := [.ref 3, .int x1]) (nx := 8) (rest := []) rfl rfl).trans (mm_congI fun v2 h1 => ?_)
  refine (mm_br (c := ¬ v2 = 0) (p1 := 13) (p2 := 11) (l1 := [.ref 11, .int x1, .null]) (l2 := [.ref 11, .int x1, .null]) (s1 := []) (s2 := []) (h1 := h1) (h2 := h1) rfl rfl).trans (mm_ite ?_ ?_)
  · refine (mm_by 2 (pc' := 17) (ls' := [.ref 11, .int x1, .null]) (st' := [.ref 3]) (h' := h1) rfl).trans ?_
    refine (mm_c0 (y := 75) (as := [.ref 3]) (nx := 20) (rest := []) rfl rfl).trans (mm_congV fun h3 => ?_)
    refine (mm_by 4 (pc' := 24) (ls' := [.ref 11, .int x1, .null]) (st' := [.int (x1 + 1), .ref 11]) (h' := h3) rfl).trans ?_
    refine (mm_c1 (y := 48) (as := [.ref 11, .int (x1 + 1)]) (nx := 27) (rest := []) rfl rfl).trans (mm_congI fun v5 h4 => ?_)
    refine (mm_by 4 (pc' := 35) (ls' := [.ref 11, .int x1, .int v5]) (st' := [.int 11011, .ref (h4.2.2 11 1)]) (h' := h4) rfl).trans ?_
    refine (mm_d0 (b := h4.2.2 11 1) (ci := 1) (y := 37) (as := [.ref (h4.2.2 11 1), .int 11011]) (nx := 38) (rest := []) rfl rfl (Nat.le_of_ble_eq_true rfl)).trans (mm_ite (mm_congV fun h6 => ?_) rfl)
    refine (mm_by 1 (pc' := 39) (ls' := [.ref 11, .int x1, .int v5]) (st' := [.int v5]) (h' := h6) rfl).trans ?_
    exact mm_zend rfl
  · exact mm_by_end 2 rfl
set_option maxRecDepth 100000 in
set_option maxHeartbeats 4000000 in
theorem U_X2_readInnerTest {d : Nat} {x1 : Int32} {h : mm_H} : mm_M mm_T0 (d + 1) 50 [.ref 11, .int x1] h = (mm_bI (mm_M mm_T0 d 87 [.ref 3, .int x1] h) (fun v2 h1 => if ¬ v2 = 0 then (mm_bV (mm_M mm_T0 d 75 [.ref 3] h1) (fun h3 => mm_bI (mm_M mm_T0 d 47 [.ref 11, .int (x1 + 1)] h3) (fun v5 h4 => if v5 = 0 then (some (some (.int 0), h4)) else (mm_bI (mm_M mm_T0 d 82 [.ref 3, .int 93] h4) (fun v7 h6 => if v7 = 0 then (some (some (.int 0), h6)) else (some (some (.int 1), h6))))))) else (some (some (.int 0), h1)))) := by
  refine (mm_M_eq (ls := [.ref 11, .int x1]) rfl (Nat.le_of_ble_eq_true rfl) rfl h).trans ?_
  refine (mm_by 3 (pc' := 5) (ls' := [.ref 11, .int x1]) (st' := [.int x1, .ref 3]) (h' := h) rfl).trans ?_
  refine (mm_c1 (y := 87) (as := [.ref 3, .int x1]) (nx := 8) (rest := []) rfl rfl).trans (mm_congI fun v2 h1 => ?_)
  refine (mm_br (c := ¬ v2 = 0) (p1 := 13) (p2 := 11) (l1 := [.ref 11, .int x1]) (l2 := [.ref 11, .int x1]) (s1 := []) (s2 := []) (h1 := h1) (h2 := h1) rfl rfl).trans (mm_ite ?_ ?_)
  · refine (mm_by 2 (pc' := 17) (ls' := [.ref 11, .int x1]) (st' := [.ref 3]) (h' := h1) rfl).trans ?_
    refine (mm_c0 (y := 75) (as := [.ref 3]) (nx := 20) (rest := []) rfl rfl).trans (mm_congV fun h3 => ?_)
    refine (mm_by 4 (pc' := 24) (ls' := [.ref 11, .int x1]) (st' := [.int (x1 + 1), .ref 11]) (h' := h3) rfl).trans ?_
    refine (mm_c1 (y := 47) (as := [.ref 11, .int (x1 + 1)]) (nx := 27) (rest := []) rfl rfl).trans (mm_congI fun v5 h4 => ?_)
    refine (mm_br (c := v5 = 0) (p1 := 46) (p2 := 30) (l1 := [.ref 11, .int x1]) (l2 := [.ref 11, .int x1]) (s1 := []) (s2 := []) (h1 := h4) (h2 := h4) rfl rfl).trans (mm_ite ?_ ?_)
    · exact mm_by_end 2 rfl
    · refine (mm_by 3 (pc' := 36) (ls' := [.ref 11, .int x1]) (st' := [.int 93, .ref 3]) (h' := h4) rfl).trans ?_
      refine (mm_c1 (y := 82) (as := [.ref 3, .int 93]) (nx := 39) (rest := []) rfl rfl).trans (mm_congI fun v7 h6 => ?_)
      refine (mm_br (c := v7 = 0) (p1 := 46) (p2 := 42) (l1 := [.ref 11, .int x1]) (l2 := [.ref 11, .int x1]) (s1 := []) (s2 := []) (h1 := h6) (h2 := h6) rfl rfl).trans (mm_ite ?_ ?_)
      · exact mm_by_end 2 rfl
      · exact mm_by_end 3 rfl
  · exact mm_by_end 2 rfl
