/-! the call terrace: what holds behind it -/
section KTA
variable {d : Nat} {g : mm_H}
theorem kT_bad {k pl : Int} (B : Bad g k pl) (hk : k ≠ 0) : kT d g = some (some (.int (iI (-1))), wI (wI (wI g 264 7 (iI k)) 264 8 (iI pl)) 266 1 (iI (fd g 266 1 + 1))) := by
  have r5 := rdE B.1
  have r6 : (wI g 264 7 (iI k)).1 264 6 = iI pl := rdE ((fd_wI_col (by omega)).trans B.2)
  have x5 : fd (wI (wI g 264 7 (iI k)) 264 8 (iI pl)) 264 5 ≠ 0 := by
    rw [fd_wI_col (by omega), fd_wI_col (by omega), B.1]
    exact hk
  have r1 : (wI (wI g 264 7 (iI k)) 264 8 (iI pl)).1 266 1 = iI (fd g 266 1) := rdE ((fd_wI_row (by omega)).trans (fd_wI_row (by omega)))
  unfold kT
  rw [r5, r6, if_neg (bad_1 x5), r1]
  simp only [iI_lit, iI_neg, iI_add]
theorem kT_ok (c5 : fd g 264 5 = 0) (c6 : fd g 264 6 = -1) : kT d g = mm_bV (mm_M mm_T0 d 212 [.ref 264] (wI (wI g 264 7 (iI 0)) 264 8 (iI (-1)))) (fun h1 => some (some (.int (h1.1 264 52)), h1)) := by
  have r5 := rdE c5
  have r6 : (wI g 264 7 (iI 0)).1 264 6 = iI (-1) := rdE ((fd_wI_col (by omega)).trans c6)
  have x5 : fd (wI (wI g 264 7 (iI 0)) 264 8 (iI (-1))) 264 5 = 0 := by
    rw [fd_wI_col (by omega), fd_wI_col (by omega)]
    exact c5
  unfold kT
  rw [r5, r6, if_pos (bad_0 x5)]
theorem nQz {a k : Nat} (h : a ≠ 264) (h2 : ¬ (293 ≤ a ∧ a ≤ 299)) (h3 : a ≠ 332 ∧ a ≠ 333) : ¬ QRz a k := by
  unfold QRz QRs QRt QQ
  omega
end KTA
section KTF
variable {h g h1 g' : mm_H} {i : Int} {t u : Nat} {st pm hm : Int} {fc kd n : Int → Int} {cp cm cf : List Int} {ev : Evs} {past : Past} {f : Int × Int}
set_option maxHeartbeats 8000000 in
theorem Inv.tfail (M : IvM h) (W : IvW h i t st pm hm fc kd cp cm cf n ev) (H : IvH h i pm hm fc kd past) (S : IvS h pm) (P : IvP h) (N : IvN h t pm) (tu : (t = 230 ∧ u = 247) ∨ (t = 247 ∧ u = 230)) (K1 : KR (QD u) h g) (a2 : fd g 3 5 = f.1) (a3 : fd g 3 6 = f.2) (hh : wI (wI g 1 1 (iI 0)) 229 1 (iI (fd g 229 1 + 1)) = h1) (f1 : fd g' 264 1 = 0) (K2 : Kf QRz LRt h1 g') (hi : i + 6 ≤ 3072) : Inv (wI (wI (wI g' 264 7 (iI f.1)) 264 8 (iI f.2)) 266 1 (iI (fd g' 266 1 + 1))) (i + 6) := by
  have k1 : Kf (fun a k => (a = 1 ∧ k = 1) ∨ (a = 229 ∧ k = 1)) nL g h1 := by
    rw [← hh]
    exact (Kf.refl.wI (by omega)).wI (by omega)
  generalize hG : wI (wI (wI g' 264 7 (iI f.1)) 264 8 (iI f.2)) 266 1 (iI (fd g' 266 1 + 1)) = h2
  have k2 : Kf (fun a k => (a = 264 ∧ (k = 7 ∨ k = 8)) ∨ (a = 266 ∧ k = 1)) nL g' h2 := by
    rw [← hG]
    exact ((Kf.refl.wI (by omega)).wI (by omega)).wI (by omega)
  have z : ∀ a k, ¬ QD u a k → ¬ QRz a k → ¬ (a = 1 ∧ k = 1) → ¬ (a = 229 ∧ k = 1) → ¬ (a = 266 ∧ k = 1) → ¬ (a = 264 ∧ (k = 7 ∨ k = 8)) → fd h2 a k = fd h a k := fun a k q1 q2 q3 q4 q5 q6 => by
    rw [k2.1 _ _ (by omega), K2.1 _ _ q2, k1.1 _ _ (by omega), K1.1 _ _ q1]
  have zl : ∀ a k, ¬ (a = 292 ∧ k < 8) → fl h2 a k = fl h a k := fun a k q => by
    rw [k2.2.1 _ _ (fun y => y), K2.2.1 _ _ q, k1.2.1 _ _ (fun y => y), K1.2.1]
  have r5 : -2147483648 ≤ f.1 ∧ f.1 < 2147483648 := by
    rw [← a2]
    exact ⟨fd_lo _ _ _, fd_hi _ _ _⟩
  have r6 : -2147483648 ≤ f.2 ∧ f.2 < 2147483648 := by
    rw [← a3]
    exact ⟨fd_lo _ _ _, fd_hi _ _ _⟩
  refine Inv.txt ?_ W H S P N (fun a k q => ?_) (fun a k q => ?_) ?_ ?_ hi
  · obtain ⟨m1, m2, m3, m4, m5, m6, m7⟩ := M
    have e1 : fd h2 264 1 = 0 := (k2.1 _ _ (by omega)).trans f1
    have e11 : fd h2 1 1 = 0 := by
      rw [k2.1 _ _ (by omega), K2.1 _ _ (nQz (by omega) (by omega) (by omega)), ← hh, fd_wI_row (by omega)]
      exact fd_wI_same (by omega) (by omega)
    refine ⟨by omega, by omega, fun j hj => by omega, ⟨?_, ?_⟩, fun k hk => ?_, ?_, ?_⟩
    · have x : fd h2 3 5 = f.1 := by
        rw [k2.1 _ _ (by omega), K2.1 _ _ (nQz (by omega) (by omega) (by omega)), k1.1 _ _ (by omega)]
        exact a2
      have y : fd h2 264 7 = f.1 := by
        rw [← hG, fd_wI_row (by omega), fd_wI_col (by omega)]
        exact fd_wI_same r5.1 r5.2
      rw [x, y]
    · have x : fd h2 3 6 = f.2 := by
        rw [k2.1 _ _ (by omega), K2.1 _ _ (nQz (by omega) (by omega) (by omega)), k1.1 _ _ (by omega)]
        exact a3
      have y : fd h2 264 8 = f.2 := by
        rw [← hG, fd_wI_row (by omega)]
        exact fd_wI_same r6.1 r6.2
      rw [x, y]
    · by_cases c : k = 1
      · rw [c]
        have x1 : fd g 229 1 = fd h 229 1 := K1.1 _ _ (by unfold QD; omega)
        have x2 : fd g' 266 1 = fd h 266 1 := by
          rw [K2.1 _ _ (nQz (by omega) (by omega) (by omega)), k1.1 _ _ (by omega), K1.1 _ _ (by unfold QD; omega)]
        have x3 : fd h2 229 1 = (iI (fd g 229 1 + 1)).toInt := by
          rw [k2.1 _ _ (by omega), K2.1 _ _ (nQz (by omega) (by omega) (by omega)), ← hh, fd_wI, if_pos ⟨rfl, rfl⟩]
        have x4 : fd h2 266 1 = (iI (fd g' 266 1 + 1)).toInt := by
          rw [← hG, fd_wI, if_pos ⟨rfl, rfl⟩]
        rw [x3, x4, x1, x2, m5 1 (by omega)]
      · rw [z 229 k (by unfold QD; omega) (nQz (by omega) (by omega) (by omega)) (by omega) (by omega) (by omega) (by omega), z 266 k (by unfold QD; omega) (nQz (by omega) (by omega) (by omega)) (by omega) (by omega) (by omega) (by omega)]
        exact m5 k hk
    · rw [z 0 13 (by unfold QD; omega) (nQz (by omega) (by omega) (by omega)) (by omega) (by omega) (by omega) (by omega), zl 264 75 (by omega)]
      exact m6
    · rw [zl 264 75 (by omega)]
      exact m7
  · have q' := Classical.not_not.mp q
    clear q
    refine z a k ?_ ?_ ?_ ?_ ?_ ?_
    · unfold NW NC NR NH NS NP Nnm at q'
      unfold QD
      omega
    · unfold NW NC NR NH NS NP Nnm at q'
      unfold QRz QRs QRt QQ
      omega
    · unfold NW NC NR NH NS NP Nnm at q'
      omega
    · unfold NW NC NR NH NS NP Nnm at q'
      omega
    · unfold NW NC NR NH NS NP Nnm at q'
      omega
    · unfold NW NC NR NH NS NP Nnm at q'
      omega
  · refine zl a k ?_
    unfold LMc at q
    omega
  · rw [k2.2.2, K2.2.2, k1.2.2]
    exact K1.2.2 0 10 (by omega)
  · rw [k2.2.2, K2.2.2, k1.2.2]
    exact K1.2.2 0 11 (by omega)
end KTF
