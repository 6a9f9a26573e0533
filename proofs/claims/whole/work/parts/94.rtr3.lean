section RTC
variable {d : Nat} {g : mm_H} {b : Nat → Int} {E : Nat}
theorem RTs.hous {h0 v : Int} {st : Tst} (T : RTs g h0 st) (v0 : 0 ≤ v ∧ v ≤ 9) : RTs (wI g 264 37 (iI v)) v st := by
  obtain ⟨t1, t2, t3, t4, t5, t6⟩ := T
  have z : ∀ a j, ¬ (a = 264 ∧ j = 37) → fd (wI g 264 37 (iI v)) a j = fd g a j := fun a j h => by rw [fd_wI, if_neg h]
  refine ⟨⟨fd_wI_same (by omega) (by omega), ?_⟩, fun i x hx => ?_, fun j hj => ?_, ?_, ⟨?_, fun i v hv => ?_⟩, fun w hw => ?_⟩
  · rw [z _ _ (by omega)]; exact t1.2
  · rw [fl_wI, z _ _ (by omega), z _ _ (by omega), z _ _ (by omega)]; exact t2 i x hx
  · rw [z _ _ (by omega)]; exact t3 j hj
  · rw [z _ _ (by omega)]; exact t4
  · rw [z _ _ (by omega)]; exact t5.1
  · rw [z _ _ (by omega)]; exact t5.2 i v hv
  · rw [z _ _ (by omega), z _ _ (by omega)]; exact t6 w hw
set_option maxHeartbeats 8000000 in
theorem R_begin (hE : E ≤ 1600) (e1 : fd g 264 1 = (E : Int)) (Tp : TpR g b E) (K : IvK g) : ∃ g3, mm_M mm_T0 (d + 1) 211 [.ref 264] g = mm_bV (mm_M mm_T0 d 206 [.ref 264] g3) (fun h1 => mm_D (mm_M mm_T0 d) cd_X12_terrace 98 [.ref 264, .null] [] (wI h1 264 52 (iI 1))) ∧ RS g3 b E 0 false ∧ RTs g3 (fd g3 264 37) st0 ∧ fd g3 264 1 = 0 ∧ Kf QRz LRt g g3 := by
  generalize hG : wI (wI (wI (wI (wI (wI (wI (wI g 264 3 (iI (E : Int))) 264 1 (iI 0)) 264 2 (iI 0)) 264 4 (iI (-1))) 264 5 (iI 0)) 264 6 (iI (-1))) 264 51 (iI 0)) 264 39 (iI 0) = g0
  have k0 : Kf (fun a k => a = 264 ∧ (k = 1 ∨ k = 2 ∨ k = 3 ∨ k = 4 ∨ k = 5 ∨ k = 6 ∨ k = 51 ∨ k = 39)) nL g g0 := by
    rw [← hG]
    exact (((((((Kf.refl.wI (by omega)).wI (by omega)).wI (by omega)).wI (by omega)).wI (by omega)).wI (by omega)).wI (by omega)).wI (by omega)
  have f39 : fd g0 264 39 = 0 := by rw [← hG]; exact fd_wI_same (by omega) (by omega)
  have f51 : fd g0 264 51 = 0 := by rw [← hG, fd_wI_col (by omega)]; exact fd_wI_same (by omega) (by omega)
  have f5 : fd g0 264 5 = 0 := by rw [← hG, fd_wI_col (by omega), fd_wI_col (by omega), fd_wI_col (by omega)]; exact fd_wI_same (by omega) (by omega)
  have f6 : fd g0 264 6 = -1 := by rw [← hG, fd_wI_col (by omega), fd_wI_col (by omega)]; exact fd_wI_same (by omega) (by omega)
  have f4 : fd g0 264 4 = -1 := by rw [← hG, fd_wI_col (by omega), fd_wI_col (by omega), fd_wI_col (by omega), fd_wI_col (by omega)]; exact fd_wI_same (by omega) (by omega)
  have f2 : fd g0 264 2 = 0 := by rw [← hG, fd_wI_col (by omega), fd_wI_col (by omega), fd_wI_col (by omega), fd_wI_col (by omega), fd_wI_col (by omega)]; exact fd_wI_same (by omega) (by omega)
  have f1 : fd g0 264 1 = 0 := by rw [← hG, fd_wI_col (by omega), fd_wI_col (by omega), fd_wI_col (by omega), fd_wI_col (by omega), fd_wI_col (by omega), fd_wI_col (by omega)]; exact fd_wI_same (by omega) (by omega)
  have f3 : fd g0 264 3 = (E : Int) := by rw [← hG, fd_wI_col (by omega), fd_wI_col (by omega), fd_wI_col (by omega), fd_wI_col (by omega), fd_wI_col (by omega), fd_wI_col (by omega), fd_wI_col (by omega)]; exact fd_wI_same (by omega) (by omega)
  obtain ⟨g1, a1, a2, k1⟩ := R_45 (d := d) 64 0 g0 (by omega)
  obtain ⟨g2, b1, b2', k2⟩ := R_66 (d := d) 3 0 g1 (by omega)
  rw [show ((0 : Nat) : Int) = 0 from rfl] at a1 b1
  have k3 : Kf (fun a k => a = 264 ∧ k = 46) nL g2 (wI g2 264 46 (iI 0)) := Kf.refl.wI ⟨rfl, rfl⟩
  have f46 : fd (wI g2 264 46 (iI 0)) 264 46 = 0 := fd_wI_same (by omega) (by omega)
  generalize wI g2 264 46 (iI 0) = g3 at *
  have K3 : Kf (fun a k => (a = 264 ∧ (k = 1 ∨ k = 2 ∨ k = 3 ∨ k = 4 ∨ k = 5 ∨ k = 6 ∨ k = 51 ∨ k = 39 ∨ k = 46)) ∨ a = 296 ∨ (a = 297 ∧ k < 3)) nL g g3 := (k0.mono (fun a x q => by omega) (fun a x q => q)).trans ((k1.mono (fun a x q => by omega) (fun a x q => q)).trans ((k2.mono (fun a x q => by omega) (fun a x q => q)).trans (k3.mono (fun a x q => by omega) (fun a x q => q))))
  have z : ∀ k, k ≠ 46 → fd g3 264 k = fd g0 264 k := fun k h => by rw [k3.1 _ _ (by omega), k2.1 _ _ (by omega), k1.1 _ _ (by omega)]
  refine ⟨g3, ?_, ⟨⟨(z 3 (by omega)).trans f3, hE, fun j hj => ?_, fun a ha j v hv => (K3.1 _ _ (by omega)).trans (K a ha j v hv)⟩, Nat.zero_le _, (z 5 (by omega)).trans f5, ?_, ?_, (z 6 (by omega)).trans f6⟩, ⟨⟨rfl, (z 39 (by omega)).trans f39⟩, fun i x hx => absurd hx (by simp [st0]), fun k hk => ?_, f46, ⟨(z 51 (by omega)).trans f51, fun i v h => absurd h (by simp [st0, rAll])⟩, fun w hw => ⟨fun _ => ?_, fun y hy => absurd hy (by simp [st0, rOf])⟩⟩, (z 1 (by omega)).trans f1, K3.mono (fun a x q => ?_) (fun a x q => q.elim)⟩
  · rw [U_X12_terrace, ← b1, ← a1, ← hG]
    simp only [iI_lit, iI_neg, rdE e1]
  · rw [K3.1 _ _ (by omega)]
    exact Tp j hj
  · rw [z 2 (by omega), f2]
    omega
  · rw [if_neg (by simp), z 4 (by omega), f4]
    omega
  · rw [k3.1 _ _ (by omega), k2.1 _ _ (by omega)]
    exact a2 k (by omega) hk
  · rw [k3.1 _ _ (by omega)]
    exact b2' w (by omega) hw
  · rcases q with ⟨h, q⟩ | h | h
    · by_cases c : 1 ≤ x ∧ x ≤ 6
      · exact Or.inr ⟨h, c⟩
      · exact Or.inl (Or.inl (Or.inr (Or.inl ⟨h, by omega⟩)))
    · exact Or.inl (Or.inl (Or.inr (Or.inr (Or.inr (Or.inr (Or.inl h))))))
    · exact Or.inl (Or.inl (Or.inr (Or.inr (Or.inr (Or.inr (Or.inr (Or.inl ⟨Or.inl h.1, h.2⟩)))))))
end RTC
