/-! the first heap: nothing told, nothing kept -/
theorem h0_300 (k : Nat) : fd mm_h0 300 k = 0 := by
  have e : cc_at cw_fin 300 = .inr (1, 210, .inl []) := cq_e_ok (by decide +kernel)
  show (cc_int (cc_at cw_fin 300) k).toInt = 0
  rw [e]
  show (([] : List Int32).getD k 0).toInt = 0
  first | rfl | simp
set_option maxRecDepth 100000 in
theorem h0_words : ∀ a, a < 332 → 267 ≤ a → ∀ k, k < (wordL a).length → fd mm_h0 a k = (wordL a).getD k 0 := by decide +kernel
theorem h0_M : IvM mm_h0 := by
  have e : fd mm_h0 264 1 = 0 := by decide +kernel
  refine ⟨by decide +kernel, by decide +kernel, fun j hj => absurd hj (by omega), ⟨by decide +kernel, by decide +kernel⟩, by decide +kernel, by decide +kernel, by decide +kernel⟩
theorem h0_W : IvW mm_h0 0 230 0 0 0 (fun _ => 0) (fun _ => 0) (dfl 0) (dfl 1) (dfl 2) (fun _ => 0) [] := by
  refine ⟨⟨isT_230, by decide +kernel, by decide +kernel⟩, ⟨Or.inl rfl, by decide +kernel, by decide +kernel, fun _ => ⟨rfl, rfl⟩, fun z => absurd z (by decide)⟩, ⟨by decide +kernel, by decide +kernel, fun p p0 p1 => absurd p1 (by omega), ⟨by decide +kernel, Or.inl ⟨by decide +kernel, rfl⟩⟩, ⟨by decide +kernel, Or.inl ⟨by decide +kernel, rfl⟩⟩, ⟨by decide +kernel, Or.inl ⟨by decide +kernel, rfl⟩⟩⟩, fun z _ _ => h0_300 _, ?_, fun p p0 p1 => absurd p1 (by omega), ⟨by decide, by decide⟩, ?_, by decide +kernel, ⟨?_, ?_, ?_, by decide⟩, by decide +kernel, by decide +kernel, by decide⟩
  · exact ⟨⟨by decide, by decide⟩, ⟨by decide, by decide⟩, fun p p0 p1 => absurd p1 (by omega), fun p q p0 p1 => absurd p1 (by omega), fun p q p0 p1 => absurd p1 (by omega)⟩
  · exact ⟨by decide +kernel, by decide +kernel, by decide +kernel, fun p p0 p1 => absurd p1 (by omega), fun p q p0 p1 => absurd p1 (by omega), fun p p0 p1 => absurd p1 (by omega)⟩
  · exact ⟨by decide +kernel, fun i hi => absurd hi (by simp)⟩
  · exact ⟨by decide +kernel, fun i hi => absurd hi (by simp)⟩
  · intro x hx
    cases hx
theorem h0_H : IvH mm_h0 0 0 0 (fun _ => 0) (fun _ => 0) [] := by
  refine ⟨by decide, by decide +kernel, by decide +kernel, 0, by decide, by decide +kernel, by decide +kernel, fun j hj => absurd hj (by simp)⟩
theorem h0_S : IvS mm_h0 0 := by
  have e : fd mm_h0 264 67 = 0 := by decide +kernel
  refine ⟨by decide +kernel, by decide +kernel, fun k hk => absurd hk (by omega), fun k hk => absurd hk (by omega)⟩
theorem h0_P : IvP mm_h0 := by
  have e : fd mm_h0 264 112 = 0 := by decide +kernel
  refine ⟨by decide +kernel, by decide +kernel, fun k hk => absurd hk (by omega)⟩
theorem h0_N : IvN mm_h0 230 0 := by
  refine ⟨by decide +kernel, fun p hp => absurd hp (by omega), fun a ha k v hv => ?_⟩
  obtain ⟨hk, e⟩ := List.getElem?_eq_some_iff.mp hv
  have z := h0_words a (by omega) (by omega) k hk
  rw [List.getD_eq_getElem?_getD, hv] at z
  exact z
set_option maxHeartbeats 8000000 in
theorem Inv_h0 : Inv mm_h0 0 := ⟨230, 0, 0, 0, fun _ => 0, fun _ => 0, dfl 0, dfl 1, dfl 2, fun _ => 0, [], [], h0_M, h0_W, h0_H, h0_S, h0_P, h0_N⟩
