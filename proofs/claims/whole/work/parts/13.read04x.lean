theorem mm_gd2 {C : mm_C mm_H} {cd : mm_K mm_H} {pc : Nat} {ls st : List Value} {h : mm_H} {f : mm_S mm_H} {c c2 : Prop} [Decidable c] [Decidable c2] {p1 : Nat} {l1 s1 : List Value} {h1 : mm_H} (hf : mm_get cd pc = some f) (ho : f C ls st h = if c then none else if c2 then some (.inl (p1, l1, s1, h1)) else none) : mm_D C cd pc ls st h = if c then none else if c2 then mm_D C cd p1 l1 s1 h1 else none := by
  rw [mm_D_step hf, ho]
  by_cases hc : c
  · rw [if_pos hc, if_pos hc]; rfl
  · rw [if_neg hc, if_neg hc]
    by_cases hc2 : c2
    · rw [if_pos hc2, if_pos hc2]; rfl
    · rw [if_neg hc2, if_neg hc2]; rfl
theorem q_zast {C : mm_C mm_H} {nx : Nat} {ls rest : List Value} {h : mm_H} {a n : Nat} {i v : Int32} (hs : mm_sh a = (4, n)) : s_zast nx C ls (.int v :: .int i :: .ref a :: rest) h = if i < 0 ∨ n ≤ i.toNatClampNeg then none else if v = 0 ∨ v = 1 then some (.inl (nx, ls, rest, wI h a i.toNatClampNeg v)) else none := by
  simp only [s_zast, mm_pI, mm_pA, hs, if_true, wI]
