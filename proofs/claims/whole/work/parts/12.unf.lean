/-! reading a method off its code: the equations that the printed readings (U_..) stand on -/
def wI (h : mm_H) (a k : Nat) (v : Int32) : mm_H := (mm_u h.1 a k v, h.2)
def wL (h : mm_H) (a k : Nat) (v : Int64) : mm_H := (h.1, mm_uL h.2.1 a k v, h.2.2)
def wR (h : mm_H) (a k v : Nat) : mm_H := (h.1, h.2.1, mm_uR h.2.2 a k v)
def wC (h : mm_H) (a0 a sp dp n : Nat) : mm_H := (mm_cp h.1 a0 a sp dp n, h.2)
abbrev mm_X : Type := Option (mm_R mm_H)
def mm_bI (x : mm_X) (k : Int32 → mm_H → mm_X) : mm_X := match x with
  | some (some (.int v), h) => k v h
  | _ => none
def mm_bL (x : mm_X) (k : Int64 → mm_H → mm_X) : mm_X := match x with
  | some (some (.long v), h) => k v h
  | _ => none
def mm_bA (x : mm_X) (k : Nat → mm_H → mm_X) : mm_X := match x with
  | some (some (.ref v), h) => k v h
  | _ => none
def mm_bV (x : mm_X) (k : mm_H → mm_X) : mm_X := match x with
  | some (none, h) => k h
  | _ => none
theorem mm_bI_some (v : Int32) (h : mm_H) (k : Int32 → mm_H → mm_X) : mm_bI (some (some (.int v), h)) k = k v h := rfl
theorem mm_bL_some (v : Int64) (h : mm_H) (k : Int64 → mm_H → mm_X) : mm_bL (some (some (.long v), h)) k = k v h := rfl
theorem mm_bA_some (v : Nat) (h : mm_H) (k : Nat → mm_H → mm_X) : mm_bA (some (some (.ref v), h)) k = k v h := rfl
theorem mm_bV_some (h : mm_H) (k : mm_H → mm_X) : mm_bV (some (none, h)) k = k h := rfl
def mm_zr (x : Int32) (h : mm_H) : mm_X := if x = 0 ∨ x = 1 then some (some (.int x), h) else none
theorem mm_zr0 (h : mm_H) : mm_zr 0 h = some (some (.int 0), h) := rfl
theorem mm_zr1 (h : mm_H) : mm_zr 1 h = some (some (.int 1), h) := rfl
section UNF
variable {C : mm_C mm_H} {cd : mm_K mm_H} {pc pc' nx : Nat} {ls ls' st st' rest : List Value} {h h' : mm_H} {f : mm_S mm_H}
theorem mm_congI {x : mm_X} {k k' : Int32 → mm_H → mm_X} (e : ∀ v h, k v h = k' v h) : mm_bI x k = mm_bI x k' := by
  rw [show k = k' from funext fun v => funext fun h => e v h]
theorem mm_congL {x : mm_X} {k k' : Int64 → mm_H → mm_X} (e : ∀ v h, k v h = k' v h) : mm_bL x k = mm_bL x k' := by
  rw [show k = k' from funext fun v => funext fun h => e v h]
theorem mm_congA {x : mm_X} {k k' : Nat → mm_H → mm_X} (e : ∀ v h, k v h = k' v h) : mm_bA x k = mm_bA x k' := by
  rw [show k = k' from funext fun v => funext fun h => e v h]
theorem mm_congV {x : mm_X} {k k' : mm_H → mm_X} (e : ∀ h, k h = k' h) : mm_bV x k = mm_bV x k' := by
  rw [show k = k' from funext fun h => e h]
theorem mm_ite {α : Type} {c : Prop} [Decidable c] {x y x' y' : α} (h1 : x = x') (h2 : y = y') : (if c then x else y) = if c then x' else y' := by rw [h1, h2]
theorem mm_br {c : Prop} [Decidable c] {p1 p2 : Nat} {l1 l2 s1 s2 : List Value} {h1 h2 : mm_H} (hf : mm_get cd pc = some f) (ho : f C ls st h = if c then some (.inl (p1, l1, s1, h1)) else some (.inl (p2, l2, s2, h2))) : mm_D C cd pc ls st h = if c then mm_D C cd p1 l1 s1 h1 else mm_D C cd p2 l2 s2 h2 := by
  rw [mm_D_step hf, ho]
  by_cases hc : c
  · rw [if_pos hc, if_pos hc]; rfl
  · rw [if_neg hc, if_neg hc]; rfl
theorem mm_brK {c : Prop} [Decidable c] {t p1 p2 : Nat} {ks : List Nat} {l1 l2 l1' l2' s1 s2 : List Value} {h1 h2 : mm_H} (hf : mm_get cd pc = some (s_kill t ks f)) (ho : f C ls st h = if c then some (.inl (p1, l1, s1, h1)) else some (.inl (p2, l2, s2, h2))) (e1 : (if p1 = t then mm_kill ks l1 else l1) = l1') (e2 : (if p2 = t then mm_kill ks l2 else l2) = l2') : mm_D C cd pc ls st h = if c then mm_D C cd p1 l1' s1 h1 else mm_D C cd p2 l2' s2 h2 := by
  rw [mm_D_step hf]
  show mm_next C cd (mm_kl t ks (f C ls st h)) = _
  rw [ho]
  by_cases hc : c
  · rw [if_pos hc, if_pos hc, ← e1]; rfl
  · rw [if_neg hc, if_neg hc, ← e2]; rfl
theorem mm_gd {c : Prop} [Decidable c] {p1 : Nat} {l1 s1 : List Value} {h1 : mm_H} (hf : mm_get cd pc = some f) (ho : f C ls st h = if c then none else some (.inl (p1, l1, s1, h1))) : mm_D C cd pc ls st h = if c then none else mm_D C cd p1 l1 s1 h1 := by
  rw [mm_D_step hf, ho]
  by_cases hc : c
  · rw [if_pos hc, if_pos hc]; rfl
  · rw [if_neg hc, if_neg hc]; rfl
theorem mm_gdK {c : Prop} [Decidable c] {t p1 : Nat} {ks : List Nat} {l1 l1' s1 : List Value} {h1 : mm_H} (hf : mm_get cd pc = some (s_kill t ks f)) (ho : f C ls st h = if c then none else some (.inl (p1, l1, s1, h1))) (e1 : (if p1 = t then mm_kill ks l1 else l1) = l1') : mm_D C cd pc ls st h = if c then none else mm_D C cd p1 l1' s1 h1 := by
  rw [mm_D_step hf]
  show mm_next C cd (mm_kl t ks (f C ls st h)) = _
  rw [ho]
  by_cases hc : c
  · rw [if_pos hc, if_pos hc]; rfl
  · rw [if_neg hc, if_neg hc, ← e1]; rfl
theorem mm_ok {c : Prop} [Decidable c] {p1 : Nat} {l1 s1 : List Value} {h1 : mm_H} (hf : mm_get cd pc = some f) (ho : f C ls st h = if c then some (.inl (p1, l1, s1, h1)) else none) : mm_D C cd pc ls st h = if c then mm_D C cd p1 l1 s1 h1 else none := by
  rw [mm_D_step hf, ho]
  by_cases hc : c
  · rw [if_pos hc, if_pos hc]; rfl
  · rw [if_neg hc, if_neg hc]; rfl
theorem mm_zend {x : Int32} (hf : mm_get cd pc = some s_zret) : mm_D C cd pc ls [.int x] h = mm_zr x h := by
  rw [mm_D_step hf]
  show mm_next C cd (if x = 0 ∨ x = 1 then some (.inr (some (.int x), h)) else none) = _
  unfold mm_zr
  by_cases hc : x = 0 ∨ x = 1
  · rw [if_pos hc, if_pos hc]; rfl
  · rw [if_neg hc, if_neg hc]; rfl
theorem mm_nxt0 {x : mm_X} : mm_next C cd (mm_after 0 nx ls rest x) = mm_bV x (fun h => mm_D C cd nx ls rest h) := by
  cases x with
  | none => rfl
  | some q =>
    obtain ⟨v, h⟩ := q
    cases v with
    | none => rfl
    | some w => cases w <;> rfl
theorem mm_nxt1 {x : mm_X} : mm_next C cd (mm_after 1 nx ls rest x) = mm_bI x (fun v h => mm_D C cd nx ls (.int v :: rest) h) := by
  cases x with
  | none => rfl
  | some q =>
    obtain ⟨v, h⟩ := q
    cases v with
    | none => rfl
    | some w => cases w <;> rfl
theorem mm_nxt2 {x : mm_X} : mm_next C cd (mm_after 2 nx ls rest x) = mm_bL x (fun v h => mm_D C cd nx ls (.long v :: rest) h) := by
  cases x with
  | none => rfl
  | some q =>
    obtain ⟨v, h⟩ := q
    cases v with
    | none => rfl
    | some w => cases w <;> rfl
theorem mm_nxt3 {x : mm_X} : mm_next C cd (mm_after 3 nx ls rest x) = mm_bA x (fun v h => mm_D C cd nx ls (.ref v :: rest) h) := by
  cases x with
  | none => rfl
  | some q =>
    obtain ⟨v, h⟩ := q
    cases v with
    | none => rfl
    | some w => cases w <;> rfl
theorem mm_c0 {y : Nat} {as : List Value} (hf : mm_get cd pc = some f) (ho : f C ls st h = mm_after 0 nx ls rest (C y as h)) : mm_D C cd pc ls st h = mm_bV (C y as h) (fun h => mm_D C cd nx ls rest h) := by rw [mm_D_step hf, ho]; exact mm_nxt0
theorem mm_c1 {y : Nat} {as : List Value} (hf : mm_get cd pc = some f) (ho : f C ls st h = mm_after 1 nx ls rest (C y as h)) : mm_D C cd pc ls st h = mm_bI (C y as h) (fun v h => mm_D C cd nx ls (.int v :: rest) h) := by rw [mm_D_step hf, ho]; exact mm_nxt1
theorem mm_c2 {y : Nat} {as : List Value} (hf : mm_get cd pc = some f) (ho : f C ls st h = mm_after 2 nx ls rest (C y as h)) : mm_D C cd pc ls st h = mm_bL (C y as h) (fun v h => mm_D C cd nx ls (.long v :: rest) h) := by rw [mm_D_step hf, ho]; exact mm_nxt2
theorem mm_c3 {y : Nat} {as : List Value} (hf : mm_get cd pc = some f) (ho : f C ls st h = mm_after 3 nx ls rest (C y as h)) : mm_D C cd pc ls st h = mm_bA (C y as h) (fun v h => mm_D C cd nx ls (.ref v :: rest) h) := by rw [mm_D_step hf, ho]; exact mm_nxt3
theorem mm_c0K {y t : Nat} {ks : List Nat} {ls' : List Value} {as : List Value} (hf : mm_get cd pc = some (s_kill t ks f)) (ho : f C ls st h = mm_after 0 nx ls rest (C y as h)) (e1 : (if nx = t then mm_kill ks ls else ls) = ls') : mm_D C cd pc ls st h = mm_bV (C y as h) (fun h => mm_D C cd nx ls' rest h) := by
  rw [mm_D_step hf]
  show mm_next C cd (mm_kl t ks (f C ls st h)) = _
  rw [ho, ← e1]
  cases C y as h with
  | none => rfl
  | some q =>
    obtain ⟨v, h⟩ := q
    cases v with
    | none => rfl
    | some w => cases w <;> rfl
/-- a call on an object that is not known ahead -/
theorem mm_d0 {y b ci : Nat} {as : List Value} (hf : mm_get cd pc = some f) (ho : f C ls st h = if mm_sh b = (0, ci) ∧ (rest.map fun v => v.category).sum ≤ 8 then mm_after 0 nx ls rest (C y as h) else none) (hr : (rest.map fun v => v.category).sum ≤ 8) : mm_D C cd pc ls st h = if mm_sh b = (0, ci) then mm_bV (C y as h) (fun h => mm_D C cd nx ls rest h) else none := by
  rw [mm_D_step hf, ho]
  by_cases hs : mm_sh b = (0, ci)
  · rw [if_pos hs, if_pos ⟨hs, hr⟩]; exact mm_nxt0
  · rw [if_neg hs, if_neg (fun q => hs q.1)]; rfl
theorem mm_d1 {y b ci : Nat} {as : List Value} (hf : mm_get cd pc = some f) (ho : f C ls st h = if mm_sh b = (0, ci) ∧ (rest.map fun v => v.category).sum ≤ 8 then mm_after 1 nx ls rest (C y as h) else none) (hr : (rest.map fun v => v.category).sum ≤ 8) : mm_D C cd pc ls st h = if mm_sh b = (0, ci) then mm_bI (C y as h) (fun v h => mm_D C cd nx ls (.int v :: rest) h) else none := by
  rw [mm_D_step hf, ho]
  by_cases hs : mm_sh b = (0, ci)
  · rw [if_pos hs, if_pos ⟨hs, hr⟩]; exact mm_nxt1
  · rw [if_neg hs, if_neg (fun q => hs q.1)]; rfl
/-- a switch -/
theorem mm_sw_c {k : Int32} {t df : Nat} {r : List (Int32 × Nat)} {x : Int32} : mm_D C cd (mm_sw ((k, t) :: r) df x) ls st h = if x = k then mm_D C cd t ls st h else mm_D C cd (mm_sw r df x) ls st h := by
  show mm_D C cd (if x = k then t else mm_sw r df x) ls st h = _
  by_cases hc : x = k
  · rw [if_pos hc, if_pos hc]
  · rw [if_neg hc, if_neg hc]
/-! steps on cells that are known by a hypothesis -/
theorem q_get {ci k a : Nat} (hs : mm_sh a = (0, ci)) : s_get ci k nx C ls (.ref a :: rest) h = some (.inl (nx, ls, mm_fw h a ci k :: rest, h)) := if_pos hs
theorem q_putI {ci k a : Nat} {v : Int32} (hs : mm_sh a = (0, ci)) : s_putI ci k nx C ls (.int v :: .ref a :: rest) h = some (.inl (nx, ls, rest, wI h a k v)) := if_pos hs
theorem q_putZ {ci k a : Nat} {v : Int32} (hs : mm_sh a = (0, ci)) : s_putZ ci k nx C ls (.int v :: .ref a :: rest) h = if v = 0 ∨ v = 1 then some (.inl (nx, ls, rest, wI h a k v)) else none := if_pos hs
theorem q_putL {ci k a : Nat} {v : Int64} (hs : mm_sh a = (0, ci)) : s_putL ci k nx C ls (.long v :: .ref a :: rest) h = some (.inl (nx, ls, rest, wL h a k v)) := if_pos hs
theorem q_putR {ci k a v : Nat} (hs : mm_sh a = (0, ci)) : s_putR ci k nx C ls (.ref v :: .ref a :: rest) h = some (.inl (nx, ls, rest, wR h a k v)) := if_pos hs
theorem q_iald {a n : Nat} {i : Int32} (hs : mm_sh a = (1, n)) : s_iald nx C ls (.int i :: .ref a :: rest) h = if i < 0 ∨ n ≤ i.toNatClampNeg then none else some (.inl (nx, ls, .int (h.1 a i.toNatClampNeg) :: rest, h)) := by
  simp only [s_iald, mm_pI, mm_pA, hs, if_true]
theorem q_cald {a n : Nat} {i : Int32} (hs : mm_sh a = (3, n)) : s_cald nx C ls (.int i :: .ref a :: rest) h = if i < 0 ∨ n ≤ i.toNatClampNeg then none else some (.inl (nx, ls, .int (h.1 a i.toNatClampNeg) :: rest, h)) := by
  simp only [s_cald, mm_pI, mm_pA, hs, if_true]
theorem q_zald {a n : Nat} {i : Int32} (hs : mm_sh a = (4, n)) : s_zald nx C ls (.int i :: .ref a :: rest) h = if i < 0 ∨ n ≤ i.toNatClampNeg then none else some (.inl (nx, ls, .int (h.1 a i.toNatClampNeg) :: rest, h)) := by
  simp only [s_zald, mm_pI, mm_pA, hs, if_true]
theorem q_lald {a n : Nat} {i : Int32} (hs : mm_sh a = (2, n)) : s_lald nx C ls (.int i :: .ref a :: rest) h = if i < 0 ∨ n ≤ i.toNatClampNeg then none else some (.inl (nx, ls, .long (h.2.1 a i.toNatClampNeg) :: rest, h)) := by
  simp only [s_lald, mm_pI, mm_pA, hs, if_true]
theorem q_aald {a n : Nat} {i : Int32} (hs : mm_sh a = (5, n)) : s_aald nx C ls (.int i :: .ref a :: rest) h = if i < 0 ∨ n ≤ i.toNatClampNeg then none else some (.inl (nx, ls, .ref (a + 1 + 9 * i.toNatClampNeg) :: rest, h)) := by
  simp only [s_aald, mm_pI, mm_pA, hs, if_true]
theorem q_iast {a n : Nat} {i v : Int32} (hs : mm_sh a = (1, n)) : s_iast nx C ls (.int v :: .int i :: .ref a :: rest) h = if i < 0 ∨ n ≤ i.toNatClampNeg then none else some (.inl (nx, ls, rest, wI h a i.toNatClampNeg v)) := by
  simp only [s_iast, mm_pI, mm_pA, hs, if_true, wI]
theorem q_last {a n : Nat} {i : Int32} {v : Int64} (hs : mm_sh a = (2, n)) : s_last nx C ls (.long v :: .int i :: .ref a :: rest) h = if i < 0 ∨ n ≤ i.toNatClampNeg then none else some (.inl (nx, ls, rest, wL h a i.toNatClampNeg v)) := by
  simp only [s_last, mm_pL, mm_pI, mm_pA, hs, if_true, wL]
theorem q_zast0 {a n : Nat} {i : Int32} (hs : mm_sh a = (4, n)) : s_zast nx C ls (.int 0 :: .int i :: .ref a :: rest) h = if i < 0 ∨ n ≤ i.toNatClampNeg then none else some (.inl (nx, ls, rest, wI h a i.toNatClampNeg 0)) := by
  simp only [s_zast, mm_pI, mm_pA, hs, if_true, wI]
  rfl
theorem q_zast1 {a n : Nat} {i : Int32} (hs : mm_sh a = (4, n)) : s_zast nx C ls (.int 1 :: .int i :: .ref a :: rest) h = if i < 0 ∨ n ≤ i.toNatClampNeg then none else some (.inl (nx, ls, rest, wI h a i.toNatClampNeg 1)) := by
  simp only [s_zast, mm_pI, mm_pA, hs, if_true, wI]
  rfl
theorem q_alen {a k n : Nat} (hs : mm_sh a = (k, n)) (h1 : 0 < k) (h2 : k < 5) : s_alen nx C ls (.ref a :: rest) h = some (.inl (nx, ls, .int (Int32.ofNat n) :: rest, h)) := by
  simp only [s_alen, mm_pA, hs, h1, h2, and_self, if_true]
end UNF

theorem q_copy {C : mm_C mm_H} {nx : Nat} {ls rest : List Value} {h : mm_H} {a a0 n0 n1 k : Nat} {n : Int32} (hs : mm_sh a = (1, n1)) (hs0 : mm_sh a0 = (1, n0)) (hn : ¬ n < 0 ∧ n.toNatClampNeg = k) (hk : k ≤ n0 ∧ k ≤ n1) (hr : (rest.map fun v => v.category).sum ≤ 8) : s_copy nx C ls (.int n :: .int 0 :: .ref a :: .int 0 :: .ref a0 :: rest) h = some (.inl (nx, ls, rest, wC h a0 a 0 0 k)) := by
  have e0 : (0 : Int32).toNatClampNeg = 0 := by decide
  simp only [s_copy, mm_pI, mm_pA, hs, hs0, e0, Nat.zero_add, hn.2]
  rw [if_pos ⟨trivial, trivial, by decide, by decide, hn.1, hk.1, hk.2, hr⟩]
  rfl
def mm_nr (ty : FieldType) (x : Int32) (h : mm_H) : mm_X := if narrow ty (.int x) = .int x then some (some (.int x), h) else none
theorem mm_nend {C : mm_C mm_H} {cd : mm_K mm_H} {pc : Nat} {ls : List Value} {h : mm_H} {ty : FieldType} {x : Int32} (hf : mm_get cd pc = some (s_nret ty)) : mm_D C cd pc ls [.int x] h = mm_nr ty x h := by
  rw [mm_D_step hf]
  show mm_next C cd (if narrow ty (.int x) = .int x then some (.inr (some (.int x), h)) else none) = _
  unfold mm_nr
  by_cases hc : narrow ty (.int x) = .int x
  · rw [if_pos hc, if_pos hc]; rfl
  · rw [if_neg hc, if_neg hc]; rfl
theorem mm_miss {C : mm_C mm_H} {cd : mm_K mm_H} {pc : Nat} {ls st : List Value} {h : mm_H} (hf : mm_get cd pc = none) : mm_D C cd pc ls st h = none := by
  cases hd : mm_D C cd pc ls st h with
  | none => rfl
  | some r =>
    obtain ⟨n, hn⟩ := mm_D_iff.mp hd
    cases n with
    | zero => cases hn
    | succ n =>
      unfold mm_run at hn
      rw [hf] at hn
      cases hn

/-! the kinds that there are more of: scenes, codes, tolds, by their handles (printed by program) -/
def mm_isS (s : Nat) : Prop := s ∈ [13, 24, 33, 42, 51, 60, 69, 78, 87, 96, 105, 114, 123, 132, 141, 150, 159, 168, 177, 186, 195, 205, 220, 231, 248]
theorem isS_0 {s : Nat} (h : mm_isS s) : mm_sh (s + 0) = (0, 7) := (show ∀ x ∈ [13, 24, 33, 42, 51, 60, 69, 78, 87, 96, 105, 114, 123, 132, 141, 150, 159, 168, 177, 186, 195, 205, 220, 231, 248], mm_sh (x + 0) = (0, 7) by decide +kernel) s h
theorem isS_1 {s : Nat} (h : mm_isS s) : mm_sh (s + 1) = (1, 8) := (show ∀ x ∈ [13, 24, 33, 42, 51, 60, 69, 78, 87, 96, 105, 114, 123, 132, 141, 150, 159, 168, 177, 186, 195, 205, 220, 231, 248], mm_sh (x + 1) = (1, 8) by decide +kernel) s h
theorem isS_2 {s : Nat} (h : mm_isS s) : mm_sh (s + 2) = (1, 8) := (show ∀ x ∈ [13, 24, 33, 42, 51, 60, 69, 78, 87, 96, 105, 114, 123, 132, 141, 150, 159, 168, 177, 186, 195, 205, 220, 231, 248], mm_sh (x + 2) = (1, 8) by decide +kernel) s h
theorem isS_3 {s : Nat} (h : mm_isS s) : mm_sh (s + 3) = (1, 8) := (show ∀ x ∈ [13, 24, 33, 42, 51, 60, 69, 78, 87, 96, 105, 114, 123, 132, 141, 150, 159, 168, 177, 186, 195, 205, 220, 231, 248], mm_sh (x + 3) = (1, 8) by decide +kernel) s h
theorem isS_4 {s : Nat} (h : mm_isS s) : mm_sh (s + 4) = (1, 8) := (show ∀ x ∈ [13, 24, 33, 42, 51, 60, 69, 78, 87, 96, 105, 114, 123, 132, 141, 150, 159, 168, 177, 186, 195, 205, 220, 231, 248], mm_sh (x + 4) = (1, 8) by decide +kernel) s h
theorem isS_5 {s : Nat} (h : mm_isS s) : mm_sh (s + 5) = (1, 8) := (show ∀ x ∈ [13, 24, 33, 42, 51, 60, 69, 78, 87, 96, 105, 114, 123, 132, 141, 150, 159, 168, 177, 186, 195, 205, 220, 231, 248], mm_sh (x + 5) = (1, 8) by decide +kernel) s h
theorem isS_6 {s : Nat} (h : mm_isS s) : mm_sh (s + 6) = (1, 64) := (show ∀ x ∈ [13, 24, 33, 42, 51, 60, 69, 78, 87, 96, 105, 114, 123, 132, 141, 150, 159, 168, 177, 186, 195, 205, 220, 231, 248], mm_sh (x + 6) = (1, 64) by decide +kernel) s h
theorem isS_7 {s : Nat} (h : mm_isS s) : mm_sh (s + 7) = (1, 9) := (show ∀ x ∈ [13, 24, 33, 42, 51, 60, 69, 78, 87, 96, 105, 114, 123, 132, 141, 150, 159, 168, 177, 186, 195, 205, 220, 231, 248], mm_sh (x + 7) = (1, 9) by decide +kernel) s h
theorem isS_8 {s : Nat} (h : mm_isS s) : mm_sh (s + 8) = (1, 40) := (show ∀ x ∈ [13, 24, 33, 42, 51, 60, 69, 78, 87, 96, 105, 114, 123, 132, 141, 150, 159, 168, 177, 186, 195, 205, 220, 231, 248], mm_sh (x + 8) = (1, 40) by decide +kernel) s h
def mm_isT (t : Nat) : Prop := t ∈ [230, 247]
theorem isT_0 {t : Nat} (h : mm_isT t) : mm_sh (t + 0) = (0, 10) := (show ∀ x ∈ [230, 247], mm_sh (x + 0) = (0, 10) by decide +kernel) t h
theorem isT_1 {t : Nat} (h : mm_isT t) : mm_sh (t + 1) = (0, 7) := (show ∀ x ∈ [230, 247], mm_sh (x + 1) = (0, 7) by decide +kernel) t h
theorem isT_2 {t : Nat} (h : mm_isT t) : mm_sh (t + 2) = (1, 8) := (show ∀ x ∈ [230, 247], mm_sh (x + 2) = (1, 8) by decide +kernel) t h
theorem isT_3 {t : Nat} (h : mm_isT t) : mm_sh (t + 3) = (1, 8) := (show ∀ x ∈ [230, 247], mm_sh (x + 3) = (1, 8) by decide +kernel) t h
theorem isT_4 {t : Nat} (h : mm_isT t) : mm_sh (t + 4) = (1, 8) := (show ∀ x ∈ [230, 247], mm_sh (x + 4) = (1, 8) by decide +kernel) t h
theorem isT_5 {t : Nat} (h : mm_isT t) : mm_sh (t + 5) = (1, 8) := (show ∀ x ∈ [230, 247], mm_sh (x + 5) = (1, 8) by decide +kernel) t h
theorem isT_6 {t : Nat} (h : mm_isT t) : mm_sh (t + 6) = (1, 8) := (show ∀ x ∈ [230, 247], mm_sh (x + 6) = (1, 8) by decide +kernel) t h
theorem isT_7 {t : Nat} (h : mm_isT t) : mm_sh (t + 7) = (1, 64) := (show ∀ x ∈ [230, 247], mm_sh (x + 7) = (1, 64) by decide +kernel) t h
theorem isT_8 {t : Nat} (h : mm_isT t) : mm_sh (t + 8) = (1, 9) := (show ∀ x ∈ [230, 247], mm_sh (x + 8) = (1, 9) by decide +kernel) t h
theorem isT_9 {t : Nat} (h : mm_isT t) : mm_sh (t + 9) = (1, 40) := (show ∀ x ∈ [230, 247], mm_sh (x + 9) = (1, 40) by decide +kernel) t h
theorem isT_10 {t : Nat} (h : mm_isT t) : mm_sh (t + 10) = (0, 1) := (show ∀ x ∈ [230, 247], mm_sh (x + 10) = (0, 1) by decide +kernel) t h
theorem isT_11 {t : Nat} (h : mm_isT t) : mm_sh (t + 11) = (1, 1620) := (show ∀ x ∈ [230, 247], mm_sh (x + 11) = (1, 1620) by decide +kernel) t h
theorem isT_12 {t : Nat} (h : mm_isT t) : mm_sh (t + 12) = (1, 4) := (show ∀ x ∈ [230, 247], mm_sh (x + 12) = (1, 4) by decide +kernel) t h
theorem isT_13 {t : Nat} (h : mm_isT t) : mm_sh (t + 13) = (1, 4) := (show ∀ x ∈ [230, 247], mm_sh (x + 13) = (1, 4) by decide +kernel) t h
theorem isT_14 {t : Nat} (h : mm_isT t) : mm_sh (t + 14) = (1, 25) := (show ∀ x ∈ [230, 247], mm_sh (x + 14) = (1, 25) by decide +kernel) t h
theorem isT_15 {t : Nat} (h : mm_isT t) : mm_sh (t + 15) = (1, 64) := (show ∀ x ∈ [230, 247], mm_sh (x + 15) = (1, 64) by decide +kernel) t h
theorem isT_16 {t : Nat} (h : mm_isT t) : mm_sh (t + 16) = (1, 48) := (show ∀ x ∈ [230, 247], mm_sh (x + 16) = (1, 48) by decide +kernel) t h
def mm_isC (c : Nat) : Prop := c ∈ [5, 240, 257]
theorem isC_0 {c : Nat} (h : mm_isC c) : mm_sh (c + 0) = (0, 1) := (show ∀ x ∈ [5, 240, 257], mm_sh (x + 0) = (0, 1) by decide +kernel) c h
theorem isC_1 {c : Nat} (h : mm_isC c) : mm_sh (c + 1) = (1, 1620) := (show ∀ x ∈ [5, 240, 257], mm_sh (x + 1) = (1, 1620) by decide +kernel) c h
theorem isC_2 {c : Nat} (h : mm_isC c) : mm_sh (c + 2) = (1, 4) := (show ∀ x ∈ [5, 240, 257], mm_sh (x + 2) = (1, 4) by decide +kernel) c h
theorem isC_3 {c : Nat} (h : mm_isC c) : mm_sh (c + 3) = (1, 4) := (show ∀ x ∈ [5, 240, 257], mm_sh (x + 3) = (1, 4) by decide +kernel) c h
theorem isC_4 {c : Nat} (h : mm_isC c) : mm_sh (c + 4) = (1, 25) := (show ∀ x ∈ [5, 240, 257], mm_sh (x + 4) = (1, 25) by decide +kernel) c h
theorem isC_5 {c : Nat} (h : mm_isC c) : mm_sh (c + 5) = (1, 64) := (show ∀ x ∈ [5, 240, 257], mm_sh (x + 5) = (1, 64) by decide +kernel) c h
theorem isT_S {t : Nat} (h : mm_isT t) : mm_isS (t + 1) := (show ∀ x ∈ [230, 247], (x + 1) ∈ [13, 24, 33, 42, 51, 60, 69, 78, 87, 96, 105, 114, 123, 132, 141, 150, 159, 168, 177, 186, 195, 205, 220, 231, 248] by decide +kernel) t h
theorem isT_C {t : Nat} (h : mm_isT t) : mm_isC (t + 10) := (show ∀ x ∈ [230, 247], (x + 10) ∈ [5, 240, 257] by decide +kernel) t h
