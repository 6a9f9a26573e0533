/-! our heap: ints, longs, the few references that change; all else of the cells stands fixed (printed by program out of the constructors) -/
abbrev mm_H : Type := (Nat → Nat → Int32) × (Nat → Nat → Int64) × (Nat → Nat → Nat)
def mm_N : Nat := 336
def mm_shL : List (Nat × Nat) := [(0, 11), (0, 8), (1, 1600), (0, 6), (0, 5), (0, 1), (1, 1620), (1, 4), (1, 4), (1, 25), (1, 64), (0, 2), (0, 9), (0, 7), (1, 8), (1, 8), (1, 8), (1, 8), (1, 8), (1, 64), (1, 9), (1, 40), (0, 3), (5, 20), (0, 7), (1, 8), (1, 8), (1, 8), (1, 8), (1, 8), (1, 64), (1, 9), (1, 40), (0, 7), (1, 8), (1, 8), (1, 8), (1, 8), (1, 8), (1, 64), (1, 9), (1, 40), (0, 7), (1, 8), (1, 8), (1, 8), (1, 8), (1, 8), (1, 64), (1, 9), (1, 40), (0, 7), (1, 8), (1, 8), (1, 8), (1, 8), (1, 8), (1, 64), (1, 9), (1, 40), (0, 7), (1, 8), (1, 8), (1, 8), (1, 8), (1, 8), (1, 64), (1, 9), (1, 40), (0, 7), (1, 8), (1, 8), (1, 8), (1, 8), (1, 8), (1, 64), (1, 9), (1, 40), (0, 7), (1, 8), (1, 8), (1, 8), (1, 8), (1, 8), (1, 64), (1, 9), (1, 40), (0, 7), (1, 8), (1, 8), (1, 8), (1, 8), (1, 8), (1, 64), (1, 9), (1, 40), (0, 7), (1, 8), (1, 8), (1, 8), (1, 8), (1, 8), (1, 64), (1, 9), (1, 40), (0, 7), (1, 8), (1, 8), (1, 8), (1, 8), (1, 8), (1, 64), (1, 9), (1, 40), (0, 7), (1, 8), (1, 8), (1, 8), (1, 8), (1, 8), (1, 64), (1, 9), (1, 40), (0, 7), (1, 8), (1, 8), (1, 8), (1, 8), (1, 8), (1, 64), (1, 9), (1, 40), (0, 7), (1, 8), (1, 8), (1, 8), (1, 8), (1, 8), (1, 64), (1, 9), (1, 40), (0, 7), (1, 8), (1, 8), (1, 8), (1, 8), (1, 8), (1, 64), (1, 9), (1, 40), (0, 7), (1, 8), (1, 8), (1, 8), (1, 8), (1, 8), (1, 64), (1, 9), (1, 40), (0, 7), (1, 8), (1, 8), (1, 8), (1, 8), (1, 8), (1, 64), (1, 9), (1, 40), (0, 7), (1, 8), (1, 8), (1, 8), (1, 8), (1, 8), (1, 64), (1, 9), (1, 40), (0, 7), (1, 8), (1, 8), (1, 8), (1, 8), (1, 8), (1, 64), (1, 9), (1, 40), (0, 7), (1, 8), (1, 8), (1, 8), (1, 8), (1, 8), (1, 64), (1, 9), (1, 40), (0, 7), (1, 8), (1, 8), (1, 8), (1, 8), (1, 8), (1, 64), (1, 9), (1, 40), (0, 0), (0, 7), (1, 8), (1, 8), (1, 8), (1, 8), (1, 8), (1, 64), (1, 9), (1, 40), (1, 48), (1, 2048), (4, 256), (1, 310), (0, 4), (1, 83), (0, 7), (1, 8), (1, 8), (1, 8), (1, 8), (1, 8), (1, 64), (1, 9), (1, 40), (1, 6), (0, 10), (0, 7), (1, 8), (1, 8), (1, 8), (1, 8), (1, 8), (1, 64), (1, 9), (1, 40), (0, 1), (1, 1620), (1, 4), (1, 4), (1, 25), (1, 64), (1, 48), (0, 10), (0, 7), (1, 8), (1, 8), (1, 8), (1, 8), (1, 8), (1, 64), (1, 9), (1, 40), (0, 1), (1, 1620), (1, 4), (1, 4), (1, 25), (1, 64), (1, 48), (0, 12), (1, 1600), (1, 6), (3, 7), (3, 4), (3, 2), (3, 4), (3, 4), (3, 6), (3, 2), (3, 6), (3, 5), (3, 4), (3, 4), (3, 4), (3, 4), (3, 4), (3, 4), (3, 4), (3, 6), (3, 5), (3, 6), (3, 2), (3, 3), (3, 3), (3, 3), (3, 3), (3, 3), (2, 16), (1, 8), (1, 16), (1, 16), (1, 64), (1, 6), (1, 6), (1, 3200), (1, 210), (1, 89), (1, 2048), (1, 48), (1, 310), (4, 10), (1, 4200), (3, 5), (3, 4), (3, 5), (3, 5), (3, 4), (3, 5), (3, 3), (3, 3), (3, 2), (3, 3), (3, 3), (3, 3), (3, 4), (3, 4), (3, 6), (3, 4), (3, 4), (3, 4), (3, 4), (3, 4), (3, 6), (3, 5), (3, 6), (3, 6), (3, 4), (1, 1700), (1, 1700), (2, 1700), (1, 83)]
def mm_sh (a : Nat) : Nat × Nat := mm_shL.getD a (9, 0)
def mm_fkL : List (List (Nat × Nat)) := [[(3, 1), (3, 10), (0, 0), (3, 11), (3, 12), (3, 13), (0, 0), (0, 0), (0, 0), (0, 0), (0, 0)], [(3, 1), (3, 2), (3, 3), (3, 4), (3, 5), (0, 0), (0, 0)], [(4, 3), (5, 0), (0, 0)], [(3, 1), (0, 0), (0, 0)], [(3, 1), (0, 0), (0, 0), (3, 2)], [(3, 1), (0, 0)], [(4, 1), (0, 0), (0, 0), (0, 0), (0, 0), (0, 0), (0, 0)], [(3, 1), (3, 2), (3, 3), (3, 4), (3, 5), (3, 6), (3, 7), (3, 8), (0, 0), (0, 0), (0, 0), (0, 0)], [(3, 1), (0, 0)], [(4, 3), (4, 11)], [(3, 1), (3, 10), (3, 16), (0, 0), (0, 0)], [(3, 1), (3, 3), (3, 11), (3, 12), (3, 4), (3, 13), (3, 22), (3, 204), (3, 218), (3, 229), (5, 0), (5, 0), (1, 0), (0, 0)], [(3, 1), (0, 0), (0, 0), (0, 0), (0, 0), (0, 0), (0, 0), (0, 0), (0, 0), (3, 2), (0, 0), (3, 3), (3, 4), (3, 5), (3, 6), (3, 7), (3, 8), (3, 9), (3, 10), (3, 11), (3, 12), (3, 13), (3, 14), (3, 15), (3, 16), (3, 17), (3, 18), (3, 19), (3, 20), (3, 21), (3, 22), (3, 23), (3, 24), (3, 25), (3, 26), (3, 27), (0, 0), (0, 0), (0, 0), (0, 0), (0, 0), (3, 28), (3, 29), (3, 30), (3, 31), (3, 32), (0, 0), (0, 0), (3, 33), (3, 34), (3, 35), (0, 0), (0, 0), (1, 0), (0, 0), (3, 36), (3, 37), (0, 0), (0, 0), (0, 0), (0, 0), (0, 0), (0, 0), (0, 0), (1, 0), (0, 0), (3, 38), (0, 0), (3, 39), (3, 40), (3, 41), (0, 0), (3, 42), (0, 0), (0, 0), (2, 0), (3, 43), (3, 44), (3, 45), (3, 46), (3, 47), (3, 48), (3, 49), (3, 50), (3, 51), (3, 52), (3, 53), (3, 54), (3, 55), (3, 56), (3, 57), (3, 58), (3, 59), (3, 60), (3, 61), (3, 62), (3, 63), (3, 64), (3, 65), (3, 66), (3, 67), (3, 68), (0, 0), (3, 69), (0, 0), (0, 0), (0, 0), (3, 70), (0, 0), (2, 0), (1, 0), (3, 71), (0, 0)]]
def mm_txt : List Int32 := [116, 101, 114, 114, 97, 99, 101, 32, 115, 111, 117, 108, 32, 97, 116, 32, 102, 97, 99, 101, 32, 107, 105, 110, 100, 32, 116, 104, 105, 110, 107, 115, 32, 111, 102, 32, 112, 97, 105, 110, 116, 115, 32, 109, 105, 110, 100, 115, 32, 102, 101, 117, 100, 32, 115, 108, 105, 112, 32, 108, 111, 111, 107, 32, 115, 105, 100, 101, 32, 103, 97, 105, 110, 32, 98, 97, 99, 107, 32, 121, 101, 97, 114, 32, 110, 117, 109, 98, 101, 114, 32, 104, 111, 117, 115, 101, 32, 115, 112, 97, 114, 101, 115, 32, 111, 114, 32, 97, 110, 100, 32, 110, 111, 116, 32, 97, 108, 108, 32, 109, 105, 110, 32, 109, 97, 120, 32, 102, 105, 114, 115, 116, 32, 108, 97, 115, 116, 32, 111, 102, 116, 101, 110, 32, 116, 111, 116, 97, 108, 32, 109, 111, 115, 116, 32, 108, 101, 97, 115, 116, 32]
def mm_text : String := "terrace soul at face kind thinks of paints minds feud slip look side gain back year number house spares or and not all min max first last often total most least "
def mm_STR : Nat := 336
def mm_BYT : Nat := 337
def mm_SCR : Nat := 338
def mm_fk (ci k : Nat) : Nat × Nat := (mm_fkL.getD ci []).getD k (9, 0)
def mm_nf (ci : Nat) : Nat := (mm_fkL.getD ci []).length
theorem mm_sh_len : mm_shL.length = mm_N := by decide +kernel
theorem mm_sh_lt {a : Nat} (h : (mm_sh a).1 < 9) : a < mm_N := by
  rcases Nat.lt_or_ge a mm_N with q | q
  · exact q
  · exfalso
    rw [mm_sh, List.getD_eq_getElem?_getD, List.getElem?_eq_none (by rw [mm_sh_len]; exact q)] at h
    exact absurd h (by decide)
theorem mm_sh_lt0 {a k n : Nat} (h : mm_sh a = (k, n)) (hk : k < 9) : a < mm_N := mm_sh_lt (by rw [h]; exact hk)
def mm_fw (h : mm_H) (a ci k : Nat) : Value := match (mm_fk ci k).1 with
  | 0 => .int (h.1 a k)
  | 1 => .int (h.1 a k)
  | 2 => .long (h.2.1 a k)
  | 3 => .ref (a + (mm_fk ci k).2)
  | 4 => .ref (mm_fk ci k).2
  | _ => .ref (h.2.2 a k)
def mm_ob (σ : Nat → Nat) (h : mm_H) (a ci : Nat) : List Value := (List.range (mm_nf ci)).map (fun k => mm_v σ (mm_fw h a ci k))
def mm_E (σ : Nat → Nat) (cA : Nat → ClassId) (h : mm_H) (a : Nat) : va_E := match (mm_sh a).1 with
  | 0 => .inr ((mm_sh a).2, mm_ob σ h a (mm_sh a).2)
  | 1 => .inl (cA 1, (mm_sh a).2, .inl (h.1 a))
  | 2 => .inl (cA 2, (mm_sh a).2, .inr (.inl (h.2.1 a)))
  | 3 => .inl (cA 3, (mm_sh a).2, .inl (h.1 a))
  | 4 => .inl (cA 4, (mm_sh a).2, .inl (h.1 a))
  | _ => .inl (cA 5, (mm_sh a).2, .inr (.inr (.inr (.inr (fun j => some (σ (a + 1 + 9 * j)))))))
def mm_tys (cA : Nat → ClassId) : List (ClassId × FieldType) := [(cA 1, .int), (cA 2, .long), (cA 3, .char), (cA 4, .boolean), (cA 5, .object RX7)]
def mm_ws (σ : Nat → Nat) (cA : Nat → ClassId) (h : mm_H) : va_W := (List.range mm_N).map (fun a => (σ a, mm_E σ cA h a))
theorem mm_ws_at {σ : Nat → Nat} {cA : Nat → ClassId} {h : mm_H} {a : Nat} (ha : a < mm_N) : (mm_ws σ cA h)[a]? = some (σ a, mm_E σ cA h a) := by
  rw [mm_ws, List.getElem?_map, List.getElem?_range ha]
  rfl
theorem mm_ws_inv {σ : Nat → Nat} {cA : Nat → ClassId} {h : mm_H} {k : Nat} {q : Nat × va_E} (hq : (mm_ws σ cA h)[k]? = some q) : k < mm_N ∧ q = (σ k, mm_E σ cA h k) := by
  have hk : k < mm_N := by
    have h1 := (List.getElem?_eq_some_iff.mp hq).1
    rw [mm_ws, List.length_map, List.length_range] at h1
    exact h1
  rw [mm_ws_at hk] at hq
  exact ⟨hk, (Option.some.inj hq).symm⟩
theorem mm_ws_set {σ : Nat → Nat} {cA : Nat → ClassId} {h h' : mm_H} {a : Nat} (ha : a < mm_N) (hE : ∀ b, b ≠ a → mm_E σ cA h' b = mm_E σ cA h b) : (mm_ws σ cA h).set a (σ a, mm_E σ cA h' a) = mm_ws σ cA h' := by
  apply List.ext_getElem?
  intro j
  by_cases hj : j = a
  · subst hj
    rw [List.getElem?_set_self (by rw [mm_ws, List.length_map, List.length_range]; exact ha), mm_ws_at ha]
  · rw [List.getElem?_set_ne (fun q => hj q.symm)]
    rcases Nat.lt_or_ge j mm_N with q | q
    · rw [mm_ws_at q, mm_ws_at q, hE j hj]
    · rw [List.getElem?_eq_none (by rw [mm_ws, List.length_map, List.length_range]; exact q), List.getElem?_eq_none (by rw [mm_ws, List.length_map, List.length_range]; exact q)]
theorem mm_E_row {σ : Nat → Nat} {cA : Nat → ClassId} {h h' : mm_H} {b : Nat} (h1 : h'.1 b = h.1 b) (h2 : h'.2.1 b = h.2.1 b) (h3 : h'.2.2 b = h.2.2 b) : mm_E σ cA h' b = mm_E σ cA h b := by
  simp only [mm_E, mm_ob, mm_fw, h1, h2, h3]
def mm_A (σ : Nat → Nat) : Nat → Prop := fun q => ∃ a, a < mm_N ∧ σ a = q
def mm_W0 (σ : Nat → Nat) (cA : Nat → ClassId) (D : va_G) (A : Nat → Prop) (U : State) : Prop := va_K D vwCl (mm_tys cA) U ∧ (∀ a b, a < mm_N → b < mm_N → σ a = σ b → a = b) ∧ ∀ a, a < mm_N → A (σ a)
theorem mm_W0.D {σ : Nat → Nat} {cA : Nat → ClassId} {D : va_G} {A : Nat → Prop} {U : State} (w : mm_W0 σ cA D A U) (h : mm_H) : va_D A (mm_ws σ cA h) := by
  refine ⟨fun i j x y hi hj hxy => ?_, fun k q hk => ?_⟩
  · obtain ⟨a1, a2⟩ := mm_ws_inv hi
    obtain ⟨b1, b2⟩ := mm_ws_inv hj
    rw [a2, b2] at hxy
    exact w.2.1 i j a1 b1 hxy
  · obtain ⟨a1, a2⟩ := mm_ws_inv hk
    rw [a2]
    exact w.2.2 k a1
/-- the tables' words that every method may be told, and those that go by the nest -/
def mm_tb : List Cond := lw_tbl.filter goodWord
def mm_isN : Cond → Bool
  | .fieldLinkNest .. => true
  | .methodLinkNest .. => true
  | _ => false
def mm_nw : List Cond := lw_tbl.filter mm_isN
theorem mm_inN {w : Cond} (h : w ∈ lw_tbl) (hg : mm_isN w = true) : w ∈ mm_nw := List.mem_filter.mpr ⟨h, hg⟩
theorem mm_Nw_warm {w : Cond} {s U : State} (hg : mm_isN w = true) (hW : s.WarmedH U.vm) (h : va_Nw w s) : va_Nw w U := by
  cases w <;> first | exact va_Nw.warmF hW h | exact va_Nw.warmM hW h | cases hg
theorem mm_Nw_same {w : Cond} {u U : State} (hg : mm_isN w = true) (hv : u.vm = U.vm) (h : va_Nw w u) : va_Nw w U := by
  cases w <;> first | exact va_Nw.same rfl hv h | cases hg
/-- what stands outside: the text of the words, a static, the words by the nest -/
def mm_Ext (σ : Nat → Nat) (A : Nat → Prop) (U : State) (H : Heap) : Prop :=
  vk_R RX6 91 mm_text (σ mm_STR) U ∧ va_Z "java/lang/String" "COMPACT_STRINGS" "Z" (.int 1) A U H ∧ va_O "java/lang/String" (σ mm_STR) A U H ∧ va_OF "java/lang/String" "coder" "B" (.int 0) (σ mm_STR) A U H ∧ va_OF "java/lang/String" "value" "[B" (.ref (σ mm_BYT)) (σ mm_STR) A U H ∧ va_T .byte (σ mm_BYT) mm_txt.length (fun j => .int (mm_txt.getD j 0)) A U H ∧ (∀ w ∈ mm_nw, va_Nw w U) ∧ va_Zq "jdk/internal/util/Preconditions" "SIOOBE_FORMATTER" "Ljava/util/function/BiFunction;" A U H
theorem mm_Ext.kept {σ : Nat → Nat} {A : Nat → Prop} {U : State} {H H1 : Heap} (h : mm_Ext σ A U H) (hq : ∀ a : Nat, a < H.size → ¬ A a → H1[a]? = H[a]?) : mm_Ext σ A U H1 := ⟨h.1, h.2.1.kept hq, h.2.2.1.kept hq, h.2.2.2.1.kept hq, h.2.2.2.2.1.kept hq, h.2.2.2.2.2.1.kept hq, h.2.2.2.2.2.2.1, h.2.2.2.2.2.2.2.kept hq⟩
theorem mm_Ext.warm {σ : Nat → Nat} {A : Nat → Prop} {s U : State} {H : Heap} (hW : s.WarmedH U.vm) (h : mm_Ext σ A s H) : mm_Ext σ A U H := ⟨h.1.warm hW, h.2.1.moved hW.alike, h.2.2.1.moved hW.alike, h.2.2.2.1.moved hW.alike, h.2.2.2.2.1.moved hW.alike, h.2.2.2.2.2.1.moved hW.alike, fun w hw => mm_Nw_warm (List.mem_filter.mp hw).2 hW (h.2.2.2.2.2.2.1 w hw), h.2.2.2.2.2.2.2.moved hW.alike⟩
theorem mm_Ext.same {σ : Nat → Nat} {A : Nat → Prop} {u U : State} {H : Heap} (hv : U.vm = u.vm) (h : mm_Ext σ A u H) : mm_Ext σ A U H := by
  have ha : u.vm.Alike U.vm := by rw [hv]; exact Vm.Alike.refl _
  exact ⟨h.1.same hv, h.2.1.moved ha, h.2.2.1.moved ha, h.2.2.2.1.moved ha, h.2.2.2.2.1.moved ha, h.2.2.2.2.2.1.moved ha, fun w hw => mm_Nw_same (List.mem_filter.mp hw).2 hv.symm (h.2.2.2.2.2.2.1 w hw), h.2.2.2.2.2.2.2.moved ha⟩
theorem mm_Ext.narrow {σ : Nat → Nat} {A B : Nat → Prop} {U : State} {H : Heap} (h : mm_Ext σ A U H) (hAB : ∀ q, B q → A q) : mm_Ext σ B U H := ⟨h.1, h.2.1.narrow hAB, h.2.2.1.narrow hAB, h.2.2.2.1.narrow hAB, h.2.2.2.2.1.narrow hAB, h.2.2.2.2.2.1.narrow hAB, h.2.2.2.2.2.2.1, h.2.2.2.2.2.2.2.narrow hAB⟩
theorem mm_W0.warm {σ : Nat → Nat} {cA : Nat → ClassId} {D : va_G} {A : Nat → Prop} {s U : State} (hW : s.vm.Alike U.vm) (h : mm_W0 σ cA D A s) : mm_W0 σ cA D A U := ⟨h.1.moved hW, h.2⟩
/-- how our heap stands in the JVM's while no cell is made -/
def mm_Rz (σ : Nat → Nat) (cA : Nat → ClassId) (D : va_G) (A : Nat → Prop) (H0 : Heap) (kc ks : Nat) (h : mm_H) (H : Heap) (locs : List Loc) (cells slots : Nat) : Prop := va_P D vwCl (mm_ws σ cA h) H ∧ va_S A H0 H locs ∧ cells = kc ∧ slots = ks
/-! the changes -/
def mm_u (f : Nat → Nat → Int32) (a k : Nat) (v : Int32) : Nat → Nat → Int32 := fun b => if b = a then upd (f a) k v else f b
def mm_uL (f : Nat → Nat → Int64) (a k : Nat) (v : Int64) : Nat → Nat → Int64 := fun b => if b = a then vp_updL (f a) k v else f b
def mm_uR (f : Nat → Nat → Nat) (a k : Nat) (v : Nat) : Nat → Nat → Nat := fun b => if b = a then va_up (f a) k v else f b
def mm_cp (f : Nat → Nat → Int32) (a0 a : Nat) (sp dp n : Nat) : Nat → Nat → Int32 := fun b => if b = a then va_cpy (f a0) (f a) sp dp n else f b
theorem mm_ob_at {σ : Nat → Nat} {h : mm_H} {a ci k : Nat} (hk : k < mm_nf ci) : (mm_ob σ h a ci)[k]? = some (mm_v σ (mm_fw h a ci k)) := by
  rw [mm_ob, List.getElem?_map, List.getElem?_range hk]
  rfl
theorem mm_ob_set {σ : Nat → Nat} {h h' : mm_H} {a ci k : Nat} {v : Value} (hv : mm_v σ (mm_fw h' a ci k) = v) (hE : ∀ j, j ≠ k → mm_fw h' a ci j = mm_fw h a ci j) : (mm_ob σ h a ci).set k v = mm_ob σ h' a ci := by
  apply List.ext_getElem?
  intro j
  rcases Nat.lt_or_ge j (mm_nf ci) with q | q
  · by_cases hj : j = k
    · subst hj
      rw [List.getElem?_set_self (by rw [mm_ob, List.length_map, List.length_range]; exact q), mm_ob_at q, hv]
    · rw [List.getElem?_set_ne (fun z => hj z.symm), mm_ob_at q, mm_ob_at q, hE j hj]
  · rw [List.getElem?_eq_none (by rw [List.length_set, mm_ob, List.length_map, List.length_range]; exact q), List.getElem?_eq_none (by rw [mm_ob, List.length_map, List.length_range]; exact q)]
theorem mm_E_ob {σ : Nat → Nat} {cA : Nat → ClassId} {h : mm_H} {a ci : Nat} (hs : mm_sh a = (0, ci)) : mm_E σ cA h a = .inr (ci, mm_ob σ h a ci) := by
  simp only [mm_E, hs]
theorem mm_E_1 {σ : Nat → Nat} {cA : Nat → ClassId} {h : mm_H} {a n : Nat} (hs : mm_sh a = (1, n)) : mm_E σ cA h a = .inl (cA 1, n, .inl (h.1 a)) := by
  simp only [mm_E, hs]
theorem mm_E_2 {σ : Nat → Nat} {cA : Nat → ClassId} {h : mm_H} {a n : Nat} (hs : mm_sh a = (2, n)) : mm_E σ cA h a = .inl (cA 2, n, .inr (.inl (h.2.1 a))) := by
  simp only [mm_E, hs]
theorem mm_E_3 {σ : Nat → Nat} {cA : Nat → ClassId} {h : mm_H} {a n : Nat} (hs : mm_sh a = (3, n)) : mm_E σ cA h a = .inl (cA 3, n, .inl (h.1 a)) := by
  simp only [mm_E, hs]
theorem mm_E_4 {σ : Nat → Nat} {cA : Nat → ClassId} {h : mm_H} {a n : Nat} (hs : mm_sh a = (4, n)) : mm_E σ cA h a = .inl (cA 4, n, .inl (h.1 a)) := by
  simp only [mm_E, hs]
theorem mm_E_5 {σ : Nat → Nat} {cA : Nat → ClassId} {h : mm_H} {a n : Nat} (hs : mm_sh a = (5, n)) : mm_E σ cA h a = .inl (cA 5, n, .inr (.inr (.inr (.inr (fun j => some (σ (a + 1 + 9 * j))))))) := by
  simp only [mm_E, hs]
/-! the steps on the heap -/
def s_get (ci k nx : Nat) : mm_S mm_H := fun _ ls st h => mm_pA st fun a st => if mm_sh a = (0, ci) then some (.inl (nx, ls, mm_fw h a ci k :: st, h)) else none
def s_putI (ci k nx : Nat) : mm_S mm_H := fun _ ls st h => mm_pI st fun v st => mm_pA st fun a st => if mm_sh a = (0, ci) then some (.inl (nx, ls, st, (mm_u h.1 a k v, h.2))) else none
def s_putZ (ci k nx : Nat) : mm_S mm_H := fun _ ls st h => mm_pI st fun v st => mm_pA st fun a st => if mm_sh a = (0, ci) then (if v = 0 ∨ v = 1 then some (.inl (nx, ls, st, (mm_u h.1 a k v, h.2))) else none) else none
def s_putL (ci k nx : Nat) : mm_S mm_H := fun _ ls st h => mm_pL st fun v st => mm_pA st fun a st => if mm_sh a = (0, ci) then some (.inl (nx, ls, st, (h.1, mm_uL h.2.1 a k v, h.2.2))) else none
def s_putR (ci k nx : Nat) : mm_S mm_H := fun _ ls st h => mm_pA st fun v st => mm_pA st fun a st => if mm_sh a = (0, ci) then some (.inl (nx, ls, st, (h.1, h.2.1, mm_uR h.2.2 a k v))) else none
def s_iald (nx : Nat) : mm_S mm_H := fun _ ls st h => mm_pI st fun i st => mm_pA st fun a st => if (mm_sh a).1 = 1 then (if i < 0 ∨ (mm_sh a).2 ≤ i.toNatClampNeg then none else some (.inl (nx, ls, .int (h.1 a i.toNatClampNeg) :: st, h))) else none
def s_cald (nx : Nat) : mm_S mm_H := fun _ ls st h => mm_pI st fun i st => mm_pA st fun a st => if (mm_sh a).1 = 3 then (if i < 0 ∨ (mm_sh a).2 ≤ i.toNatClampNeg then none else some (.inl (nx, ls, .int (h.1 a i.toNatClampNeg) :: st, h))) else none
def s_zald (nx : Nat) : mm_S mm_H := fun _ ls st h => mm_pI st fun i st => mm_pA st fun a st => if (mm_sh a).1 = 4 then (if i < 0 ∨ (mm_sh a).2 ≤ i.toNatClampNeg then none else some (.inl (nx, ls, .int (h.1 a i.toNatClampNeg) :: st, h))) else none
def s_lald (nx : Nat) : mm_S mm_H := fun _ ls st h => mm_pI st fun i st => mm_pA st fun a st => if (mm_sh a).1 = 2 then (if i < 0 ∨ (mm_sh a).2 ≤ i.toNatClampNeg then none else some (.inl (nx, ls, .long (h.2.1 a i.toNatClampNeg) :: st, h))) else none
def s_aald (nx : Nat) : mm_S mm_H := fun _ ls st h => mm_pI st fun i st => mm_pA st fun a st => if (mm_sh a).1 = 5 then (if i < 0 ∨ (mm_sh a).2 ≤ i.toNatClampNeg then none else some (.inl (nx, ls, .ref (a + 1 + 9 * i.toNatClampNeg) :: st, h))) else none
def s_iast (nx : Nat) : mm_S mm_H := fun _ ls st h => mm_pI st fun v st => mm_pI st fun i st => mm_pA st fun a st => if (mm_sh a).1 = 1 then (if i < 0 ∨ (mm_sh a).2 ≤ i.toNatClampNeg then none else some (.inl (nx, ls, st, (mm_u h.1 a i.toNatClampNeg v, h.2)))) else none
def s_zast (nx : Nat) : mm_S mm_H := fun _ ls st h => mm_pI st fun v st => mm_pI st fun i st => mm_pA st fun a st => if (mm_sh a).1 = 4 then (if i < 0 ∨ (mm_sh a).2 ≤ i.toNatClampNeg then none else if v = 0 ∨ v = 1 then some (.inl (nx, ls, st, (mm_u h.1 a i.toNatClampNeg v, h.2))) else none) else none
def s_last (nx : Nat) : mm_S mm_H := fun _ ls st h => mm_pL st fun v st => mm_pI st fun i st => mm_pA st fun a st => if (mm_sh a).1 = 2 then (if i < 0 ∨ (mm_sh a).2 ≤ i.toNatClampNeg then none else some (.inl (nx, ls, st, (h.1, mm_uL h.2.1 a i.toNatClampNeg v, h.2.2)))) else none
def s_alen (nx : Nat) : mm_S mm_H := fun _ ls st h => mm_pA st fun a st => if 0 < (mm_sh a).1 ∧ (mm_sh a).1 < 5 then some (.inl (nx, ls, .int (Int32.ofNat (mm_sh a).2) :: st, h)) else none
def s_copy (nx : Nat) : mm_S mm_H := fun _ ls st h => mm_pI st fun n st => mm_pI st fun dp st => mm_pA st fun a st => mm_pI st fun sp st => mm_pA st fun a0 st =>
  if (mm_sh a).1 = 1 ∧ (mm_sh a0).1 = 1 ∧ ¬ sp < 0 ∧ ¬ dp < 0 ∧ ¬ n < 0 ∧ sp.toNatClampNeg + n.toNatClampNeg ≤ (mm_sh a0).2 ∧ dp.toNatClampNeg + n.toNatClampNeg ≤ (mm_sh a).2 ∧ (st.map fun v => v.category).sum ≤ 8 then some (.inl (nx, ls, st, (mm_cp h.1 a0 a sp.toNatClampNeg dp.toNatClampNeg n.toNatClampNeg, h.2))) else none
def s_ldcS (nx : Nat) : mm_S mm_H := fun _ ls st h => some (.inl (nx, ls, .ref mm_STR :: st, h))
def s_sval (nx : Nat) : mm_S mm_H := fun _ ls st h => mm_pA st fun a st => if a = mm_STR then some (.inl (nx, ls, .ref mm_BYT :: st, h)) else none
def s_scod (nx : Nat) : mm_S mm_H := fun _ ls st h => mm_pA st fun a st => if a = mm_STR then some (.inl (nx, ls, .int 0 :: st, h)) else none
def s_blen (nx : Nat) : mm_S mm_H := fun _ ls st h => mm_pA st fun a st => if a = mm_BYT then some (.inl (nx, ls, .int (Int32.ofNat mm_txt.length) :: st, h)) else none
def s_bald (nx : Nat) : mm_S mm_H := fun _ ls st h => mm_pI st fun i st => mm_pA st fun a st => if a = mm_BYT then (if i < 0 ∨ mm_txt.length ≤ i.toNatClampNeg then none else some (.inl (nx, ls, .int (mm_txt.getD i.toNatClampNeg 0) :: st, h))) else none
def s_sld (L : Nat) (xs : Nat → Int32) (nx : Nat) : mm_S mm_H := fun _ ls st h => mm_pI st fun i st => mm_pA st fun a st => if a = mm_SCR then (if i < 0 ∨ L ≤ i.toNatClampNeg then none else some (.inl (nx, ls, .int (xs i.toNatClampNeg) :: st, h))) else none
def s_slen (L : Nat) (nx : Nat) : mm_S mm_H := fun _ ls st h => mm_pA st fun a st => if a = mm_SCR then some (.inl (nx, ls, .int (Int32.ofNat L) :: st, h)) else none
/-! calls: rk 0 nothing comes back, 1 an int, 2 a long, 3 a reference -/
def mm_after {Hp : Type} (rk nx : Nat) (ls rest : List Value) : Option (mm_R Hp) → Option (mm_O Hp)
  | some (none, h) => if rk = 0 then some (.inl (nx, ls, rest, h)) else none
  | some (some (.int v), h) => if rk = 1 then some (.inl (nx, ls, .int v :: rest, h)) else none
  | some (some (.long v), h) => if rk = 2 then some (.inl (nx, ls, .long v :: rest, h)) else none
  | some (some (.ref v), h) => if rk = 3 then some (.inl (nx, ls, .ref v :: rest, h)) else none
  | _ => none
theorem mm_after_inv {Hp : Type} {rk nx : Nat} {ls rest : List Value} {x : Option (mm_R Hp)} {o : mm_O Hp} (h : mm_after rk nx ls rest x = some o) : ∃ v h', x = some (v, h') ∧ o = .inl (nx, ls, v.toList ++ rest, h') := by
  cases x with
  | none => cases h
  | some q =>
    obtain ⟨v, h'⟩ := q
    refine ⟨v, h', rfl, ?_⟩
    cases v with
    | none =>
      simp only [mm_after] at h
      split at h
      · cases h; rfl
      · cases h
    | some w =>
      cases w <;> simp only [mm_after] at h <;> first
        | (split at h
           · cases h; rfl
           · cases h)
        | cases h
def s_callV (ci y n rk nx : Nat) : mm_S mm_H := fun C ls st h => mm_pA (st.drop n) fun b rest => if mm_sh b = (0, ci) ∧ (rest.map fun v => v.category).sum ≤ 8 then mm_after rk nx ls rest (C y (.ref b :: (st.take n).reverse) h) else none
def s_callT (y n rk nx : Nat) : mm_S mm_H := fun C ls st h => mm_pA (st.drop n) fun b rest => if b = mm_STR ∧ (rest.map fun v => v.category).sum ≤ 8 then mm_after rk nx ls rest (C y (.ref b :: (st.take n).reverse) h) else none
def s_callS (y n rk nx : Nat) : mm_S mm_H := fun C ls st h => if n ≤ st.length ∧ ((st.drop n).map fun v => v.category).sum ≤ 8 then mm_after rk nx ls (st.drop n) (C y (st.take n).reverse h) else none

