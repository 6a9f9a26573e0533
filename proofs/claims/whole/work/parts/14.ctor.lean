/-! the constructors: a heap that grows, whose references are told; handles stand for B, B + 1, .. -/
abbrev cc_E : Type := (Nat × List Value) ⊕ (Nat × Nat × (List Int32 ⊕ Unit ⊕ List (Option Nat)))
/-- made, slots made, how many may be made, how many slots, the cells -/
abbrev cc_H : Type := Nat × Nat × Nat × Nat × List cc_E
def cc_e (σ : Nat → Nat) (cA : Nat → ClassId) : cc_E → va_E
  | .inl (ci, fs) => .inr (ci, fs.map (mm_v σ))
  | .inr (t, n, .inl f) => .inl (cA t, n, .inl (fun j => f.getD j 0))
  | .inr (t, n, .inr (.inl _)) => .inl (cA t, n, .inr (.inl (fun _ => 0)))
  | .inr (t, n, .inr (.inr f)) => .inl (cA t, n, .inr (.inr (.inr (.inr (fun j => (f.getD j none).map σ)))))
def cc_at (h : cc_H) (a : Nat) : cc_E := h.2.2.2.2.getD a (.inl (99, []))
def cc_ws (σ : Nat → Nat) (cA : Nat → ClassId) (h : cc_H) : va_W := (List.range h.1).map (fun a => (σ a, cc_e σ cA (cc_at h a)))
theorem cc_ws_at {σ : Nat → Nat} {cA : Nat → ClassId} {h : cc_H} {a : Nat} (ha : a < h.1) : (cc_ws σ cA h)[a]? = some (σ a, cc_e σ cA (cc_at h a)) := by
  rw [cc_ws, List.getElem?_map, List.getElem?_range ha]
  rfl
theorem cc_ws_len {σ : Nat → Nat} {cA : Nat → ClassId} {h : cc_H} : (cc_ws σ cA h).length = h.1 := by rw [cc_ws, List.length_map, List.length_range]
theorem cc_ws_inv {σ : Nat → Nat} {cA : Nat → ClassId} {h : cc_H} {k : Nat} {q : Nat × va_E} (hq : (cc_ws σ cA h)[k]? = some q) : k < h.1 ∧ q = (σ k, cc_e σ cA (cc_at h k)) := by
  have hk : k < h.1 := by
    have h1 := (List.getElem?_eq_some_iff.mp hq).1
    rw [cc_ws_len] at h1
    exact h1
  rw [cc_ws_at hk] at hq
  exact ⟨hk, (Option.some.inj hq).symm⟩
def cc_up (h : cc_H) (a : Nat) (e : cc_E) : cc_H := (h.1, h.2.1, h.2.2.1, h.2.2.2.1, h.2.2.2.2.set a e)
def cc_push (h : cc_H) (k : Nat) (e : cc_E) : cc_H := (h.1 + 1, h.2.1 + k, h.2.2.1, h.2.2.2.1, h.2.2.2.2 ++ [e])
theorem cc_at_up {h : cc_H} {a b : Nat} {e : cc_E} (ha : a < h.2.2.2.2.length) : cc_at (cc_up h a e) b = if b = a then e else cc_at h b := by
  unfold cc_at cc_up
  simp only [List.getD_eq_getElem?_getD]
  by_cases hb : b = a
  · subst hb
    rw [if_pos rfl, List.getElem?_set_self ha]
    rfl
  · rw [if_neg hb, List.getElem?_set_ne (fun q => hb q.symm)]
theorem cc_at_push {h : cc_H} {k b : Nat} {e : cc_E} (hl : h.2.2.2.2.length = h.1) (hb : b < h.1) : cc_at (cc_push h k e) b = cc_at h b := by
  unfold cc_at cc_push
  simp only [List.getD_eq_getElem?_getD]
  rw [List.getElem?_append_left (by omega)]
theorem cc_at_new {h : cc_H} {k : Nat} {e : cc_E} (hl : h.2.2.2.2.length = h.1) : cc_at (cc_push h k e) h.1 = e := by
  unfold cc_at cc_push
  simp only [List.getD_eq_getElem?_getD]
  rw [← hl, List.getElem?_append_right (Nat.le_refl _)]
  simp
theorem cc_ws_set {σ : Nat → Nat} {cA : Nat → ClassId} {h : cc_H} {a : Nat} {e : cc_E} (hl : h.2.2.2.2.length = h.1) (ha : a < h.1) : (cc_ws σ cA h).set a (σ a, cc_e σ cA e) = cc_ws σ cA (cc_up h a e) := by
  apply List.ext_getElem?
  intro j
  by_cases hj : j = a
  · subst hj
    rw [List.getElem?_set_self (by rw [cc_ws_len]; exact ha), cc_ws_at (h := cc_up h j e) ha, cc_at_up (by omega), if_pos rfl]
  · rw [List.getElem?_set_ne (fun q => hj q.symm)]
    rcases Nat.lt_or_ge j h.1 with q | q
    · rw [cc_ws_at q, cc_ws_at (h := cc_up h a e) q, cc_at_up (by omega), if_neg hj]
    · rw [List.getElem?_eq_none (by rw [cc_ws_len]; exact q), List.getElem?_eq_none (by rw [cc_ws_len]; exact q)]
theorem cc_ws_push {σ : Nat → Nat} {cA : Nat → ClassId} {h : cc_H} {k : Nat} {e : cc_E} (hl : h.2.2.2.2.length = h.1) : cc_ws σ cA (cc_push h k e) = cc_ws σ cA h ++ [(σ h.1, cc_e σ cA e)] := by
  rw [cc_ws, show (cc_push h k e).1 = h.1 + 1 from rfl, List.range_succ, List.map_append]
  congr 1
  · apply List.map_congr_left
    intro a ha
    rw [cc_at_push hl (List.mem_range.mp ha)]
  · rw [List.map_singleton, cc_at_new hl]
/-- a place of a list that is 0 where it is not told -/
def cc_ls (l : List Int32) (i : Nat) (v : Int32) : List Int32 := if i < l.length then l.set i v else l ++ List.replicate (i - l.length) 0 ++ [v]
theorem cc_ls_at (l : List Int32) (i : Nat) (v : Int32) : (fun j => (cc_ls l i v).getD j 0) = upd (fun j => l.getD j 0) i v := by
  funext j
  unfold cc_ls upd
  simp only [List.getD_eq_getElem?_getD]
  by_cases hi : i < l.length
  · rw [if_pos hi]
    by_cases hj : j = i
    · subst hj
      rw [if_pos rfl, List.getElem?_set_self hi]
      rfl
    · rw [if_neg hj, List.getElem?_set_ne (fun q => hj q.symm)]
  · rw [if_neg hi]
    by_cases hj : j = i
    · subst hj
      rw [if_pos rfl, List.getElem?_append_right (by simp; omega)]
      simp
      rw [show j - (l.length + (j - l.length)) = 0 by omega]
      rfl
    · rw [if_neg hj]
      rcases Nat.lt_or_ge j l.length with q | q
      · rw [List.getElem?_append_left (by simp; omega), List.getElem?_append_left q]
      · rw [List.getElem?_eq_none q]
        rcases Nat.lt_or_ge j i with z | z
        · rw [List.getElem?_append_left (by simp; omega), List.getElem?_append_right q, List.getElem?_replicate]
          split <;> rfl
        · rw [List.getElem?_eq_none (by simp; omega)]
def cc_lq (l : List (Option Nat)) (i : Nat) (v : Option Nat) : List (Option Nat) := if i < l.length then l.set i v else l ++ List.replicate (i - l.length) none ++ [v]
theorem cc_lq_at (l : List (Option Nat)) (i : Nat) (v : Option Nat) : (fun j => (cc_lq l i v).getD j none) = va_up (fun j => l.getD j none) i v := by
  funext j
  unfold cc_lq va_up
  simp only [List.getD_eq_getElem?_getD]
  by_cases hi : i < l.length
  · rw [if_pos hi]
    by_cases hj : j = i
    · subst hj
      rw [if_pos rfl, List.getElem?_set_self hi]
      rfl
    · rw [if_neg hj, List.getElem?_set_ne (fun q => hj q.symm)]
  · rw [if_neg hi]
    by_cases hj : j = i
    · subst hj
      rw [if_pos rfl, List.getElem?_append_right (by simp; omega)]
      simp
      rw [show j - (l.length + (j - l.length)) = 0 by omega]
      rfl
    · rw [if_neg hj]
      rcases Nat.lt_or_ge j l.length with q | q
      · rw [List.getElem?_append_left (by simp; omega), List.getElem?_append_left q]
      · rw [List.getElem?_eq_none q]
        rcases Nat.lt_or_ge j i with z | z
        · rw [List.getElem?_append_left (by simp; omega), List.getElem?_append_right q, List.getElem?_replicate]
          split <;> rfl
        · rw [List.getElem?_eq_none (by simp; omega)]
/-- what stands fixed: where the handles stand, the classes, the words by the nest -/
def cc_W0 (σ : Nat → Nat) (cA : Nat → ClassId) (D : va_G) (B : Nat) (U : State) : Prop := va_K D vwCl (mm_tys cA) U ∧ (∀ a, a < mm_N → σ a = B + a) ∧ (∀ w ∈ mm_nw, va_Nw w U) ∧ va_AO RX7 U
theorem cc_W0.warm {σ : Nat → Nat} {cA : Nat → ClassId} {D : va_G} {B : Nat} {s U : State} (hW : s.WarmedH U.vm) (h : cc_W0 σ cA D B s) : cc_W0 σ cA D B U := ⟨h.1.moved hW.alike, h.2.1, fun w hw => mm_Nw_warm (List.mem_filter.mp hw).2 hW (h.2.2.1 w hw), h.2.2.2.moved hW.alike⟩
theorem cc_W0.same {σ : Nat → Nat} {cA : Nat → ClassId} {D : va_G} {B : Nat} {s U : State} (hv : U.vm = s.vm) (h : cc_W0 σ cA D B s) : cc_W0 σ cA D B U := by
  have ha : s.vm.Alike U.vm := by rw [hv]; exact Vm.Alike.refl _
  exact ⟨h.1.moved ha, h.2.1, fun w hw => mm_Nw_same (List.mem_filter.mp hw).2 hv.symm (h.2.2.1 w hw), h.2.2.2.moved ha⟩
theorem cc_W0.D {σ : Nat → Nat} {cA : Nat → ClassId} {D : va_G} {B : Nat} {U : State} (w : cc_W0 σ cA D B U) {h : cc_H} (hn : h.1 ≤ mm_N) : va_D (fun q => B ≤ q) (cc_ws σ cA h) := by
  refine ⟨fun i j x y hi hj hxy => ?_, fun k q hk => ?_⟩
  · obtain ⟨a1, a2⟩ := cc_ws_inv hi
    obtain ⟨b1, b2⟩ := cc_ws_inv hj
    rw [a2, b2, w.2.1 i (by omega), w.2.1 j (by omega)] at hxy
    omega
  · obtain ⟨a1, a2⟩ := cc_ws_inv hk
    rw [a2]
    show B ≤ σ k
    rw [w.2.1 k (by omega)]
    omega
def cc_Rz (σ : Nat → Nat) (cA : Nat → ClassId) (D : va_G) (B : Nat) (H0 : Heap) (c0 m0 cap capS : Nat) (h : cc_H) (H : Heap) (locs : List Loc) (cells slots : Nat) : Prop :=
  va_P D vwCl (cc_ws σ cA h) H ∧ va_S (fun q => B ≤ q) H0 H locs ∧ h.1 ≤ h.2.2.1 ∧ h.2.1 ≤ h.2.2.2.1 ∧ h.2.2.1 = cap ∧ h.2.2.2.1 = capS ∧ h.1 = c0 + cells ∧ h.2.1 = m0 + slots ∧ h.2.2.2.2.length = h.1
def cc_rm (d mc ms : Nat) : Room := { frames := d, cells := mc, slots := ms, locals := 150 * d }
def cc_Pc (σ : Nat → Nat) (cA : Nat → ClassId) (D : va_G) (B : Nat) (as : List Value) (h : cc_H) : Array Value → State → Prop := va_Pc (as.map (mm_v σ)) (fun U => va_P D vwCl (cc_ws σ cA h) U.heap ∧ U.heap.size = B + h.1 ∧ cc_W0 σ cA D B U)
def cc_Qc (σ : Nat → Nat) (cA : Nat → ClassId) (D : va_G) (B : Nat) (v : Option Value) (h' : cc_H) : Array Value → State → Outcome → State → Prop := fun _ st oc t => oc = .returned (v.map (mm_v σ)) ∧ va_P D vwCl (cc_ws σ cA h') t.heap ∧ va_F (fun q => B ≤ q) st t
def cc_CO (l : Launch) (I : mm_I) (d : Nat) (C : mm_C cc_H) : Prop := ∀ (y : Nat) (as : List Value) (h : cc_H) (v : Option Value) (h' : cc_H), C y as h = some (v, h') → h.1 ≤ h.2.2.1 → h.2.1 ≤ h.2.2.2.1 → h.2.2.1 ≤ mm_N → h.2.2.2.2.length = h.1 → ∀ (σ : Nat → Nat) (cA : Nat → ClassId) (D : va_G) (B : Nat), Met l (I y).1 (Cond.code (I y).1 (I y).2.1 (I y).2.2.1 (I y).2.2.2 :: mm_tb) (cc_rm d (h.2.2.1 - h.1) (h.2.2.2.1 - h.2.1)) (cc_Pc σ cA D B as h) (cc_Qc σ cA D B v h') (h.2.2.1 - h.1) (h.2.2.2.1 - h.2.1) (fun q => B ≤ q)
def cc_Cx (p : Program) (l : Launch) (R : Room) (s : State) (m : MethodId) (args : Array Value) (meth : Method) (c : Code) (cc : ByteArray) (nL : Nat) (own nm : String) (σ : Nat → Nat) (cA : Nat → ClassId) (D : va_G) (B c0 m0 cap capS : Nat) (I : mm_I) (d : Nat) (C : mm_C cc_H) : Prop :=
  p.tables.exec = Jvm.exec ∧ c.code = cc ∧ c.maxLocals = nL ∧ s.vm.findClass own = some m.cls ∧ (∀ w ∈ mm_tb, w.before args s = true) ∧ cc_W0 σ cA D B s ∧ (d + 1 ≤ R.frames ∧ 150 * d + 150 ≤ R.locals ∧ cap ≤ c0 + R.cells ∧ capS ≤ m0 + R.slots ∧ cap ≤ mm_N ∧ s.heap.size = B + c0) ∧ meth.name = nm ∧ cc_CO l I d C
theorem cc_blind (σ : Nat → Nat) (cA : Nat → ClassId) (D : va_G) (B : Nat) (as : List Value) (h : cc_H) : FrameBlind (cc_Pc σ cA D B as h) := by
  intro a U g mk q
  obtain ⟨q0, qP, qz, qW⟩ := q
  exact ⟨q0, qP, qz, cc_W0.same (s := U) (U := U.calling g mk a) rfl qW⟩
/-! the steps -/
def c_new (ci : Nat) (fs : List Value) (nx : Nat) : mm_S cc_H := fun _ ls st h => if h.1 + 1 ≤ h.2.2.1 ∧ h.2.1 + fs.length ≤ h.2.2.2.1 then some (.inl (nx, ls, .ref h.1 :: st, cc_push h fs.length (.inl (ci, fs)))) else none
def c_newa (t nx : Nat) : mm_S cc_H := fun _ ls st h => mm_pI st fun n st => if ¬ n < 0 ∧ n.toNatClampNeg ≤ 100000 ∧ h.1 + 1 ≤ h.2.2.1 ∧ h.2.1 + n.toNatClampNeg ≤ h.2.2.2.1 then some (.inl (nx, ls, .ref h.1 :: st, cc_push h n.toNatClampNeg (.inr (t, n.toNatClampNeg, .inl [])))) else none
def c_newl (nx : Nat) : mm_S cc_H := fun _ ls st h => mm_pI st fun n st => if ¬ n < 0 ∧ n.toNatClampNeg ≤ 60000 ∧ h.1 + 1 ≤ h.2.2.1 ∧ h.2.1 + n.toNatClampNeg ≤ h.2.2.2.1 then some (.inl (nx, ls, .ref h.1 :: st, cc_push h n.toNatClampNeg (.inr (2, n.toNatClampNeg, .inr (.inl ()))))) else none
def c_newq (nx : Nat) : mm_S cc_H := fun _ ls st h => mm_pI st fun n st => if ¬ n < 0 ∧ n.toNatClampNeg ≤ 100000 ∧ h.1 + 1 ≤ h.2.2.1 ∧ h.2.1 + n.toNatClampNeg ≤ h.2.2.2.1 then some (.inl (nx, ls, .ref h.1 :: st, cc_push h n.toNatClampNeg (.inr (5, n.toNatClampNeg, .inr (.inr []))))) else none
/-- what a cell of a class holds -/
def cc_ob (h : cc_H) (a ci : Nat) : Option (List Value) := if a < h.1 then (match cc_at h a with
  | .inl (cj, fs) => if cj = ci then some fs else none
  | _ => none) else none
theorem cc_ob_inv {h : cc_H} {a ci : Nat} {fs : List Value} (e : cc_ob h a ci = some fs) : a < h.1 ∧ cc_at h a = .inl (ci, fs) := by
  unfold cc_ob at e
  split at e
  · rename_i ha
    split at e
    · rename_i cj gs hc
      split at e
      · rename_i hj
        cases e
        rw [← hj]
        exact ⟨ha, hc⟩
      · cases e
    · cases e
  · cases e
def cc_fit (ty : FieldType) (v : Value) : Bool := match ty, v with
  | .int, .int _ => true
  | .boolean, .int x => x == 0 || x == 1
  | .long, .long _ => true
  | .object _, .ref _ => true
  | .array _, .ref _ => true
  | _, _ => false
theorem cc_fit_ok {σ : Nat → Nat} {ty : FieldType} {v : Value} (h : cc_fit ty v = true) : narrow ty (mm_v σ v) = mm_v σ v ∧ fits ty (mm_v σ v) = true := by
  cases ty <;> cases v <;> first
    | exact ⟨rfl, rfl⟩
    | (simp only [cc_fit, Bool.or_eq_true, beq_iff_eq] at h
       rcases h with rfl | rfl <;> exact ⟨rfl, rfl⟩)
    | (simp [cc_fit] at h)
def c_put (ci k : Nat) (ty : FieldType) (nx : Nat) : mm_S cc_H := fun _ ls st h => match st with
  | v :: .ref a :: st => (match cc_ob h a ci with
    | some fs => if cc_fit ty v = true ∧ k < fs.length then some (.inl (nx, ls, st, cc_up h a (.inl (ci, fs.set k v)))) else none
    | none => none)
  | _ => none
def c_get (ci k nx : Nat) : mm_S cc_H := fun _ ls st h => mm_pA st fun a st => match cc_ob h a ci with
  | some fs => (match fs[k]? with
    | some v => some (.inl (nx, ls, v :: st, h))
    | none => none)
  | none => none
/-- an array of numbers of kind t -/
def cc_ar (h : cc_H) (a t : Nat) : Option (Nat × List Int32) := if a < h.1 then (match cc_at h a with
  | .inr (tj, n, .inl f) => if tj = t then some (n, f) else none
  | _ => none) else none
theorem cc_ar_inv {h : cc_H} {a t n : Nat} {f : List Int32} (e : cc_ar h a t = some (n, f)) : a < h.1 ∧ cc_at h a = .inr (t, n, .inl f) := by
  unfold cc_ar at e
  split at e
  · rename_i ha
    split at e
    · rename_i tj m g hc
      split at e
      · rename_i hj
        cases e
        rw [← hj]
        exact ⟨ha, hc⟩
      · cases e
    · cases e
  · cases e
def c_iast (nx : Nat) : mm_S cc_H := fun _ ls st h => mm_pI st fun v st => mm_pI st fun i st => mm_pA st fun a st => match cc_ar h a 1 with
  | some (n, f) => if i < 0 ∨ n ≤ i.toNatClampNeg then none else some (.inl (nx, ls, st, cc_up h a (.inr (1, n, .inl (cc_ls f i.toNatClampNeg v)))))
  | none => none
def c_cast (nx : Nat) : mm_S cc_H := fun _ ls st h => mm_pI st fun v st => mm_pI st fun i st => mm_pA st fun a st => match cc_ar h a 3 with
  | some (n, f) => if i < 0 ∨ n ≤ i.toNatClampNeg then none else some (.inl (nx, ls, st, cc_up h a (.inr (3, n, .inl (cc_ls f i.toNatClampNeg (vp_nar .char v))))))
  | none => none
def cc_aq (h : cc_H) (a : Nat) : Option (Nat × List (Option Nat)) := if a < h.1 then (match cc_at h a with
  | .inr (tj, n, .inr (.inr f)) => if tj = 5 then some (n, f) else none
  | _ => none) else none
theorem cc_aq_inv {h : cc_H} {a n : Nat} {f : List (Option Nat)} (e : cc_aq h a = some (n, f)) : a < h.1 ∧ cc_at h a = .inr (5, n, .inr (.inr f)) := by
  unfold cc_aq at e
  split at e
  · rename_i ha
    split at e
    · rename_i tj m g hc
      split at e
      · rename_i hj
        cases e
        rw [← hj]
        exact ⟨ha, hc⟩
      · cases e
    · cases e
  · cases e
def c_aast (nx : Nat) : mm_S cc_H := fun _ ls st h => mm_pA st fun b st => mm_pI st fun i st => mm_pA st fun a st => match cc_aq h a, cc_ob h b 7 with
  | some (n, f), some _ => if i < 0 ∨ n ≤ i.toNatClampNeg then none else some (.inl (nx, ls, st, cc_up h a (.inr (5, n, .inr (.inr (cc_lq f i.toNatClampNeg (some b)))))))
  | _, _ => none
def c_obj (nx : Nat) : mm_S cc_H := fun _ ls st h => mm_pA st fun _ st => if (st.map fun v => v.category).sum ≤ 8 then some (.inl (nx, ls, st, h)) else none
def cc_back (h : cc_H) (mc ms nx : Nat) (ls rest : List Value) : Option (mm_R cc_H) → Option (mm_O cc_H)
  | some (none, h') => if h'.1 = h.1 + mc ∧ h'.2.1 = h.2.1 + ms ∧ h'.2.2.2.2.length = h'.1 then some (.inl (nx, ls, rest, (h'.1, h'.2.1, h.2.2.1, h.2.2.2.1, h'.2.2.2.2))) else none
  | _ => none
def cc_in (h : cc_H) (mc ms : Nat) : cc_H := (h.1, h.2.1, h.1 + mc, h.2.1 + ms, h.2.2.2.2)
def c_init (y n mc ms nx : Nat) : mm_S cc_H := fun C ls st h => mm_pA (st.drop n) fun b rest => if (rest.map fun v => v.category).sum ≤ 8 ∧ h.1 + mc ≤ h.2.2.1 ∧ h.2.1 + ms ≤ h.2.2.2.1 then cc_back h mc ms nx ls rest (C y (.ref b :: (st.take n).reverse) (cc_in h mc ms)) else none
def c_callV (ci y n mc ms nx : Nat) : mm_S cc_H := fun C ls st h => mm_pA (st.drop n) fun b rest => match cc_ob h b ci with
  | some _ => if (rest.map fun v => v.category).sum ≤ 8 ∧ h.1 + mc ≤ h.2.2.1 ∧ h.2.1 + ms ≤ h.2.2.2.1 then cc_back h mc ms nx ls rest (C y (.ref b :: (st.take n).reverse) (cc_in h mc ms)) else none
  | none => none
theorem cc_back_inv {h : cc_H} {mc ms nx : Nat} {ls rest : List Value} {x : Option (mm_R cc_H)} {o : mm_O cc_H} (e : cc_back h mc ms nx ls rest x = some o) : ∃ h', x = some (none, h') ∧ h'.1 = h.1 + mc ∧ h'.2.1 = h.2.1 + ms ∧ h'.2.2.2.2.length = h'.1 ∧ o = .inl (nx, ls, rest, (h'.1, h'.2.1, h.2.2.1, h.2.2.2.1, h'.2.2.2.2)) := by
  cases x with
  | none => cases e
  | some q =>
    obtain ⟨v, h'⟩ := q
    cases v with
    | some w => cases e
    | none =>
      simp only [cc_back] at e
      split at e
      · rename_i hq
        cases e
        exact ⟨h', rfl, hq.1, hq.2.1, hq.2.2, rfl⟩
      · cases e
section CTOR
variable {p : Program} {l : Launch} {e : Env} {R : Room} {s : State} {m : MethodId} {args : Array Value} {below : List Frame} {meth : Method} {c : Code} {rt : Option FieldType} {cc : ByteArray} {nL : Nat} {Q : State → Prop} {σ : Nat → Nat} {cA : Nat → ClassId} {D : va_G} {B c0 m0 cap capS : Nat} {I : mm_I} {d : Nat} {C : mm_C cc_H} {pc : Nat} {own nm : String}
theorem cc_sized {H : Heap} {locs : List Loc} {cells slots : Nat} {g : JFrame} (k : H.size ≤ s.heap.size + cells → W p l e R s m args below meth c H locs cells slots Q g) : W p l e R s m args below meth c H locs cells slots Q g := fun T hT X => k (by rw [← hT]; exact X.heapSize) T hT X
theorem cc_size {h : cc_H} {H : Heap} {locs : List Loc} {cells slots : Nat} (w0 : cc_W0 σ cA D B s) (hB : s.heap.size = B + c0) (hN : cap ≤ mm_N) (hR : cc_Rz σ cA D B s.heap c0 m0 cap capS h H locs cells slots) (hle : H.size ≤ s.heap.size + cells) : H.size = B + h.1 := by
  obtain ⟨hP, hS, q1, q2, q3, q4, q5, q6, q7⟩ := hR
  have h1 := hS.1
  rcases Nat.eq_zero_or_pos h.1 with z | z
  · omega
  · have h2 := (hP (h.1 - 1) _ (cc_ws_at (by omega))).lt
    rw [show (σ (h.1 - 1), cc_e σ cA (cc_at h (h.1 - 1))).1 = σ (h.1 - 1) from rfl, w0.2.1 (h.1 - 1) (by omega)] at h2
    omega
/-- a new cell is told -/
theorem cc_grown {h : cc_H} {H H1 : Heap} {locs : List Loc} {cells slots k : Nat} {x : cc_E} (w0 : cc_W0 σ cA D B s) (hz : H.size = B + h.1) (hR : cc_Rz σ cA D B s.heap c0 m0 cap capS h H locs cells slots) (hN : cap ≤ mm_N) (h1 : h.1 + 1 ≤ h.2.2.1) (h2 : h.2.1 + k ≤ h.2.2.2.1) (z1 : H1.size = H.size + 1) (o1 : ∀ q : Nat, q < H.size → H1[q]? = H[q]?) (hx : va_at D vwCl (H.size, cc_e σ cA x) H1) : cc_Rz σ cA D B s.heap c0 m0 cap capS (cc_push h k x) H1 locs (cells + 1) (slots + k) := by
  obtain ⟨hP, hS, q1, q2, q3, q4, q5, q6, q7⟩ := hR
  have hsn : σ h.1 = H.size := by rw [w0.2.1 h.1 (by omega), hz]
  refine ⟨?_, ⟨Nat.le_trans hS.1 (by omega), fun q a1 a2 => ?_, hS.2.2⟩, ?_, ?_, ?_, ?_, ?_, ?_, ?_⟩
  · rw [cc_ws_push q7, hsn]
    refine (hP.kept (fun k q hk => o1 q.1 ((hP k q hk).lt))).app (fun k q hk => ?_)
    have hz1 : k < 1 := (List.getElem?_eq_some_iff.mp hk).1
    rw [show k = 0 by omega] at hk
    cases hk
    exact hx
  · rw [o1 q (Nat.lt_of_lt_of_le a1 hS.1)]
    exact hS.2.1 q a1 a2
  · exact h1
  · exact h2
  · exact q3
  · exact q4
  · show h.1 + 1 = c0 + (cells + 1)
    omega
  · show h.2.1 + k = m0 + (slots + k)
    omega
  · show (h.2.2.2.2 ++ [x]).length = h.1 + 1
    rw [List.length_append, q7]
    rfl
theorem sc_new (X : cc_Cx p l R s m args meth c cc nL own nm σ cA D B c0 m0 cap capS I d C) {ci index N : Nat} {Cn : String} {T : u_T} {ty0 : Nat → FieldType} {fs : List Value} (hc : vwCl[ci]? = some (Cn, T, N)) (hin : ∀ w ∈ u_ws Cn T N, w ∈ lw_tbl) (hty : ∀ k, k < N → parseFieldDescriptor (T k).2.2.1 = some (ty0 k)) (hcl : Cond.classLink own index Cn ∈ lw_tbl) (hins : Cond.instantiable Cn N ∈ lw_tbl) (hini : Cond.initialized Cn ∈ lw_tbl) (hfs : ∀ j, j < N → defaultValue (ty0 j) = vp_V fs j) (hmap : fs.map (mm_v σ) = fs) (hlen : fs.length = N) (hd : decode cc pc = .ok (.new index, 3)) : mm_Sim p l e R s m args below meth c rt cc nL Q σ (cc_Rz σ cA D B s.heap c0 m0 cap capS) C (pc, c_new ci fs (pc + 3)) := by
  obtain ⟨hx, hb, hml, hown, hts, w0, hrm, hnm, hC⟩ := X
  intro ls st h o hf H locs cells slots lsr hR hl kn kr
  replace hf : (if h.1 + 1 ≤ h.2.2.1 ∧ h.2.1 + fs.length ≤ h.2.2.2.1 then some (.inl (pc + 3, ls, .ref h.1 :: st, cc_push h fs.length (.inl (ci, fs)))) else none) = some o := hf
  split at hf
  · rename_i hq
    cases hf
    refine cc_sized (fun hsz => ?_)
    have hz := cc_size w0 hrm.2.2.2.2.2 hrm.2.2.2.2.1 hR hsz
    have hR2 := hR
    obtain ⟨hP, hS, q1, q2, q3, q4, q5, q6, q7⟩ := hR2
    have hKn := w0.1.1 ci _ hc
    refine W.newcK hx hb hown (hts _ (mm_in hcl rfl)) (hts _ (mm_in hins rfl)) (hts _ (mm_in hini rfl)) rfl hd (by omega) (by omega) hKn.2.1 rfl fun H1 kC hkC e1 z1 o1 => ?_
    have hsn : σ h.1 = H.size := by rw [w0.2.1 h.1 (by omega), hz]
    have hR1 := cc_grown (x := .inl (ci, fs)) (k := fs.length) w0 hz hR hrm.2.2.2.2.1 hq.1 hq.2 z1 o1 ⟨_, hc, (u_born ty0 hts (mm_inW hin) hKn hkC e1 hty).to (by rw [hmap]; exact hfs)⟩
    have k1 := kn _ _ _ _ rfl H1 locs (cells + 1) (slots + fs.length) lsr hR1 hl
    rw [hlen] at k1
    have e2 : (Value.ref h.1 :: st).map (mm_v σ) = .ref H.size :: st.map (mm_v σ) := by rw [← hsn]; rfl
    rw [e2] at k1
    exact k1
  · cases hf
theorem sc_newa (X : cc_Cx p l R s m args meth c cc nL own nm σ cA D B c0 m0 cap capS I d C) {t t0 : Nat} {atype : ArrayType} {ty : FieldType} (harr : Cond.arrayClass (newarray.typeOf atype) ∈ lw_tbl) (hty : newarray.typeOf atype = ty) (ht : (mm_tys cA)[t0]? = some (cA t, ty)) (hdef : defaultValue ty = .int 0) (hbyte : componentBytes ty ≤ 8) (hno : ∀ n, ty ≠ .object n) (hd : decode cc pc = .ok (.newarray atype, 2)) : mm_Sim p l e R s m args below meth c rt cc nL Q σ (cc_Rz σ cA D B s.heap c0 m0 cap capS) C (pc, c_newa t (pc + 2)) := by
  obtain ⟨hx, hb, hml, hown, hts, w0, hrm, hnm, hC⟩ := X
  intro ls st h o hf H locs cells slots lsr hR hl kn kr
  obtain ⟨n, r, rfl, hf9⟩ := mm_pI_inv hf
  clear hf
  split at hf9
  · rename_i hq
    cases hf9
    refine cc_sized (fun hsz => ?_)
    have hz := cc_size w0 hrm.2.2.2.2.2 hrm.2.2.2.2.1 hR hsz
    have hR2 := hR
    obtain ⟨hP, hS, q1, q2, q3, q4, q5, q6, q7⟩ := hR2
    subst hty
    have hbb : n.toNatClampNeg * componentBytes (newarray.typeOf atype) ≤ 536870912 := by
      have : n.toNatClampNeg * componentBytes (newarray.typeOf atype) ≤ 100000 * 8 := Nat.mul_le_mul hq.2.1 hbyte
      omega
    refine va_newaK hx hb (hts _ (mm_in harr rfl)) rfl hd rfl hq.1 rfl hbb (by omega) (by omega) rfl fun H1 cA' e1 z1 o1 a1 f1 => ?_
    have hcA : cA' = cA t := by
      have := (w0.1.2 t0 _ ht).2
      have h2 : s.vm.findClass ("[" ++ (newarray.typeOf atype).toString) = some (cA t) := by
        revert this
        cases hty2 : newarray.typeOf atype <;> first | exact fun q => q | exact absurd hty2 (hno _)
      exact Option.some.inj (f1.symm.trans h2)
    subst hcA
    have hsn : σ h.1 = H.size := by rw [w0.2.1 h.1 (by omega), hz]
    have hR1 := cc_grown (x := .inr (t, n.toNatClampNeg, .inl [])) (k := n.toNatClampNeg) w0 hz hR hrm.2.2.2.2.1 hq.2.2.1 hq.2.2.2 z1 o1 (by rw [hdef] at e1; exact e1)
    have k1 := kn _ _ _ _ rfl H1 locs (cells + 1) (slots + n.toNatClampNeg) lsr hR1 hl
    have e2 : (Value.ref h.1 :: r).map (mm_v σ) = .ref H.size :: r.map (mm_v σ) := by rw [← hsn]; rfl
    rw [e2] at k1
    exact k1
  · cases hf9
theorem sc_newl (X : cc_Cx p l R s m args meth c cc nL own nm σ cA D B c0 m0 cap capS I d C) (harr : Cond.arrayClass .long ∈ lw_tbl) (hd : decode cc pc = .ok (.newarray .long, 2)) : mm_Sim p l e R s m args below meth c rt cc nL Q σ (cc_Rz σ cA D B s.heap c0 m0 cap capS) C (pc, c_newl (pc + 2)) := by
  obtain ⟨hx, hb, hml, hown, hts, w0, hrm, hnm, hC⟩ := X
  intro ls st h o hf H locs cells slots lsr hR hl kn kr
  obtain ⟨n, r, rfl, hf9⟩ := mm_pI_inv hf
  clear hf
  split at hf9
  · rename_i hq
    cases hf9
    refine cc_sized (fun hsz => ?_)
    have hz := cc_size w0 hrm.2.2.2.2.2 hrm.2.2.2.2.1 hR hsz
    have hR2 := hR
    obtain ⟨hP, hS, q1, q2, q3, q4, q5, q6, q7⟩ := hR2
    have hbb : n.toNatClampNeg * componentBytes .long ≤ 536870912 := by
      have : n.toNatClampNeg * componentBytes .long ≤ 60000 * 8 := Nat.mul_le_mul hq.2.1 (by decide)
      omega
    refine va_newaK (atype := .long) hx hb (hts _ (mm_in harr rfl)) rfl hd rfl hq.1 rfl hbb (by omega) (by omega) rfl fun H1 cA' e1 z1 o1 a1 f1 => ?_
    have hcA : cA' = cA 2 := Option.some.inj (f1.symm.trans (w0.1.2 1 _ rfl).2)
    subst hcA
    have hsn : σ h.1 = H.size := by rw [w0.2.1 h.1 (by omega), hz]
    have hR1 := cc_grown (x := .inr (2, n.toNatClampNeg, .inr (.inl ()))) (k := n.toNatClampNeg) w0 hz hR hrm.2.2.2.2.1 hq.2.2.1 hq.2.2.2 z1 o1 e1
    have k1 := kn _ _ _ _ rfl H1 locs (cells + 1) (slots + n.toNatClampNeg) lsr hR1 hl
    have e2 : (Value.ref h.1 :: r).map (mm_v σ) = .ref H.size :: r.map (mm_v σ) := by rw [← hsn]; rfl
    rw [e2] at k1
    exact k1
  · cases hf9
theorem sc_newq (X : cc_Cx p l R s m args meth c cc nL own nm σ cA D B c0 m0 cap capS I d C) {index : Nat} (hcl : Cond.classLink own index RX7 ∈ lw_tbl) (hd : decode cc pc = .ok (.anewarray index, 3)) : mm_Sim p l e R s m args below meth c rt cc nL Q σ (cc_Rz σ cA D B s.heap c0 m0 cap capS) C (pc, c_newq (pc + 3)) := by
  obtain ⟨hx, hb, hml, hown, hts, w0, hrm, hnm, hC⟩ := X
  intro ls st h o hf H locs cells slots lsr hR hl kn kr
  obtain ⟨n, r, rfl, hf9⟩ := mm_pI_inv hf
  clear hf
  split at hf9
  · rename_i hq
    cases hf9
    refine cc_sized (fun hsz => ?_)
    have hz := cc_size w0 hrm.2.2.2.2.2 hrm.2.2.2.2.1 hR hsz
    have hR2 := hR
    obtain ⟨hP, hS, q1, q2, q3, q4, q5, q6, q7⟩ := hR2
    refine W.anew hx hb hown (hts _ (mm_in hcl rfl)) (va_AO.use w0.2.2.2) rfl hd rfl hq.1 (by omega) (by omega) (by omega) fun cA' kA comp f1 f2 f3 f4 => ?_
    obtain ⟨-, kA2, comp2, -, -, -, g4⟩ := w0.1.2 4 _ rfl
    have hcA : cA' = cA 5 := Option.some.inj (f1.symm.trans g4)
    subst hcA
    have hsn : σ h.1 = H.size := by rw [w0.2.1 h.1 (by omega), hz]
    generalize hH1 : H.push ({ cls := cA 5, slots := Array.replicate n.toNatClampNeg .null, vm := .none } : Cell) = H1
    have z1 : H1.size = H.size + 1 := by rw [← hH1, Array.size_push]
    have e1 : H1[H.size]? = some (arrV (cA 5) n.toNatClampNeg (fun _ => .null)) := by rw [← hH1, Array.getElem?_push_size, ← arrV_new]
    have o1 : ∀ q : Nat, q < H.size → H1[q]? = H[q]? := fun q hq => by rw [← hH1, Array.getElem?_push, if_neg (Nat.ne_of_lt hq)]
    have hR1 := cc_grown (x := .inr (5, n.toNatClampNeg, .inr (.inr []))) (k := n.toNatClampNeg) w0 hz hR hrm.2.2.2.2.1 hq.2.2.1 hq.2.2.2 z1 o1 e1
    have k1 := kn _ _ _ _ rfl H1 locs (cells + 1) (slots + n.toNatClampNeg) lsr hR1 hl
    have e2 : (Value.ref h.1 :: r).map (mm_v σ) = .ref H.size :: r.map (mm_v σ) := by rw [← hsn]; rfl
    rw [e2] at k1
    exact k1
  · cases hf9
/-- a changed cell is told -/
theorem cc_moved {h : cc_H} {H H1 : Heap} {locs locs1 : List Loc} {cells slots a : Nat} {x : cc_E} (hR : cc_Rz σ cA D B s.heap c0 m0 cap capS h H locs cells slots) (ha : a < h.1) (hP1 : va_P D vwCl ((cc_ws σ cA h).set a (σ a, cc_e σ cA x)) H1) (hS1 : va_S (fun q => B ≤ q) s.heap H1 locs1) : cc_Rz σ cA D B s.heap c0 m0 cap capS (cc_up h a x) H1 locs1 cells slots := by
  obtain ⟨hP, hS, q1, q2, q3, q4, q5, q6, q7⟩ := hR
  rw [cc_ws_set q7 ha] at hP1
  exact ⟨hP1, hS1, q1, q2, q3, q4, q5, q6, by show (h.2.2.2.2.set a x).length = h.1; rw [List.length_set]; exact q7⟩
theorem sc_put (X : cc_Cx p l R s m args meth c cc nL own nm σ cA D B c0 m0 cap capS I d C) {ci k index N : Nat} {Cn : String} {T : u_T} {ty0 : Nat → FieldType} {ty : FieldType} (hc : vwCl[ci]? = some (Cn, T, N)) (hin : ∀ w ∈ u_ws Cn T N, w ∈ lw_tbl) (hty : ∀ k, k < N → parseFieldDescriptor (T k).2.2.1 = some (ty0 k)) (hnm2 : ∀ a, a < N → ∀ b, b < N → a ≠ b → (T a).2.1 ≠ (T b).2.1) (hk : k < N) (hk0 : ty0 k = ty) (hfin : (T k).2.2.2 = false) (hw : Cond.fieldLink own index (T k).1 (T k).2.1 (T k).2.2.1 ∈ lw_tbl) (hd : decode cc pc = .ok (.putfield index, 3)) : mm_Sim p l e R s m args below meth c rt cc nL Q σ (cc_Rz σ cA D B s.heap c0 m0 cap capS) C (pc, c_put ci k ty (pc + 3)) := by
  obtain ⟨hx, hb, hml, hown, hts, w0, hrm, hnm, hC⟩ := X
  intro ls st h o hf H locs cells slots lsr hR hl kn kr
  replace hf : c_put ci k ty (pc + 3) C ls st h = some o := hf
  unfold c_put at hf
  split at hf
  · rename_i v a r
    split at hf
    · rename_i fs hob
      split at hf
      · rename_i hq
        cases hf
        obtain ⟨ha, he⟩ := cc_ob_inv hob
        obtain ⟨g1, g2⟩ := cc_fit_ok (σ := σ) hq.1
        refine va_put hx hb hts (mm_inW hin) ty0 hty hnm2 hown w0.1 hR.1 (w0.D (h := h) (by have := hR.2.2.1; have := hR.2.2.2.2.1; omega)) hR.2.1 a (fs := fs.map (mm_v σ)) (by rw [cc_ws_at ha, he]; rfl) hc k hk (hts _ (mm_in hw rfl)) (fun _ h9 => h9) hfin (hty k hk) (by rw [hk0]; exact g1) (by rw [hk0]; exact g2) (by rw [List.length_map]; exact hq.2) hd (fun H1 locs1 hP1 hD1 hS1 => ?_)
        refine kn _ _ _ _ rfl _ _ _ _ _ (cc_moved (x := .inl (ci, fs.set k v)) hR ha ?_ hS1) hl
        rw [show cc_e σ cA (.inl (ci, fs.set k v)) = .inr (ci, (fs.map (mm_v σ)).set k (mm_v σ v)) by simp [cc_e, List.map_set]]
        exact hP1
      · cases hf
    · cases hf
  · cases hf
theorem sc_putF (X : cc_Cx p l R s m args meth c cc nL own nm σ cA D B c0 m0 cap capS I d C) {ci k index N : Nat} {Cn : String} {T : u_T} {ty0 : Nat → FieldType} {ty : FieldType} (hc : vwCl[ci]? = some (Cn, T, N)) (hin : ∀ w ∈ u_ws Cn T N, w ∈ lw_tbl) (hty : ∀ k, k < N → parseFieldDescriptor (T k).2.2.1 = some (ty0 k)) (hnm2 : ∀ a, a < N → ∀ b, b < N → a ≠ b → (T a).2.1 ≠ (T b).2.1) (hk : k < N) (hk0 : ty0 k = ty) (hfin : (T k).2.2.2 = true) (hn1 : nm = "<init>") (hdecl : (T k).1 = own) (hw : Cond.fieldLink own index (T k).1 (T k).2.1 (T k).2.2.1 ∈ lw_tbl) (hd : decode cc pc = .ok (.putfield index, 3)) : mm_Sim p l e R s m args below meth c rt cc nL Q σ (cc_Rz σ cA D B s.heap c0 m0 cap capS) C (pc, c_put ci k ty (pc + 3)) := by
  obtain ⟨hx, hb, hml, hown, hts, w0, hrm, hnm, hC⟩ := X
  intro ls st h o hf H locs cells slots lsr hR hl kn kr
  replace hf : c_put ci k ty (pc + 3) C ls st h = some o := hf
  unfold c_put at hf
  split at hf
  · rename_i v a r
    split at hf
    · rename_i fs hob
      split at hf
      · rename_i hq
        cases hf
        obtain ⟨ha, he⟩ := cc_ob_inv hob
        obtain ⟨g1, g2⟩ := cc_fit_ok (σ := σ) hq.1
        refine va_putF hx hb hts (mm_inW hin) ty0 hty hnm2 hown w0.1 hR.1 (w0.D (h := h) (by have := hR.2.2.1; have := hR.2.2.2.2.1; omega)) hR.2.1 a (fs := fs.map (mm_v σ)) (by rw [cc_ws_at ha, he]; rfl) hc k hk (hts _ (mm_in hw rfl)) (fun _ h9 => h9) hfin (hnm.trans hn1) hdecl (hty k hk) (by rw [hk0]; exact g1) (by rw [hk0]; exact g2) (by rw [List.length_map]; exact hq.2) hd (fun H1 locs1 hP1 hD1 hS1 => ?_)
        refine kn _ _ _ _ rfl _ _ _ _ _ (cc_moved (x := .inl (ci, fs.set k v)) hR ha ?_ hS1) hl
        rw [show cc_e σ cA (.inl (ci, fs.set k v)) = .inr (ci, (fs.map (mm_v σ)).set k (mm_v σ v)) by simp [cc_e, List.map_set]]
        exact hP1
      · cases hf
    · cases hf
  · cases hf
theorem sc_get (X : cc_Cx p l R s m args meth c cc nL own nm σ cA D B c0 m0 cap capS I d C) {ci k index N : Nat} {Cn : String} {T : u_T} (hc : vwCl[ci]? = some (Cn, T, N)) (hin : ∀ w ∈ u_ws Cn T N, w ∈ lw_tbl) (hk : k < N) (hw : Cond.fieldLink own index (T k).1 (T k).2.1 (T k).2.2.1 ∈ lw_tbl) (hd : decode cc pc = .ok (.getfield index, 3)) : mm_Sim p l e R s m args below meth c rt cc nL Q σ (cc_Rz σ cA D B s.heap c0 m0 cap capS) C (pc, c_get ci k (pc + 3)) := by
  obtain ⟨hx, hb, hml, hown, hts, w0, hrm, hnm, hC⟩ := X
  intro ls st h o hf H locs cells slots lsr hR hl kn kr
  obtain ⟨a, r, rfl, hf9⟩ := mm_pA_inv hf
  clear hf
  split at hf9
  · rename_i fs hob
    split at hf9
    · rename_i v hv
      cases hf9
      obtain ⟨ha, he⟩ := cc_ob_inv hob
      exact va_get hx hb hts (mm_inW hin) hown w0.1 hR.1 a (fs := fs.map (mm_v σ)) (by rw [cc_ws_at ha, he]; rfl) hc k hk (hts _ (mm_in hw rfl)) (fun _ h9 => h9) (by rw [List.getElem?_map, hv]; rfl) hd (kn _ _ _ _ rfl _ _ _ _ _ hR hl)
    · cases hf9
  · cases hf9
theorem sc_getN (X : cc_Cx p l R s m args meth c cc nL own nm σ cA D B c0 m0 cap capS I d C) {ci k index N : Nat} {Cn host : String} {T : u_T} (hc : vwCl[ci]? = some (Cn, T, N)) (hin : ∀ w ∈ u_ws Cn T N, w ∈ lw_tbl) (hk : k < N) (hw : Cond.fieldLinkNest own index (T k).1 (T k).2.1 (T k).2.2.1 host ∈ lw_tbl) (hd : decode cc pc = .ok (.getfield index, 3)) : mm_Sim p l e R s m args below meth c rt cc nL Q σ (cc_Rz σ cA D B s.heap c0 m0 cap capS) C (pc, c_get ci k (pc + 3)) := by
  obtain ⟨hx, hb, hml, hown, hts, w0, hrm, hnm, hC⟩ := X
  intro ls st h o hf H locs cells slots lsr hR hl kn kr
  obtain ⟨a, r, rfl, hf9⟩ := mm_pA_inv hf
  clear hf
  split at hf9
  · rename_i fs hob
    split at hf9
    · rename_i v hv
      cases hf9
      obtain ⟨ha, he⟩ := cc_ob_inv hob
      exact va_getN hx hb hts (mm_inW hin) hown w0.1 hR.1 a (fs := fs.map (mm_v σ)) (by rw [cc_ws_at ha, he]; rfl) hc k hk (va_Nw.use rfl (w0.2.2.1 _ (mm_inN hw rfl))) (fun _ h9 => h9) (by rw [List.getElem?_map, hv]; rfl) hd (kn _ _ _ _ rfl _ _ _ _ _ hR hl)
    · cases hf9
  · cases hf9
theorem sc_iast (X : cc_Cx p l R s m args meth c cc nL own nm σ cA D B c0 m0 cap capS I d C) (hd : decode cc pc = .ok (.iastore, 1)) : mm_Sim p l e R s m args below meth c rt cc nL Q σ (cc_Rz σ cA D B s.heap c0 m0 cap capS) C (pc, c_iast (pc + 1)) := by
  obtain ⟨hx, hb, hml, hown, hts, w0, hrm, hnm, hC⟩ := X
  intro ls st h o hf H locs cells slots lsr hR hl kn kr
  obtain ⟨v, r, rfl, hf7⟩ := mm_pI_inv hf
  obtain ⟨i, r, rfl, hf8⟩ := mm_pI_inv hf7
  obtain ⟨a, r, rfl, hf9⟩ := mm_pA_inv hf8
  clear hf hf7 hf8
  split at hf9
  · rename_i n f har
    split at hf9
    · cases hf9
    · rename_i hi
      cases hf9
      obtain ⟨ha, he⟩ := cc_ar_inv har
      exact va_iast hx hb w0.1 hR.1 (w0.D (h := h) (by have := hR.2.2.1; have := hR.2.2.2.2.1; omega)) hR.2.1 a 0 (n := n) (f := fun j => f.getD j 0) (cA := cA 1) (by rw [cc_ws_at ha, he]; rfl) rfl hi hd (fun H1 locs1 hP1 hD1 hS1 => kn _ _ _ _ rfl _ _ _ _ _ (cc_moved (x := .inr (1, n, .inl (cc_ls f i.toNatClampNeg v))) hR ha (by rw [show cc_e σ cA (.inr (1, n, .inl (cc_ls f i.toNatClampNeg v))) = .inl (cA 1, n, .inl (upd (fun j => f.getD j 0) i.toNatClampNeg v)) by rw [← cc_ls_at]; rfl]; exact hP1) hS1) hl)
  · cases hf9
theorem sc_cast (X : cc_Cx p l R s m args meth c cc nL own nm σ cA D B c0 m0 cap capS I d C) (hd : decode cc pc = .ok (.castore, 1)) : mm_Sim p l e R s m args below meth c rt cc nL Q σ (cc_Rz σ cA D B s.heap c0 m0 cap capS) C (pc, c_cast (pc + 1)) := by
  obtain ⟨hx, hb, hml, hown, hts, w0, hrm, hnm, hC⟩ := X
  intro ls st h o hf H locs cells slots lsr hR hl kn kr
  obtain ⟨v, r, rfl, hf7⟩ := mm_pI_inv hf
  obtain ⟨i, r, rfl, hf8⟩ := mm_pI_inv hf7
  obtain ⟨a, r, rfl, hf9⟩ := mm_pA_inv hf8
  clear hf hf7 hf8
  split at hf9
  · rename_i n f har
    split at hf9
    · cases hf9
    · rename_i hi
      cases hf9
      obtain ⟨ha, he⟩ := cc_ar_inv har
      exact va_cast hx hb w0.1 hR.1 (w0.D (h := h) (by have := hR.2.2.1; have := hR.2.2.2.2.1; omega)) hR.2.1 a 2 (n := n) (f := fun j => f.getD j 0) (cA := cA 3) (by rw [cc_ws_at ha, he]; rfl) rfl hi hd (fun H1 locs1 hP1 hD1 hS1 => kn _ _ _ _ rfl _ _ _ _ _ (cc_moved (x := .inr (3, n, .inl (cc_ls f i.toNatClampNeg (vp_nar .char v)))) hR ha (by rw [show cc_e σ cA (.inr (3, n, .inl (cc_ls f i.toNatClampNeg (vp_nar .char v)))) = .inl (cA 3, n, .inl (upd (fun j => f.getD j 0) i.toNatClampNeg (vp_nar .char v))) by rw [← cc_ls_at]; rfl]; exact hP1) hS1) hl)
  · cases hf9
theorem sc_aast (X : cc_Cx p l R s m args meth c cc nL own nm σ cA D B c0 m0 cap capS I d C) (hd : decode cc pc = .ok (.aastore, 1)) : mm_Sim p l e R s m args below meth c rt cc nL Q σ (cc_Rz σ cA D B s.heap c0 m0 cap capS) C (pc, c_aast (pc + 1)) := by
  obtain ⟨hx, hb, hml, hown, hts, w0, hrm, hnm, hC⟩ := X
  intro ls st h o hf H locs cells slots lsr hR hl kn kr
  obtain ⟨b, r, rfl, hf7⟩ := mm_pA_inv hf
  obtain ⟨i, r, rfl, hf8⟩ := mm_pI_inv hf7
  obtain ⟨a, r, rfl, hf9⟩ := mm_pA_inv hf8
  clear hf hf7 hf8
  split at hf9
  · rename_i n f fs haq hob
    split at hf9
    · cases hf9
    · rename_i hi
      cases hf9
      obtain ⟨ha, he⟩ := cc_aq_inv haq
      obtain ⟨hb2, he2⟩ := cc_ob_inv hob
      refine va_astq hx hb w0.1 hR.1 (w0.D (h := h) (by have := hR.2.2.1; have := hR.2.2.2.2.1; omega)) hR.2.1 a 4 b 7 (n := n) (f := fun j => (f.getD j none).map σ) (cA := cA 5) (r := (RX7, TX7, 12)) (vs := fs.map (mm_v σ)) (by rw [cc_ws_at ha, he]; rfl) rfl (by rw [cc_ws_at hb2, he2]; rfl) rfl hi hd (fun H1 locs1 hP1 hD1 hS1 => kn _ _ _ _ rfl _ _ _ _ _ (cc_moved (x := .inr (5, n, .inr (.inr (cc_lq f i.toNatClampNeg (some b))))) hR ha ?_ hS1) hl)
      have e5 : cc_e σ cA (.inr (5, n, .inr (.inr (cc_lq f i.toNatClampNeg (some b))))) = .inl (cA 5, n, .inr (.inr (.inr (.inr (va_up (fun j => (f.getD j none).map σ) i.toNatClampNeg (some (σ b))))))) := by
        have e6 : (fun j => ((cc_lq f i.toNatClampNeg (some b)).getD j none).map σ) = va_up (fun j => (f.getD j none).map σ) i.toNatClampNeg (some (σ b)) := by
          funext j
          have e7 := congrFun (cc_lq_at f i.toNatClampNeg (some b)) j
          rw [e7]
          by_cases hj : j = i.toNatClampNeg
          · simp [va_up, hj]
          · simp [va_up, hj]
        rw [← e6]
        rfl
      rw [e5]
      exact hP1
  · cases hf9
theorem sc_obj (X : cc_Cx p l R s m args meth c cc nL own nm σ cA D B c0 m0 cap capS I d C) {index : Nat} (hw : Cond.methodLink own index objectInit ∈ lw_tbl) (hw2 : Cond.instanceMethod objectInit ∈ lw_tbl) (hw3 : Cond.code objectInit ⟨#[0xb1]⟩ 1 none ∈ lw_tbl) (hd : decode cc pc = .ok (.invokespecial index, 3)) : mm_Sim p l e R s m args below meth c rt cc nL Q σ (cc_Rz σ cA D B s.heap c0 m0 cap capS) C (pc, c_obj (pc + 3)) := by
  obtain ⟨hx, hb, hml, hown, hts, w0, hrm, hnm, hC⟩ := X
  intro ls st h o hf H locs cells slots lsr hR hl kn kr
  obtain ⟨a, r, rfl, hf9⟩ := mm_pA_inv hf
  clear hf
  split at hf9
  · rename_i hq
    cases hf9
    refine W.objInit hx hb hown (hts _ (mm_in hw rfl)) (hts _ (mm_in hw2 rfl)) (hts _ (mm_in hw3 rfl)) rfl (hl.2.1.trans hml.symm) rfl hd (by omega) ?_ (kn _ _ _ _ rfl _ _ _ _ _ hR hl)
    have h8 : 2 * (F0 m pc lsr (List.map (mm_v σ) (Value.ref a :: r))).monitorRoom + ((r.map (mm_v σ)).map fun v => v.category).sum ≤ 8 := lv_room (by rw [mm_cats]; exact hq)
    exact Nat.le_trans (Nat.add_le_add_right h8 12) (by omega)
  · cases hf9
/-- behind a call -/
theorem cc_call {H : Heap} {locs : List Loc} {cells slots mc ms : Nat} {lsr : Array Slot} {st0 rest : List Value} {a : Array Value} {h' : cc_H} (hr : va_Run p l e R s m args below meth c H locs cells slots mc ms (F0 m pc lsr st0) rest (cc_Qc σ cA D B none h' a) (fun q => B ≤ q)) (hS : va_S (fun q => B ≤ q) s.heap H locs)
    (kk : ∀ (H1 : Heap) (locs1 : List Loc), va_P D vwCl (cc_ws σ cA h') H1 → va_S (fun q => B ≤ q) s.heap H1 locs1 → W p l e R s m args below meth c H1 locs1 (cells + mc) (slots + ms) Q (F0 m (pc + 3) lsr rest)) : W p l e R s m args below meth c H locs cells slots Q (F0 m pc lsr st0) := by
  intro T hT X
  obtain ⟨w, st₀, t, T', L, h0, X', hL, e1, e2, ⟨hv, hp, hz, hk⟩, st⟩ := hr T hT X
  cases hv
  rw [h0] at hz hk
  obtain ⟨t2, a1, b1⟩ := kk T'.heap (locs ++ L) (by rw [e1]; exact hp)
    ⟨Nat.le_trans hS.1 (by rw [e1]; exact hz), fun q h1 h2 => by rw [e1, hk q (Nat.lt_of_lt_of_le h1 hS.1) h2]; exact hS.2.1 q h1 h2, fun q hq => by
      rcases List.mem_append.mp hq with h | h
      · exact hS.2.2 q h
      · exact hL q h⟩ T' rfl X'
  exact ⟨t2, st t2 a1, b1⟩
theorem cc_preOK {H : Heap} {h : cc_H} {mc ms : Nat} (w0 : cc_W0 σ cA D B s) (hP : va_P D vwCl (cc_ws σ cA h) H) (hz : H.size = B + h.1) (as : List Value) {U : State} (hU : U.heap = H) (hW : s.WarmedH U.vm) : cc_Pc σ cA D B as (cc_in h mc ms) (as.map (mm_v σ)).toArray U := ⟨rfl, by rw [hU]; exact hP, by rw [hU]; exact hz, w0.warm hW⟩
theorem sc_init (X : cc_Cx p l R s m args meth c cc nL own nm σ cA D B c0 m0 cap capS I d C) {y n mc ms index maxL : Nat} {yn : MethodName} {bytes : ByteArray} (hI : I y = (yn, bytes, maxL, none)) (hcode : Cond.code yn bytes maxL none ∈ lw_tbl) (hini : Cond.initialized yn.cls ∈ lw_tbl) (hlink : Cond.methodLink own index yn ∈ lw_tbl) (hinst : Cond.instanceMethod yn ∈ lw_tbl) (hy1 : yn.name = "<init>") (hmh : yn.cls ≠ "java/lang/invoke/MethodHandle" ∧ yn.cls ≠ "java/lang/invoke/VarHandle") (hpar : (parseMethodDescriptor yn.desc).map (fun d => d.parameters.length) = some n) (hm : maxL ≤ 100) (hd : decode cc pc = .ok (.invokespecial index, 3)) : mm_Sim p l e R s m args below meth c rt cc nL Q σ (cc_Rz σ cA D B s.heap c0 m0 cap capS) C (pc, c_init y n mc ms (pc + 3)) := by
  obtain ⟨hx, hb, hml, hown, hts, w0, hrm, hnm, hC⟩ := X
  intro ls st h o hf H locs cells slots lsr hR hl kn kr
  replace hf : c_init y n mc ms (pc + 3) C ls st h = some o := hf
  unfold c_init at hf
  obtain ⟨b, rest, hst, hf9⟩ := mm_pA_inv hf
  clear hf
  split at hf9
  · rename_i hq
    obtain ⟨h', hv, g1, g2, g3, rfl⟩ := cc_back_inv hf9
    refine cc_sized (fun hsz => ?_)
    have hz := cc_size w0 hrm.2.2.2.2.2 hrm.2.2.2.2.1 hR hsz
    have hR2 := hR
    obtain ⟨hP, hS, q1, q2, q3, q4, q5, q6, q7⟩ := hR2
    have hM := hC y _ (cc_in h mc ms) none h' hv (by show h.1 ≤ h.1 + mc; omega) (by show h.2.1 ≤ h.2.1 + ms; omega) (by show h.1 + mc ≤ mm_N; omega) q7 σ cA D B
    rw [hI, show (cc_in h mc ms).2.2.1 - (cc_in h mc ms).1 = mc by show h.1 + mc - h.1 = mc; omega, show (cc_in h mc ms).2.2.2.1 - (cc_in h mc ms).2.1 = ms by show h.2.1 + ms - h.2.1 = ms; omega] at hM
    obtain ⟨k1, k2⟩ := mm_stk (σ := σ) hst
    refine cc_call (a := ((Value.ref b :: (st.take n).reverse).map (mm_v σ)).toArray) (va_runI (As := ((st.take n).reverse).map (mm_v σ)) (rest := rest.map (mm_v σ)) ⟨hx, hb, hml, hown, hts⟩ hM ⟨callB_of n hts (mm_good (mm_in hcode rfl)) rfl rfl rfl (hts _ (mm_in hini rfl)) (hts _ (mm_in hlink rfl)) ⟨hmh.1, hmh.2, hpar⟩ ⟨by show d + 1 ≤ R.frames; omega, by show 8 + (maxL + 11) + 150 * d ≤ R.locals; omega⟩, hy1, hts _ (mm_in hinst rfl)⟩ ⟨cc_blind _ _ _ _ _ _, fun U hU hW => cc_preOK w0 hR.1 hz _ hU hW⟩ rfl k2 hl.2.1 k1 (lv_room (by rw [mm_cats]; exact hq.1)) hd ⟨by omega, by omega⟩) hR.2.1 (fun H1 locs1 hP1 hS1 => ?_)
    exact kn _ _ _ _ rfl H1 locs1 (cells + mc) (slots + ms) lsr ⟨hP1, hS1, by show h'.1 ≤ h.2.2.1; omega, by show h'.2.1 ≤ h.2.2.2.1; omega, q3, q4, by show h'.1 = c0 + (cells + mc); omega, by show h'.2.1 = m0 + (slots + ms); omega, g3⟩ hl
  · cases hf9
theorem sc_initN (X : cc_Cx p l R s m args meth c cc nL own nm σ cA D B c0 m0 cap capS I d C) {y n mc ms index maxL : Nat} {host : String} {yn : MethodName} {bytes : ByteArray} (hI : I y = (yn, bytes, maxL, none)) (hcode : Cond.code yn bytes maxL none ∈ lw_tbl) (hini : Cond.initialized yn.cls ∈ lw_tbl) (hlink : Cond.methodLinkNest own index yn host ∈ lw_tbl) (hinst : Cond.instanceMethod yn ∈ lw_tbl) (hy1 : yn.name = "<init>") (hmh : yn.cls ≠ "java/lang/invoke/MethodHandle" ∧ yn.cls ≠ "java/lang/invoke/VarHandle") (hpar : (parseMethodDescriptor yn.desc).map (fun d => d.parameters.length) = some n) (hm : maxL ≤ 100) (hd : decode cc pc = .ok (.invokespecial index, 3)) : mm_Sim p l e R s m args below meth c rt cc nL Q σ (cc_Rz σ cA D B s.heap c0 m0 cap capS) C (pc, c_init y n mc ms (pc + 3)) := by
  obtain ⟨hx, hb, hml, hown, hts, w0, hrm, hnm, hC⟩ := X
  intro ls st h o hf H locs cells slots lsr hR hl kn kr
  replace hf : c_init y n mc ms (pc + 3) C ls st h = some o := hf
  unfold c_init at hf
  obtain ⟨b, rest, hst, hf9⟩ := mm_pA_inv hf
  clear hf
  split at hf9
  · rename_i hq
    obtain ⟨h', hv, g1, g2, g3, rfl⟩ := cc_back_inv hf9
    refine cc_sized (fun hsz => ?_)
    have hz := cc_size w0 hrm.2.2.2.2.2 hrm.2.2.2.2.1 hR hsz
    have hR2 := hR
    obtain ⟨hP, hS, q1, q2, q3, q4, q5, q6, q7⟩ := hR2
    have hM := hC y _ (cc_in h mc ms) none h' hv (by show h.1 ≤ h.1 + mc; omega) (by show h.2.1 ≤ h.2.1 + ms; omega) (by show h.1 + mc ≤ mm_N; omega) q7 σ cA D B
    rw [hI, show (cc_in h mc ms).2.2.1 - (cc_in h mc ms).1 = mc by show h.1 + mc - h.1 = mc; omega, show (cc_in h mc ms).2.2.2.1 - (cc_in h mc ms).2.1 = ms by show h.2.1 + ms - h.2.1 = ms; omega] at hM
    obtain ⟨k1, k2⟩ := mm_stk (σ := σ) hst
    refine cc_call (a := ((Value.ref b :: (st.take n).reverse).map (mm_v σ)).toArray) (va_runIN (As := ((st.take n).reverse).map (mm_v σ)) (rest := rest.map (mm_v σ)) ⟨hx, hb, hml, hown, hts⟩ hM ⟨va_cnB n hts (mm_good (mm_in hcode rfl)) rfl rfl rfl (w0.2.2.1 _ (mm_inN hlink rfl)) (hts _ (mm_in hini rfl)) ⟨hmh.1, hmh.2, hpar⟩ ⟨by show d + 1 ≤ R.frames; omega, by show 8 + (maxL + 11) + 150 * d ≤ R.locals; omega⟩, hy1, hts _ (mm_in hinst rfl)⟩ ⟨cc_blind _ _ _ _ _ _, fun U hU hW => cc_preOK w0 hR.1 hz _ hU hW⟩ rfl k2 hl.2.1 k1 (lv_room (by rw [mm_cats]; exact hq.1)) hd ⟨by omega, by omega⟩) hR.2.1 (fun H1 locs1 hP1 hS1 => ?_)
    exact kn _ _ _ _ rfl H1 locs1 (cells + mc) (slots + ms) lsr ⟨hP1, hS1, by show h'.1 ≤ h.2.2.1; omega, by show h'.2.1 ≤ h.2.2.2.1; omega, q3, q4, by show h'.1 = c0 + (cells + mc); omega, by show h'.2.1 = m0 + (slots + ms); omega, g3⟩ hl
  · cases hf9
theorem sc_callV (X : cc_Cx p l R s m args meth c cc nL own nm σ cA D B c0 m0 cap capS I d C) {ci y n mc ms index maxL N : Nat} {Cn : String} {T : u_T} {yn : MethodName} {bytes : ByteArray} (hI : I y = (yn, bytes, maxL, none)) (hc : vwCl[ci]? = some (Cn, T, N)) (hcode : Cond.code yn bytes maxL none ∈ lw_tbl) (hini : Cond.initialized yn.cls ∈ lw_tbl) (hlink : Cond.methodLink own index yn ∈ lw_tbl) (hinst : Cond.instanceMethod yn ∈ lw_tbl) (hsel : Cond.selects Cn yn yn ∈ lw_tbl) (hmh : yn.cls ≠ "java/lang/invoke/MethodHandle" ∧ yn.cls ≠ "java/lang/invoke/VarHandle") (hpar : (parseMethodDescriptor yn.desc).map (fun d => d.parameters.length) = some n) (hm : maxL ≤ 100) (hd : decode cc pc = .ok (.invokevirtual index, 3)) : mm_Sim p l e R s m args below meth c rt cc nL Q σ (cc_Rz σ cA D B s.heap c0 m0 cap capS) C (pc, c_callV ci y n mc ms (pc + 3)) := by
  obtain ⟨hx, hb, hml, hown, hts, w0, hrm, hnm, hC⟩ := X
  intro ls st h o hf H locs cells slots lsr hR hl kn kr
  replace hf : c_callV ci y n mc ms (pc + 3) C ls st h = some o := hf
  unfold c_callV at hf
  obtain ⟨b, rest, hst, hf9⟩ := mm_pA_inv hf
  clear hf
  split at hf9
  case h_2 => cases hf9
  rename_i fs hob
  obtain ⟨hb2, he2⟩ := cc_ob_inv hob
  split at hf9
  · rename_i hq
    obtain ⟨h', hv, g1, g2, g3, rfl⟩ := cc_back_inv hf9
    refine cc_sized (fun hsz => ?_)
    have hz := cc_size w0 hrm.2.2.2.2.2 hrm.2.2.2.2.1 hR hsz
    have hR2 := hR
    obtain ⟨hP, hS, q1, q2, q3, q4, q5, q6, q7⟩ := hR2
    have hM := hC y _ (cc_in h mc ms) none h' hv (by show h.1 ≤ h.1 + mc; omega) (by show h.2.1 ≤ h.2.1 + ms; omega) (by show h.1 + mc ≤ mm_N; omega) q7 σ cA D B
    rw [hI, show (cc_in h mc ms).2.2.1 - (cc_in h mc ms).1 = mc by show h.1 + mc - h.1 = mc; omega, show (cc_in h mc ms).2.2.2.1 - (cc_in h mc ms).2.1 = ms by show h.2.1 + ms - h.2.1 = ms; omega] at hM
    obtain ⟨k1, k2⟩ := mm_stk (σ := σ) hst
    refine cc_call (a := ((Value.ref b :: (st.take n).reverse).map (mm_v σ)).toArray) (va_runV (C := Cn) (As := ((st.take n).reverse).map (mm_v σ)) (rest := rest.map (mm_v σ)) ⟨hx, hb, hml, hown, hts⟩ hM ⟨callB_of n hts (mm_good (mm_in hcode rfl)) rfl rfl rfl (hts _ (mm_in hini rfl)) (hts _ (mm_in hlink rfl)) ⟨hmh.1, hmh.2, hpar⟩ ⟨by show d + 1 ≤ R.frames; omega, by show 8 + (maxL + 11) + 150 * d ≤ R.locals; omega⟩, hts _ (mm_in hinst rfl), hts _ (mm_in hsel rfl)⟩ ⟨cc_blind _ _ _ _ _ _, va_recv w0.1 hR.1 hc (fs := fs.map (mm_v σ)) (by rw [cc_ws_at hb2, he2]; rfl), fun U hU hW => cc_preOK w0 hR.1 hz _ hU hW⟩ rfl k2 hl.2.1 k1 (lv_room (by rw [mm_cats]; exact hq.1)) hd ⟨by omega, by omega⟩) hR.2.1 (fun H1 locs1 hP1 hS1 => ?_)
    exact kn _ _ _ _ rfl H1 locs1 (cells + mc) (slots + ms) lsr ⟨hP1, hS1, by show h'.1 ≤ h.2.2.1; omega, by show h'.2.1 ≤ h.2.2.2.1; omega, q3, q4, by show h'.1 = c0 + (cells + mc); omega, by show h'.2.1 = m0 + (slots + ms); omega, g3⟩ hl
  · cases hf9
end CTOR
/-- with fuel, so that it can be computed -/
def mm_Mf {Hp : Type} (T : mm_T Hp) (n : Nat) : Nat → mm_C Hp
  | 0 => fun _ _ _ => none
  | d + 1 => fun y as h => match T y with
    | none => none
    | some q => if (mm_sl as).length ≤ q.1 then mm_run (mm_Mf T n d) q.2 n 0 (mm_init q.1 as) [] h else none
theorem mm_Mf_inv {Hp : Type} {T : mm_T Hp} {n d y : Nat} {as : List Value} {h : Hp} {r : mm_R Hp} (e : mm_Mf T n (d + 1) y as h = some r) : ∃ nL cd, T y = some (nL, cd) ∧ (mm_sl as).length ≤ nL ∧ mm_run (mm_Mf T n d) cd n 0 (mm_init nL as) [] h = some r := by
  replace e : (match T y with
    | none => none
    | some q => if (mm_sl as).length ≤ q.1 then mm_run (mm_Mf T n d) q.2 n 0 (mm_init q.1 as) [] h else none) = some r := e
  cases hT : T y with
  | none => rw [hT] at e; cases e
  | some q =>
    rw [hT] at e
    simp only at e
    by_cases hl : (mm_sl as).length ≤ q.1
    · rw [if_pos hl] at e
      exact ⟨q.1, q.2, rfl, hl, e⟩
    · rw [if_neg hl] at e
      cases e
def cc_CodeOK (l : Launch) (I : mm_I) (own nm : String) (cc : ByteArray) (nL : Nat) (rt : Option FieldType) (cd : mm_K cc_H) : Prop :=
  ∀ (p : Program) (e : Env) (R : Room) (s : State) (m : MethodId) (args : Array Value) (below : List Frame) (meth : Method) (c : Code) (Q : State → Prop) (σ : Nat → Nat) (cA : Nat → ClassId) (D : va_G) (B c0 m0 cap capS d : Nat) (C : mm_C cc_H), cc_Cx p l R s m args meth c cc nL own nm σ cA D B c0 m0 cap capS I d C → ∀ q ∈ cd, mm_Sim p l e R s m args below meth c rt cc nL Q σ (cc_Rz σ cA D B s.heap c0 m0 cap capS) C q
def cc_TOK (l : Launch) (T : mm_T cc_H) (I : mm_I) : Prop := ∀ (y nL : Nat) (cd : mm_K cc_H), T y = some (nL, cd) → plainFor (I y).1 = true ∧ (I y).2.2.1 = nL ∧ cc_CodeOK l I (I y).1.cls (I y).1.name (I y).2.1 nL (I y).2.2.2 cd
theorem cc_met {l : Launch} {T : mm_T cc_H} {I : mm_I} (n : Nat) (hT : cc_TOK l T I) : ∀ d, cc_CO l I d (mm_Mf T n d)
  | 0 => by
    intro y as h v h' e
    cases e
  | d + 1 => by
    intro y as h v h' e hc1 hc2 hc3 hc4 σ cA D B
    obtain ⟨nL, cd, hy, hlen, hrun⟩ := mm_Mf_inv e
    obtain ⟨h1, h2, h3⟩ := hT y nL cd hy
    refine va_MetF (cc := (I y).2.1) (maxL := (I y).2.2.1) (ret := (I y).2.2.2) h1 rfl ?_
    intro p e s m args below meth c s₁ B0 hml hv
    obtain ⟨hargs, hP, hz, hW⟩ := hv
    subst hargs
    have hx := B0.exec
    have hb := B0.bytes
    have hr := B0.returns
    have hts := atoms_spec (ws := Cond.code (I y).1 (I y).2.1 (I y).2.2.1 (I y).2.2.2 :: mm_tb) B0.pre
    have hown : s.vm.findClass (I y).1.cls = some m.cls := findClass_of_methodNamed B0.named
    have hnm : meth.name = (I y).1.name := (name_of_methodNamed B0.named B0.method).1
    have hlocks := B0.notSynchronized
    rw [h2] at hml ⊢
    rw [lg_entry_eq]
    refine mm_sim_run (st := []) (σ := σ) (Rz := cc_Rz σ cA D B s.heap h.1 h.2.1 h.2.2.1 h.2.2.2.1) (C := mm_Mf T n d) (cd := cd) (h3 p e (cc_rm (d + 1) (h.2.2.1 - h.1) (h.2.2.2.1 - h.2.1)) s m _ below meth c _ σ cA D B h.1 h.2.1 h.2.2.1 h.2.2.2.1 d (mm_Mf T n d) ⟨hx, hb, hml, hown, fun w hw => hts w (List.mem_cons_of_mem _ hw), hW, ⟨Nat.le_refl _, Nat.le_of_eq (by show 150 * d + 150 = 150 * (d + 1); omega), by show h.2.2.1 ≤ h.1 + (h.2.2.1 - h.1); omega, by show h.2.2.2.1 ≤ h.2.1 + (h.2.2.2.1 - h.2.1); omega, hc3, hz⟩, hnm, cc_met n hT d⟩) ?_ n 0 _ h hrun s.heap [] 0 0 _ ⟨hP, va_S.rf, hc1, hc2, rfl, rfl, rfl, rfl, hc4⟩ (mm_init_lv σ hlen)
    intro pc' H' locs' cells' slots' lsr' hret hR'
    obtain ⟨hP', hS', q1, q2, q3, q4, q5, q6, q7⟩ := hR'
    refine W.widen (k := h.2.2.1 - h.1) (n := h.2.2.2.1 - h.2.1) (by omega) (by omega) ?_
    cases v with
    | none =>
      obtain ⟨hd, hrt⟩ := hret
      exact W.vret hx hb (hr.trans hrt) (fun t ht hW' => ⟨rfl, by rw [ht]; exact hP', hS'.F ht⟩) hS'.2.2 hd
    | some w =>
      cases w with
      | int x =>
        obtain ⟨hd, ty, hrt, hn⟩ := hret
        exact W.zret hx hb (hr.trans hrt) hn (fun t ht hW' => ⟨rfl, by rw [ht]; exact hP', hS'.F ht⟩) hS'.2.2 hd
      | long x =>
        obtain ⟨hd, hrt⟩ := hret
        exact W.lret hx hb (hr.trans hrt) (fun t ht hW' => ⟨rfl, by rw [ht]; exact hP', hS'.F ht⟩) hS'.2.2 hd
      | ref x =>
        obtain ⟨hd, ty, hrt, hty⟩ := hret
        exact W.aret hx hb (hr.trans hrt) hty (Or.inr ⟨_, rfl⟩) (fun t ht hW' => ⟨rfl, by rw [ht]; exact hP', hS'.F ht⟩) hS'.2.2 hd
      | float x => exact False.elim hret
      | double x => exact False.elim hret
      | null => exact False.elim hret
      | retAddr x => exact False.elim hret
