/-! A small machine of our own: a step is a function; a method is a list of steps by their pc; what it answers (mm_D) is told by equations. It is tied to the JVM of the statement by mm_Sim, step by step. -/
abbrev mm_R (Hp : Type) : Type := Option Value × Hp
abbrev mm_O (Hp : Type) : Type := (Nat × List Value × List Value × Hp) ⊕ (Option Value × Hp)
abbrev mm_C (Hp : Type) : Type := Nat → List Value → Hp → Option (mm_R Hp)
abbrev mm_S (Hp : Type) : Type := mm_C Hp → List Value → List Value → Hp → Option (mm_O Hp)
abbrev mm_K (Hp : Type) : Type := List (Nat × mm_S Hp)
def mm_get {Hp : Type} : mm_K Hp → Nat → Option (mm_S Hp)
  | [], _ => none
  | (a, f) :: r, pc => if a = pc then some f else mm_get r pc
theorem mm_get_mem {Hp : Type} {pc : Nat} {f : mm_S Hp} : ∀ {cd : mm_K Hp}, mm_get cd pc = some f → (pc, f) ∈ cd
  | [], h => by cases h
  | (a, g) :: r, h => by
    unfold mm_get at h
    by_cases ha : a = pc
    · rw [if_pos ha] at h
      cases h
      rw [ha]
      exact List.mem_cons_self
    · rw [if_neg ha] at h
      exact List.mem_cons_of_mem _ (mm_get_mem h)
def mm_run {Hp : Type} (C : mm_C Hp) (cd : mm_K Hp) : Nat → Nat → List Value → List Value → Hp → Option (mm_R Hp)
  | 0, _, _, _, _ => none
  | n + 1, pc, ls, st, h => match mm_get cd pc with
    | none => none
    | some f => match f C ls st h with
      | none => none
      | some (.inr r) => some r
      | some (.inl c) => mm_run C cd n c.1 c.2.1 c.2.2.1 c.2.2.2
theorem mm_run_mono {Hp : Type} {C : mm_C Hp} {cd : mm_K Hp} {r : mm_R Hp} : ∀ (n : Nat) {pc : Nat} {ls st : List Value} {h : Hp}, mm_run C cd n pc ls st h = some r → mm_run C cd (n + 1) pc ls st h = some r
  | 0, _, _, _, _, h => by cases h
  | n + 1, pc, ls, st, h, hr => by
    unfold mm_run at hr ⊢
    cases hg : mm_get cd pc with
    | none => rw [hg] at hr; cases hr
    | some f =>
      rw [hg] at hr
      simp only at hr ⊢
      cases hf : f C ls st h with
      | none => rw [hf] at hr; cases hr
      | some o =>
        rw [hf] at hr
        cases o with
        | inr q => exact hr
        | inl c => exact mm_run_mono n hr
theorem mm_run_le {Hp : Type} {C : mm_C Hp} {cd : mm_K Hp} {r : mm_R Hp} {pc : Nat} {ls st : List Value} {h : Hp} {n k : Nat} (hr : mm_run C cd n pc ls st h = some r) : mm_run C cd (n + k) pc ls st h = some r := by
  induction k with
  | zero => exact hr
  | succ k ih => exact mm_run_mono _ ih
theorem mm_run_fun {Hp : Type} {C : mm_C Hp} {cd : mm_K Hp} {r r' : mm_R Hp} {pc : Nat} {ls st : List Value} {h : Hp} {n k : Nat} (h1 : mm_run C cd n pc ls st h = some r) (h2 : mm_run C cd k pc ls st h = some r') : r = r' := by
  have a := mm_run_le (k := k) h1
  have b := mm_run_le (k := n) h2
  rw [Nat.add_comm] at b
  rw [a] at b
  exact Option.some.inj b
noncomputable def mm_D {Hp : Type} (C : mm_C Hp) (cd : mm_K Hp) (pc : Nat) (ls st : List Value) (h : Hp) : Option (mm_R Hp) :=
  @dite _ (∃ r, ∃ n, mm_run C cd n pc ls st h = some r) (Classical.propDecidable _) (fun x => some x.choose) (fun _ => none)
theorem mm_D_iff {Hp : Type} {C : mm_C Hp} {cd : mm_K Hp} {pc : Nat} {ls st : List Value} {h : Hp} {r : mm_R Hp} : mm_D C cd pc ls st h = some r ↔ ∃ n, mm_run C cd n pc ls st h = some r := by
  unfold mm_D
  by_cases x : ∃ r, ∃ n, mm_run C cd n pc ls st h = some r
  · rw [dif_pos x]
    obtain ⟨n, hn⟩ := x.choose_spec
    constructor
    · intro e
      rw [← Option.some.inj e]
      exact ⟨n, hn⟩
    · rintro ⟨k, hk⟩
      rw [mm_run_fun hn hk]
  · rw [dif_neg x]
    constructor
    · intro e
      cases e
    · rintro ⟨k, hk⟩
      exact absurd ⟨r, k, hk⟩ x
theorem mm_D_ext {Hp : Type} {a b : Option (mm_R Hp)} (h : ∀ r, a = some r ↔ b = some r) : a = b := by
  cases a with
  | none =>
    cases b with
    | none => rfl
    | some y => exact absurd ((h y).mpr rfl) (by simp)
  | some x => exact ((h x).mp rfl).symm
/-- the equation of one step -/
noncomputable def mm_next {Hp : Type} (C : mm_C Hp) (cd : mm_K Hp) : Option (mm_O Hp) → Option (mm_R Hp)
  | none => none
  | some (.inr r) => some r
  | some (.inl c) => @mm_D Hp C cd c.1 c.2.1 c.2.2.1 c.2.2.2
theorem mm_D_step {Hp : Type} {C : mm_C Hp} {cd : mm_K Hp} {pc : Nat} {ls st : List Value} {h : Hp} {f : mm_S Hp} (hf : mm_get cd pc = some f) : mm_D C cd pc ls st h = mm_next C cd (f C ls st h) := by
  apply mm_D_ext
  intro r
  rw [mm_D_iff]
  constructor
  · rintro ⟨n, hn⟩
    cases n with
    | zero => cases hn
    | succ n =>
      unfold mm_run at hn
      rw [hf] at hn
      simp only at hn
      cases ho : f C ls st h with
      | none => rw [ho] at hn; cases hn
      | some o =>
        rw [ho] at hn
        cases o with
        | inr q => exact hn
        | inl c => exact mm_D_iff.mpr ⟨n, hn⟩
  · intro hn
    cases ho : f C ls st h with
    | none => rw [ho] at hn; cases hn
    | some o =>
      rw [ho] at hn
      cases o with
      | inr q =>
        refine ⟨1, ?_⟩
        unfold mm_run
        rw [hf]
        simp only
        rw [ho]
        exact hn
      | inl c =>
        obtain ⟨n, hk⟩ := mm_D_iff.mp (show mm_D C cd c.1 c.2.1 c.2.2.1 c.2.2.2 = some r from hn)
        refine ⟨n + 1, ?_⟩
        unfold mm_run
        rw [hf]
        simp only
        rw [ho]
        exact hk
/-- a step that goes on -/
theorem mm_go {Hp : Type} {C : mm_C Hp} {cd : mm_K Hp} {pc pc' : Nat} {ls st ls' st' : List Value} {h h' : Hp} {f : mm_S Hp} (hf : mm_get cd pc = some f) (ho : f C ls st h = some (.inl (pc', ls', st', h'))) : mm_D C cd pc ls st h = mm_D C cd pc' ls' st' h' := by
  rw [mm_D_step hf, ho]
  rfl
theorem mm_end {Hp : Type} {C : mm_C Hp} {cd : mm_K Hp} {pc : Nat} {ls st : List Value} {h : Hp} {r : mm_R Hp} {f : mm_S Hp} (hf : mm_get cd pc = some f) (ho : f C ls st h = some (.inr r)) : mm_D C cd pc ls st h = some r := by
  rw [mm_D_step hf, ho]
  rfl
/-- many steps that need no choice, at once: k steps, by computation -/
def mm_many {Hp : Type} (C : mm_C Hp) (cd : mm_K Hp) : Nat → (Nat × List Value × List Value × Hp) → Option (mm_O Hp)
  | 0, c => some (.inl c)
  | k + 1, c => match mm_get cd c.1 with
    | none => none
    | some f => match f C c.2.1 c.2.2.1 c.2.2.2 with
      | none => none
      | some (.inr r) => some (.inr r)
      | some (.inl c') => mm_many C cd k c'
theorem mm_D_many {Hp : Type} {C : mm_C Hp} {cd : mm_K Hp} : ∀ (k : Nat) {c : Nat × List Value × List Value × Hp} {o : mm_O Hp}, mm_many C cd k c = some o → mm_D C cd c.1 c.2.1 c.2.2.1 c.2.2.2 = mm_next C cd (some o)
  | 0, c, o, h => by
    cases h
    rfl
  | k + 1, c, o, h => by
    unfold mm_many at h
    cases hg : mm_get cd c.1 with
    | none => rw [hg] at h; cases h
    | some f =>
      rw [hg] at h
      simp only at h
      rw [mm_D_step hg]
      cases hf : f C c.2.1 c.2.2.1 c.2.2.2 with
      | none => rw [hf] at h; cases h
      | some o' =>
        rw [hf] at h
        cases o' with
        | inr q =>
          cases h
          rfl
        | inl c' => exact mm_D_many k h
theorem mm_by {Hp : Type} {C : mm_C Hp} {cd : mm_K Hp} (k : Nat) {pc pc' : Nat} {ls st ls' st' : List Value} {h h' : Hp} (ho : mm_many C cd k (pc, ls, st, h) = some (.inl (pc', ls', st', h'))) : mm_D C cd pc ls st h = mm_D C cd pc' ls' st' h' := mm_D_many k ho
theorem mm_by_end {Hp : Type} {C : mm_C Hp} {cd : mm_K Hp} (k : Nat) {pc : Nat} {ls st : List Value} {h : Hp} {r : mm_R Hp} (ho : mm_many C cd k (pc, ls, st, h) = some (.inr r)) : mm_D C cd pc ls st h = some r := mm_D_many k ho
/-- the methods: by number, the locals' count and the code; depth by depth -/
abbrev mm_T (Hp : Type) : Type := Nat → Option (Nat × mm_K Hp)
def mm_sl : List Value → List Value
  | [] => []
  | .long x :: r => .long x :: .null :: mm_sl r
  | .double x :: r => .double x :: .null :: mm_sl r
  | v :: r => v :: mm_sl r
def mm_init (nL : Nat) (as : List Value) : List Value := mm_sl as ++ List.replicate (nL - (mm_sl as).length) .null
noncomputable def mm_M {Hp : Type} (T : mm_T Hp) : Nat → mm_C Hp
  | 0 => fun _ _ _ => none
  | d + 1 => fun y as h => match T y with
    | none => none
    | some q => if (mm_sl as).length ≤ q.1 then mm_D (mm_M T d) q.2 0 (mm_init q.1 as) [] h else none
theorem mm_M_eq {Hp : Type} {T : mm_T Hp} {d y nL : Nat} {cd : mm_K Hp} (hy : T y = some (nL, cd)) {as ls : List Value} (hl : (mm_sl as).length ≤ nL) (hi : mm_init nL as = ls) (h : Hp) : mm_M T (d + 1) y as h = mm_D (mm_M T d) cd 0 ls [] h := by
  show (match T y with
    | none => none
    | some q => if (mm_sl as).length ≤ q.1 then mm_D (mm_M T d) q.2 0 (mm_init q.1 as) [] h else none) = _
  rw [hy]
  simp only
  rw [if_pos hl, hi]
theorem mm_M_inv {Hp : Type} {T : mm_T Hp} {d y : Nat} {as : List Value} {h : Hp} {r : mm_R Hp} (e : mm_M T (d + 1) y as h = some r) : ∃ nL cd, T y = some (nL, cd) ∧ (mm_sl as).length ≤ nL ∧ ∃ n, mm_run (mm_M T d) cd n 0 (mm_init nL as) [] h = some r := by
  replace e : (match T y with
    | none => none
    | some q => if (mm_sl as).length ≤ q.1 then mm_D (mm_M T d) q.2 0 (mm_init q.1 as) [] h else none) = some r := e
  cases hT : T y with
  | none => rw [hT] at e; cases e
  | some q =>
    rw [hT] at e
    simp only at e
    by_cases hl : (mm_sl as).length ≤ q.1
    · rw [if_pos hl] at e
      exact ⟨q.1, q.2, rfl, hl, mm_D_iff.mp e⟩
    · rw [if_neg hl] at e
      cases e
/-! taking values off a stack, out of the locals -/
def mm_pI {β : Type} (st : List Value) (k : Int32 → List Value → Option β) : Option β := match st with
  | .int x :: r => k x r
  | _ => none
def mm_pL {β : Type} (st : List Value) (k : Int64 → List Value → Option β) : Option β := match st with
  | .long x :: r => k x r
  | _ => none
def mm_pA {β : Type} (st : List Value) (k : Nat → List Value → Option β) : Option β := match st with
  | .ref x :: r => k x r
  | _ => none
theorem mm_pI_inv {β : Type} {st : List Value} {k : Int32 → List Value → Option β} {o : β} (h : mm_pI st k = some o) : ∃ x r, st = .int x :: r ∧ k x r = some o := by
  cases st with
  | nil => cases h
  | cons v r => cases v <;> first | exact ⟨_, _, rfl, h⟩ | cases h
theorem mm_pL_inv {β : Type} {st : List Value} {k : Int64 → List Value → Option β} {o : β} (h : mm_pL st k = some o) : ∃ x r, st = .long x :: r ∧ k x r = some o := by
  cases st with
  | nil => cases h
  | cons v r => cases v <;> first | exact ⟨_, _, rfl, h⟩ | cases h
theorem mm_pA_inv {β : Type} {st : List Value} {k : Nat → List Value → Option β} {o : β} (h : mm_pA st k = some o) : ∃ x r, st = .ref x :: r ∧ k x r = some o := by
  cases st with
  | nil => cases h
  | cons v r => cases v <;> first | exact ⟨_, _, rfl, h⟩ | cases h
def mm_lI {β : Type} (ls : List Value) (i : Nat) (k : Int32 → Option β) : Option β := match ls[i]? with
  | some (.int x) => k x
  | _ => none
def mm_lL {β : Type} (ls : List Value) (i : Nat) (k : Int64 → Option β) : Option β := match ls[i]? with
  | some (.long x) => k x
  | _ => none
def mm_lA {β : Type} (ls : List Value) (i : Nat) (k : Nat → Option β) : Option β := match ls[i]? with
  | some (.ref x) => k x
  | _ => none
theorem mm_lI_inv {β : Type} {ls : List Value} {i : Nat} {k : Int32 → Option β} {o : β} (h : mm_lI ls i k = some o) : ∃ x, ls[i]? = some (.int x) ∧ k x = some o := by
  unfold mm_lI at h
  cases hv : ls[i]? with
  | none => rw [hv] at h; cases h
  | some v => rw [hv] at h; cases v <;> first | exact ⟨_, rfl, h⟩ | cases h
theorem mm_lL_inv {β : Type} {ls : List Value} {i : Nat} {k : Int64 → Option β} {o : β} (h : mm_lL ls i k = some o) : ∃ x, ls[i]? = some (.long x) ∧ k x = some o := by
  unfold mm_lL at h
  cases hv : ls[i]? with
  | none => rw [hv] at h; cases h
  | some v => rw [hv] at h; cases v <;> first | exact ⟨_, rfl, h⟩ | cases h
theorem mm_lA_inv {β : Type} {ls : List Value} {i : Nat} {k : Nat → Option β} {o : β} (h : mm_lA ls i k = some o) : ∃ x, ls[i]? = some (.ref x) ∧ k x = some o := by
  unfold mm_lA at h
  cases hv : ls[i]? with
  | none => rw [hv] at h; cases h
  | some v => rw [hv] at h; cases v <;> first | exact ⟨_, rfl, h⟩ | cases h
def mm_cl1 (ls : List Value) (j : Nat) : Option Value → List Value
  | some (.long _) => ls.set j .null
  | some (.double _) => ls.set j .null
  | _ => ls
def mm_clr (ls : List Value) : Nat → List Value
  | 0 => ls
  | j + 1 => mm_cl1 ls j ls[j]?
def mm_st1 (ls : List Value) (i : Nat) (v : Value) : List Value := (mm_clr ls i).set i v
def mm_st2 (ls : List Value) (i : Nat) (v : Value) : List Value := ((mm_clr ls i).set i v).set (i + 1) .null
theorem mm_cl1_len (ls : List Value) (j : Nat) (o : Option Value) : (mm_cl1 ls j o).length = ls.length := by
  unfold mm_cl1
  split
  · simp
  · simp
  · rfl
theorem mm_clr_len (ls : List Value) (i : Nat) : (mm_clr ls i).length = ls.length := by
  cases i with
  | zero => rfl
  | succ j => exact mm_cl1_len ls j _
theorem mm_cl1_ne {ls : List Value} {j k : Nat} (o : Option Value) (hk : ¬ k = j) : (mm_cl1 ls j o)[k]? = ls[k]? := by
  unfold mm_cl1
  split
  · rw [List.getElem?_set_ne (fun q => hk q.symm)]
  · rw [List.getElem?_set_ne (fun q => hk q.symm)]
  · rfl
theorem mm_clr_at {ls : List Value} {i k : Nat} {w : Value} (h : (mm_clr ls i)[k]? = some w) (hw : w ≠ .null) : ls[k]? = some w ∧ ¬ (k + 1 = i ∧ w.category = 2) := by
  cases i with
  | zero => exact ⟨h, fun q => by omega⟩
  | succ j =>
    replace h : (mm_cl1 ls j ls[j]?)[k]? = some w := h
    by_cases hk : k = j
    · subst hk
      cases hv : ls[k]? with
      | none => rw [hv] at h; exact absurd (h.symm.trans hv) (by simp)
      | some v =>
        have hl : k < ls.length := (List.getElem?_eq_some_iff.mp hv).1
        rw [hv] at h
        cases v with
        | long x =>
          replace h : (ls.set k .null)[k]? = some w := h
          rw [List.getElem?_set_self hl] at h
          exact absurd (Option.some.inj h).symm hw
        | double x =>
          replace h : (ls.set k .null)[k]? = some w := h
          rw [List.getElem?_set_self hl] at h
          exact absurd (Option.some.inj h).symm hw
        | int x =>
          have e : w = .int x := Option.some.inj (h.symm.trans hv)
          exact ⟨by rw [e], fun q => by rw [e] at q; simp [Value.category] at q⟩
        | float x =>
          have e : w = .float x := Option.some.inj (h.symm.trans hv)
          exact ⟨by rw [e], fun q => by rw [e] at q; simp [Value.category] at q⟩
        | null =>
          exact absurd (Option.some.inj (h.symm.trans hv)) hw
        | ref x =>
          have e : w = .ref x := Option.some.inj (h.symm.trans hv)
          exact ⟨by rw [e], fun q => by rw [e] at q; simp [Value.category] at q⟩
        | retAddr x =>
          have e : w = .retAddr x := Option.some.inj (h.symm.trans hv)
          exact ⟨by rw [e], fun q => by rw [e] at q; simp [Value.category] at q⟩
    · rw [mm_cl1_ne _ hk] at h
      exact ⟨h, fun q => by omega⟩
/-! what it stands for in the JVM: handles by σ -/
def mm_v (σ : Nat → Nat) : Value → Value
  | .ref a => .ref (σ a)
  | v => v
theorem mm_v_cat (σ : Nat → Nat) (v : Value) : (mm_v σ v).category = v.category := by cases v <;> rfl
def mm_lv (σ : Nat → Nat) (nL : Nat) (ls : List Value) (lsr : Array Slot) : Prop := ls.length = nL ∧ lsr.size = nL ∧ lv_wf lsr ∧ ∀ (i : Nat) (v : Value), ls[i]? = some v → v ≠ .null → lsr[i]? = some (.val (mm_v σ v))
def mm_l1 (σ : Nat → Nat) (j : Nat) : Option Value → Option (Nat × Value)
  | some .null => none
  | some v => some (j, mm_v σ v)
  | none => none
def mm_ll (σ : Nat → Nat) (ls : List Value) : List (Nat × Value) := (List.range ls.length).filterMap (fun j => mm_l1 σ j ls[j]?)
theorem mm_l1_some {σ : Nat → Nat} {j : Nat} {v : Value} (hv : v ≠ .null) : mm_l1 σ j (some v) = some (j, mm_v σ v) := by
  cases v <;> first | rfl | exact absurd rfl hv
theorem mm_ll_mem {σ : Nat → Nat} {ls : List Value} {i : Nat} {v : Value} (h : ls[i]? = some v) (hv : v ≠ .null) : (i, mm_v σ v) ∈ mm_ll σ ls :=
  List.mem_filterMap.mpr ⟨i, List.mem_range.mpr (List.getElem?_eq_some_iff.mp h).1, by rw [h]; exact mm_l1_some hv⟩
theorem mm_ll_of {σ : Nat → Nat} {ls : List Value} {q : Nat × Value} (h : q ∈ mm_ll σ ls) : ∃ v, ls[q.1]? = some v ∧ v ≠ .null ∧ q.2 = mm_v σ v := by
  obtain ⟨j, -, hj⟩ := List.mem_filterMap.mp h
  cases hv : ls[j]? with
  | none => rw [hv] at hj; cases hj
  | some v =>
    rw [hv] at hj
    by_cases hn : v = .null
    · rw [hn] at hj; cases hj
    · rw [mm_l1_some hn] at hj
      cases hj
      exact ⟨v, hv, hn, rfl⟩
theorem mm_lv_has {σ : Nat → Nat} {nL : Nat} {ls : List Value} {lsr : Array Slot} (h : mm_lv σ nL ls lsr) : lv_has lsr nL (mm_ll σ ls) := by
  refine ⟨h.2.1, h.2.2.1, fun q hq => ?_⟩
  obtain ⟨v, h1, h2, h3⟩ := mm_ll_of hq
  rw [h3]
  exact h.2.2.2 _ _ h1 h2
theorem mm_lv_st1 {σ : Nat → Nat} {nL i : Nat} {ls : List Value} {lsr ls' : Array Slot} {v : Value} (h : mm_lv σ nL ls lsr) (hi : i < nL) (H : lv_has ls' nL ((i, mm_v σ v) :: (mm_ll σ ls).filter (fun q => !(q.1 == i) && !(q.1 + 1 == i && q.2.category == 2)))) : mm_lv σ nL (mm_st1 ls i v) ls' := by
  refine ⟨by rw [mm_st1, List.length_set, mm_clr_len]; exact h.1, H.1, H.2.1, fun j w hj hw => ?_⟩
  by_cases hji : j = i
  · subst hji
    rw [mm_st1, List.getElem?_set_self (by rw [mm_clr_len, h.1]; exact hi)] at hj
    cases hj
    exact H.2.2 (j, mm_v σ v) List.mem_cons_self
  · rw [mm_st1, List.getElem?_set_ne (fun q => hji q.symm)] at hj
    obtain ⟨a1, a2⟩ := mm_clr_at hj hw
    refine H.2.2 (j, mm_v σ w) (List.mem_cons_of_mem _ (List.mem_filter.mpr ⟨mm_ll_mem a1 hw, ?_⟩))
    simp only [mm_v_cat, Bool.and_eq_true, Bool.not_eq_true', beq_eq_false_iff_ne, ne_eq, Bool.and_eq_false_iff]
    refine ⟨hji, ?_⟩
    by_cases hc : j + 1 = i
    · exact Or.inr (fun q => a2 ⟨hc, q⟩)
    · exact Or.inl hc
theorem mm_lv_st2 {σ : Nat → Nat} {nL i : Nat} {ls : List Value} {lsr ls' : Array Slot} {v : Value} (h : mm_lv σ nL ls lsr) (hi : i + 1 < nL) (H : lv_has ls' nL ((i, mm_v σ v) :: (mm_ll σ ls).filter (fun q => !(q.1 == i) && (!(q.1 == i + 1) && !(q.1 + 1 == i && q.2.category == 2))))) : mm_lv σ nL (mm_st2 ls i v) ls' := by
  refine ⟨by rw [mm_st2, List.length_set, List.length_set, mm_clr_len]; exact h.1, H.1, H.2.1, fun j w hj hw => ?_⟩
  by_cases hj1 : j = i + 1
  · subst hj1
    rw [mm_st2, List.getElem?_set_self (by rw [List.length_set, mm_clr_len, h.1]; exact hi)] at hj
    cases hj
    exact absurd rfl hw
  · rw [mm_st2, List.getElem?_set_ne (fun q => hj1 q.symm)] at hj
    by_cases hji : j = i
    · subst hji
      rw [List.getElem?_set_self (by rw [mm_clr_len, h.1]; omega)] at hj
      cases hj
      exact H.2.2 (j, mm_v σ v) List.mem_cons_self
    · rw [List.getElem?_set_ne (fun q => hji q.symm)] at hj
      obtain ⟨a1, a2⟩ := mm_clr_at hj hw
      refine H.2.2 (j, mm_v σ w) (List.mem_cons_of_mem _ (List.mem_filter.mpr ⟨mm_ll_mem a1 hw, ?_⟩))
      simp only [mm_v_cat, Bool.and_eq_true, Bool.not_eq_true', beq_eq_false_iff_ne, ne_eq, Bool.and_eq_false_iff]
      refine ⟨hji, hj1, ?_⟩
      by_cases hc : j + 1 = i
      · exact Or.inr (fun q => a2 ⟨hc, q⟩)
      · exact Or.inl hc
/-- a return stands at pc, and what it gives is of the method's type -/
def mm_ret (rt : Option FieldType) (cc : ByteArray) (pc : Nat) : Option Value → Prop
  | none => decode cc pc = .ok (.return_, 1) ∧ rt = none
  | some (.int x) => decode cc pc = .ok (.ireturn, 1) ∧ ∃ ty, rt = some ty ∧ narrow ty (.int x) = .int x
  | some (.long _) => decode cc pc = .ok (.lreturn, 1) ∧ rt = some .long
  | some (.ref _) => decode cc pc = .ok (.areturn, 1) ∧ ∃ ty, rt = some ty ∧ ((∃ n, ty = .object n) ∨ ∃ t, ty = .array t)
  | _ => False
/-- one step of ours is told by the JVM: Rz tells how a heap of ours stands in the JVM's -/
def mm_Sim {Hp : Type} (p : Program) (l : Launch) (e : Env) (R : Room) (s : State) (m : MethodId) (args : Array Value) (below : List Frame) (meth : Method) (c : Code) (rt : Option FieldType) (cc : ByteArray) (nL : Nat) (Q : State → Prop) (σ : Nat → Nat) (Rz : Hp → Heap → List Loc → Nat → Nat → Prop) (C : mm_C Hp) (q : Nat × mm_S Hp) : Prop :=
  ∀ (ls st : List Value) (h : Hp) (o : mm_O Hp), q.2 C ls st h = some o → ∀ (H : Heap) (locs : List Loc) (cells slots : Nat) (lsr : Array Slot), Rz h H locs cells slots → mm_lv σ nL ls lsr →
  (∀ (pc' : Nat) (ls' st' : List Value) (h' : Hp), o = .inl (pc', ls', st', h') → ∀ (H' : Heap) (locs' : List Loc) (cells' slots' : Nat) (lsr' : Array Slot), Rz h' H' locs' cells' slots' → mm_lv σ nL ls' lsr' → W p l e R s m args below meth c H' locs' cells' slots' Q (F0 m pc' lsr' (st'.map (mm_v σ)))) →
  (∀ (v : Option Value) (h' : Hp), o = .inr (v, h') → ∀ (pc' : Nat) (lsr' : Array Slot), mm_ret rt cc pc' v → Rz h' H locs cells slots → W p l e R s m args below meth c H locs cells slots Q (F0 m pc' lsr' (v.toList.map (mm_v σ)))) →
  W p l e R s m args below meth c H locs cells slots Q (F0 m q.1 lsr (st.map (mm_v σ)))
theorem mm_sim_run {Hp : Type} {p : Program} {l : Launch} {e : Env} {R : Room} {s : State} {m : MethodId} {args : Array Value} {below : List Frame} {meth : Method} {c : Code} {rt : Option FieldType} {cc : ByteArray} {nL : Nat} {Q : State → Prop} {σ : Nat → Nat} {Rz : Hp → Heap → List Loc → Nat → Nat → Prop} {C : mm_C Hp} {cd : mm_K Hp} (hcd : ∀ q ∈ cd, mm_Sim p l e R s m args below meth c rt cc nL Q σ Rz C q) {v : Option Value} {h' : Hp}
    (kr : ∀ (pc' : Nat) (H' : Heap) (locs' : List Loc) (cells' slots' : Nat) (lsr' : Array Slot), mm_ret rt cc pc' v → Rz h' H' locs' cells' slots' → W p l e R s m args below meth c H' locs' cells' slots' Q (F0 m pc' lsr' (v.toList.map (mm_v σ)))) :
    ∀ (n pc : Nat) (ls st : List Value) (h : Hp), mm_run C cd n pc ls st h = some (v, h') → ∀ (H : Heap) (locs : List Loc) (cells slots : Nat) (lsr : Array Slot), Rz h H locs cells slots → mm_lv σ nL ls lsr → W p l e R s m args below meth c H locs cells slots Q (F0 m pc lsr (st.map (mm_v σ)))
  | 0, _, _, _, _, hr => by cases hr
  | n + 1, pc, ls, st, h, hr => by
    intro H locs cells slots lsr hR hl
    unfold mm_run at hr
    cases hg : mm_get cd pc with
    | none => rw [hg] at hr; cases hr
    | some f =>
      rw [hg] at hr
      simp only at hr
      cases hf : f C ls st h with
      | none => rw [hf] at hr; cases hr
      | some o =>
        rw [hf] at hr
        refine hcd (pc, f) (mm_get_mem hg) ls st h o hf H locs cells slots lsr hR hl (fun pc' ls' st' h2 ho H' locs' cells' slots' lsr' hR' hl' => ?_) (fun v2 h2 ho pc2 lsr2 hret hR' => ?_)
        · subst ho
          exact mm_sim_run hcd kr n pc' ls' st' h2 hr H' locs' cells' slots' lsr' hR' hl'
        · subst ho
          cases hr
          exact kr pc2 H locs cells slots lsr2 hret hR'
