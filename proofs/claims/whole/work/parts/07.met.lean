/-! a method of ours that answers, answers so in the JVM -/
theorem mm_sl_len (σ : Nat → Nat) : ∀ as : List Value, (lg_sl (as.map (mm_v σ))).length = (mm_sl as).length
  | [] => rfl
  | v :: as => by
    have ih := mm_sl_len σ as
    have e : lg_sl ((v :: as).map (mm_v σ)) = (if (mm_v σ v).category = 2 then [.val (mm_v σ v), .second] else [.val (mm_v σ v)]) ++ lg_sl (as.map (mm_v σ)) := by
      simp [lg_sl]
    rw [e, List.length_append, ih, mm_v_cat]
    cases v <;> simp [mm_sl, Value.category] <;> omega
theorem mm_sl_args (σ : Nat → Nat) : ∀ (as : List Value) (off i : Nat) (v : Value), (mm_sl as)[i]? = some v → v ≠ .null → (off + i, mm_v σ v) ∈ lv_args off (as.map (mm_v σ))
  | [], off, i, v, h, _ => by simp [mm_sl] at h
  | w :: as, off, i, v, h, hv => by
    rw [List.map_cons, lv_args, mm_v_cat]
    have ih := mm_sl_args σ as
    have one : w.category = 1 → mm_sl (w :: as) = w :: mm_sl as := by
      intro hc
      cases w <;> first | rfl | (simp [Value.category] at hc)
    have two : w.category = 2 → mm_sl (w :: as) = w :: .null :: mm_sl as := by
      intro hc
      cases w <;> first | rfl | (simp [Value.category] at hc)
    rcases lv_cat w with hc | hc
    · rw [one hc] at h
      rw [if_neg (by omega)]
      cases i with
      | zero =>
        rw [List.getElem?_cons_zero] at h
        cases h
        exact List.mem_cons_self
      | succ j =>
        rw [List.getElem?_cons_succ] at h
        have := ih (off + 1) j v h hv
        rw [show off + 1 + j = off + (j + 1) by omega] at this
        exact List.mem_cons_of_mem _ this
    · rw [two hc] at h
      rw [if_pos hc]
      cases i with
      | zero =>
        rw [List.getElem?_cons_zero] at h
        cases h
        exact List.mem_cons_self
      | succ j =>
        cases j with
        | zero =>
          rw [List.getElem?_cons_succ, List.getElem?_cons_zero] at h
          exact absurd (Option.some.inj h).symm hv
        | succ j =>
          rw [List.getElem?_cons_succ, List.getElem?_cons_succ] at h
          have := ih (off + 2) j v h hv
          rw [show off + 2 + j = off + (j + 1 + 1) by omega] at this
          exact List.mem_cons_of_mem _ this
theorem mm_init_lv (σ : Nat → Nat) {as : List Value} {nL : Nat} (h : (mm_sl as).length ≤ nL) : mm_lv σ nL (mm_init nL as) ((lg_sl (as.map (mm_v σ)) ++ List.replicate (nL - (lg_sl (as.map (mm_v σ))).length) Slot.unset).toArray) := by
  have H := lv_entry (as.map (mm_v σ)) (n := nL) (by rw [mm_sl_len]; exact h)
  refine ⟨?_, H.1, H.2.1, fun i v hi hv => ?_⟩
  · rw [mm_init, List.length_append, List.length_replicate]
    omega
  · have hlt : i < (mm_sl as).length := by
      rcases Nat.lt_or_ge i (mm_sl as).length with q | q
      · exact q
      · rw [mm_init, List.getElem?_append_right q, List.getElem?_replicate] at hi
        split at hi
        · exact absurd (Option.some.inj hi).symm hv
        · cases hi
    rw [mm_init, List.getElem?_append_left hlt] at hi
    have := H.2.2 _ (mm_sl_args σ as 0 i v hi hv)
    rw [Nat.zero_add] at this
    exact this
def mm_CodeOK (l : Launch) (I : mm_I) (own : String) (cc : ByteArray) (nL : Nat) (rt : Option FieldType) (cd : mm_K mm_H) : Prop :=
  ∀ (p : Program) (e : Env) (R : Room) (s : State) (m : MethodId) (args : Array Value) (below : List Frame) (meth : Method) (c : Code) (Q : State → Prop) (σ : Nat → Nat) (cA : Nat → ClassId) (D : va_G) (A : Nat → Prop) (kc ks d : Nat) (C : mm_C mm_H), mm_Cx p l R s m args c cc nL own σ cA D A kc ks I d C → ∀ q ∈ cd, mm_Sim p l e R s m args below meth c rt cc nL Q σ (mm_Rz σ cA D A s.heap kc ks) C q
def mm_TOK (l : Launch) (T : mm_T mm_H) (I : mm_I) : Prop := ∀ (y nL : Nat) (cd : mm_K mm_H), T y = some (nL, cd) → plainName (I y).1.cls = true ∧ (I y).2.2.1 = nL ∧ mm_CodeOK l I (I y).1.cls (I y).2.1 nL (I y).2.2.2 cd
theorem mm_met {l : Launch} {T : mm_T mm_H} {I : mm_I} (hT : mm_TOK l T I) : ∀ d, mm_CO l I d (mm_M T d)
  | 0 => by
    intro y as h v h' e
    cases e
  | d + 1 => by
    intro y as h v h' e σ cA D
    obtain ⟨nL, cd, hy, hlen, n, hrun⟩ := mm_M_inv e
    obtain ⟨h1, h2, h3⟩ := hT y nL cd hy
    refine Met.ofW (cc := (I y).2.1) (maxL := (I y).2.2.1) (ret := (I y).2.2.2) h1 rfl ?_
    intro p e s m args below meth c s₁ B hml hv
    obtain ⟨hargs, hP, hW, hE⟩ := hv
    subst hargs
    have hx := B.exec
    have hb := B.bytes
    have hr := B.returns
    have hts := atoms_spec (ws := Cond.code (I y).1 (I y).2.1 (I y).2.2.1 (I y).2.2.2 :: mm_tb) B.pre
    have hown : s.vm.findClass (I y).1.cls = some m.cls := findClass_of_methodNamed B.named
    have hlocks := B.notSynchronized
    rw [h2] at hml ⊢
    rw [lg_entry_eq]
    refine mm_sim_run (st := []) (σ := σ) (Rz := mm_Rz σ cA D (mm_A σ) s.heap 0 0) (C := mm_M T d) (cd := cd) (h3 p e (mm_rm (d + 1)) s m _ below meth c _ σ cA D (mm_A σ) 0 0 d (mm_M T d) ⟨hx, hb, hml, hown, fun w hw => hts w (List.mem_cons_of_mem _ hw), hW, hE, ⟨Nat.le_refl _, Nat.le_of_eq (by show 150 * d + 150 = 150 * (d + 1); omega), Nat.le_refl _, Nat.le_refl _⟩, mm_met hT d⟩) ?_ n 0 _ h hrun s.heap [] 0 0 _ ⟨hP, va_S.rf, rfl, rfl⟩ (mm_init_lv σ hlen)
    intro pc' H' locs' cells' slots' lsr' hret hR'
    obtain ⟨hP', hS', rfl, rfl⟩ := hR'
    cases v with
    | none =>
      obtain ⟨hd, hrt⟩ := hret
      exact W.vret hx hb (hr.trans hrt) (fun t ht hW' => ⟨rfl, by rw [ht]; exact hP', hS'.F ht⟩) hS'.2.2 hd
    | some w =>
      cases w with
      | int x =>
        obtain ⟨hd, ty, hrt, hn⟩ := hret
        exact W.zret hx hb (hr.trans hrt) hn (fun t ht hW' => ⟨rfl, by rw [ht]; exact hP', hS'.F ht⟩) hS'.2.2 hd
      | long x =>
        obtain ⟨hd, hrt⟩ := hret
        exact W.lret hx hb (hr.trans hrt) (fun t ht hW' => ⟨rfl, by rw [ht]; exact hP', hS'.F ht⟩) hS'.2.2 hd
      | ref x =>
        obtain ⟨hd, ty, hrt, hty⟩ := hret
        exact W.aret hx hb (hr.trans hrt) hty (Or.inr ⟨_, rfl⟩) (fun t ht hW' => ⟨rfl, by rw [ht]; exact hP', hS'.F ht⟩) hS'.2.2 hd
      | float x => exact False.elim hret
      | double x => exact False.elim hret
      | null => exact False.elim hret
      | retAddr x => exact False.elim hret
