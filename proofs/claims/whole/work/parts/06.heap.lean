/-! the steps on the heap are told by the JVM -/
theorem mm_u_same (f : Nat → Nat → Int32) (a k : Nat) (v : Int32) : mm_u f a k v a k = v := by simp [mm_u, upd]
theorem mm_u_col {f : Nat → Nat → Int32} {a k j : Nat} {v : Int32} (h : j ≠ k) : mm_u f a k v a j = f a j := by simp [mm_u, upd, h]
theorem mm_u_row {f : Nat → Nat → Int32} {a k b : Nat} {v : Int32} (h : b ≠ a) : mm_u f a k v b = f b := by simp [mm_u, h]
theorem mm_uL_same (f : Nat → Nat → Int64) (a k : Nat) (v : Int64) : mm_uL f a k v a k = v := by simp [mm_uL, vp_updL]
theorem mm_uL_col {f : Nat → Nat → Int64} {a k j : Nat} {v : Int64} (h : j ≠ k) : mm_uL f a k v a j = f a j := by simp [mm_uL, vp_updL, h]
theorem mm_uL_row {f : Nat → Nat → Int64} {a k b : Nat} {v : Int64} (h : b ≠ a) : mm_uL f a k v b = f b := by simp [mm_uL, h]
theorem mm_uR_same (f : Nat → Nat → Nat) (a k : Nat) (v : Nat) : mm_uR f a k v a k = v := by simp [mm_uR, va_up]
theorem mm_uR_col {f : Nat → Nat → Nat} {a k j : Nat} {v : Nat} (h : j ≠ k) : mm_uR f a k v a j = f a j := by simp [mm_uR, va_up, h]
theorem mm_uR_row {f : Nat → Nat → Nat} {a k b : Nat} {v : Nat} (h : b ≠ a) : mm_uR f a k v b = f b := by simp [mm_uR, h]
theorem mm_cp_row {f : Nat → Nat → Int32} {a0 a sp dp n b : Nat} (h : b ≠ a) : mm_cp f a0 a sp dp n b = f b := by simp [mm_cp, h]
theorem mm_fw_eq {h h' : mm_H} {a ci j : Nat} (h1 : h'.1 a j = h.1 a j) (h2 : h'.2.1 a j = h.2.1 a j) (h3 : h'.2.2 a j = h.2.2 a j) : mm_fw h' a ci j = mm_fw h a ci j := by simp only [mm_fw, h1, h2, h3]
theorem mm_cats (σ : Nat → Nat) (st : List Value) : ((st.map (mm_v σ)).map fun v => v.category).sum = (st.map fun v => v.category).sum := by
  rw [List.map_map]
  congr 1
  apply List.map_congr_left
  intro v _
  exact mm_v_cat σ v
def mm_rm (d : Nat) : Room := { frames := d, cells := 0, slots := 0, locals := 150 * d }
def mm_Pc (σ : Nat → Nat) (cA : Nat → ClassId) (D : va_G) (as : List Value) (h : mm_H) : Array Value → State → Prop := va_Pc (as.map (mm_v σ)) (fun U => va_P D vwCl (mm_ws σ cA h) U.heap ∧ mm_W0 σ cA D (mm_A σ) U ∧ mm_Ext σ (mm_A σ) U U.heap)
def mm_Qc (σ : Nat → Nat) (cA : Nat → ClassId) (D : va_G) (v : Option Value) (h' : mm_H) : Array Value → State → Outcome → State → Prop := fun _ st oc t => oc = .returned (v.map (mm_v σ)) ∧ va_P D vwCl (mm_ws σ cA h') t.heap ∧ va_F (mm_A σ) st t
abbrev mm_I : Type := Nat → MethodName × ByteArray × Nat × Option FieldType
def mm_CO (l : Launch) (I : mm_I) (d : Nat) (C : mm_C mm_H) : Prop := ∀ (y : Nat) (as : List Value) (h : mm_H) (v : Option Value) (h' : mm_H), C y as h = some (v, h') → ∀ (σ : Nat → Nat) (cA : Nat → ClassId) (D : va_G), Met l (I y).1 (Cond.code (I y).1 (I y).2.1 (I y).2.2.1 (I y).2.2.2 :: mm_tb) (mm_rm d) (mm_Pc σ cA D as h) (mm_Qc σ cA D v h') 0 0 (mm_A σ)
/-- what a method stands in -/
def mm_Cx (p : Program) (l : Launch) (R : Room) (s : State) (m : MethodId) (args : Array Value) (c : Code) (cc : ByteArray) (nL : Nat) (own : String) (σ : Nat → Nat) (cA : Nat → ClassId) (D : va_G) (A : Nat → Prop) (kc ks : Nat) (I : mm_I) (d : Nat) (C : mm_C mm_H) : Prop :=
  p.tables.exec = Jvm.exec ∧ c.code = cc ∧ c.maxLocals = nL ∧ s.vm.findClass own = some m.cls ∧ (∀ w ∈ mm_tb, w.before args s = true) ∧ mm_W0 σ cA D A s ∧ mm_Ext σ A s s.heap ∧ (d + 1 ≤ R.frames ∧ 150 * d + 150 ≤ R.locals ∧ kc ≤ R.cells ∧ ks ≤ R.slots) ∧ mm_CO l I d C
theorem mm_good {w : Cond} (h : w ∈ mm_tb) : GoodIn mm_tb (w :: mm_tb) := by
  have key : ∀ v ∈ mm_tb, v ∈ mm_tb ∧ ((v.onTables && v.keeps) = true ∨ ∃ ty, v = .arrayClass ty) := fun v hv => ⟨hv, good_of_word (List.mem_filter.mp hv).2⟩
  intro v hv
  rcases List.mem_cons.mp hv with rfl | hv
  · exact key _ h
  · exact key _ hv
theorem mm_in {w : Cond} (h : w ∈ lw_tbl) (hg : goodWord w = true) : w ∈ mm_tb := List.mem_filter.mpr ⟨h, hg⟩
theorem mm_inW {Cn : String} {T : u_T} {N : Nat} (h : ∀ w ∈ u_ws Cn T N, w ∈ lw_tbl) : ∀ w ∈ u_ws Cn T N, w ∈ mm_tb := by
  intro w hw
  refine mm_in (h w hw) ?_
  obtain ⟨k, -, rfl⟩ := List.mem_map.mp hw
  unfold u_lay
  split <;> rfl
theorem mm_blind (σ : Nat → Nat) (cA : Nat → ClassId) (D : va_G) (as : List Value) (h : mm_H) : FrameBlind (mm_Pc σ cA D as h) := by
  intro a U g mk q
  obtain ⟨q0, qP, qW, qE⟩ := q
  exact ⟨q0, qP, qW.warm (Vm.Alike.refl U.vm), mm_Ext.same (u := U) (U := U.calling g mk a) (H := U.heap) rfl qE⟩
section HEAP
variable {p : Program} {l : Launch} {e : Env} {R : Room} {s : State} {m : MethodId} {args : Array Value} {below : List Frame} {meth : Method} {c : Code} {rt : Option FieldType} {cc : ByteArray} {nL : Nat} {Q : State → Prop} {σ : Nat → Nat} {cA : Nat → ClassId} {D : va_G} {A : Nat → Prop} {kc ks : Nat} {I : mm_I} {d : Nat} {C : mm_C mm_H} {pc : Nat} {own : String}

theorem ss_get (X : mm_Cx p l R s m args c cc nL own σ cA D A kc ks I d C) {ci k index N : Nat} {Cn : String} {T : u_T} (hc : vwCl[ci]? = some (Cn, T, N)) (hin : ∀ w ∈ u_ws Cn T N, w ∈ lw_tbl) (hk : k < N) (hn : mm_nf ci = N) (hw : Cond.fieldLink own index (T k).1 (T k).2.1 (T k).2.2.1 ∈ lw_tbl) (hd : decode cc pc = .ok (.getfield index, 3)) : mm_Sim p l e R s m args below meth c rt cc nL Q σ (mm_Rz σ cA D A s.heap kc ks) C (pc, s_get ci k (pc + 3)) := by
  obtain ⟨hx, hb, hml, hown, hts, w0, ext, hrm, hC⟩ := X
  intro ls st h o hf H locs cells slots lsr hR hl kn kr
  obtain ⟨a, r, rfl, hf9⟩ := mm_pA_inv hf
  by_cases hs : mm_sh a = (0, ci)
  · rw [if_pos hs] at hf9
    cases hf9
    have ha := mm_sh_lt0 hs (by decide)
    exact va_get hx hb hts (mm_inW hin) hown w0.1 hR.1 a (by rw [mm_ws_at ha, mm_E_ob hs]) hc k hk (hts _ (mm_in hw rfl)) (fun _ h9 => h9) (mm_ob_at (by rw [hn]; exact hk)) hd (kn _ _ _ _ rfl _ _ _ _ _ hR hl)
  · rw [if_neg hs] at hf9
    cases hf9
theorem ss_getN (X : mm_Cx p l R s m args c cc nL own σ cA D A kc ks I d C) {ci k index N : Nat} {Cn : String} {T : u_T} {host : String} (hc : vwCl[ci]? = some (Cn, T, N)) (hin : ∀ w ∈ u_ws Cn T N, w ∈ lw_tbl) (hk : k < N) (hn : mm_nf ci = N) (hw : Cond.fieldLinkNest own index (T k).1 (T k).2.1 (T k).2.2.1 host ∈ lw_tbl) (hd : decode cc pc = .ok (.getfield index, 3)) : mm_Sim p l e R s m args below meth c rt cc nL Q σ (mm_Rz σ cA D A s.heap kc ks) C (pc, s_get ci k (pc + 3)) := by
  obtain ⟨hx, hb, hml, hown, hts, w0, ext, hrm, hC⟩ := X
  intro ls st h o hf H locs cells slots lsr hR hl kn kr
  obtain ⟨a, r, rfl, hf9⟩ := mm_pA_inv hf
  by_cases hs : mm_sh a = (0, ci)
  · rw [if_pos hs] at hf9
    cases hf9
    have ha := mm_sh_lt0 hs (by decide)
    exact va_getN hx hb hts (mm_inW hin) hown w0.1 hR.1 a (by rw [mm_ws_at ha, mm_E_ob hs]) hc k hk (va_Nw.use rfl (ext.2.2.2.2.2.2.1 _ (mm_inN hw rfl))) (fun _ h9 => h9) (mm_ob_at (by rw [hn]; exact hk)) hd (kn _ _ _ _ rfl _ _ _ _ _ hR hl)
  · rw [if_neg hs] at hf9
    cases hf9
theorem ss_putI (X : mm_Cx p l R s m args c cc nL own σ cA D A kc ks I d C) {ci k index N : Nat} {Cn : String} {T : u_T} {ty0 : Nat → FieldType} (hc : vwCl[ci]? = some (Cn, T, N)) (hin : ∀ w ∈ u_ws Cn T N, w ∈ lw_tbl) (hty : ∀ k, k < N → parseFieldDescriptor (T k).2.2.1 = some (ty0 k)) (hnm : ∀ a, a < N → ∀ b, b < N → a ≠ b → (T a).2.1 ≠ (T b).2.1) (hk : k < N) (hn : mm_nf ci = N) (hk0 : ty0 k = .int) (hfk : (mm_fk ci k).1 = 0) (hfin : (T k).2.2.2 = false) (hw : Cond.fieldLink own index (T k).1 (T k).2.1 (T k).2.2.1 ∈ lw_tbl) (hd : decode cc pc = .ok (.putfield index, 3)) : mm_Sim p l e R s m args below meth c rt cc nL Q σ (mm_Rz σ cA D A s.heap kc ks) C (pc, s_putI ci k (pc + 3)) := by
  obtain ⟨hx, hb, hml, hown, hts, w0, ext, hrm, hC⟩ := X
  intro ls st h o hf H locs cells slots lsr hR hl kn kr
  obtain ⟨v, r, rfl, hf8⟩ := mm_pI_inv hf
  obtain ⟨a, r, rfl, hf9⟩ := mm_pA_inv hf8
  by_cases hs : mm_sh a = (0, ci)
  · rw [if_pos hs] at hf9
    cases hf9
    have ha := mm_sh_lt0 hs (by decide)
    have e1 : (mm_ws σ cA h).set a (σ a, .inr (ci, (mm_ob σ h a ci).set k (mm_v σ (.int v)))) = mm_ws σ cA (mm_u h.1 a k v, h.2) := by
      rw [mm_ob_set (h := h) (h' := (mm_u h.1 a k v, h.2)) (by simp only [mm_fw, hfk]; rw [mm_u_same]) (fun j q => mm_fw_eq (h := h) (mm_u_col q) (rfl) (rfl)), ← mm_E_ob (cA := cA) hs]
      exact mm_ws_set ha (fun b q => mm_E_row (mm_u_row q) (rfl) (rfl))
    refine va_put hx hb hts (mm_inW hin) ty0 hty hnm hown w0.1 hR.1 (w0.D h) hR.2.1 a (by rw [mm_ws_at ha, mm_E_ob hs]) hc k hk (hts _ (mm_in hw rfl)) (fun _ h9 => h9) hfin (hty k hk) (by rw [hk0]; rfl) (by rw [hk0]; rfl) (by rw [mm_ob, List.length_map, List.length_range, hn]; exact hk) hd (fun H1 locs1 hP1 hD1 hS1 => ?_)
    refine kn _ _ _ _ rfl _ _ _ _ _ ⟨?_, hS1, hR.2.2⟩ hl
    rw [← e1]
    exact hP1
  · rw [if_neg hs] at hf9
    cases hf9
theorem ss_putIN (X : mm_Cx p l R s m args c cc nL own σ cA D A kc ks I d C) {ci k index N : Nat} {Cn : String} {T : u_T} {ty0 : Nat → FieldType} {host : String} (hc : vwCl[ci]? = some (Cn, T, N)) (hin : ∀ w ∈ u_ws Cn T N, w ∈ lw_tbl) (hty : ∀ k, k < N → parseFieldDescriptor (T k).2.2.1 = some (ty0 k)) (hnm : ∀ a, a < N → ∀ b, b < N → a ≠ b → (T a).2.1 ≠ (T b).2.1) (hk : k < N) (hn : mm_nf ci = N) (hk0 : ty0 k = .int) (hfk : (mm_fk ci k).1 = 0) (hfin : (T k).2.2.2 = false) (hw : Cond.fieldLinkNest own index (T k).1 (T k).2.1 (T k).2.2.1 host ∈ lw_tbl) (hd : decode cc pc = .ok (.putfield index, 3)) : mm_Sim p l e R s m args below meth c rt cc nL Q σ (mm_Rz σ cA D A s.heap kc ks) C (pc, s_putI ci k (pc + 3)) := by
  obtain ⟨hx, hb, hml, hown, hts, w0, ext, hrm, hC⟩ := X
  intro ls st h o hf H locs cells slots lsr hR hl kn kr
  obtain ⟨v, r, rfl, hf8⟩ := mm_pI_inv hf
  obtain ⟨a, r, rfl, hf9⟩ := mm_pA_inv hf8
  by_cases hs : mm_sh a = (0, ci)
  · rw [if_pos hs] at hf9
    cases hf9
    have ha := mm_sh_lt0 hs (by decide)
    have e1 : (mm_ws σ cA h).set a (σ a, .inr (ci, (mm_ob σ h a ci).set k (mm_v σ (.int v)))) = mm_ws σ cA (mm_u h.1 a k v, h.2) := by
      rw [mm_ob_set (h := h) (h' := (mm_u h.1 a k v, h.2)) (by simp only [mm_fw, hfk]; rw [mm_u_same]) (fun j q => mm_fw_eq (h := h) (mm_u_col q) (rfl) (rfl)), ← mm_E_ob (cA := cA) hs]
      exact mm_ws_set ha (fun b q => mm_E_row (mm_u_row q) (rfl) (rfl))
    refine va_putN hx hb hts (mm_inW hin) ty0 hty hnm hown w0.1 hR.1 (w0.D h) hR.2.1 a (by rw [mm_ws_at ha, mm_E_ob hs]) hc k hk (va_Nw.use rfl (ext.2.2.2.2.2.2.1 _ (mm_inN hw rfl))) (fun _ h9 => h9) hfin (hty k hk) (by rw [hk0]; rfl) (by rw [hk0]; rfl) (by rw [mm_ob, List.length_map, List.length_range, hn]; exact hk) hd (fun H1 locs1 hP1 hD1 hS1 => ?_)
    refine kn _ _ _ _ rfl _ _ _ _ _ ⟨?_, hS1, hR.2.2⟩ hl
    rw [← e1]
    exact hP1
  · rw [if_neg hs] at hf9
    cases hf9
theorem ss_putZ (X : mm_Cx p l R s m args c cc nL own σ cA D A kc ks I d C) {ci k index N : Nat} {Cn : String} {T : u_T} {ty0 : Nat → FieldType} (hc : vwCl[ci]? = some (Cn, T, N)) (hin : ∀ w ∈ u_ws Cn T N, w ∈ lw_tbl) (hty : ∀ k, k < N → parseFieldDescriptor (T k).2.2.1 = some (ty0 k)) (hnm : ∀ a, a < N → ∀ b, b < N → a ≠ b → (T a).2.1 ≠ (T b).2.1) (hk : k < N) (hn : mm_nf ci = N) (hk0 : ty0 k = .boolean) (hfk : (mm_fk ci k).1 = 1) (hfin : (T k).2.2.2 = false) (hw : Cond.fieldLink own index (T k).1 (T k).2.1 (T k).2.2.1 ∈ lw_tbl) (hd : decode cc pc = .ok (.putfield index, 3)) : mm_Sim p l e R s m args below meth c rt cc nL Q σ (mm_Rz σ cA D A s.heap kc ks) C (pc, s_putZ ci k (pc + 3)) := by
  obtain ⟨hx, hb, hml, hown, hts, w0, ext, hrm, hC⟩ := X
  intro ls st h o hf H locs cells slots lsr hR hl kn kr
  obtain ⟨v, r, rfl, hf8⟩ := mm_pI_inv hf
  obtain ⟨a, r, rfl, hf9⟩ := mm_pA_inv hf8
  by_cases hs : mm_sh a = (0, ci)
  · rw [if_pos hs] at hf9
    by_cases hz : v = 0 ∨ v = 1
    case neg =>
      rw [if_neg hz] at hf9
      cases hf9
    rw [if_pos hz] at hf9
    cases hf9
    have ha := mm_sh_lt0 hs (by decide)
    have e1 : (mm_ws σ cA h).set a (σ a, .inr (ci, (mm_ob σ h a ci).set k (mm_v σ (.int v)))) = mm_ws σ cA (mm_u h.1 a k v, h.2) := by
      rw [mm_ob_set (h := h) (h' := (mm_u h.1 a k v, h.2)) (by simp only [mm_fw, hfk]; rw [mm_u_same]) (fun j q => mm_fw_eq (h := h) (mm_u_col q) (rfl) (rfl)), ← mm_E_ob (cA := cA) hs]
      exact mm_ws_set ha (fun b q => mm_E_row (mm_u_row q) (rfl) (rfl))
    refine va_put hx hb hts (mm_inW hin) ty0 hty hnm hown w0.1 hR.1 (w0.D h) hR.2.1 a (by rw [mm_ws_at ha, mm_E_ob hs]) hc k hk (hts _ (mm_in hw rfl)) (fun _ h9 => h9) hfin (hty k hk) (by rw [hk0]; rcases hz with rfl | rfl <;> rfl) (by rw [hk0]; rcases hz with rfl | rfl <;> rfl) (by rw [mm_ob, List.length_map, List.length_range, hn]; exact hk) hd (fun H1 locs1 hP1 hD1 hS1 => ?_)
    refine kn _ _ _ _ rfl _ _ _ _ _ ⟨?_, hS1, hR.2.2⟩ hl
    rw [← e1]
    exact hP1
  · rw [if_neg hs] at hf9
    cases hf9
theorem ss_putZN (X : mm_Cx p l R s m args c cc nL own σ cA D A kc ks I d C) {ci k index N : Nat} {Cn : String} {T : u_T} {ty0 : Nat → FieldType} {host : String} (hc : vwCl[ci]? = some (Cn, T, N)) (hin : ∀ w ∈ u_ws Cn T N, w ∈ lw_tbl) (hty : ∀ k, k < N → parseFieldDescriptor (T k).2.2.1 = some (ty0 k)) (hnm : ∀ a, a < N → ∀ b, b < N → a ≠ b → (T a).2.1 ≠ (T b).2.1) (hk : k < N) (hn : mm_nf ci = N) (hk0 : ty0 k = .boolean) (hfk : (mm_fk ci k).1 = 1) (hfin : (T k).2.2.2 = false) (hw : Cond.fieldLinkNest own index (T k).1 (T k).2.1 (T k).2.2.1 host ∈ lw_tbl) (hd : decode cc pc = .ok (.putfield index, 3)) : mm_Sim p l e R s m args below meth c rt cc nL Q σ (mm_Rz σ cA D A s.heap kc ks) C (pc, s_putZ ci k (pc + 3)) := by
  obtain ⟨hx, hb, hml, hown, hts, w0, ext, hrm, hC⟩ := X
  intro ls st h o hf H locs cells slots lsr hR hl kn kr
  obtain ⟨v, r, rfl, hf8⟩ := mm_pI_inv hf
  obtain ⟨a, r, rfl, hf9⟩ := mm_pA_inv hf8
  by_cases hs : mm_sh a = (0, ci)
  · rw [if_pos hs] at hf9
    by_cases hz : v = 0 ∨ v = 1
    case neg =>
      rw [if_neg hz] at hf9
      cases hf9
    rw [if_pos hz] at hf9
    cases hf9
    have ha := mm_sh_lt0 hs (by decide)
    have e1 : (mm_ws σ cA h).set a (σ a, .inr (ci, (mm_ob σ h a ci).set k (mm_v σ (.int v)))) = mm_ws σ cA (mm_u h.1 a k v, h.2) := by
      rw [mm_ob_set (h := h) (h' := (mm_u h.1 a k v, h.2)) (by simp only [mm_fw, hfk]; rw [mm_u_same]) (fun j q => mm_fw_eq (h := h) (mm_u_col q) (rfl) (rfl)), ← mm_E_ob (cA := cA) hs]
      exact mm_ws_set ha (fun b q => mm_E_row (mm_u_row q) (rfl) (rfl))
    refine va_putN hx hb hts (mm_inW hin) ty0 hty hnm hown w0.1 hR.1 (w0.D h) hR.2.1 a (by rw [mm_ws_at ha, mm_E_ob hs]) hc k hk (va_Nw.use rfl (ext.2.2.2.2.2.2.1 _ (mm_inN hw rfl))) (fun _ h9 => h9) hfin (hty k hk) (by rw [hk0]; rcases hz with rfl | rfl <;> rfl) (by rw [hk0]; rcases hz with rfl | rfl <;> rfl) (by rw [mm_ob, List.length_map, List.length_range, hn]; exact hk) hd (fun H1 locs1 hP1 hD1 hS1 => ?_)
    refine kn _ _ _ _ rfl _ _ _ _ _ ⟨?_, hS1, hR.2.2⟩ hl
    rw [← e1]
    exact hP1
  · rw [if_neg hs] at hf9
    cases hf9
theorem ss_putL (X : mm_Cx p l R s m args c cc nL own σ cA D A kc ks I d C) {ci k index N : Nat} {Cn : String} {T : u_T} {ty0 : Nat → FieldType} (hc : vwCl[ci]? = some (Cn, T, N)) (hin : ∀ w ∈ u_ws Cn T N, w ∈ lw_tbl) (hty : ∀ k, k < N → parseFieldDescriptor (T k).2.2.1 = some (ty0 k)) (hnm : ∀ a, a < N → ∀ b, b < N → a ≠ b → (T a).2.1 ≠ (T b).2.1) (hk : k < N) (hn : mm_nf ci = N) (hk0 : ty0 k = .long) (hfk : (mm_fk ci k).1 = 2) (hfin : (T k).2.2.2 = false) (hw : Cond.fieldLink own index (T k).1 (T k).2.1 (T k).2.2.1 ∈ lw_tbl) (hd : decode cc pc = .ok (.putfield index, 3)) : mm_Sim p l e R s m args below meth c rt cc nL Q σ (mm_Rz σ cA D A s.heap kc ks) C (pc, s_putL ci k (pc + 3)) := by
  obtain ⟨hx, hb, hml, hown, hts, w0, ext, hrm, hC⟩ := X
  intro ls st h o hf H locs cells slots lsr hR hl kn kr
  obtain ⟨v, r, rfl, hf8⟩ := mm_pL_inv hf
  obtain ⟨a, r, rfl, hf9⟩ := mm_pA_inv hf8
  by_cases hs : mm_sh a = (0, ci)
  · rw [if_pos hs] at hf9
    cases hf9
    have ha := mm_sh_lt0 hs (by decide)
    have e1 : (mm_ws σ cA h).set a (σ a, .inr (ci, (mm_ob σ h a ci).set k (mm_v σ (.long v)))) = mm_ws σ cA (h.1, mm_uL h.2.1 a k v, h.2.2) := by
      rw [mm_ob_set (h := h) (h' := (h.1, mm_uL h.2.1 a k v, h.2.2)) (by simp only [mm_fw, hfk]; rw [mm_uL_same]) (fun j q => mm_fw_eq (h := h) (rfl) (mm_uL_col q) (rfl)), ← mm_E_ob (cA := cA) hs]
      exact mm_ws_set ha (fun b q => mm_E_row (rfl) (mm_uL_row q) (rfl))
    refine va_put hx hb hts (mm_inW hin) ty0 hty hnm hown w0.1 hR.1 (w0.D h) hR.2.1 a (by rw [mm_ws_at ha, mm_E_ob hs]) hc k hk (hts _ (mm_in hw rfl)) (fun _ h9 => h9) hfin (hty k hk) (by rw [hk0]; rfl) (by rw [hk0]; rfl) (by rw [mm_ob, List.length_map, List.length_range, hn]; exact hk) hd (fun H1 locs1 hP1 hD1 hS1 => ?_)
    refine kn _ _ _ _ rfl _ _ _ _ _ ⟨?_, hS1, hR.2.2⟩ hl
    rw [← e1]
    exact hP1
  · rw [if_neg hs] at hf9
    cases hf9
theorem ss_putLN (X : mm_Cx p l R s m args c cc nL own σ cA D A kc ks I d C) {ci k index N : Nat} {Cn : String} {T : u_T} {ty0 : Nat → FieldType} {host : String} (hc : vwCl[ci]? = some (Cn, T, N)) (hin : ∀ w ∈ u_ws Cn T N, w ∈ lw_tbl) (hty : ∀ k, k < N → parseFieldDescriptor (T k).2.2.1 = some (ty0 k)) (hnm : ∀ a, a < N → ∀ b, b < N → a ≠ b → (T a).2.1 ≠ (T b).2.1) (hk : k < N) (hn : mm_nf ci = N) (hk0 : ty0 k = .long) (hfk : (mm_fk ci k).1 = 2) (hfin : (T k).2.2.2 = false) (hw : Cond.fieldLinkNest own index (T k).1 (T k).2.1 (T k).2.2.1 host ∈ lw_tbl) (hd : decode cc pc = .ok (.putfield index, 3)) : mm_Sim p l e R s m args below meth c rt cc nL Q σ (mm_Rz σ cA D A s.heap kc ks) C (pc, s_putL ci k (pc + 3)) := by
  obtain ⟨hx, hb, hml, hown, hts, w0, ext, hrm, hC⟩ := X
  intro ls st h o hf H locs cells slots lsr hR hl kn kr
  obtain ⟨v, r, rfl, hf8⟩ := mm_pL_inv hf
  obtain ⟨a, r, rfl, hf9⟩ := mm_pA_inv hf8
  by_cases hs : mm_sh a = (0, ci)
  · rw [if_pos hs] at hf9
    cases hf9
    have ha := mm_sh_lt0 hs (by decide)
    have e1 : (mm_ws σ cA h).set a (σ a, .inr (ci, (mm_ob σ h a ci).set k (mm_v σ (.long v)))) = mm_ws σ cA (h.1, mm_uL h.2.1 a k v, h.2.2) := by
      rw [mm_ob_set (h := h) (h' := (h.1, mm_uL h.2.1 a k v, h.2.2)) (by simp only [mm_fw, hfk]; rw [mm_uL_same]) (fun j q => mm_fw_eq (h := h) (rfl) (mm_uL_col q) (rfl)), ← mm_E_ob (cA := cA) hs]
      exact mm_ws_set ha (fun b q => mm_E_row (rfl) (mm_uL_row q) (rfl))
    refine va_putN hx hb hts (mm_inW hin) ty0 hty hnm hown w0.1 hR.1 (w0.D h) hR.2.1 a (by rw [mm_ws_at ha, mm_E_ob hs]) hc k hk (va_Nw.use rfl (ext.2.2.2.2.2.2.1 _ (mm_inN hw rfl))) (fun _ h9 => h9) hfin (hty k hk) (by rw [hk0]; rfl) (by rw [hk0]; rfl) (by rw [mm_ob, List.length_map, List.length_range, hn]; exact hk) hd (fun H1 locs1 hP1 hD1 hS1 => ?_)
    refine kn _ _ _ _ rfl _ _ _ _ _ ⟨?_, hS1, hR.2.2⟩ hl
    rw [← e1]
    exact hP1
  · rw [if_neg hs] at hf9
    cases hf9
theorem ss_putR (X : mm_Cx p l R s m args c cc nL own σ cA D A kc ks I d C) {ci k index N : Nat} {Cn : String} {T : u_T} {ty0 : Nat → FieldType} (hc : vwCl[ci]? = some (Cn, T, N)) (hin : ∀ w ∈ u_ws Cn T N, w ∈ lw_tbl) (hty : ∀ k, k < N → parseFieldDescriptor (T k).2.2.1 = some (ty0 k)) (hnm : ∀ a, a < N → ∀ b, b < N → a ≠ b → (T a).2.1 ≠ (T b).2.1) (hk : k < N) (hn : mm_nf ci = N) (hk0 : ∃ cn, ty0 k = .object cn) (hfk : (mm_fk ci k).1 = 5) (hfin : (T k).2.2.2 = false) (hw : Cond.fieldLink own index (T k).1 (T k).2.1 (T k).2.2.1 ∈ lw_tbl) (hd : decode cc pc = .ok (.putfield index, 3)) : mm_Sim p l e R s m args below meth c rt cc nL Q σ (mm_Rz σ cA D A s.heap kc ks) C (pc, s_putR ci k (pc + 3)) := by
  obtain ⟨hx, hb, hml, hown, hts, w0, ext, hrm, hC⟩ := X
  intro ls st h o hf H locs cells slots lsr hR hl kn kr
  obtain ⟨v, r, rfl, hf8⟩ := mm_pA_inv hf
  obtain ⟨a, r, rfl, hf9⟩ := mm_pA_inv hf8
  by_cases hs : mm_sh a = (0, ci)
  · rw [if_pos hs] at hf9
    cases hf9
    have ha := mm_sh_lt0 hs (by decide)
    have e1 : (mm_ws σ cA h).set a (σ a, .inr (ci, (mm_ob σ h a ci).set k (mm_v σ (.ref v)))) = mm_ws σ cA (h.1, h.2.1, mm_uR h.2.2 a k v) := by
      rw [mm_ob_set (h := h) (h' := (h.1, h.2.1, mm_uR h.2.2 a k v)) (by simp only [mm_fw, hfk]; rw [mm_uR_same]) (fun j q => mm_fw_eq (h := h) (rfl) (rfl) (mm_uR_col q)), ← mm_E_ob (cA := cA) hs]
      exact mm_ws_set ha (fun b q => mm_E_row (rfl) (rfl) (mm_uR_row q))
    refine va_put hx hb hts (mm_inW hin) ty0 hty hnm hown w0.1 hR.1 (w0.D h) hR.2.1 a (by rw [mm_ws_at ha, mm_E_ob hs]) hc k hk (hts _ (mm_in hw rfl)) (fun _ h9 => h9) hfin (hty k hk) (by obtain ⟨cn, hk0⟩ := hk0; rw [hk0]; rfl) (by obtain ⟨cn, hk0⟩ := hk0; rw [hk0]; rfl) (by rw [mm_ob, List.length_map, List.length_range, hn]; exact hk) hd (fun H1 locs1 hP1 hD1 hS1 => ?_)
    refine kn _ _ _ _ rfl _ _ _ _ _ ⟨?_, hS1, hR.2.2⟩ hl
    rw [← e1]
    exact hP1
  · rw [if_neg hs] at hf9
    cases hf9
theorem ss_putRN (X : mm_Cx p l R s m args c cc nL own σ cA D A kc ks I d C) {ci k index N : Nat} {Cn : String} {T : u_T} {ty0 : Nat → FieldType} {host : String} (hc : vwCl[ci]? = some (Cn, T, N)) (hin : ∀ w ∈ u_ws Cn T N, w ∈ lw_tbl) (hty : ∀ k, k < N → parseFieldDescriptor (T k).2.2.1 = some (ty0 k)) (hnm : ∀ a, a < N → ∀ b, b < N → a ≠ b → (T a).2.1 ≠ (T b).2.1) (hk : k < N) (hn : mm_nf ci = N) (hk0 : ∃ cn, ty0 k = .object cn) (hfk : (mm_fk ci k).1 = 5) (hfin : (T k).2.2.2 = false) (hw : Cond.fieldLinkNest own index (T k).1 (T k).2.1 (T k).2.2.1 host ∈ lw_tbl) (hd : decode cc pc = .ok (.putfield index, 3)) : mm_Sim p l e R s m args below meth c rt cc nL Q σ (mm_Rz σ cA D A s.heap kc ks) C (pc, s_putR ci k (pc + 3)) := by
  obtain ⟨hx, hb, hml, hown, hts, w0, ext, hrm, hC⟩ := X
  intro ls st h o hf H locs cells slots lsr hR hl kn kr
  obtain ⟨v, r, rfl, hf8⟩ := mm_pA_inv hf
  obtain ⟨a, r, rfl, hf9⟩ := mm_pA_inv hf8
  by_cases hs : mm_sh a = (0, ci)
  · rw [if_pos hs] at hf9
    cases hf9
    have ha := mm_sh_lt0 hs (by decide)
    have e1 : (mm_ws σ cA h).set a (σ a, .inr (ci, (mm_ob σ h a ci).set k (mm_v σ (.ref v)))) = mm_ws σ cA (h.1, h.2.1, mm_uR h.2.2 a k v) := by
      rw [mm_ob_set (h := h) (h' := (h.1, h.2.1, mm_uR h.2.2 a k v)) (by simp only [mm_fw, hfk]; rw [mm_uR_same]) (fun j q => mm_fw_eq (h := h) (rfl) (rfl) (mm_uR_col q)), ← mm_E_ob (cA := cA) hs]
      exact mm_ws_set ha (fun b q => mm_E_row (rfl) (rfl) (mm_uR_row q))
    refine va_putN hx hb hts (mm_inW hin) ty0 hty hnm hown w0.1 hR.1 (w0.D h) hR.2.1 a (by rw [mm_ws_at ha, mm_E_ob hs]) hc k hk (va_Nw.use rfl (ext.2.2.2.2.2.2.1 _ (mm_inN hw rfl))) (fun _ h9 => h9) hfin (hty k hk) (by obtain ⟨cn, hk0⟩ := hk0; rw [hk0]; rfl) (by obtain ⟨cn, hk0⟩ := hk0; rw [hk0]; rfl) (by rw [mm_ob, List.length_map, List.length_range, hn]; exact hk) hd (fun H1 locs1 hP1 hD1 hS1 => ?_)
    refine kn _ _ _ _ rfl _ _ _ _ _ ⟨?_, hS1, hR.2.2⟩ hl
    rw [← e1]
    exact hP1
  · rw [if_neg hs] at hf9
    cases hf9
theorem ss_iald (X : mm_Cx p l R s m args c cc nL own σ cA D A kc ks I d C) (hd : decode cc pc = .ok (.iaload, 1)) : mm_Sim p l e R s m args below meth c rt cc nL Q σ (mm_Rz σ cA D A s.heap kc ks) C (pc, s_iald (pc + 1)) := by
  obtain ⟨hx, hb, hml, hown, hts, w0, ext, hrm, hC⟩ := X
  intro ls st h o hf H locs cells slots lsr hR hl kn kr
  obtain ⟨i, r, rfl, hf8⟩ := mm_pI_inv hf
  obtain ⟨a, r, rfl, hf9⟩ := mm_pA_inv hf8
  by_cases hs : (mm_sh a).1 = 1
  · rw [if_pos hs] at hf9
    by_cases hi : i < 0 ∨ (mm_sh a).2 ≤ i.toNatClampNeg
    · rw [if_pos hi] at hf9
      cases hf9
    · rw [if_neg hi] at hf9
      cases hf9
      have hs2 : mm_sh a = (1, (mm_sh a).2) := Prod.ext hs rfl
      have ha := mm_sh_lt0 hs2 (by decide)
      exact va_iald hx hb w0.1 hR.1 a 0 (by rw [mm_ws_at ha, mm_E_1 hs2]) rfl hi hd (kn _ _ _ _ rfl _ _ _ _ _ hR hl)
  · rw [if_neg hs] at hf9
    cases hf9
theorem ss_cald (X : mm_Cx p l R s m args c cc nL own σ cA D A kc ks I d C) (hd : decode cc pc = .ok (.caload, 1)) : mm_Sim p l e R s m args below meth c rt cc nL Q σ (mm_Rz σ cA D A s.heap kc ks) C (pc, s_cald (pc + 1)) := by
  obtain ⟨hx, hb, hml, hown, hts, w0, ext, hrm, hC⟩ := X
  intro ls st h o hf H locs cells slots lsr hR hl kn kr
  obtain ⟨i, r, rfl, hf8⟩ := mm_pI_inv hf
  obtain ⟨a, r, rfl, hf9⟩ := mm_pA_inv hf8
  by_cases hs : (mm_sh a).1 = 3
  · rw [if_pos hs] at hf9
    by_cases hi : i < 0 ∨ (mm_sh a).2 ≤ i.toNatClampNeg
    · rw [if_pos hi] at hf9
      cases hf9
    · rw [if_neg hi] at hf9
      cases hf9
      have hs2 : mm_sh a = (3, (mm_sh a).2) := Prod.ext hs rfl
      have ha := mm_sh_lt0 hs2 (by decide)
      exact va_cald hx hb w0.1 hR.1 a 2 (by rw [mm_ws_at ha, mm_E_3 hs2]) rfl hi hd (kn _ _ _ _ rfl _ _ _ _ _ hR hl)
  · rw [if_neg hs] at hf9
    cases hf9
theorem ss_zald (X : mm_Cx p l R s m args c cc nL own σ cA D A kc ks I d C) (hd : decode cc pc = .ok (.baload, 1)) : mm_Sim p l e R s m args below meth c rt cc nL Q σ (mm_Rz σ cA D A s.heap kc ks) C (pc, s_zald (pc + 1)) := by
  obtain ⟨hx, hb, hml, hown, hts, w0, ext, hrm, hC⟩ := X
  intro ls st h o hf H locs cells slots lsr hR hl kn kr
  obtain ⟨i, r, rfl, hf8⟩ := mm_pI_inv hf
  obtain ⟨a, r, rfl, hf9⟩ := mm_pA_inv hf8
  by_cases hs : (mm_sh a).1 = 4
  · rw [if_pos hs] at hf9
    by_cases hi : i < 0 ∨ (mm_sh a).2 ≤ i.toNatClampNeg
    · rw [if_pos hi] at hf9
      cases hf9
    · rw [if_neg hi] at hf9
      cases hf9
      have hs2 : mm_sh a = (4, (mm_sh a).2) := Prod.ext hs rfl
      have ha := mm_sh_lt0 hs2 (by decide)
      exact va_zald hx hb w0.1 hR.1 a 3 (by rw [mm_ws_at ha, mm_E_4 hs2]) rfl hi hd (kn _ _ _ _ rfl _ _ _ _ _ hR hl)
  · rw [if_neg hs] at hf9
    cases hf9
theorem ss_lald (X : mm_Cx p l R s m args c cc nL own σ cA D A kc ks I d C) (hd : decode cc pc = .ok (.laload, 1)) : mm_Sim p l e R s m args below meth c rt cc nL Q σ (mm_Rz σ cA D A s.heap kc ks) C (pc, s_lald (pc + 1)) := by
  obtain ⟨hx, hb, hml, hown, hts, w0, ext, hrm, hC⟩ := X
  intro ls st h o hf H locs cells slots lsr hR hl kn kr
  obtain ⟨i, r, rfl, hf8⟩ := mm_pI_inv hf
  obtain ⟨a, r, rfl, hf9⟩ := mm_pA_inv hf8
  by_cases hs : (mm_sh a).1 = 2
  · rw [if_pos hs] at hf9
    by_cases hi : i < 0 ∨ (mm_sh a).2 ≤ i.toNatClampNeg
    · rw [if_pos hi] at hf9
      cases hf9
    · rw [if_neg hi] at hf9
      cases hf9
      have hs2 : mm_sh a = (2, (mm_sh a).2) := Prod.ext hs rfl
      have ha := mm_sh_lt0 hs2 (by decide)
      exact va_lald hx hb w0.1 hR.1 a 1 (by rw [mm_ws_at ha, mm_E_2 hs2]) rfl hi hd (kn _ _ _ _ rfl _ _ _ _ _ hR hl)
  · rw [if_neg hs] at hf9
    cases hf9
theorem ss_aald (X : mm_Cx p l R s m args c cc nL own σ cA D A kc ks I d C) (hd : decode cc pc = .ok (.aaload, 1)) : mm_Sim p l e R s m args below meth c rt cc nL Q σ (mm_Rz σ cA D A s.heap kc ks) C (pc, s_aald (pc + 1)) := by
  obtain ⟨hx, hb, hml, hown, hts, w0, ext, hrm, hC⟩ := X
  intro ls st h o hf H locs cells slots lsr hR hl kn kr
  obtain ⟨i, r, rfl, hf8⟩ := mm_pI_inv hf
  obtain ⟨a, r, rfl, hf9⟩ := mm_pA_inv hf8
  by_cases hs : (mm_sh a).1 = 5
  · rw [if_pos hs] at hf9
    by_cases hi : i < 0 ∨ (mm_sh a).2 ≤ i.toNatClampNeg
    · rw [if_pos hi] at hf9
      cases hf9
    · rw [if_neg hi] at hf9
      cases hf9
      have hs2 : mm_sh a = (5, (mm_sh a).2) := Prod.ext hs rfl
      have ha := mm_sh_lt0 hs2 (by decide)
      exact va_aldq (cA := cA 5) (n := (mm_sh a).2) (f := fun j => some (σ (a + 1 + 9 * j))) (C := RX7) hx hb w0.1 hR.1 a 4 (by rw [mm_ws_at ha, mm_E_5 hs2]) rfl hi hd (kn _ _ _ _ rfl _ _ _ _ _ hR hl)
  · rw [if_neg hs] at hf9
    cases hf9
theorem ss_iast (X : mm_Cx p l R s m args c cc nL own σ cA D A kc ks I d C) (hd : decode cc pc = .ok (.iastore, 1)) : mm_Sim p l e R s m args below meth c rt cc nL Q σ (mm_Rz σ cA D A s.heap kc ks) C (pc, s_iast (pc + 1)) := by
  obtain ⟨hx, hb, hml, hown, hts, w0, ext, hrm, hC⟩ := X
  intro ls st h o hf H locs cells slots lsr hR hl kn kr
  obtain ⟨v, r, rfl, hf7⟩ := mm_pI_inv hf
  obtain ⟨i, r, rfl, hf8⟩ := mm_pI_inv hf7
  obtain ⟨a, r, rfl, hf9⟩ := mm_pA_inv hf8
  by_cases hs : (mm_sh a).1 = 1
  · rw [if_pos hs] at hf9
    by_cases hi : i < 0 ∨ (mm_sh a).2 ≤ i.toNatClampNeg
    · rw [if_pos hi] at hf9
      cases hf9
    · rw [if_neg hi] at hf9
      cases hf9
      have hs2 : mm_sh a = (1, (mm_sh a).2) := Prod.ext hs rfl
      have ha := mm_sh_lt0 hs2 (by decide)
      have e1 : (mm_ws σ cA h).set a (σ a, .inl (cA 1, (mm_sh a).2, .inl (upd (h.1 a) i.toNatClampNeg v))) = mm_ws σ cA (mm_u h.1 a i.toNatClampNeg v, h.2) := by
        rw [← mm_ws_set (h := h) (h' := (mm_u h.1 a i.toNatClampNeg v, h.2)) ha (fun b q => mm_E_row (mm_u_row q) (rfl) (rfl)), mm_E_1 hs2]
        simp only [mm_u, if_true]
      refine va_iast hx hb w0.1 hR.1 (w0.D h) hR.2.1 a 0 (by rw [mm_ws_at ha, mm_E_1 hs2]) rfl hi hd (fun H1 locs1 hP1 hD1 hS1 => ?_)
      refine kn _ _ _ _ rfl _ _ _ _ _ ⟨?_, hS1, hR.2.2⟩ hl
      rw [← e1]
      exact hP1
  · rw [if_neg hs] at hf9
    cases hf9
theorem ss_last (X : mm_Cx p l R s m args c cc nL own σ cA D A kc ks I d C) (hd : decode cc pc = .ok (.lastore, 1)) : mm_Sim p l e R s m args below meth c rt cc nL Q σ (mm_Rz σ cA D A s.heap kc ks) C (pc, s_last (pc + 1)) := by
  obtain ⟨hx, hb, hml, hown, hts, w0, ext, hrm, hC⟩ := X
  intro ls st h o hf H locs cells slots lsr hR hl kn kr
  obtain ⟨v, r, rfl, hf7⟩ := mm_pL_inv hf
  obtain ⟨i, r, rfl, hf8⟩ := mm_pI_inv hf7
  obtain ⟨a, r, rfl, hf9⟩ := mm_pA_inv hf8
  by_cases hs : (mm_sh a).1 = 2
  · rw [if_pos hs] at hf9
    by_cases hi : i < 0 ∨ (mm_sh a).2 ≤ i.toNatClampNeg
    · rw [if_pos hi] at hf9
      cases hf9
    · rw [if_neg hi] at hf9
      cases hf9
      have hs2 : mm_sh a = (2, (mm_sh a).2) := Prod.ext hs rfl
      have ha := mm_sh_lt0 hs2 (by decide)
      have e1 : (mm_ws σ cA h).set a (σ a, .inl (cA 2, (mm_sh a).2, .inr (.inl (vp_updL (h.2.1 a) i.toNatClampNeg v)))) = mm_ws σ cA (h.1, mm_uL h.2.1 a i.toNatClampNeg v, h.2.2) := by
        rw [← mm_ws_set (h := h) (h' := (h.1, mm_uL h.2.1 a i.toNatClampNeg v, h.2.2)) ha (fun b q => mm_E_row (rfl) (mm_uL_row q) (rfl)), mm_E_2 hs2]
        simp only [mm_uL, if_true]
      refine va_last hx hb w0.1 hR.1 (w0.D h) hR.2.1 a 1 (by rw [mm_ws_at ha, mm_E_2 hs2]) rfl hi hd (fun H1 locs1 hP1 hD1 hS1 => ?_)
      refine kn _ _ _ _ rfl _ _ _ _ _ ⟨?_, hS1, hR.2.2⟩ hl
      rw [← e1]
      exact hP1
  · rw [if_neg hs] at hf9
    cases hf9
theorem ss_zast (X : mm_Cx p l R s m args c cc nL own σ cA D A kc ks I d C) (hd : decode cc pc = .ok (.bastore, 1)) : mm_Sim p l e R s m args below meth c rt cc nL Q σ (mm_Rz σ cA D A s.heap kc ks) C (pc, s_zast (pc + 1)) := by
  obtain ⟨hx, hb, hml, hown, hts, w0, ext, hrm, hC⟩ := X
  intro ls st h o hf H locs cells slots lsr hR hl kn kr
  obtain ⟨v, r, rfl, hf7⟩ := mm_pI_inv hf
  obtain ⟨i, r, rfl, hf8⟩ := mm_pI_inv hf7
  obtain ⟨a, r, rfl, hf9⟩ := mm_pA_inv hf8
  by_cases hs : (mm_sh a).1 = 4
  · rw [if_pos hs] at hf9
    by_cases hi : i < 0 ∨ (mm_sh a).2 ≤ i.toNatClampNeg
    · rw [if_pos hi] at hf9
      cases hf9
    · rw [if_neg hi] at hf9
      by_cases hz : v = 0 ∨ v = 1
      · rw [if_pos hz] at hf9
        cases hf9
        have hs2 : mm_sh a = (4, (mm_sh a).2) := Prod.ext hs rfl
        have ha := mm_sh_lt0 hs2 (by decide)
        have hv : vp_nar .boolean v = v := by rcases hz with rfl | rfl <;> rfl
        have e1 : (mm_ws σ cA h).set a (σ a, .inl (cA 4, (mm_sh a).2, .inl (upd (h.1 a) i.toNatClampNeg (vp_nar .boolean v)))) = mm_ws σ cA (mm_u h.1 a i.toNatClampNeg v, h.2) := by
          rw [← mm_ws_set (h := h) (h' := (mm_u h.1 a i.toNatClampNeg v, h.2)) ha (fun b q => mm_E_row (mm_u_row q) rfl rfl), mm_E_4 hs2, hv]
          simp only [mm_u, if_true]
        refine va_zast hx hb w0.1 hR.1 (w0.D h) hR.2.1 a 3 (by rw [mm_ws_at ha, mm_E_4 hs2]) rfl hi hd (fun H1 locs1 hP1 hD1 hS1 => ?_)
        refine kn _ _ _ _ rfl _ _ _ _ _ ⟨?_, hS1, hR.2.2⟩ hl
        rw [← e1]
        exact hP1
      · rw [if_neg hz] at hf9
        cases hf9
  · rw [if_neg hs] at hf9
    cases hf9
theorem ss_alen (X : mm_Cx p l R s m args c cc nL own σ cA D A kc ks I d C) (hd : decode cc pc = .ok (.arraylength, 1)) : mm_Sim p l e R s m args below meth c rt cc nL Q σ (mm_Rz σ cA D A s.heap kc ks) C (pc, s_alen (pc + 1)) := by
  obtain ⟨hx, hb, hml, hown, hts, w0, ext, hrm, hC⟩ := X
  intro ls st h o hf H locs cells slots lsr hR hl kn kr
  obtain ⟨a, r, rfl, hf9⟩ := mm_pA_inv hf
  by_cases hs : 0 < (mm_sh a).1 ∧ (mm_sh a).1 < 5
  · rw [if_pos hs] at hf9
    cases hf9
    have ha := mm_sh_lt (a := a) (by omega)
    rcases (show (mm_sh a).1 = 1 ∨ (mm_sh a).1 = 2 ∨ (mm_sh a).1 = 3 ∨ (mm_sh a).1 = 4 by omega) with q | q | q | q
    · have hs2 : mm_sh a = (1, (mm_sh a).2) := Prod.ext q rfl
      exact va_alen (x := ((mm_sh a).2, .inl (h.1 a))) hx hb w0.1 hR.1 a 0 (by rw [mm_ws_at ha, mm_E_1 hs2]) rfl rfl hd (kn _ _ _ _ rfl _ _ _ _ _ hR hl)
    · have hs2 : mm_sh a = (2, (mm_sh a).2) := Prod.ext q rfl
      exact va_alen (x := ((mm_sh a).2, .inr (.inl (h.2.1 a)))) hx hb w0.1 hR.1 a 1 (by rw [mm_ws_at ha, mm_E_2 hs2]) rfl rfl hd (kn _ _ _ _ rfl _ _ _ _ _ hR hl)
    · have hs2 : mm_sh a = (3, (mm_sh a).2) := Prod.ext q rfl
      exact va_alen (x := ((mm_sh a).2, .inl (h.1 a))) hx hb w0.1 hR.1 a 2 (by rw [mm_ws_at ha, mm_E_3 hs2]) rfl rfl hd (kn _ _ _ _ rfl _ _ _ _ _ hR hl)
    · have hs2 : mm_sh a = (4, (mm_sh a).2) := Prod.ext q rfl
      exact va_alen (x := ((mm_sh a).2, .inl (h.1 a))) hx hb w0.1 hR.1 a 3 (by rw [mm_ws_at ha, mm_E_4 hs2]) rfl rfl hd (kn _ _ _ _ rfl _ _ _ _ _ hR hl)
  · rw [if_neg hs] at hf9
    cases hf9
theorem ss_copy (X : mm_Cx p l R s m args c cc nL own σ cA D A kc ks I d C) {index : Nat} (hw : Cond.methodLink own index arraycopyName ∈ lw_tbl) (hw2 : Cond.native arraycopyName ∈ lw_tbl) (hw3 : Cond.static arraycopyName ∈ lw_tbl) (hw4 : Cond.initialized "java/lang/System" ∈ lw_tbl) (hd : decode cc pc = .ok (.invokestatic index, 3)) : mm_Sim p l e R s m args below meth c rt cc nL Q σ (mm_Rz σ cA D A s.heap kc ks) C (pc, s_copy (pc + 3)) := by
  obtain ⟨hx, hb, hml, hown, hts, w0, ext, hrm, hC⟩ := X
  intro ls st h o hf H locs cells slots lsr hR hl kn kr
  obtain ⟨n, r, rfl, hf5⟩ := mm_pI_inv hf
  obtain ⟨dp, r, rfl, hf6⟩ := mm_pI_inv hf5
  obtain ⟨a, r, rfl, hf7⟩ := mm_pA_inv hf6
  obtain ⟨sp, r, rfl, hf8⟩ := mm_pI_inv hf7
  obtain ⟨a0, r, rfl, hf9⟩ := mm_pA_inv hf8
  clear hf hf5 hf6 hf7 hf8
  split at hf9
  · rename_i hq
    obtain ⟨q1, q2, q3, q4, q5, q6, q7, q8⟩ := hq
    cases hf9
    have hs2 : mm_sh a = (1, (mm_sh a).2) := Prod.ext q1 rfl
    have ha := mm_sh_lt0 hs2 (by decide)
    have hs3 : mm_sh a0 = (1, (mm_sh a0).2) := Prod.ext q2 rfl
    have ha0 := mm_sh_lt0 hs3 (by decide)
    have e1 : (mm_ws σ cA h).set a (σ a, .inl (cA 1, (mm_sh a).2, .inl (va_cpy (h.1 a0) (h.1 a) sp.toNatClampNeg dp.toNatClampNeg n.toNatClampNeg))) = mm_ws σ cA (mm_cp h.1 a0 a sp.toNatClampNeg dp.toNatClampNeg n.toNatClampNeg, h.2) := by
      rw [← mm_ws_set (h := h) (h' := (mm_cp h.1 a0 a sp.toNatClampNeg dp.toNatClampNeg n.toNatClampNeg, h.2)) ha (fun b q => mm_E_row (mm_cp_row q) rfl rfl), mm_E_1 hs2]
      simp only [mm_cp, if_true]
    have hloc : ((r.map (mm_v σ)).map fun v => v.category).sum + (nativeFrameWords "java/lang/System" "arraycopy" 5 + 11) ≤ R.locals := by
      rw [mm_cats, show nativeFrameWords "java/lang/System" "arraycopy" 5 = 7 from by decide]
      omega
    refine va_copyi hx hb (hml.trans hl.2.1.symm) hown (hts _ (mm_in hw rfl)) (hts _ (mm_in hw2 rfl)) (hts _ (mm_in hw3 rfl)) (hts _ (mm_in hw4 rfl)) w0.1 hR.1 (w0.D h) hR.2.1 a0 a 0 0 (by rw [mm_ws_at ha0, mm_E_1 hs3]) (by rw [mm_ws_at ha, mm_E_1 hs2]) rfl rfl rfl q3 q4 q5 q6 q7 (fun _ _ => rfl) (by omega) hloc hd (fun H1 locs1 hP1 hD1 hS1 => ?_)
    refine kn _ _ _ _ rfl _ _ _ _ _ ⟨?_, hS1, hR.2.2⟩ hl
    rw [← e1]
    exact hP1
  · cases hf9
theorem ss_ldcS (X : mm_Cx p l R s m args c cc nL own σ cA D A kc ks I d C) (ho : own = RX6) (hd : decode cc pc = .ok (.ldc 91, 2)) : mm_Sim p l e R s m args below meth c rt cc nL Q σ (mm_Rz σ cA D A s.heap kc ks) C (pc, s_ldcS (pc + 2)) := by
  obtain ⟨hx, hb, hml, hown, hts, w0, ext, hrm, hC⟩ := X
  intro ls st h o hf H locs cells slots lsr hR hl kn kr
  cases hf
  subst ho
  exact va_ldcS hx hb hown ext.1 hd (kn _ _ _ _ rfl _ _ _ _ _ hR hl)
theorem ss_sval (X : mm_Cx p l R s m args c cc nL own σ cA D A kc ks I d C) {index : Nat} (hw : Cond.fieldLink own index "java/lang/String" "value" "[B" ∈ lw_tbl) (hd : decode cc pc = .ok (.getfield index, 3)) : mm_Sim p l e R s m args below meth c rt cc nL Q σ (mm_Rz σ cA D A s.heap kc ks) C (pc, s_sval (pc + 3)) := by
  obtain ⟨hx, hb, hml, hown, hts, w0, ext, hrm, hC⟩ := X
  intro ls st h o hf H locs cells slots lsr hR hl kn kr
  obtain ⟨a, r, rfl, hf9⟩ := mm_pA_inv hf
  by_cases hs : a = mm_STR
  · rw [if_pos hs] at hf9
    cases hf9
    subst hs
    exact vk_getf hx hb ext.2.2.2.2.1 hR.2.1 hown (hts _ (mm_in hw rfl)) (fun _ h9 => h9) hd (kn _ _ _ _ rfl _ _ _ _ _ hR hl)
  · rw [if_neg hs] at hf9
    cases hf9
theorem ss_scod (X : mm_Cx p l R s m args c cc nL own σ cA D A kc ks I d C) {index : Nat} (hw : Cond.fieldLink own index "java/lang/String" "coder" "B" ∈ lw_tbl) (hd : decode cc pc = .ok (.getfield index, 3)) : mm_Sim p l e R s m args below meth c rt cc nL Q σ (mm_Rz σ cA D A s.heap kc ks) C (pc, s_scod (pc + 3)) := by
  obtain ⟨hx, hb, hml, hown, hts, w0, ext, hrm, hC⟩ := X
  intro ls st h o hf H locs cells slots lsr hR hl kn kr
  obtain ⟨a, r, rfl, hf9⟩ := mm_pA_inv hf
  by_cases hs : a = mm_STR
  · rw [if_pos hs] at hf9
    cases hf9
    subst hs
    exact vk_getf hx hb ext.2.2.2.1 hR.2.1 hown (hts _ (mm_in hw rfl)) (fun _ h9 => h9) hd (kn _ _ _ _ rfl _ _ _ _ _ hR hl)
  · rw [if_neg hs] at hf9
    cases hf9
theorem ss_compact (X : mm_Cx p l R s m args c cc nL own σ cA D A kc ks I d C) {index : Nat} (hw : Cond.fieldLink own index "java/lang/String" "COMPACT_STRINGS" "Z" ∈ lw_tbl) (hd : decode cc pc = .ok (.getstatic index, 3)) : mm_Sim p l e R s m args below meth c rt cc nL Q σ (mm_Rz σ cA D A s.heap kc ks) C (pc, s_pushI 1 (pc + 3)) := by
  obtain ⟨hx, hb, hml, hown, hts, w0, ext, hrm, hC⟩ := X
  intro ls st h o hf H locs cells slots lsr hR hl kn kr
  cases hf
  exact va_gets hx hb ext.2.1 hR.2.1 hown (hts _ (mm_in hw rfl)) (fun _ h9 => h9) hd (kn _ _ _ _ rfl _ _ _ _ _ hR hl)
theorem ss_blen (X : mm_Cx p l R s m args c cc nL own σ cA D A kc ks I d C) (hd : decode cc pc = .ok (.arraylength, 1)) : mm_Sim p l e R s m args below meth c rt cc nL Q σ (mm_Rz σ cA D A s.heap kc ks) C (pc, s_blen (pc + 1)) := by
  obtain ⟨hx, hb, hml, hown, hts, w0, ext, hrm, hC⟩ := X
  intro ls st h o hf H locs cells slots lsr hR hl kn kr
  obtain ⟨a, r, rfl, hf9⟩ := mm_pA_inv hf
  by_cases hs : a = mm_BYT
  · rw [if_pos hs] at hf9
    cases hf9
    subst hs
    obtain ⟨cell, h1, h2, h3, h4, h5, h6, h7⟩ := ext.2.2.2.2.2.1
    exact W.alen hx hb (by rw [hR.2.1.2.1 _ (Array.getElem?_eq_some_iff.mp h1).1 h7]; exact h1) h2 h5 rfl rfl hd (kn _ _ _ _ rfl _ _ _ _ _ hR hl)
  · rw [if_neg hs] at hf9
    cases hf9
theorem ss_bald (X : mm_Cx p l R s m args c cc nL own σ cA D A kc ks I d C) (hd : decode cc pc = .ok (.baload, 1)) : mm_Sim p l e R s m args below meth c rt cc nL Q σ (mm_Rz σ cA D A s.heap kc ks) C (pc, s_bald (pc + 1)) := by
  obtain ⟨hx, hb, hml, hown, hts, w0, ext, hrm, hC⟩ := X
  intro ls st h o hf H locs cells slots lsr hR hl kn kr
  obtain ⟨i, r, rfl, hf8⟩ := mm_pI_inv hf
  obtain ⟨a, r, rfl, hf9⟩ := mm_pA_inv hf8
  by_cases hs : a = mm_BYT
  · rw [if_pos hs] at hf9
    by_cases hi : i < 0 ∨ mm_txt.length ≤ i.toNatClampNeg
    · rw [if_pos hi] at hf9
      cases hf9
    · rw [if_neg hi] at hf9
      cases hf9
      subst hs
      exact va_tb hx hb ext.2.2.2.2.2.1 hR.2.1 hi rfl hd (kn _ _ _ _ rfl _ _ _ _ _ hR hl)
  · rw [if_neg hs] at hf9
    cases hf9
theorem ss_sld (X : mm_Cx p l R s m args c cc nL own σ cA D A kc ks I d C) {b L : Nat} {xs : Nat → Int32} (hX : va_X b L xs s s.heap) (hbl : b < s.heap.size) (hbA : ¬ A b) (hσ : σ mm_SCR = b) (hd : decode cc pc = .ok (.iaload, 1)) : mm_Sim p l e R s m args below meth c rt cc nL Q σ (mm_Rz σ cA D A s.heap kc ks) C (pc, s_sld L xs (pc + 1)) := by
  obtain ⟨hx, hb, hml, hown, hts, w0, ext, hrm, hC⟩ := X
  intro ls st h o hf H locs cells slots lsr hR hl kn kr
  obtain ⟨i, r, rfl, hf8⟩ := mm_pI_inv hf
  obtain ⟨a, r, rfl, hf9⟩ := mm_pA_inv hf8
  by_cases hs : a = mm_SCR
  · rw [if_pos hs] at hf9
    by_cases hi : i < 0 ∨ L ≤ i.toNatClampNeg
    · rw [if_pos hi] at hf9
      cases hf9
    · rw [if_neg hi] at hf9
      cases hf9
      subst hs
      subst hσ
      exact va_sld hx hb hX hbl hbA hR.2.1 hi hd (kn _ _ _ _ rfl _ _ _ _ _ hR hl)
  · rw [if_neg hs] at hf9
    cases hf9
theorem ss_slen (X : mm_Cx p l R s m args c cc nL own σ cA D A kc ks I d C) {b L : Nat} {xs : Nat → Int32} (hX : va_X b L xs s s.heap) (hbl : b < s.heap.size) (hbA : ¬ A b) (hσ : σ mm_SCR = b) (hd : decode cc pc = .ok (.arraylength, 1)) : mm_Sim p l e R s m args below meth c rt cc nL Q σ (mm_Rz σ cA D A s.heap kc ks) C (pc, s_slen L (pc + 1)) := by
  obtain ⟨hx, hb, hml, hown, hts, w0, ext, hrm, hC⟩ := X
  intro ls st h o hf H locs cells slots lsr hR hl kn kr
  obtain ⟨a, r, rfl, hf9⟩ := mm_pA_inv hf
  by_cases hs : a = mm_SCR
  · rw [if_pos hs] at hf9
    cases hf9
    subst hs
    subst hσ
    exact va_slen hx hb hX hbl hbA hR.2.1 hd (kn _ _ _ _ rfl _ _ _ _ _ hR hl)
  · rw [if_neg hs] at hf9
    cases hf9
/-- behind a call -/
theorem mm_call {H : Heap} {locs : List Loc} {cells slots : Nat} {lsr : Array Slot} {st0 rest : List Value} {a : Array Value} {v : Option Value} {h' : mm_H} (hr : va_Run p l e R s m args below meth c H locs cells slots 0 0 (F0 m pc lsr st0) rest (mm_Qc σ cA D v h' a) (mm_A σ)) (hS : va_S A s.heap H locs) (hA : ∀ q, mm_A σ q → A q)
    (kk : ∀ (H1 : Heap) (locs1 : List Loc), va_P D vwCl (mm_ws σ cA h') H1 → va_S A s.heap H1 locs1 → W p l e R s m args below meth c H1 locs1 cells slots Q (F0 m (pc + 3) lsr ((v.map (mm_v σ)).toList ++ rest))) : W p l e R s m args below meth c H locs cells slots Q (F0 m pc lsr st0) := by
  intro T hT X
  obtain ⟨w, st₀, t, T', L, h0, X', hL, e1, e2, ⟨hv, hp, hz, hk⟩, st⟩ := hr T hT X
  cases hv
  rw [h0] at hz hk
  obtain ⟨t2, a1, b1⟩ := kk T'.heap (locs ++ L) (by rw [e1]; exact hp)
    ⟨Nat.le_trans hS.1 (by rw [e1]; exact hz), fun q h1 h2 => by rw [e1, hk q (Nat.lt_of_lt_of_le h1 hS.1) (fun z => h2 (hA q z))]; exact hS.2.1 q h1 h2, fun q hq => by
      rcases List.mem_append.mp hq with h | h
      · exact hS.2.2 q h
      · exact hA _ (hL q h)⟩ T' rfl X'
  exact ⟨t2, st t2 a1, b1⟩
theorem mm_preOK {H : Heap} {locs : List Loc} {h : mm_H} (w0 : mm_W0 σ cA D A s) (ext : mm_Ext σ A s s.heap) (hP : va_P D vwCl (mm_ws σ cA h) H) (hS : va_S A s.heap H locs) (as : List Value) {U : State} (hU : U.heap = H) (hW : s.WarmedH U.vm) : mm_Pc σ cA D as h (as.map (mm_v σ)).toArray U := by
  have hAA : ∀ q, mm_A σ q → A q := fun q hq => by
    obtain ⟨a, ha, e⟩ := hq
    rw [← e]
    exact w0.2.2 a ha
  refine ⟨rfl, by rw [hU]; exact hP, ⟨w0.1.moved hW.alike, w0.2.1, fun a ha => ⟨a, ha, rfl⟩⟩, ?_⟩
  rw [hU]
  exact ((ext.warm hW).kept hS.2.1).narrow hAA
theorem mm_W0.AA (w0 : mm_W0 σ cA D A s) : ∀ q, mm_A σ q → A q := fun q hq => by
  obtain ⟨a, ha, e⟩ := hq
  rw [← e]
  exact w0.2.2 a ha
theorem mm_stk {n b : Nat} {st rest : List Value} (h : st.drop n = .ref b :: rest) : st.map (mm_v σ) = (((st.take n).reverse).map (mm_v σ)).reverse ++ .ref (σ b) :: rest.map (mm_v σ) ∧ (((st.take n).reverse).map (mm_v σ)).length = n := by
  have hlt : n < st.length := by
    rcases Nat.lt_or_ge n st.length with q | q
    · exact q
    · rw [List.drop_eq_nil_of_le q] at h
      cases h
  refine ⟨?_, by simp [Nat.min_eq_left (Nat.le_of_lt hlt)]⟩
  conv => lhs; rw [← List.take_append_drop n st, h]
  rw [List.map_append, List.map_reverse, List.reverse_reverse]
  rfl

theorem ss_callV (X : mm_Cx p l R s m args c cc nL own σ cA D A kc ks I d C) {ci y n rk index maxL N : Nat} {Cn : String} {T : u_T} {yn : MethodName} {bytes : ByteArray} {ret : Option FieldType} (hI : I y = (yn, bytes, maxL, ret)) (hc : vwCl[ci]? = some (Cn, T, N)) (hcode : Cond.code yn bytes maxL ret ∈ lw_tbl) (hini : Cond.initialized yn.cls ∈ lw_tbl) (hlink : Cond.methodLink own index yn ∈ lw_tbl) (hinst : Cond.instanceMethod yn ∈ lw_tbl) (hsel : Cond.selects Cn yn yn ∈ lw_tbl) (hmh : yn.cls ≠ "java/lang/invoke/MethodHandle" ∧ yn.cls ≠ "java/lang/invoke/VarHandle") (hpar : (parseMethodDescriptor yn.desc).map (fun d => d.parameters.length) = some n) (hm : maxL ≤ 100) (hd : decode cc pc = .ok (.invokevirtual index, 3)) : mm_Sim p l e R s m args below meth c rt cc nL Q σ (mm_Rz σ cA D A s.heap kc ks) C (pc, s_callV ci y n rk (pc + 3)) := by
  obtain ⟨hx, hb, hml, hown, hts, w0, ext, hrm, hC⟩ := X
  intro ls st h o hf H locs cells slots lsr hR hl kn kr
  replace hf : s_callV ci y n rk (pc + 3) C ls st h = some o := hf
  unfold s_callV at hf
  obtain ⟨b, rest, hst, hf9⟩ := mm_pA_inv hf
  clear hf
  split at hf9
  · rename_i hq
    obtain ⟨v, h', hv, rfl⟩ := mm_after_inv hf9
    have hM := hC y _ h v h' hv σ cA D
    rw [hI] at hM
    have hb2 := mm_sh_lt0 hq.1 (by decide)
    obtain ⟨k1, k2⟩ := mm_stk (σ := σ) hst
    refine mm_call (a := ((Value.ref b :: (st.take n).reverse).map (mm_v σ)).toArray) (va_runV (C := Cn) (As := ((st.take n).reverse).map (mm_v σ)) (rest := rest.map (mm_v σ)) ⟨hx, hb, hml, hown, hts⟩ hM ⟨callB_of n hts (mm_good (mm_in hcode rfl)) rfl rfl rfl (hts _ (mm_in hini rfl)) (hts _ (mm_in hlink rfl)) ⟨hmh.1, hmh.2, hpar⟩ ⟨by show d + 1 ≤ R.frames; omega, by show 8 + (maxL + 11) + 150 * d ≤ R.locals; omega⟩, hts _ (mm_in hinst rfl), hts _ (mm_in hsel rfl)⟩ ⟨mm_blind _ _ _ _ _, va_recv w0.1 hR.1 hc (by rw [mm_ws_at hb2, mm_E_ob hq.1]), fun U hU hW => mm_preOK w0 ext hR.1 hR.2.1 _ hU hW⟩ rfl k2 hl.2.1 k1 (lv_room (by rw [mm_cats]; exact hq.2)) hd ⟨by rw [hR.2.2.1]; exact hrm.2.2.1, by rw [hR.2.2.2]; exact hrm.2.2.2⟩) hR.2.1 w0.AA (fun H1 locs1 hP1 hS1 => ?_)
    have k3 := kn _ _ _ _ rfl H1 locs1 cells slots lsr ⟨hP1, hS1, hR.2.2⟩ hl
    rw [List.map_append] at k3
    cases v <;> exact k3
  · cases hf9
theorem ss_callT (X : mm_Cx p l R s m args c cc nL own σ cA D A kc ks I d C) {y n rk index maxL : Nat} {yn : MethodName} {bytes : ByteArray} {ret : Option FieldType} (hI : I y = (yn, bytes, maxL, ret)) (hcode : Cond.code yn bytes maxL ret ∈ lw_tbl) (hini : Cond.initialized yn.cls ∈ lw_tbl) (hlink : Cond.methodLink own index yn ∈ lw_tbl) (hinst : Cond.instanceMethod yn ∈ lw_tbl) (hsel : Cond.selects "java/lang/String" yn yn ∈ lw_tbl) (hmh : yn.cls ≠ "java/lang/invoke/MethodHandle" ∧ yn.cls ≠ "java/lang/invoke/VarHandle") (hpar : (parseMethodDescriptor yn.desc).map (fun d => d.parameters.length) = some n) (hm : maxL ≤ 100) (hd : decode cc pc = .ok (.invokevirtual index, 3)) : mm_Sim p l e R s m args below meth c rt cc nL Q σ (mm_Rz σ cA D A s.heap kc ks) C (pc, s_callT y n rk (pc + 3)) := by
  obtain ⟨hx, hb, hml, hown, hts, w0, ext, hrm, hC⟩ := X
  intro ls st h o hf H locs cells slots lsr hR hl kn kr
  replace hf : s_callT y n rk (pc + 3) C ls st h = some o := hf
  unfold s_callT at hf
  obtain ⟨b, rest, hst, hf9⟩ := mm_pA_inv hf
  clear hf
  split at hf9
  · rename_i hq
    obtain ⟨v, h', hv, rfl⟩ := mm_after_inv hf9
    have hM := hC y _ h v h' hv σ cA D
    rw [hI] at hM
    obtain ⟨k1, k2⟩ := mm_stk (σ := σ) hst
    have hrecv : ∃ cell : Cell, H[σ b]? = some cell ∧ cell.vm.isStatics = false ∧ s.vm.findClass "java/lang/String" = some cell.cls := by
      rw [hq.1]
      obtain ⟨cell, h1, h2, h3, -⟩ := ext.2.2.1.kept hR.2.1.2.1
      exact ⟨cell, h1, h2, h3⟩
    refine mm_call (a := ((Value.ref b :: (st.take n).reverse).map (mm_v σ)).toArray) (va_runV (C := "java/lang/String") (As := ((st.take n).reverse).map (mm_v σ)) (rest := rest.map (mm_v σ)) ⟨hx, hb, hml, hown, hts⟩ hM ⟨callB_of n hts (mm_good (mm_in hcode rfl)) rfl rfl rfl (hts _ (mm_in hini rfl)) (hts _ (mm_in hlink rfl)) ⟨hmh.1, hmh.2, hpar⟩ ⟨by show d + 1 ≤ R.frames; omega, by show 8 + (maxL + 11) + 150 * d ≤ R.locals; omega⟩, hts _ (mm_in hinst rfl), hts _ (mm_in hsel rfl)⟩ ⟨mm_blind _ _ _ _ _, hrecv, fun U hU hW => mm_preOK w0 ext hR.1 hR.2.1 _ hU hW⟩ rfl k2 hl.2.1 k1 (lv_room (by rw [mm_cats]; exact hq.2)) hd ⟨by rw [hR.2.2.1]; exact hrm.2.2.1, by rw [hR.2.2.2]; exact hrm.2.2.2⟩) hR.2.1 w0.AA (fun H1 locs1 hP1 hS1 => ?_)
    have k3 := kn _ _ _ _ rfl H1 locs1 cells slots lsr ⟨hP1, hS1, hR.2.2⟩ hl
    rw [List.map_append] at k3
    cases v <;> exact k3
  · cases hf9
theorem ss_callS (X : mm_Cx p l R s m args c cc nL own σ cA D A kc ks I d C) {y n rk index maxL : Nat} {yn : MethodName} {bytes : ByteArray} {ret : Option FieldType} (hI : I y = (yn, bytes, maxL, ret)) (hcode : Cond.code yn bytes maxL ret ∈ lw_tbl) (hini : Cond.initialized yn.cls ∈ lw_tbl) (hlink : Cond.methodLink own index yn ∈ lw_tbl) (hstat : Cond.static yn ∈ lw_tbl) (hmh : yn.cls ≠ "java/lang/invoke/MethodHandle" ∧ yn.cls ≠ "java/lang/invoke/VarHandle") (hpar : (parseMethodDescriptor yn.desc).map (fun d => d.parameters.length) = some n) (hm : maxL ≤ 100) (hd : decode cc pc = .ok (.invokestatic index, 3)) : mm_Sim p l e R s m args below meth c rt cc nL Q σ (mm_Rz σ cA D A s.heap kc ks) C (pc, s_callS y n rk (pc + 3)) := by
  obtain ⟨hx, hb, hml, hown, hts, w0, ext, hrm, hC⟩ := X
  intro ls st h o hf H locs cells slots lsr hR hl kn kr
  replace hf : s_callS y n rk (pc + 3) C ls st h = some o := hf
  unfold s_callS at hf
  split at hf
  · rename_i hq
    obtain ⟨v, h', hv, rfl⟩ := mm_after_inv hf
    have hM := hC y _ h v h' hv σ cA D
    rw [hI] at hM
    have k2 : (((st.take n).reverse).map (mm_v σ)).length = n := by simp [Nat.min_eq_left hq.1]
    have k1 : st.map (mm_v σ) = (((st.take n).reverse).map (mm_v σ)).reverse ++ (st.drop n).map (mm_v σ) := by
      conv => lhs; rw [← List.take_append_drop n st]
      rw [List.map_append, List.map_reverse, List.reverse_reverse]
    refine mm_call (a := (((st.take n).reverse).map (mm_v σ)).toArray) (va_runS (As := ((st.take n).reverse).map (mm_v σ)) (rest := (st.drop n).map (mm_v σ)) ⟨hx, hb, hml, hown, hts⟩ hM ⟨callB_of n hts (mm_good (mm_in hcode rfl)) rfl rfl rfl (hts _ (mm_in hini rfl)) (hts _ (mm_in hlink rfl)) ⟨hmh.1, hmh.2, hpar⟩ ⟨by show d + 1 ≤ R.frames; omega, by show 8 + (maxL + 11) + 150 * d ≤ R.locals; omega⟩, hts _ (mm_in hstat rfl)⟩ ⟨mm_blind _ _ _ _ _, fun U hU hW => mm_preOK w0 ext hR.1 hR.2.1 _ hU hW⟩ rfl k2 hl.2.1 k1 (lv_room (by rw [mm_cats]; exact hq.2)) hd ⟨by rw [hR.2.2.1]; exact hrm.2.2.1, by rw [hR.2.2.2]; exact hrm.2.2.2⟩) hR.2.1 w0.AA (fun H1 locs1 hP1 hS1 => ?_)
    have k3 := kn _ _ _ _ rfl H1 locs1 cells slots lsr ⟨hP1, hS1, hR.2.2⟩ hl
    rw [List.map_append] at k3
    cases v <;> exact k3
  · cases hf
theorem ss_callSN (X : mm_Cx p l R s m args c cc nL own σ cA D A kc ks I d C) {y n rk index maxL : Nat} {yn : MethodName} {bytes : ByteArray} {ret : Option FieldType} {host : String} (hI : I y = (yn, bytes, maxL, ret)) (hcode : Cond.code yn bytes maxL ret ∈ lw_tbl) (hini : Cond.initialized yn.cls ∈ lw_tbl) (hlink : Cond.methodLinkNest own index yn host ∈ lw_tbl) (hstat : Cond.static yn ∈ lw_tbl) (hmh : yn.cls ≠ "java/lang/invoke/MethodHandle" ∧ yn.cls ≠ "java/lang/invoke/VarHandle") (hpar : (parseMethodDescriptor yn.desc).map (fun d => d.parameters.length) = some n) (hm : maxL ≤ 100) (hd : decode cc pc = .ok (.invokestatic index, 3)) : mm_Sim p l e R s m args below meth c rt cc nL Q σ (mm_Rz σ cA D A s.heap kc ks) C (pc, s_callS y n rk (pc + 3)) := by
  obtain ⟨hx, hb, hml, hown, hts, w0, ext, hrm, hC⟩ := X
  intro ls st h o hf H locs cells slots lsr hR hl kn kr
  replace hf : s_callS y n rk (pc + 3) C ls st h = some o := hf
  unfold s_callS at hf
  split at hf
  · rename_i hq
    obtain ⟨v, h', hv, rfl⟩ := mm_after_inv hf
    have hM := hC y _ h v h' hv σ cA D
    rw [hI] at hM
    have k2 : (((st.take n).reverse).map (mm_v σ)).length = n := by simp [Nat.min_eq_left hq.1]
    have k1 : st.map (mm_v σ) = (((st.take n).reverse).map (mm_v σ)).reverse ++ (st.drop n).map (mm_v σ) := by
      conv => lhs; rw [← List.take_append_drop n st]
      rw [List.map_append, List.map_reverse, List.reverse_reverse]
    refine mm_call (a := (((st.take n).reverse).map (mm_v σ)).toArray) (va_runSN (As := ((st.take n).reverse).map (mm_v σ)) (rest := (st.drop n).map (mm_v σ)) ⟨hx, hb, hml, hown, hts⟩ hM ⟨va_cnB n hts (mm_good (mm_in hcode rfl)) rfl rfl rfl (ext.2.2.2.2.2.2.1 _ (mm_inN hlink rfl)) (hts _ (mm_in hini rfl)) ⟨hmh.1, hmh.2, hpar⟩ ⟨by show d + 1 ≤ R.frames; omega, by show 8 + (maxL + 11) + 150 * d ≤ R.locals; omega⟩, hts _ (mm_in hstat rfl), trivial⟩ ⟨mm_blind _ _ _ _ _, fun U hU hW => mm_preOK w0 ext hR.1 hR.2.1 _ hU hW⟩ rfl k2 hl.2.1 k1 (lv_room (by rw [mm_cats]; exact hq.2)) hd ⟨by rw [hR.2.2.1]; exact hrm.2.2.1, by rw [hR.2.2.2]; exact hrm.2.2.2⟩) hR.2.1 w0.AA (fun H1 locs1 hP1 hS1 => ?_)
    have k3 := kn _ _ _ _ rfl H1 locs1 cells slots lsr ⟨hP1, hS1, hR.2.2⟩ hl
    rw [List.map_append] at k3
    cases v <;> exact k3
  · cases hf
end HEAP
