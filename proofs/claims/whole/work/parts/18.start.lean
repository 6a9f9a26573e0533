/-! from the law's entry: the worlds are there, the objects are made, the loop begins -/
theorem mm_sim_many {Hp : Type} {p : Program} {l : Launch} {e : Env} {R : Room} {s : State} {m : MethodId} {args : Array Value} {below : List Frame} {meth : Method} {c : Code} {rt : Option FieldType} {cc : ByteArray} {nL : Nat} {Q : State → Prop} {σ : Nat → Nat} {Rz : Hp → Heap → List Loc → Nat → Nat → Prop} {C : mm_C Hp} {cd : mm_K Hp} (hcd : ∀ q ∈ cd, mm_Sim p l e R s m args below meth c rt cc nL Q σ Rz C q) {x' : Nat × List Value × List Value × Hp}
    (kk : ∀ (H' : Heap) (locs' : List Loc) (cells' slots' : Nat) (lsr' : Array Slot), Rz x'.2.2.2 H' locs' cells' slots' → mm_lv σ nL x'.2.1 lsr' → W p l e R s m args below meth c H' locs' cells' slots' Q (F0 m x'.1 lsr' (x'.2.2.1.map (mm_v σ)))) :
    ∀ (k : Nat) (x : Nat × List Value × List Value × Hp), mm_many C cd k x = some (.inl x') → ∀ (H : Heap) (locs : List Loc) (cells slots : Nat) (lsr : Array Slot), Rz x.2.2.2 H locs cells slots → mm_lv σ nL x.2.1 lsr → W p l e R s m args below meth c H locs cells slots Q (F0 m x.1 lsr (x.2.2.1.map (mm_v σ)))
  | 0, x, h => by
    cases h
    exact kk
  | k + 1, x, h => by
    intro H locs cells slots lsr hR hl
    unfold mm_many at h
    cases hg : mm_get cd x.1 with
    | none => rw [hg] at h; cases h
    | some f =>
      rw [hg] at h
      simp only at h
      cases hf : f C x.2.1 x.2.2.1 x.2.2.2 with
      | none => rw [hf] at h; cases h
      | some o =>
        rw [hf] at h
        refine hcd (x.1, f) (mm_get_mem hg) x.2.1 x.2.2.1 x.2.2.2 o hf H locs cells slots lsr hR hl (fun pc' ls' st' h2 ho H' locs' cells' slots' lsr' hR' hl' => ?_) (fun v2 h2 ho pc2 lsr2 hret hR' => ?_)
        · subst ho
          exact mm_sim_many hcd kk k (pc', ls', st', h2) h H' locs' cells' slots' lsr' hR' hl'
        · subst ho
          cases h
/-! what the constructors leave, as our heap -/
def cc_int : cc_E → Nat → Int32
  | .inl (_, fs), k => (match fs[k]? with
    | some (.int x) => x
    | _ => 0)
  | .inr (_, _, .inl f), k => f.getD k 0
  | _, _ => 0
def cc_lng : cc_E → Nat → Int64
  | .inl (_, fs), k => (match fs[k]? with
    | some (.long x) => x
    | _ => 0)
  | _, _ => 0
def cc_rfr : cc_E → Nat → Nat
  | .inl (_, fs), k => (match fs[k]? with
    | some (.ref x) => x
    | _ => 0)
  | _, _ => 0
def mm_h0 : mm_H := (fun a k => cc_int (cc_at cw_fin a) k, fun a k => cc_lng (cc_at cw_fin a) k, fun a k => cc_rfr (cc_at cw_fin a) k)
def cc_fok (a ci k : Nat) (v : Value) : Bool := match (mm_fk ci k).1, v with
  | 0, .int _ => true
  | 1, .int _ => true
  | 2, .long _ => true
  | 3, .ref b => b == a + (mm_fk ci k).2
  | 4, .ref b => b == (mm_fk ci k).2
  | 5, .ref _ => true
  | _, _ => false
def cc_like (a : Nat) : cc_E → Bool
  | .inl (ci, fs) => decide (mm_sh a = (0, ci)) && decide (fs.length = mm_nf ci) && (List.range (mm_nf ci)).all (fun k => cc_fok a ci k (fs.getD k .null))
  | .inr (t, n, .inl _) => decide (mm_sh a = (t, n)) && (t == 1 || t == 3 || t == 4)
  | .inr (t, n, .inr (.inl _)) => decide (mm_sh a = (t, n)) && t == 2
  | .inr (t, n, .inr (.inr f)) => decide (mm_sh a = (t, n)) && t == 5 && (List.range n).all (fun j => decide (f.getD j none = some (a + 1 + 9 * j)))
set_option maxRecDepth 1000000 in
theorem cw_like : (List.range mm_N).all (fun a => cc_like a (cc_at cw_fin a)) = true := by decide +kernel
theorem cc_fok_fw {a ci k : Nat} {v : Value} {fs : List Value} (hf : cc_at cw_fin a = .inl (ci, fs)) (hk : fs[k]? = some v) (h : cc_fok a ci k v = true) : mm_fw mm_h0 a ci k = v := by
  unfold cc_fok at h
  unfold mm_fw
  have hi : mm_h0.1 a k = cc_int (.inl (ci, fs)) k := by show cc_int (cc_at cw_fin a) k = _; rw [hf]
  have hl : mm_h0.2.1 a k = cc_lng (.inl (ci, fs)) k := by show cc_lng (cc_at cw_fin a) k = _; rw [hf]
  have hr : mm_h0.2.2 a k = cc_rfr (.inl (ci, fs)) k := by show cc_rfr (cc_at cw_fin a) k = _; rw [hf]
  rw [hi, hl, hr]
  simp only [cc_int, cc_lng, cc_rfr, hk]
  revert h
  generalize mm_fk ci k = q
  obtain ⟨z, w⟩ := q
  intro h
  rcases z with _ | _ | _ | _ | _ | _ | z <;> cases v <;> first | rfl | (simp only [Bool.false_eq_true] at h; done) | (simp only [beq_iff_eq] at h; rw [h]; rfl)
theorem cw_E {σ : Nat → Nat} {cA : Nat → ClassId} {D : va_G} {H : Heap} {a : Nat} (ha : a < mm_N) (h : va_at D vwCl (σ a, cc_e σ cA (cc_at cw_fin a)) H) : va_at D vwCl (σ a, mm_E σ cA mm_h0 a) H := by
  have hk := List.all_eq_true.mp cw_like a (List.mem_range.mpr ha)
  cases hc : cc_at cw_fin a with
  | inl q =>
    obtain ⟨ci, fs⟩ := q
    rw [hc] at hk h
    simp only [cc_like, Bool.and_eq_true, decide_eq_true_eq] at hk
    obtain ⟨⟨h1, h2⟩, h3⟩ := hk
    rw [mm_E_ob h1]
    have e : fs.map (mm_v σ) = mm_ob σ mm_h0 a ci := by
      apply List.ext_getElem?
      intro k
      rcases Nat.lt_or_ge k (mm_nf ci) with q | q
      · have hv : fs[k]? = some fs[k] := List.getElem?_eq_getElem (by omega)
        rw [List.getElem?_map, mm_ob_at q, hv]
        have h4 := List.all_eq_true.mp h3 k (List.mem_range.mpr q)
        rw [List.getD_eq_getElem?_getD, hv] at h4
        rw [cc_fok_fw hc hv h4]
        rfl
      · rw [List.getElem?_eq_none (by rw [List.length_map]; omega), List.getElem?_eq_none (by rw [mm_ob, List.length_map, List.length_range]; exact q)]
    rw [← e]
    exact h
  | inr q =>
    obtain ⟨t, n, f⟩ := q
    rw [hc] at hk h
    cases f with
    | inl f =>
      simp only [cc_like, Bool.and_eq_true, decide_eq_true_eq, Bool.or_eq_true, beq_iff_eq] at hk
      obtain ⟨h1, h2⟩ := hk
      have e : mm_h0.1 a = fun j => f.getD j 0 := by
        funext j
        show cc_int (cc_at cw_fin a) j = _
        rw [hc]
        rfl
      rcases h2 with (rfl | rfl) | rfl
      · rw [mm_E_1 h1, e]
        exact h
      · rw [mm_E_3 h1, e]
        exact h
      · rw [mm_E_4 h1, e]
        exact h
    | inr f =>
      cases f with
      | inl u =>
        simp only [cc_like, Bool.and_eq_true, decide_eq_true_eq, beq_iff_eq] at hk
        obtain ⟨h1, h2⟩ := hk
        subst h2
        have e : mm_h0.2.1 a = fun _ => 0 := by
          funext j
          show cc_lng (cc_at cw_fin a) j = _
          rw [hc]
          rfl
        rw [mm_E_2 h1, e]
        exact h
      | inr f =>
        simp only [cc_like, Bool.and_eq_true, decide_eq_true_eq, beq_iff_eq] at hk
        obtain ⟨⟨h1, h2⟩, h3⟩ := hk
        subst h2
        rw [mm_E_5 h1]
        have e : vp_cell (cA 5) (n, .inr (.inr (.inr (.inr (fun j => (f.getD j none).map σ))))) = vp_cell (cA 5) (n, .inr (.inr (.inr (.inr (fun j => some (σ (a + 1 + 9 * j))))))) := by
          rw [vp_cell_q, vp_cell_q]
          unfold arrV
          congr 2
          funext j
          have h4 := List.all_eq_true.mp h3 j.val (List.mem_range.mpr j.isLt)
          rw [decide_eq_true_eq] at h4
          show va_rf (Option.map σ (f.getD j.val none)) = va_rf (some (σ (a + 1 + 9 * j.val)))
          rw [h4]
          rfl
        show H[σ a]? = some (vp_cell _ _)
        rw [← e]
        exact h
theorem cw_N : cw_fin.1 = mm_N := by decide +kernel
theorem cw_P {σ : Nat → Nat} {cA : Nat → ClassId} {D : va_G} {H : Heap} (h : va_P D vwCl (cc_ws σ cA cw_fin) H) : va_P D vwCl (mm_ws σ cA mm_h0) H := by
  intro k q hq
  obtain ⟨hk, rfl⟩ := mm_ws_inv hq
  exact cw_E hk (h k _ (cc_ws_at (by rw [cw_N]; exact hk)))
/-! the classes, the arrays, the text at the start -/
theorem st_classes {s : State} {args : Array Value} (hts : ∀ w ∈ lw_tbl, w.before args s = true) : ∃ D : va_G, ∀ (c : Nat) (q : vw_C), vwCl[c]? = some q → u_Kn s q.1 q.2.1 q.2.2 (D.1 c) (D.2 c) := by
  have h0 : ∀ c : Nat, ∃ x : ClassId × (Nat → Nat), ∀ q : vw_C, vwCl[c]? = some q → u_Kn s q.1 q.2.1 q.2.2 x.1 x.2 := by
    intro c
    match c with
    | 0 =>
      obtain ⟨cC, iS, hK⟩ := u_known (C := RX0) (T := TX0) (N := 11) (n := 11) hts in_X0 (hts (.instantiable RX0 11) (mt_1 (List.mem_of_getElem? (i := 228) (by decide +kernel))))
      exact ⟨(cC, iS), fun q hq => by cases hq; exact hK⟩
    | 1 =>
      obtain ⟨cC, iS, hK⟩ := u_known (C := RX1) (T := TX1) (N := 7) (n := 7) hts in_X1 (hts (.instantiable RX1 7) (mt_1 (List.mem_of_getElem? (i := 83) (by decide +kernel))))
      exact ⟨(cC, iS), fun q hq => by cases hq; exact hK⟩
    | 2 =>
      obtain ⟨cC, iS, hK⟩ := u_known (C := RX2) (T := TX2) (N := 3) (n := 3) hts in_X2 (hts (.instantiable RX2 3) (mt_1 (List.mem_of_getElem? (i := 119) (by decide +kernel))))
      exact ⟨(cC, iS), fun q hq => by cases hq; exact hK⟩
    | 3 =>
      obtain ⟨cC, iS, hK⟩ := u_known (C := RX3) (T := TX3) (N := 3) (n := 3) hts in_X3 (hts (.instantiable RX3 3) (mt_1 (List.mem_of_getElem? (i := 209) (by decide +kernel))))
      exact ⟨(cC, iS), fun q hq => by cases hq; exact hK⟩
    | 4 =>
      obtain ⟨cC, iS, hK⟩ := u_known (C := RX4) (T := TX4) (N := 4) (n := 4) hts in_X4 (hts (.instantiable RX4 4) (mt_2 (List.mem_of_getElem? (i := 36) (by decide +kernel))))
      exact ⟨(cC, iS), fun q hq => by cases hq; exact hK⟩
    | 5 =>
      obtain ⟨cC, iS, hK⟩ := u_known (C := RX5) (T := TX5) (N := 2) (n := 2) hts in_X5 (hts (.instantiable RX5 2) (mt_1 (List.mem_of_getElem? (i := 77) (by decide +kernel))))
      exact ⟨(cC, iS), fun q hq => by cases hq; exact hK⟩
    | 6 =>
      obtain ⟨cC, iS, hK⟩ := u_known (C := RX6) (T := TX6) (N := 7) (n := 7) hts in_X6 (hts (.instantiable RX6 7) (mt_1 (List.mem_of_getElem? (i := 44) (by decide +kernel))))
      exact ⟨(cC, iS), fun q hq => by cases hq; exact hK⟩
    | 7 =>
      obtain ⟨cC, iS, hK⟩ := u_known (C := RX7) (T := TX7) (N := 12) (n := 12) hts in_X7 (hts (.instantiable RX7 12) (mt_1 (List.mem_of_getElem? (i := 148) (by decide +kernel))))
      exact ⟨(cC, iS), fun q hq => by cases hq; exact hK⟩
    | 8 =>
      obtain ⟨cC, iS, hK⟩ := u_known (C := RX8) (T := TX8) (N := 2) (n := 2) hts in_X8 (hts (.instantiable RX8 2) (mt_1 (List.mem_of_getElem? (i := 30) (by decide +kernel))))
      exact ⟨(cC, iS), fun q hq => by cases hq; exact hK⟩
    | 9 =>
      obtain ⟨cC, iS, hK⟩ := u_known (C := RX9) (T := TX9) (N := 2) (n := 2) hts in_X9 (hts (.instantiable RX9 2) (mt_1 (List.mem_of_getElem? (i := 135) (by decide +kernel))))
      exact ⟨(cC, iS), fun q hq => by cases hq; exact hK⟩
    | 10 =>
      obtain ⟨cC, iS, hK⟩ := u_known (C := RX10) (T := TX10) (N := 5) (n := 5) hts in_X10 (hts (.instantiable RX10 5) (mt_2 (List.mem_of_getElem? (i := 57) (by decide +kernel))))
      exact ⟨(cC, iS), fun q hq => by cases hq; exact hK⟩
    | 11 =>
      obtain ⟨cC, iS, hK⟩ := u_known (C := RX11) (T := TX11) (N := 14) (n := 14) hts in_X11 (hts (.instantiable RX11 14) (mt_1 (List.mem_of_getElem? (i := 22) (by decide +kernel))))
      exact ⟨(cC, iS), fun q hq => by cases hq; exact hK⟩
    | 12 =>
      obtain ⟨cC, iS, hK⟩ := u_known (C := RX12) (T := TX12) (N := 113) (n := 113) hts in_X12 (hts (.instantiable RX12 113) (mt_6 (List.mem_of_getElem? (i := 41) (by decide +kernel))))
      exact ⟨(cC, iS), fun q hq => by cases hq; exact hK⟩
    | c + 13 => exact ⟨(0, fun _ => 0), fun q hq => by simp [vwCl] at hq⟩
  obtain ⟨f, hf⟩ := Classical.axiomOfChoice h0
  exact ⟨(fun c => (f c).1, fun c => (f c).2), hf⟩
theorem st_arr {s : State} {args : Array Value} {ty : FieldType} (h : (Cond.arrayClass ty).before args s = true) (hno : ∀ n, ty ≠ .object n) : ∃ cA : ClassId, ArrOfT s cA ty ∧ va_RA s cA ty := by
  obtain ⟨cA, kA, comp, f1, f2, f3⟩ := Cond.arrayClass_spec h
  refine ⟨cA, fun N z => ⟨(fun k h => by cases h), kA, f2, comp, f3⟩, ?_⟩
  cases ty <;> first | exact f1 | exact absurd rfl (hno _)
theorem st_arrays {s : State} {args : Array Value} (hts : ∀ w ∈ lw_tbl, w.before args s = true) : ∃ cA : Nat → ClassId, ∀ (k : Nat) (q : ClassId × FieldType), (mm_tys cA)[k]? = some q → ArrOfT s q.1 q.2 ∧ va_RA s q.1 q.2 := by
  obtain ⟨c1, h1⟩ := st_arr (hts (Cond.arrayClass .int) (mt_1 (List.mem_of_getElem? (i := 42) (by decide +kernel)))) (fun _ q => by cases q)
  obtain ⟨c2, h2⟩ := st_arr (hts (Cond.arrayClass .long) (mt_7 (List.mem_of_getElem? (i := 147) (by decide +kernel)))) (fun _ q => by cases q)
  obtain ⟨c3, h3⟩ := st_arr (hts (Cond.arrayClass .char) (mt_7 (List.mem_of_getElem? (i := 146) (by decide +kernel)))) (fun _ q => by cases q)
  obtain ⟨c4, h4⟩ := st_arr (hts (Cond.arrayClass .boolean) (mt_2 (List.mem_of_getElem? (i := 34) (by decide +kernel)))) (fun _ q => by cases q)
  obtain ⟨comp, c5, k5, g1, g2, g3, g4, g5⟩ := Cond.arrayOver_spec (hts (Cond.arrayOver (.object RX7)) (mt_1 (List.mem_of_getElem? (i := 215) (by decide +kernel))))
  refine ⟨fun t => if t = 1 then c1 else if t = 2 then c2 else if t = 3 then c3 else if t = 4 then c4 else c5, fun k q hq => ?_⟩
  match k, hq with
  | 0, hq => cases hq; exact h1
  | 1, hq => cases hq; exact h2
  | 2, hq => cases hq; exact h3
  | 3, hq => cases hq; exact h4
  | 4, hq => cases hq; exact ⟨fun N z => ⟨(fun k h => by cases h), k5, g3, comp, g4⟩, k5, comp, g3, g4, g1, g5⟩
  | k + 5, hq => simp [mm_tys] at hq
def st_c (j : Nat) : Cond := Cond.eq (.elem (.field (.string RX6 91) "java/lang/String" "value" "[B") (.int (Int32.ofNat j))) (.int (mm_txt.getD j 0))
set_option maxRecDepth 1000000 in
theorem st_els : ∀ j, j < 161 → (flatC (Jvm.Cond.and given_1 narrow_1))[13 + j]? = some (st_c j) := by decide +kernel
set_option maxRecDepth 1000000 in
theorem st_text {s : State} {args : Array Value} (hts : ∀ w ∈ lw_tbl, w.before args s = true) (hgv : (Jvm.Cond.and given_1 narrow_1).before args s = true) : ∃ a b : Nat, vk_R RX6 91 mm_text a s ∧ va_Z "java/lang/String" "COMPACT_STRINGS" "Z" (.int 1) (fun q => s.heap.size ≤ q) s s.heap ∧ va_O "java/lang/String" a (fun q => s.heap.size ≤ q) s s.heap ∧ va_OF "java/lang/String" "coder" "B" (.int 0) a (fun q => s.heap.size ≤ q) s s.heap ∧ va_OF "java/lang/String" "value" "[B" (.ref b) a (fun q => s.heap.size ≤ q) s s.heap ∧ va_T .byte b mm_txt.length (fun j => .int (mm_txt.getD j 0)) (fun q => s.heap.size ≤ q) s s.heap ∧ va_Zq "jdk/internal/util/Preconditions" "SIOOBE_FORMATTER" "Ljava/util/function/BiFunction;" (fun q => s.heap.size ≤ q) s s.heap := by
  have hs := flat_of_before _ hgv
  have hA : ∀ a : Nat, a < s.heap.size → ¬ (fun q => s.heap.size ≤ q) a := fun a ha => Nat.not_le.mpr ha
  obtain ⟨adK, adV, hS, hev⟩ := vk_Sof (args := args) (s := s) (N := 1) (tm := fun _ => .string RX6 91) (len := [161]) (byt := [mm_txt]) (A := fun q => s.heap.size ≤ q)
    (fun i hi => by rw [show i = 0 by omega]; decide)
    (fun i hi => hs _ (List.mem_of_getElem? (i := 9) (by decide +kernel)))
    (fun i hi => hs _ (List.mem_of_getElem? (i := 10) (by decide +kernel)))
    (fun i hi => hs _ (List.mem_of_getElem? (i := 11) (by decide +kernel)))
    (fun i hi => by rw [show i = 0 by omega]; exact hs _ (List.mem_of_getElem? (i := 12) (by decide +kernel)))
    (fun i hi j hj => by rw [show i = 0 by omega] at hj ⊢; exact hs _ (List.mem_of_getElem? (st_els j hj)))
    (fun i j hi hj hij => absurd (show i = j by omega) hij) hA
  obtain ⟨k1, k2, k3, k4⟩ := hS.1 0 (by decide)
  refine ⟨adK 0, adV 0, vk_R.of (A := args) (hts _ (mt_2 (List.mem_of_getElem? (i := 213) (by decide +kernel)))) (hev 0 (by decide)), va_Zof (hts _ (mt_2 (List.mem_of_getElem? (i := 223) (by decide +kernel)))) (hts _ (mt_1 (List.mem_of_getElem? (i := 15) (by decide +kernel)))) (va_eqi (hs _ (List.mem_of_getElem? (i := 4) (by decide +kernel)))) hA, k1, k2, k3, ?_, va_Zqof (hts _ (mt_2 (List.mem_of_getElem? (i := 239) (by decide +kernel)))) (hts _ (mt_1 (List.mem_of_getElem? (i := 17) (by decide +kernel)))) (hs _ (List.mem_of_getElem? (i := 5) (by decide +kernel))) hA⟩
  exact k4
