/-! a heap with other references holds the same; what comes of a terrace's text -/
section SWP
variable {h h' : mm_H} {i : Int}
theorem RuleC.sw {c0 : Nat} {w : Int} {c : List Int} (e : ∀ a k, fd h' a k = fd h a k) (r : RuleC h c0 w c) : RuleC h' c0 w c := by
  obtain ⟨r1, f, x1, x2, x3, x4, x5, x6⟩ := r
  refine ⟨r1, f, x1, (e _ _).trans x2, (e _ _).trans x3, ?_, ?_, x6.congr (fun k => e _ k)⟩
  · rw [e]; exact x4
  · rw [e]; exact x5
theorem RuleR.sw {w : Int} {c : List Int} (e : ∀ a k, fd h' a k = fd h a k) (r : RuleR h w c) : RuleR h' w c := by
  refine ⟨r.1, ?_⟩
  rw [e 297 _, e 298 _]
  rcases r.2 with x | ⟨f, x1, x2, x3, x4, x5⟩
  · exact Or.inl x
  · exact Or.inr ⟨f, x1, x2, x3, x4, x5.congr (fun k => e _ k)⟩
theorem RT.sw {pm hm : Int} {fc kd : Int → Int} {cp cm cf : List Int} (e : ∀ a k, fd h' a k = fd h a k) (r : RT h pm hm fc kd cp cm cf) : RT h' pm hm fc kd cp cm cf := ⟨(e _ _).trans r.1, (e _ _).trans r.2.1, fun p p1 p2 => ⟨(e 294 _).trans (r.2.2.1 p p1 p2).1, (e 295 _).trans (r.2.2.1 p p1 p2).2⟩, r.2.2.2.1.sw e, r.2.2.2.2.1.sw e, r.2.2.2.2.2.sw e⟩
theorem IvW.sw {t : Nat} {st pm hm : Int} {fc kd n : Int → Int} {cp cm cf : List Int} {ev : Evs} (W : IvW h i t st pm hm fc kd cp cm cf n ev) (e : ∀ a k, fd h' a k = fd h a k) (r1 : h'.2.2 0 10 = h.2.2 0 10) (r2 : h'.2.2 0 11 = h.2.2 0 11) : IvW h' i t st pm hm fc kd cp cm cf n ev := by
  obtain ⟨b1, b2', b3, b4, b5, b6, b7, b8, b9, b10, b11, b12, b13⟩ := W
  refine ⟨⟨b1.1, r1.trans b1.2.1, r2.trans b1.2.2⟩, ⟨b2'.1, (e _ _).trans b2'.2.1, (e _ _).trans b2'.2.2.1, b2'.2.2.2.1, fun x => ⟨(b2'.2.2.2.2 x).1.sw e, (b2'.2.2.2.2 x).2.1.sw e, (b2'.2.2.2.2 x).2.2.sw e⟩⟩, b3.sw e, fun z z1 z2 => (e 300 _).trans (b4 z z1 z2), b5, b6, b7, b8.congr (fun a k _ _ => e a k), (e _ _).trans b9, ⟨b10.1.congr (e _ _) (fun k => e _ k), b10.2.1.congr (fun k _ => e _ k), b10.2.2.1, b10.2.2.2⟩, ?_, ?_, b13⟩
  · rw [e 264 65]; exact b11
  · rw [e t 3, e 264 47]; exact b12
set_option maxHeartbeats 8000000 in
/-- only the references of the rules' reader differ -/
theorem Inv.sw (I : Inv h i) (e : ∀ a k, fd h' a k = fd h a k) (l : ∀ a k, fl h' a k = fl h a k) (r1 : h'.2.2 0 10 = h.2.2 0 10) (r2 : h'.2.2 0 11 = h.2.2 0 11) : Inv h' i := by
  obtain ⟨t, st, pm, hm, fc, kd, cp, cm, cf, n, ev, past, M, W, H, S, P, N⟩ := I
  have K : Kf (fun _ _ => False) nL h ((h'.1, h'.2.1, h.2.2) : mm_H) := ⟨fun a k _ => e a k, fun a k _ => l a k, rfl⟩
  have M2 := M.kf K (fun _ _ _ z => z) (fun z => z)
  have H2 := H.kf K (fun _ _ _ z => z) (Int.le_refl i)
  have S2 := S.kf K (fun _ _ _ z => z)
  have P2 := P.kf K (fun _ _ _ z => z)
  have N2 := N.kf K (fun _ _ _ z => z) (fun _ _ z => z)
  exact ⟨t, st, pm, hm, fc, kd, cp, cm, cf, n, ev, past, M2, W.sw e r1 r2, H2, S2, P2, N2⟩
set_option maxHeartbeats 8000000 in
/-- a text was read: only the readers' own cells and the faults have changed -/
theorem Inv.txt {t : Nat} {st pm hm : Int} {fc kd n : Int → Int} {cp cm cf : List Int} {ev : Evs} {past : Past} (M : IvM h') (W : IvW h i t st pm hm fc kd cp cm cf n ev) (H : IvH h i pm hm fc kd past) (S : IvS h pm) (P : IvP h) (N : IvN h t pm) (k : ∀ a k, ¬ Mac t pm a k → fd h' a k = fd h a k) (l : ∀ a k, ¬ LMc a k → fl h' a k = fl h a k) (r1 : h'.2.2 0 10 = h.2.2 0 10) (r2 : h'.2.2 0 11 = h.2.2 0 11) (hi : i + 6 ≤ 3072) : Inv h' (i + 6) := by
  have K : Kf (Mac t pm) LMc h ((h'.1, h'.2.1, h.2.2) : mm_H) := ⟨k, l, rfl⟩
  have M2 : IvM ((h'.1, h'.2.1, h.2.2) : mm_H) := M
  exact (Inv.mac M2 W H S P N K hi).sw (fun _ _ => rfl) (fun _ _ => rfl) r1 r2
end SWP
/-! what comes of a terrace's text is sound -/
def PgF (hm E : Nat) (r : Sum (Int × Int) (Nat × Tst)) : Prop := match r with
  | .inl f => f.1 ≠ 0
  | .inr y => TstOK hm E y.2
def PgA (E : Nat) (r : Sum (Int × Int) (Nat × Nat × Tst)) : Prop := match r with
  | .inl f => f.1 ≠ 0
  | .inr y => (2 ≤ y.1 ∧ y.1 ≤ 9) ∧ TstOK (y.1 : Nat) E y.2.2
section TAO
variable {b : Nat → Int} {E : Nat}
theorem trF_ok {hm : Nat} (hE : E ≤ 1600) (h1 : 1 ≤ hm) : ∀ (k n : Nat) (st : Tst) (p : Nat) (gl : Bool), p ≤ E → E + 1 ≤ k + p → TstOK hm p st → PgF hm E (trF b E hm k n st p gl)
  | 0, n, st, p, gl, hp, hk, O => by omega
  | k + 1, n, st, p, gl, hp, hk, O => by
    rw [trF]
    by_cases c1 : tB b E p = -1
    · rw [if_pos c1]
      exact O.mono hp
    · rw [if_neg c1]
      by_cases c2 : n = 80
      · rw [if_pos c2]
        show (5 : Int) ≠ 0
        omega
      · rw [if_neg c2]
        have ok := stF_ok (b := b) (E := E) (gl := gl) hE hp h1 O
        revert ok
        cases stF b E hm st p gl with
        | inl f =>
          intro ok
          have o1 : f.1 = 1 ∨ f.1 = 2 ∨ f.1 = 3 ∨ f.1 = 4 ∨ f.1 = 5 := ok.1
          show f.1 ≠ 0
          omega
        | inr y =>
          intro ok
          have o1 : p + 1 ≤ y.1 := ok.1
          have o2 : y.1 ≤ E := ok.2.1
          have o3 : TstOK hm y.1 y.2.2 := ok.2.2
          show PgF hm E (if tB b E y.1 = 59 then _ else _)
          by_cases c3 : tB b E y.1 = 59
          · rw [if_pos c3]
            have lt := tB_in c3 (by decide)
            have ge1 := tS_ge (b := b) (E := E) (p := y.1)
            exact trF_ok hE h1 k (n + 1) y.2.2 (tS b E y.1 + 1) false (by omega) (by omega) (o3.mono (by omega))
          · rw [if_neg c3]
            show (1 : Int) ≠ 0
            omega
theorem trA_ok (hE : E ≤ 1600) : PgA E (trA b E) := by
  unfold trA
  by_cases c1 : wno b E 0 false = 0
  · rw [if_pos c1]
    have cw : wno b E 0 false ≠ -2 := by omega
    have l1 := (tL_in (wno_w cw).1).2
    clear cw
    generalize tL b E (tS b E 0) = p1 at *
    have nb := numT_b (b := b) (E := E) (p := p1) (gl := true) (lo := 2) (hi := 9) hE l1
    by_cases c2 : (numT b E 2 9 p1 true).1 = 0
    · rw [if_pos c2]
      have nv := nb.2.2.2 c2
      have nv1 := nv.1
      have nv2 := nv.2.1
      have l2 := (tD_in nv.2.2.1).2
      clear nb nv c2
      generalize (numT b E 2 9 p1 true).2.2 = hv at *
      generalize tD b E (tS b E p1) = p2 at *
      by_cases c3 : tB b E p2 = 59
      · rw [if_pos c3]
        have lt := tB_in c3 (by decide)
        have r := trF_ok (b := b) (hm := hv.toNat) hE (by omega) (E + 2) 1 st0 (tS b E p2 + 1) false (by omega) (by omega) st0_ok
        revert r
        cases trF b E hv.toNat (E + 2) 1 st0 (tS b E p2 + 1) false with
        | inl f => exact fun z => z
        | inr y => exact fun z => ⟨⟨by show 2 ≤ hv.toNat; omega, by show hv.toNat ≤ 9; omega⟩, z⟩
      · rw [if_neg c3]
        show (1 : Int) ≠ 0
        omega
    · rw [if_neg c2]
      exact c2
  · rw [if_neg c1]
    show (1 : Int) ≠ 0
    omega
end TAO
/-! the rules that are worked: told ones, else the usual -/
def cW (st : Tst) (w : Int) : List Int := match rOf w st.2.2.2 0 with
  | some y => y.2
  | none => dfl w
section CWS
variable {st : Tst} {h : mm_H}
theorem cW_s {w : Int} {k : Nat} {c : List Int} (e : rOf w st.2.2.2 0 = some (k, c)) : cW st w = c := by simp only [cW, e]
theorem cW_n {w : Int} (e : rOf w st.2.2.2 0 = none) : cW st w = dfl w := by simp only [cW, e]
theorem ad_ne {v w : Int} (hv : v ≠ w) : rOf w (ad v st).2.2.2 0 = rOf w st.2.2.2 0 := by
  by_cases c : (rOf v st.2.2.2 0).isSome = true
  · rw [ad_t c]
  · rw [ad_n c]
    show rOf w (st.2.2.2 ++ [(v, dfl v)]) 0 = _
    rw [rOf_app]
    cases hr : rOf w st.2.2.2 0 with
    | some y => rfl
    | none =>
      show (if v = w then some (0 + (rAll st.2.2.2).length, dfl v) else none) = none
      rw [if_neg hv]
theorem ad_cW {v w : Int} (hv : v ≠ w) : cW (ad v st) w = cW st w := by
  unfold cW
  rw [ad_ne hv]
theorem ad_eq {w : Int} : ∃ k, rOf w (ad w st).2.2.2 0 = some (k, cW st w) := by
  by_cases c : (rOf w st.2.2.2 0).isSome = true
  · rw [ad_t c]
    have hh : ∃ y, rOf w st.2.2.2 0 = some y := Option.isSome_iff_exists.mp c
    obtain ⟨⟨k, y⟩, hr⟩ := hh
    exact ⟨k, by rw [cW_s hr]; exact hr⟩
  · have hn := rOf_n c
    rw [ad_n c, cW_n hn]
    refine ⟨0 + (rAll st.2.2.2).length, ?_⟩
    show rOf w (st.2.2.2 ++ [(w, dfl w)]) 0 = _
    rw [rOf_app, hn]
    show (if w = w then some (0 + (rAll st.2.2.2).length, dfl w) else none) = _
    rw [if_pos rfl]
theorem adA_of {w : Nat} (hw : w < 3) : ∃ k, rOf (w : Nat) (adA st).2.2.2 0 = some (k, cW st (w : Nat)) := by
  unfold adA
  have w3 : w = 0 ∨ w = 1 ∨ w = 2 := by omega
  rcases w3 with z | z | z
  · subst z
    rw [show ((0 : Nat) : Int) = 0 from rfl, ad_ne (by decide), ad_ne (by decide)]
    exact ad_eq
  · subst z
    rw [show ((1 : Nat) : Int) = 1 from rfl, ad_ne (by decide), ← ad_cW (v := 0) (by decide)]
    exact ad_eq
  · subst z
    rw [show ((2 : Nat) : Int) = 2 from rfl, ← ad_cW (v := 0) (by decide), ← ad_cW (st := ad 0 st) (v := 1) (by decide)]
    exact ad_eq
theorem adA_len : (rAll (adA st).2.2.2).length ≤ (rAll st.2.2.2).length + 7 := by
  unfold adA
  have l0 := ad_len (st := st) (w := 0)
  have l1 := ad_len (st := ad 0 st) (w := 1)
  have l2 := ad_len (st := ad 1 (ad 0 st)) (w := 2)
  rw [show (dfl 0).length = 1 from rfl] at l0
  rw [show (dfl 1).length = 1 from rfl] at l1
  rw [show (dfl 2).length = 5 from rfl] at l2
  omega
theorem ad_fst {w : Int} : (ad w st).1 = st.1 ∧ (ad w st).2.1 = st.2.1 ∧ (ad w st).2.2.1 = st.2.2.1 := by
  unfold ad
  split
  · exact ⟨rfl, rfl, rfl⟩
  · exact ⟨rfl, rfl, rfl⟩
theorem adA_fst : (adA st).1 = st.1 ∧ (adA st).2.1 = st.2.1 ∧ (adA st).2.2.1 = st.2.2.1 := by
  unfold adA
  have x := ad_fst (st := st) (w := 0)
  have y := ad_fst (st := ad 0 st) (w := 1)
  have z := ad_fst (st := ad 1 (ad 0 st)) (w := 2)
  exact ⟨z.1.trans (y.1.trans x.1), z.2.1.trans (y.2.1.trans x.2.1), z.2.2.trans (y.2.2.trans x.2.2)⟩
theorem cW_ty {hm : Int} {p w : Nat} (O : TstOK hm p st) (hw : w < 3) : tyL (alw (w : Nat)) (cW st (w : Nat)) [] = some [decide ((w : Int) = 2)] := by
  cases hr : rOf (w : Nat) st.2.2.2 0 with
  | some y =>
    obtain ⟨k, c⟩ := y
    rw [cW_s hr]
    exact (O.2.2.2.2.2.1 _ (rOf_in _ _ hr).1).2
  | none =>
    rw [cW_n hr]
    clear hr O
    have w3 : w = 0 ∨ w = 1 ∨ w = 2 := by omega
    rcases w3 with z | z | z <;> subst z <;> decide
theorem CdC_of {c0 : Nat} : ∀ (c : List Int) (k : Nat), (∀ j v, c[j]? = some v → fd h (c0 + 1) (k + j) = tc v) → CdC h c0 (k : Int) c
  | [], _, _ => trivial
  | x :: r, k, e => by
    refine ⟨?_, ?_⟩
    · have := e 0 x rfl
      rw [show ((k : Nat) : Int).toNat = k by omega]
      exact this
    · rw [show ((k : Nat) : Int) + 1 = ((k + 1 : Nat) : Int) by omega]
      refine CdC_of r (k + 1) (fun j v hv => ?_)
      have := e (j + 1) v (by simpa using hv)
      rw [show k + (j + 1) = k + 1 + j by omega] at this
      exact this
theorem CdR_of : ∀ (c : List Int) (k : Nat), (∀ j v, c[j]? = some v → fd h 299 (1600 + (k + j)) = v) → CdR h (k : Int) c
  | [], _, _ => trivial
  | x :: r, k, e => by
    refine ⟨?_, ?_⟩
    · have := e 0 x rfl
      rw [show (1600 + ((k : Nat) : Int)).toNat = 1600 + (k + 0) by omega]
      exact this
    · rw [show ((k : Nat) : Int) + 1 = ((k + 1 : Nat) : Int) by omega]
      refine CdR_of r (k + 1) (fun j v hv => ?_)
      have := e (j + 1) v (by simpa using hv)
      rw [show k + (j + 1) = k + 1 + j by omega] at this
      exact this
/-- who lives there, by the list and by the row -/
theorem homeF_who {n : Int → Int} {v : Int} : ∀ (P : List Pp) (k : Nat), (∀ j x, P[j]? = some x → n (1 + 3 * ((k + j : Nat) : Int)) = x.2.1) → homeF v P (k : Int) = whoF n v (k : Int) P.length
  | [], _, _ => rfl
  | x :: r, k, e => by
    have e0 := e 0 x rfl
    rw [show k + 0 = k from rfl] at e0
    have ih := homeF_who (n := n) (v := v) r (k + 1) (fun j y hy => by
      have := e (j + 1) y (by simpa using hy)
      rw [show k + (j + 1) = k + 1 + j by omega] at this
      exact this)
    rw [show ((k + 1 : Nat) : Int) = (k : Int) + 1 by omega] at ih
    rw [homeF, List.length_cons, whoF, e0, ih]
end CWS
