/-! a statement goes on in the text, and what is told stays sound -/
def PgT (E : Nat) (hm : Nat) (p : Nat) (r : RT2) : Prop := match r with
  | .inl f => (f.1 = 1 ∨ f.1 = 2 ∨ f.1 = 3 ∨ f.1 = 4 ∨ f.1 = 5) ∧ 0 ≤ f.2 ∧ f.2 ≤ 1610
  | .inr x => p + 1 ≤ x.1 ∧ x.1 ≤ E ∧ TstOK hm x.1 x.2.2
section TSP
variable {b : Nat → Int} {E : Nat} {hm : Nat}
theorem TstOK.mono {hv : Int} {p q : Nat} {st : Tst} (h : TstOK hv p st) (hpq : p ≤ q) : TstOK hv q st := by
  obtain ⟨a1, a2, a3, a4, a5, a6, a7⟩ := h
  exact ⟨a1, a2, a3, a4, a5, a6, by omega⟩
theorem PgT_bad {p q : Nat} {j : Int} (hE : E ≤ 1600) (hq : q ≤ E) (hj : j = 1 ∨ j = 2 ∨ j = 3 ∨ j = 4 ∨ j = 5) : PgT E hm p (.inl (j, (tS b E q : Int))) := by
  have := tS_le (b := b) (E := E) hq
  refine ⟨hj, ?_, ?_⟩
  · show (0 : Int) ≤ (tS b E q : Int)
    omega
  · show (tS b E q : Int) ≤ 1610
    omega
theorem PgT_W {k : Int} {p p0 : Nat} {gl : Bool} {K : Nat → RT2} (hE : E ≤ 1600) (hp : p ≤ E) (k0 : 0 ≤ k) (hK : ∀ q, p + 1 ≤ q → q ≤ E → PgT E hm p0 (K q)) : PgT E hm p0 (pW b E k p gl K) := by
  unfold pW
  by_cases c : wno b E p gl = k
  · rw [if_pos c]
    have cw : wno b E p gl ≠ -2 := by omega
    have l := tL_in (wno_w cw).1
    have ge := tS_ge (b := b) (E := E) (p := p)
    exact hK _ (by omega) l.2
  · rw [if_neg c]
    exact PgT_bad hE hp (Or.inl rfl)
theorem PgT_N {lo hi p p0 : Nat} {gl : Bool} {K : Int → Nat → RT2} (hE : E ≤ 1600) (hp : p ≤ E) (hK : ∀ v q, (lo : Int) ≤ v → v ≤ (hi : Int) → p + 1 ≤ q → q ≤ E → PgT E hm p0 (K v q)) : PgT E hm p0 (pN b E lo hi p gl K) := by
  have nb := numT_b (b := b) (E := E) (p := p) (gl := gl) (lo := lo) (hi := hi) hE hp
  unfold pN
  by_cases c : (numT b E lo hi p gl).1 = 0
  · rw [if_pos c]
    obtain ⟨n1, n2, n3, n4, n5, n6⟩ := nb.2.2.2 c
    have l := tD_in n3
    have ge := tS_ge (b := b) (E := E) (p := p)
    exact hK _ _ n1 n2 (by omega) l.2
  · rw [if_neg c]
    refine ⟨?_, nb.2.1, ?_⟩
    · show (numT b E lo hi p gl).1 = 1 ∨ (numT b E lo hi p gl).1 = 2 ∨ _
      rcases nb.1 with z | z | z
      · exact absurd z c
      · exact Or.inl z
      · exact Or.inr (Or.inl z)
    · show (numT b E lo hi p gl).2.1 ≤ 1610
      have := nb.2.2.1
      omega
theorem PgT_M {p p0 : Nat} {gl : Bool} {K : List Int → Nat → RT2} (hE : E ≤ 1600) (hp : p ≤ E) (hK : ∀ w q, (1 ≤ w.length ∧ w.length ≤ 6 ∧ ∀ y ∈ w, 1 ≤ y ∧ y ≤ 26) → p + 1 ≤ q → q ≤ E → PgT E hm p0 (K w q)) : PgT E hm p0 (pM b E p gl K) := by
  have nb := nmT_b (b := b) (E := E) (p := p) (gl := gl) hE hp
  unfold pM
  by_cases c : (nmT b E p gl).1 = 0
  · rw [if_pos c]
    obtain ⟨n1, n2, n3, n4, n5, n6, n7⟩ := nb.2.2.2 c
    have l := tL_in (wno_w n1).1
    have ge := tS_ge (b := b) (E := E) (p := p)
    exact hK _ _ ⟨n5, n6, n7⟩ (by omega) l.2
  · rw [if_neg c]
    refine ⟨?_, nb.2.1, nb.2.2.1⟩
    show (nmT b E p gl).1 = 1 ∨ _
    rcases nb.1 with z | z
    · exact absurd z c
    · exact Or.inl z
theorem PgT_if {c : Prop} [Decidable c] {p : Nat} {x y : RT2} (h1 : c → PgT E hm p x) (h2 : ¬ c → PgT E hm p y) : PgT E hm p (if c then x else y) := by
  by_cases z : c
  · rw [if_pos z]; exact h1 z
  · rw [if_neg z]; exact h2 z
theorem stSoul_ok {st : Tst} {p p0 : Nat} {pl : Nat} (hE : E ≤ 1600) (hp : p ≤ E) (h0 : p0 ≤ p) (hl : pl ≤ E) (h2 : 1 ≤ hm) (h : TstOK hm p0 st) : PgT E hm p0 (stSoul b E hm st pl p) := by
  obtain ⟨⟨a1, a1'⟩, a2, a3, a4, a5, a6, a7⟩ := h
  refine PgT_if (fun _ => ?_) (fun c8 => ?_)
  · refine ⟨Or.inr (Or.inr (Or.inr (Or.inr rfl))), ?_, ?_⟩
    · show (0 : Int) ≤ (pl : Int)
      omega
    · show (pl : Int) ≤ 1610
      omega
  refine PgT_M hE hp (fun nm q hn q1 q2 => ?_)
  refine PgT_if (fun _ => PgT_bad hE hp (Or.inr (Or.inr (Or.inl rfl)))) (fun _ => ?_)
  refine PgT_W hE q2 (by decide) (fun r r1 r2 => ?_)
  refine PgT_N hE r2 (fun hv s hv0 hv1 s1 s2 => ?_)
  refine PgT_if (fun _ => PgT_bad hE r2 (Or.inr (Or.inl rfl))) (fun ch => ?_)
  refine PgT_W hE s2 (by decide) (fun t t1 t2 => ?_)
  refine PgT_N hE t2 (fun fv u fv0 fv1 u1 u2 => ?_)
  refine PgT_W hE u2 (by decide) (fun x x1 x2 => ?_)
  refine PgT_N hE x2 (fun kv y kv0 kv1 y1 y2 => ?_)
  have ch' : homeF hv st.1 0 = -1 := Decidable.not_not.mp ch
  have no := homeF_no st.1 0 (by omega) ch'
  have len : (st.1 ++ [(nm, hv, fv, kv)]).length = st.1.length + 1 := by rw [List.length_append, List.length_singleton]
  refine ⟨by show p0 + 1 ≤ y; omega, y2, ⟨?_, ?_⟩, ?_, a3, ?_, a5, a6, by show (rAll st.2.2.2).length ≤ y; omega⟩
  · show (st.1 ++ [(nm, hv, fv, kv)]).length ≤ 8
    omega
  · intro x' hx
    rcases List.mem_append.mp hx with e | e
    · exact a1' x' e
    · rw [List.mem_singleton.mp e]
      exact ⟨hn, ⟨by show (0 : Int) ≤ hv; omega, by show hv < (hm : Int); omega⟩, ⟨by show (0 : Int) ≤ fv; omega, by show fv ≤ 9; omega⟩, by show (0 : Int) ≤ kv; omega, by show kv ≤ 9; omega⟩
  · intro i j x' y' hi hj e
    have hi' : (st.1 ++ [(nm, hv, fv, kv)])[i]? = some x' := hi
    have hj' : (st.1 ++ [(nm, hv, fv, kv)])[j]? = some y' := hj
    have li := (List.getElem?_eq_some_iff.mp hi').1
    have lj := (List.getElem?_eq_some_iff.mp hj').1
    rw [len] at li lj
    by_cases ci : i < st.1.length
    · rw [List.getElem?_append_left ci] at hi'
      by_cases cj : j < st.1.length
      · rw [List.getElem?_append_left cj] at hj'
        exact a2 i j x' y' hi' hj' e
      · rw [List.getElem?_append_right (by omega), show j - st.1.length = 0 by omega] at hj'
        have ey : (nm, hv, fv, kv) = y' := Option.some.inj hj'
        rw [← ey] at e
        exact absurd e (no x' (List.mem_of_getElem? hi'))
    · rw [List.getElem?_append_right (by omega), show i - st.1.length = 0 by omega] at hi'
      have ex : (nm, hv, fv, kv) = x' := Option.some.inj hi'
      by_cases cj : j < st.1.length
      · rw [List.getElem?_append_left cj] at hj'
        rw [← ex] at e
        exact absurd e.symm (no y' (List.mem_of_getElem? hj'))
      · omega
  · intro i j i0 i8 j0 j8 hh
    have hh' : ((st.1 ++ [(nm, hv, fv, kv)]).length : Int) ≤ i ∨ ((st.1 ++ [(nm, hv, fv, kv)]).length : Int) ≤ j := hh
    rw [len] at hh'
    exact a4 i j i0 i8 j0 j8 (by omega)
theorem stThinks_ok {st : Tst} {p p0 : Nat} (hE : E ≤ 1600) (hp : p ≤ E) (h0 : p0 ≤ p) (h : TstOK hm p0 st) : PgT E hm p0 (stThinks b E st p) := by
  obtain ⟨⟨a1, a1'⟩, a2, a3, a4, a5, a6, a7⟩ := h
  refine PgT_M hE hp (fun na q _ q1 q2 => ?_)
  refine PgT_if (fun _ => PgT_bad hE hp (Or.inr (Or.inr (Or.inl rfl)))) (fun ca => ?_)
  refine PgT_W hE q2 (by decide) (fun r r1 r2 => ?_)
  refine PgT_M hE r2 (fun nb s _ s1 s2 => ?_)
  refine PgT_if (fun _ => PgT_bad hE r2 (Or.inr (Or.inr (Or.inl rfl)))) (fun cb => ?_)
  refine PgT_N hE s2 (fun v y v0 v1 y1 y2 => ?_)
  have ba := idxF_b (w := na) st.1 0 (by omega)
  have bb := idxF_b (w := nb) st.1 0 (by omega)
  refine ⟨by show p0 + 1 ≤ y; omega, y2, ⟨a1, a1'⟩, a2, ?_, ?_, a5, a6, by show (rAll st.2.2.2).length ≤ y; omega⟩
  · intro k
    show 0 ≤ up st.2.1 (8 * idxF na st.1 0 + idxF nb st.1 0) v k ∧ up st.2.1 (8 * idxF na st.1 0 + idxF nb st.1 0) v k ≤ 9
    unfold up
    split
    · omega
    · exact a3 k
  · intro i j i0 i8 j0 j8 hh
    have hh' : (st.1.length : Int) ≤ i ∨ (st.1.length : Int) ≤ j := hh
    show up st.2.1 (8 * idxF na st.1 0 + idxF nb st.1 0) v (8 * i + j) = 5
    unfold up
    rw [if_neg (by omega)]
    exact a4 i j i0 i8 j0 j8 hh'
theorem stRule_ok {w : Int} {st : Tst} {p p0 : Nat} {pl : Nat} (hE : E ≤ 1600) (hp : p ≤ E) (h0 : p0 ≤ p) (hl : pl ≤ E) (hw : w = 0 ∨ w = 1 ∨ w = 2) (h : TstOK hm p0 st) : PgT E hm p0 (stRule b E w st pl p) := by
  obtain ⟨a1, a2, a3, a4, a5, a6, a7⟩ := h
  refine PgT_if (fun _ => ?_) (fun _ => ?_)
  · refine ⟨Or.inr (Or.inr (Or.inr (Or.inr rfl))), ?_, ?_⟩
    · show (0 : Int) ≤ (pl : Int)
      omega
    · show (pl : Int) ≤ 1610
      omega
  have ok : Pg E p 1 0 (rd b E w (4 * E + 8) (if w = 2 then 3 else 1) 0 p true 0 []) := by
    by_cases c : w = 2
    · rw [if_pos c]
      exact (Ok_all (b := b) (w := w) hE _).2.2.2.1 0 p true 0 [] hp (by omega)
    · rw [if_neg c]
      exact (Ok_all (b := b) (w := w) hE _).2.1 0 p true 0 [] hp (by omega)
  have ty : TyO (alw w) 64 (decide (w = 2)) (rd b E w (4 * E + 8) (if w = 2 then 3 else 1) 0 p true 0 []) := by
    have ta := Ty_all (b := b) (E := E) (w := w) (by omega) (by omega) (4 * E + 8)
    by_cases c : w = 2
    · rw [if_pos c, decide_eq_true c]
      have := ta.2.2.2.1 0 p true 0 [] (by omega)
      revert this
      cases rd b E w (4 * E + 8) 3 0 p true 0 [] with
      | inl f => exact fun _ => trivial
      | inr y => exact fun z => Ty.mono z (by omega)
    · rw [if_neg c, decide_eq_false c]
      have := ta.2.1 0 p true 0 [] (by omega)
      revert this
      cases rd b E w (4 * E + 8) 1 0 p true 0 [] with
      | inl f => exact fun _ => trivial
      | inr y => exact fun z => Ty.mono z (by omega)
  revert ok ty
  cases rd b E w (4 * E + 8) (if w = 2 then 3 else 1) 0 p true 0 [] with
  | inl f =>
    intro ok _
    obtain ⟨k1, k2, k3⟩ := ok
    exact ⟨by show f.1 = 1 ∨ _; omega, k2, by show f.2 ≤ 1610; omega⟩
  | inr y =>
    intro ok ty
    obtain ⟨k1, k2, k3⟩ := ok
    refine ⟨by show p0 + 1 ≤ y.1; omega, k2, a1, a2, a3, a4, a5, ?_, ?_⟩
    · intro x hx
      rcases List.mem_append.mp hx with e | e
      · exact a6 x e
      · rw [List.mem_singleton.mp e]
        exact ⟨hw, ty [] (by show 0 + 64 ≤ 64; omega)⟩
    · show (rAll (st.2.2.2 ++ [(w, y.2.2)])).length ≤ y.1
      rw [rAll_app, List.length_append]
      show (rAll st.2.2.2).length + y.2.2.length ≤ y.1
      omega
theorem stSlip_ok {st : Tst} {p p0 : Nat} (hE : E ≤ 1600) (hp : p ≤ E) (h0 : p0 ≤ p) (h : TstOK hm p0 st) : PgT E hm p0 (stSlip b E st p) := by
  obtain ⟨a1, a2, a3, a4, a5, a6, a7⟩ := h
  refine PgT_N hE hp (fun v y v0 v1 y1 y2 => ?_)
  exact ⟨by show p0 + 1 ≤ y; omega, y2, a1, a2, a3, a4, ⟨by show (0 : Int) ≤ v; omega, by show v ≤ 100; omega⟩, a6, by show (rAll st.2.2.2).length ≤ y; omega⟩
theorem stF_ok {st : Tst} {p : Nat} {gl : Bool} (hE : E ≤ 1600) (hp : p ≤ E) (h1 : 1 ≤ hm) (h : TstOK hm p st) : PgT E hm p (stF b E hm st p gl) := by
  have ge := tS_ge (b := b) (E := E) (p := p)
  have le := tS_le (b := b) (E := E) hp
  have key : ∀ k : Int, 0 ≤ k → wno b E p gl = k → p + 1 ≤ tL b E (tS b E p) ∧ tL b E (tS b E p) ≤ E := by
    intro k k0 c
    have cw : wno b E p gl ≠ -2 := by omega
    have l := tL_in (wno_w cw).1
    exact ⟨by omega, l.2⟩
  unfold stF
  refine PgT_if (fun c => ?_) (fun _ => PgT_if (fun c => ?_) (fun _ => PgT_if (fun c => ?_) (fun _ => PgT_if (fun c => ?_) (fun _ => PgT_if (fun c => ?_) (fun _ => PgT_if (fun c => ?_) (fun _ => PgT_bad hE hp (Or.inl rfl)))))))
  · have k := key _ (by decide) c
    exact stSoul_ok hE k.2 (by omega) le h1 h
  · have k := key _ (by decide) c
    exact stThinks_ok hE k.2 (by omega) h
  · have k := key _ (by decide) c
    exact stRule_ok hE k.2 (by omega) le (by decide) h
  · have k := key _ (by decide) c
    exact stRule_ok hE k.2 (by omega) le (by decide) h
  · have k := key _ (by decide) c
    exact stRule_ok hE k.2 (by omega) le (by decide) h
  · have k := key _ (by decide) c
    exact stSlip_ok hE k.2 (by omega) h
end TSP
