/-! the call terrace: what is told holds -/
section KTO
variable {g g2 g3 g' h2 : mm_H} {u E hv : Nat} {st : Tst}
theorem T_rule (ut : mm_isT u) (O : TstOK (hv : Nat) E st) (hE : E ≤ 1600) (T1 : CTs g u (hv : Nat) (adA st)) (zu : ∀ a k, u ≤ a → a ≤ u + 16 → fd h2 a k = fd g a k) {w : Nat} (hw : w < 3) : RuleC h2 (u + 10) (w : Nat) (cW st (w : Nat)) := by
  obtain ⟨k, hk⟩ := adA_of (st := st) hw
  obtain ⟨i1, i2, i3, i4⟩ := rOf_in _ _ hk
  have tw := (T1.2.2.2.2.2.2 w hw).2 _ hk
  have tw1 : fd g (u + 12) w = (k : Nat) := tw.1
  have tw2 : fd g (u + 13) w = ((k + (cW st (w : Nat)).length : Nat) : Int) := tw.2
  have q := T1.2.2.2.2.2.1
  have q1 : fd g (u + 10) 5 = ((0 + (rAll (adA st).2.2.2).length : Nat) : Int) := q.1
  have al := adA_len (st := st)
  have ol := O.2.2.2.2.2.2
  refine ⟨cW_ty O hw, (k : Int), by omega, ?_, ?_, ?_, ?_, CdC_of _ k (fun j v hj => ?_)⟩
  · rw [show ((w : Nat) : Int).toNat = w by omega, show u + 10 + 2 = u + 12 by omega, zu _ _ (by omega) (by omega)]
    exact tw1
  · rw [show ((w : Nat) : Int).toNat = w by omega, show u + 10 + 3 = u + 13 by omega, zu _ _ (by omega) (by omega), tw2]
    omega
  · rw [zu _ _ (by omega) (by omega), q1]
    omega
  · rw [zu _ _ (by omega) (by omega), q1]
    omega
  · rw [zu _ _ (by omega) (by omega)]
    have := q.2 (k - 0 + j) v (i4 j v hj)
    rw [show 0 + (k - 0 + j) = k + j by omega] at this
    exact this
theorem T_ruleR (O : TstOK (hv : Nat) E st) (hE : E ≤ 1600) (T2 : RTs g' (hv : Nat) st) (r : ∀ w : Nat, w < 3 → fd h2 297 (3 + w) = fd g' 297 w ∧ fd h2 298 (3 + w) = fd g' 298 w) (c : ∀ j v, (rAll st.2.2.2)[j]? = some v → fd h2 299 (1600 + j) = v) {w : Nat} (hw : w < 3) : RuleR h2 (w : Nat) (cW st (w : Nat)) := by
  have t6 := T2.2.2.2.2.2 w hw
  have ol := O.2.2.2.2.2.2
  refine ⟨cW_ty O hw, ?_⟩
  rw [show (3 + ((w : Nat) : Int)).toNat = 3 + w by omega, (r w hw).1, (r w hw).2]
  cases hr : rOf (w : Nat) st.2.2.2 0 with
  | none => exact Or.inl ⟨t6.1 hr, cW_n hr⟩
  | some y =>
    obtain ⟨k, e⟩ := y
    have tt := t6.2 _ hr
    have t1 : fd g' 297 w = (k : Nat) := tt.1
    have t2 : fd g' 298 w = ((k + e.length : Nat) : Int) := tt.2
    obtain ⟨i1, i2, i3, i4⟩ := rOf_in _ _ hr
    rw [cW_s hr]
    refine Or.inr ⟨(k : Int), by omega, t1, by rw [t2]; omega, by omega, CdR_of _ k (fun j v hj => ?_)⟩
    have := c (k - 0 + j) v (i4 j v hj)
    rw [show k - 0 + j = k + j by omega] at this
    exact this
theorem T_nw (n : ((fd h2 300 0 = 0 ∧ fd h2 300 89 = 0) ∧ (∀ j x, st.1[j]? = some x → fd h2 300 (1 + 3 * j) = x.2.1 ∧ fd h2 300 (2 + 3 * j) = 10 * x.2.2.1 ∧ fd h2 300 (3 + 3 * j) = 0) ∧ ∀ z : Nat, z < 64 → fd h2 300 (25 + z) = st.2.1 z)) : (∀ (j : Nat) x, st.1[j]? = some x → nw h2 (1 + 3 * (j : Nat)) = x.2.1 ∧ nw h2 (2 + 3 * (j : Nat)) = 10 * x.2.2.1 ∧ nw h2 (3 + 3 * (j : Nat)) = 0) ∧ ∀ j k : Nat, j < 8 → k < 8 → nw h2 (25 + 8 * (j : Nat) + (k : Nat)) = st.2.1 (8 * (j : Int) + (k : Int)) := by
  refine ⟨fun j x hx => ?_, fun j k hj hk => ?_⟩
  · obtain ⟨q1, q2, q3⟩ := n.2.1 j x hx
    show fd h2 300 (1 + 3 * ((j : Nat) : Int)).toNat = _ ∧ fd h2 300 (2 + 3 * ((j : Nat) : Int)).toNat = _ ∧ fd h2 300 (3 + 3 * ((j : Nat) : Int)).toNat = _
    rw [show (1 + 3 * ((j : Nat) : Int)).toNat = 1 + 3 * j by omega, show (2 + 3 * ((j : Nat) : Int)).toNat = 2 + 3 * j by omega, show (3 + 3 * ((j : Nat) : Int)).toNat = 3 + 3 * j by omega]
    exact ⟨q1, q2, q3⟩
  · show fd h2 300 (25 + 8 * ((j : Nat) : Int) + ((k : Nat) : Int)).toNat = _
    rw [show (25 + 8 * ((j : Nat) : Int) + ((k : Nat) : Int)).toNat = 25 + (8 * j + k) by omega, n.2.2 (8 * j + k) (by omega), show ((8 * j + k : Nat) : Int) = 8 * (j : Int) + (k : Int) by omega]
theorem T_at (O : TstOK (hv : Nat) E st) {p : Int} (p0 : 0 ≤ p) (p1 : p < (st.1.length : Nat)) : ∃ (j : Nat) (x : Pp), p = (j : Int) ∧ j < st.1.length ∧ st.1[j]? = some x ∧ PpOK (hv : Nat) x := by
  have hl : p.toNat < st.1.length := by omega
  exact ⟨p.toNat, _, by omega, hl, List.getElem?_eq_getElem hl, O.1.2 _ (List.getElem_mem hl)⟩
theorem T_NI (O : TstOK (hv : Nat) E st) (v9 : hv ≤ 9) (n : ((fd h2 300 0 = 0 ∧ fd h2 300 89 = 0) ∧ (∀ j x, st.1[j]? = some x → fd h2 300 (1 + 3 * j) = x.2.1 ∧ fd h2 300 (2 + 3 * j) = 10 * x.2.2.1 ∧ fd h2 300 (3 + 3 * j) = 0) ∧ ∀ z : Nat, z < 64 → fd h2 300 (25 + z) = st.2.1 z)) : NI (st.1.length : Nat) (hv : Nat) (nw h2) := by
  have o1 := O.1.1
  obtain ⟨hn, ht⟩ := T_nw n
  refine ⟨⟨by omega, by omega⟩, ⟨by omega, by omega⟩, fun p p0 p1 => ?_, fun p q p0 p1 q0 q1 pq => ?_, fun p q p0 p1 q0 q1 e => ?_⟩
  · obtain ⟨j, x, ej, hj, hx, px⟩ := T_at O p0 p1
    obtain ⟨n1, n2, n3⟩ := hn j x hx
    have b1 := px.2.1
    have b2' := px.2.2.1
    rw [ej, n1, n2, n3]
    omega
  · obtain ⟨j, x, ej, hj, hx, px⟩ := T_at O p0 p1
    obtain ⟨k, y, ek, hk, hy, py⟩ := T_at O q0 q1
    rw [ej, ek, ht j k (by omega) (by omega)]
    exact O.2.2.1 _
  · obtain ⟨j, x, ej, hj, hx, px⟩ := T_at O p0 p1
    obtain ⟨k, y, ek, hk, hy, py⟩ := T_at O q0 q1
    rw [ej, ek, (hn j x hx).1, (hn k y hy).1] at e
    have := O.2.1 j k x y hx hy e
    rw [ej, ek, this]
theorem T_SR (O : TstOK (hv : Nat) E st) (v9 : hv ≤ 9) (T1 : CTs g u (hv : Nat) (adA st)) (C : Cpy 13 (u + 1) g2 g3) (zg2 : ∀ a k, u ≤ a → fd g2 a k = fd g a k) (h13 : ∀ a k, 13 ≤ a → a ≤ 21 → fd h2 a k = fd g3 a k) (p' : ∀ j x, st.1[j]? = some x → fl h2 292 (8 + j) = rvN x.1 ∧ fd h2 294 (8 + j) = x.2.2.1 ∧ fd h2 295 (8 + j) = x.2.2.2) (n : ((fd h2 300 0 = 0 ∧ fd h2 300 89 = 0) ∧ (∀ j x, st.1[j]? = some x → fd h2 300 (1 + 3 * j) = x.2.1 ∧ fd h2 300 (2 + 3 * j) = 10 * x.2.2.1 ∧ fd h2 300 (3 + 3 * j) = 0) ∧ ∀ z : Nat, z < 64 → fd h2 300 (25 + z) = st.2.1 z)) : SR h2 13 (st.1.length : Nat) (hv : Nat) (fcR h2) (kdR h2) (nw h2) := by
  have o1 := O.1.1
  obtain ⟨hn, ht⟩ := T_nw n
  have ef := adA_fst (st := st)
  obtain ⟨t1, t2, t3, t4, t5, t6, t7⟩ := T1
  rw [ef.1] at t1 t2 t3 t4
  rw [ef.2.1] at t3
  clear t7 t6
  refine ⟨?_, ?_, ?_, fun p p0 p1 => ?_, fun p q p0 p1 q0 q1 pq => ?_, fun v v0 v1 => ?_⟩
  · rw [h13 _ _ (by omega) (by omega), C.2.2.2.2 10 (by omega) (by omega), zg2 _ _ (by omega)]
    exact t1.2.1
  · rw [h13 _ _ (by omega) (by omega), C.2.2.2.2 9 (by omega) (by omega), zg2 _ _ (by omega)]
    exact t1.1
  · rw [h13 _ _ (by omega) (by omega), C.2.2.2.2 11 (by omega) (by omega), zg2 _ _ (by omega), t1.2.2.1]
    exact n.1.1.symm
  · obtain ⟨j, x, ej, hj, hx, px⟩ := T_at O p0 p1
    obtain ⟨n1, n2, n3⟩ := hn j x hx
    obtain ⟨q1, q2, q3, q4, q5⟩ := (t2 j x hx).1
    have fx : fcR h2 (j : Nat) = x.2.2.1 := by
      show fd h2 294 (8 + ((j : Nat) : Int)).toNat = _
      rw [show (8 + ((j : Nat) : Int)).toNat = 8 + j by omega]
      exact (p' j x hx).2.1
    have kx : kdR h2 (j : Nat) = x.2.2.2 := by
      show fd h2 295 (8 + ((j : Nat) : Int)).toNat = _
      rw [show (8 + ((j : Nat) : Int)).toNat = 8 + j by omega]
      exact (p' j x hx).2.2
    have cj : ∀ z, 1 ≤ z → z ≤ 5 → fd h2 (13 + z) j = fd g (u + 1 + z) j := fun z z1 z2 => by
      rw [h13 _ _ (by omega) (by omega), C.1 z z1 z2 j (by omega), zg2 _ _ (by omega)]
    rw [ej, show ((j : Nat) : Int).toNat = j by omega, fx, kx, n1, n2, n3, cj 1 (by omega) (by omega), cj 2 (by omega) (by omega), cj 3 (by omega) (by omega), cj 4 (by omega) (by omega), cj 5 (by omega) (by omega)]
    exact ⟨q1, q2, q3, q4, q5⟩
  · obtain ⟨j, x, ej, hj, hx, px⟩ := T_at O p0 p1
    obtain ⟨k, y, ek, hk, hy, py⟩ := T_at O q0 q1
    have jk : j ≠ k := fun z => pq (by rw [ej, ek, z])
    rw [ej, ek, ht j k (by omega) (by omega), show (((j : Nat) : Int) * 8 + ((k : Nat) : Int)).toNat = 8 * j + k by omega, h13 _ _ (by omega) (by omega), C.2.1 (8 * j + k) (by omega), zg2 _ _ (by omega)]
    exact t3 j k hj hk jk
  · obtain ⟨w, ew⟩ : ∃ w : Nat, v = (w : Int) := ⟨v.toNat, by omega⟩
    have hw := homeF_who (n := nw h2) (v := (w : Nat)) st.1 0 (fun j x hx => by
      rw [Nat.zero_add]
      exact (hn j x hx).1)
    rw [show ((0 : Nat) : Int) = 0 from rfl] at hw
    have e : who (nw h2) (st.1.length : Nat) (w : Nat) = whoF (nw h2) (w : Nat) 0 st.1.length := by
      unfold who
      rw [show ((st.1.length : Nat) : Int).toNat = st.1.length by omega]
    rw [ew, e, ← hw, show ((w : Nat) : Int).toNat = w by omega, h13 _ _ (by omega) (by omega), C.2.2.1 w (by omega), zg2 _ _ (by omega)]
    exact t4 w (by omega)
end KTO
