/-! reading downward goes on in the text, ends, and its codes are no longer than it -/
def Pg (E p k L : Nat) (r : RR) : Prop := match r with
  | .inl f => (f.1 = 1 ∨ f.1 = 2 ∨ f.1 = 4) ∧ 0 ≤ f.2 ∧ f.2 ≤ 1604
  | .inr x => p + k ≤ x.1 ∧ x.1 ≤ E ∧ x.2.2.length + p ≤ L + x.1
section PGS
variable {b : Nat → Int} {E : Nat} {w : Int}
theorem Pg_then {p k L p' k' L' : Nat} {r : RR} {f : Nat → Bool → List Int → RR} (h : Pg E p k L r) (hf : ∀ q g2 c, p + k ≤ q → q ≤ E → c.length + p ≤ L + q → Pg E p' k' L' (f q g2 c)) : Pg E p' k' L' (fThen r f) := by
  cases r with
  | inl x => exact h
  | inr x => exact hf x.1 x.2.1 x.2.2 h.1 h.2.1 h.2.2
theorem Pg_sign {p k L q : Nat} {x : Int} {r : RR} (hE : E ≤ 1600) (hx : x ≠ -1) (hq : q ≤ E) (h : tS b E q < E → Pg E p k L r) : Pg E p k L (fSign b E x q r) := by
  have le := tS_le (b := b) (E := E) hq
  unfold fSign
  by_cases c : tB b E q = x
  · rw [if_pos c]
    exact h (tB_in c hx)
  · rw [if_neg c]
    exact ⟨Or.inl rfl, by show (0 : Int) ≤ (tS b E q : Int); omega, by show (tS b E q : Int) ≤ 1604; omega⟩
theorem Pg_bad {p k L q : Nat} {j : Int} (hE : E ≤ 1600) (hq : q ≤ E) (hj : j = 1 ∨ j = 2 ∨ j = 4) : Pg E p k L (.inl (j, (tS b E q : Int))) := by
  have le := tS_le (b := b) (E := E) hq
  exact ⟨hj, by show (0 : Int) ≤ (tS b E q : Int); omega, by show (tS b E q : Int) ≤ 1604; omega⟩
theorem numT_b {p : Nat} {gl : Bool} {lo hi : Nat} (hE : E ≤ 1600) (hp : p ≤ E) : ((numT b E lo hi p gl).1 = 0 ∨ (numT b E lo hi p gl).1 = 1 ∨ (numT b E lo hi p gl).1 = 2) ∧ 0 ≤ (numT b E lo hi p gl).2.1 ∧ (numT b E lo hi p gl).2.1 ≤ 1604 ∧ ((numT b E lo hi p gl).1 = 0 → (lo : Int) ≤ (numT b E lo hi p gl).2.2 ∧ (numT b E lo hi p gl).2.2 ≤ (hi : Int) ∧ isDg (tB b E p) = true ∧ tG b E p gl = false ∧ tD b E (tS b E p) ≤ tS b E p + 4 ∧ (numT b E lo hi p gl).2.2 = numF b (tD b E (tS b E p) - tS b E p) (tS b E p) 0) := by
  have le := tS_le (b := b) (E := E) hp
  unfold numT
  split
  · rename_i c
    split
    · rename_i c2
      split
      · rename_i c3
        exact ⟨Or.inl rfl, by show (0 : Int) ≤ 0; omega, by show (0 : Int) ≤ 1604; omega, fun _ => ⟨c3.1, c3.2, c.1, c.2, c2, rfl⟩⟩
      · exact ⟨Or.inr (Or.inr rfl), by show (0 : Int) ≤ (tS b E p : Int); omega, by show (tS b E p : Int) ≤ 1604; omega, fun z => absurd z (by simp)⟩
    · exact ⟨Or.inr (Or.inl rfl), by show (0 : Int) ≤ (tS b E p : Int) + 4; omega, by show (tS b E p : Int) + 4 ≤ 1604; omega, fun z => absurd z (by simp)⟩
  · exact ⟨Or.inr (Or.inl rfl), by show (0 : Int) ≤ (tS b E p : Int); omega, by show (tS b E p : Int) ≤ 1604; omega, fun z => absurd z (by simp)⟩
theorem opP_in {p : Nat} (h : opP (tB b E p) ≠ 0) : tS b E p < E ∧ (tB b E p = 42 ∨ tB b E p = 47) := by
  have c : tB b E p = 42 ∨ tB b E p = 47 := by
    unfold opP at h
    by_cases c1 : tB b E p = 42
    · exact Or.inl c1
    · by_cases c2 : tB b E p = 47
      · exact Or.inr c2
      · rw [if_neg c1, if_neg c2] at h
        exact absurd rfl h
  rcases c with c | c
  · exact ⟨tB_in c (by decide), Or.inl c⟩
  · exact ⟨tB_in c (by decide), Or.inr c⟩
theorem opS_in {p : Nat} (h : opS (tB b E p) ≠ 0) : tS b E p < E ∧ (tB b E p = 43 ∨ tB b E p = 45) := by
  have c : tB b E p = 43 ∨ tB b E p = 45 := by
    unfold opS at h
    by_cases c1 : tB b E p = 43
    · exact Or.inl c1
    · by_cases c2 : tB b E p = 45
      · exact Or.inr c2
      · rw [if_neg c1, if_neg c2] at h
        exact absurd rfl h
  rcases c with c | c
  · exact ⟨tB_in c (by decide), Or.inl c⟩
  · exact ⟨tB_in c (by decide), Or.inr c⟩
theorem opC_in {p : Nat} (h : opC (tB b E p) ≠ 0) : tS b E p < E ∧ (tB b E p = 60 ∨ tB b E p = 62 ∨ tB b E p = 61) := by
  have c : tB b E p = 60 ∨ tB b E p = 62 ∨ tB b E p = 61 := by
    unfold opC at h
    by_cases c1 : tB b E p = 60
    · exact Or.inl c1
    · by_cases c2 : tB b E p = 62
      · exact Or.inr (Or.inl c2)
      · by_cases c3 : tB b E p = 61
        · exact Or.inr (Or.inr c3)
        · rw [if_neg c1, if_neg c2, if_neg c3] at h
          exact absurd rfl h
  rcases c with c | c | c
  · exact ⟨tB_in c (by decide), Or.inl c⟩
  · exact ⟨tB_in c (by decide), Or.inr (Or.inl c)⟩
  · exact ⟨tB_in c (by decide), Or.inr (Or.inr c)⟩
theorem wtL_len (x : Int) : (wtL x).length ≤ 1 := by
  unfold wtL
  split
  · exact Nat.zero_le _
  · exact Nat.le_refl _
def Ok0 (b : Nat → Int) (E : Nat) (w : Int) (n : Nat) : Prop := ∀ o p gl wt c, p ≤ E → 4 * (E - p) + 1 ≤ n → Pg E p 1 0 (rd b E w n 0 o p gl wt c)
def Ok1 (b : Nat → Int) (E : Nat) (w : Int) (n : Nat) : Prop := ∀ o p gl wt c, p ≤ E → 4 * (E - p) + 2 ≤ n → Pg E p 1 0 (rd b E w n 1 o p gl wt c)
def Ok2 (b : Nat → Int) (E : Nat) (w : Int) (n : Nat) : Prop := ∀ o p gl wt (c : List Int), p ≤ E → 4 * (E - p) + 1 ≤ n → Pg E p 0 (c.length + (wtL wt).length) (rd b E w n 2 o p gl wt c)
def Ok3 (b : Nat → Int) (E : Nat) (w : Int) (n : Nat) : Prop := ∀ o p gl wt c, p ≤ E → 4 * (E - p) + 4 ≤ n → Pg E p 1 0 (rd b E w n 3 o p gl wt c)
def Ok4 (b : Nat → Int) (E : Nat) (w : Int) (n : Nat) : Prop := ∀ o p gl wt c, p ≤ E → 4 * (E - p) + 3 ≤ n → Pg E p 1 0 (rd b E w n 4 o p gl wt c)
def Ok5 (b : Nat → Int) (E : Nat) (w : Int) (n : Nat) : Prop := ∀ o p gl wt (c : List Int), p ≤ E → 4 * (E - p) + 1 ≤ n → Pg E p 0 (c.length + (wtL wt).length) (rd b E w n 5 o p gl wt c)
theorem Ok0_s {n : Nat} (hE : E ≤ 1600) (h0 : Ok0 b E w n) (h1 : Ok1 b E w n) : Ok0 b E w (n + 1) := by
  intro o p gl wt c hp hn
  have ge := tS_ge (b := b) (E := E) (p := p)
  rw [rd_0]
  unfold fPart
  split
  · rename_i c1
    have d1 := tD_in c1.1
    have nt := numT_b (b := b) (E := E) (p := p) (gl := gl) (lo := 0) (hi := 9999) hE hp
    split
    · exact ⟨by show p + 1 ≤ tD b E (tS b E p); omega, by show tD b E (tS b E p) ≤ E; omega, by show 1 + p ≤ 0 + tD b E (tS b E p); omega⟩
    · rename_i c2
      refine ⟨?_, nt.2.1, nt.2.2.1⟩
      rcases nt.1 with z | z | z
      · exact absurd z c2
      · exact Or.inl z
      · exact Or.inr (Or.inl z)
  · split
    · rename_i c2
      have i2 := tB_in c2 (by decide)
      split
      · refine Pg_then (h1 (o + 1) (tS b E p + 1) false 0 [] (by omega) (by omega)) (fun q g2 c1 q1 q2 q3 => ?_)
        have ge2 := tS_ge (b := b) (E := E) (p := q)
        refine Pg_sign hE (by decide) q2 (fun z => ?_)
        exact ⟨by show p + 1 ≤ tS b E q + 1; omega, by show tS b E q + 1 ≤ E; omega, by show c1.length + p ≤ 0 + (tS b E q + 1); omega⟩
      · exact Pg_bad hE hp (Or.inr (Or.inr rfl))
    · split
      · rename_i c3
        have wn := valN_no (w := w) (v := wno b E p gl) (by omega)
        have l := tL_in (wno_w (b := b) (E := E) (p := p) (gl := gl) (by omega)).1
        exact ⟨by show p + 1 ≤ tL b E (tS b E p); omega, by show tL b E (tS b E p) ≤ E; omega, by show 1 + p ≤ 0 + tL b E (tS b E p); omega⟩
      · split
        · rename_i c4
          have l := tL_in (wno_w (b := b) (E := E) (p := p) (gl := gl) (by omega)).1
          have ge1 := tS_ge (b := b) (E := E) (p := tL b E (tS b E p))
          refine Pg_sign hE (by decide) l.2 (fun z1 => ?_)
          split
          · refine Pg_then (h1 (o + 1) (tS b E (tL b E (tS b E p)) + 1) false 0 [] (by omega) (by omega)) (fun q g2 c1 q1 q2 q3 => ?_)
            have ge2 := tS_ge (b := b) (E := E) (p := q)
            refine Pg_sign hE (by decide) q2 (fun z => ?_)
            refine Pg_then (h1 (o + 1) (tS b E q + 1) false 0 [] (by omega) (by omega)) (fun r g3 c2 r1 r2 r3 => ?_)
            have ge3 := tS_ge (b := b) (E := E) (p := r)
            refine Pg_sign hE (by decide) r2 (fun z2 => ?_)
            refine ⟨by show p + 1 ≤ tS b E r + 1; omega, by show tS b E r + 1 ≤ E; omega, ?_⟩
            show (c1 ++ c2 ++ [_]).length + p ≤ 0 + (tS b E r + 1)
            rw [List.length_append, List.length_append, List.length_singleton]
            omega
          · exact Pg_bad hE l.2 (Or.inr (Or.inr rfl))
        · split
          · rename_i c5
            have wn := valN_no (w := w) (v := wno b E p gl) (by omega)
            have l := tL_in (wno_w (b := b) (E := E) (p := p) (gl := gl) (by omega)).1
            split
            · refine Pg_then (h0 (o + 1) (tL b E (tS b E p)) true 0 [] (by omega) (by omega)) (fun q g2 c1 q1 q2 q3 => ?_)
              refine ⟨by show p + 1 ≤ q; omega, q2, ?_⟩
              show (c1 ++ [_]).length + p ≤ 0 + q
              rw [List.length_append, List.length_singleton]
              omega
            · exact Pg_bad hE hp (Or.inr (Or.inr rfl))
          · exact Pg_bad hE hp (Or.inl rfl)
theorem Ok1_s {n : Nat} (h0 : Ok0 b E w n) (h2 : Ok2 b E w n) : Ok1 b E w (n + 1) := by
  intro o p gl wt c hp hn
  rw [rd_1]
  unfold fSum
  refine Pg_then (h0 o p gl 0 [] hp (by omega)) (fun q g2 c1 q1 q2 q3 => ?_)
  have := h2 o q g2 0 c1 q2 (by omega)
  have e : (wtL 0).length = 0 := rfl
  rw [e] at this
  revert this
  cases rd b E w n 2 o q g2 0 c1 with
  | inl f => exact fun z => z
  | inr x => exact fun z => ⟨by have := z.1; omega, z.2.1, by have := z.2.2; omega⟩
theorem Ok2_s {n : Nat} (h0 : Ok0 b E w n) (h2 : Ok2 b E w n) : Ok2 b E w (n + 1) := by
  intro o p gl wt c hp hn
  have ge := tS_ge (b := b) (E := E) (p := p)
  rw [rd_2]
  unfold fRest
  split
  · rename_i c1
    have i1 := (opP_in c1).1
    refine Pg_then (h0 o (tS b E p + 1) false 0 [] (by omega) (by omega)) (fun q g2 c1 q1 q2 q3 => ?_)
    have := h2 o q g2 wt (c ++ c1 ++ [opP (tB b E p)]) q2 (by omega)
    rw [List.length_append, List.length_append, List.length_singleton] at this
    revert this
    cases rd b E w n 2 o q g2 wt (c ++ c1 ++ [opP (tB b E p)]) with
    | inl f => exact fun z => z
    | inr x => exact fun z => ⟨by have := z.1; omega, z.2.1, by have := z.2.2; omega⟩
  · split
    · rename_i c1
      have i1 := (opS_in c1).1
      refine Pg_then (h0 o (tS b E p + 1) false 0 [] (by omega) (by omega)) (fun q g2 c1 q1 q2 q3 => ?_)
      have := h2 o q g2 (opS (tB b E p)) (c ++ wtL wt ++ c1) q2 (by omega)
      have wl := wtL_len (opS (tB b E p))
      rw [List.length_append, List.length_append] at this
      revert this
      cases rd b E w n 2 o q g2 (opS (tB b E p)) (c ++ wtL wt ++ c1) with
      | inl f => exact fun z => z
      | inr x => exact fun z => ⟨by have := z.1; omega, z.2.1, by have := z.2.2; omega⟩
    · refine ⟨Nat.le_refl _, hp, ?_⟩
      show (c ++ wtL wt).length + p ≤ _
      rw [List.length_append]
      exact Nat.le_refl _
theorem Ok3_s {n : Nat} (h4 : Ok4 b E w n) (h5 : Ok5 b E w n) : Ok3 b E w (n + 1) := by
  intro o p gl wt c hp hn
  rw [rd_3]
  unfold fTest
  refine Pg_then (h4 o p gl 0 [] hp (by omega)) (fun q g2 c1 q1 q2 q3 => ?_)
  have := h5 o q g2 0 c1 q2 (by omega)
  have e : (wtL 0).length = 0 := rfl
  rw [e] at this
  revert this
  cases rd b E w n 5 o q g2 0 c1 with
  | inl f => exact fun z => z
  | inr x => exact fun z => ⟨by have := z.1; omega, z.2.1, by have := z.2.2; omega⟩
theorem Ok4_s {n : Nat} (hE : E ≤ 1600) (h1 : Ok1 b E w n) (h3 : Ok3 b E w n) (h4 : Ok4 b E w n) : Ok4 b E w (n + 1) := by
  intro o p gl wt c hp hn
  have ge := tS_ge (b := b) (E := E) (p := p)
  rw [rd_4]
  unfold fFact
  split
  · rename_i c1
    have l := tL_in (wno_w (b := b) (E := E) (p := p) (gl := gl) (by omega)).1
    split
    · refine Pg_then (h4 (o + 1) (tL b E (tS b E p)) true 0 [] (by omega) (by omega)) (fun q g2 c1 q1 q2 q3 => ?_)
      refine ⟨by show p + 1 ≤ q; omega, q2, ?_⟩
      show (c1 ++ [_]).length + p ≤ 0 + q
      rw [List.length_append, List.length_singleton]
      omega
    · exact Pg_bad hE hp (Or.inr (Or.inr rfl))
  · split
    · rename_i c2
      have i2 := tB_in c2 (by decide)
      split
      · refine Pg_then (h3 (o + 1) (tS b E p + 1) false 0 [] (by omega) (by omega)) (fun q g2 c1 q1 q2 q3 => ?_)
        have ge2 := tS_ge (b := b) (E := E) (p := q)
        refine Pg_sign hE (by decide) q2 (fun z => ?_)
        exact ⟨by show p + 1 ≤ tS b E q + 1; omega, by show tS b E q + 1 ≤ E; omega, by show c1.length + p ≤ 0 + (tS b E q + 1); omega⟩
      · exact Pg_bad hE hp (Or.inr (Or.inr rfl))
    · split
      · rename_i c3
        have l := tL_in (wno_w (b := b) (E := E) (p := p) (gl := gl) (by omega)).1
        exact ⟨by show p + 1 ≤ tL b E (tS b E p); omega, by show tL b E (tS b E p) ≤ E; omega, by show 1 + p ≤ 0 + tL b E (tS b E p); omega⟩
      · refine Pg_then (h1 o p gl 0 [] hp (by omega)) (fun q g2 c1 q1 q2 q3 => ?_)
        have ge2 := tS_ge (b := b) (E := E) (p := q)
        split
        · rename_i c4
          have i4 := (opC_in c4).1
          refine Pg_then (h1 o (tS b E q + 1) false 0 [] (by omega) (by omega)) (fun r g3 c2 r1 r2 r3 => ?_)
          refine ⟨by show p + 1 ≤ r; omega, r2, ?_⟩
          show (c1 ++ c2 ++ [_]).length + p ≤ 0 + r
          rw [List.length_append, List.length_append, List.length_singleton]
          omega
        · exact Pg_bad hE q2 (Or.inl rfl)
theorem Ok5_s {n : Nat} (h4 : Ok4 b E w n) (h5 : Ok5 b E w n) : Ok5 b E w (n + 1) := by
  intro o p gl wt c hp hn
  have ge := tS_ge (b := b) (E := E) (p := p)
  rw [rd_5]
  unfold fTRest
  split
  · rename_i c1
    have l := tL_in (wno_w (b := b) (E := E) (p := p) (gl := gl) (by omega)).1
    refine Pg_then (h4 o (tL b E (tS b E p)) true 0 [] (by omega) (by omega)) (fun q g2 c1 q1 q2 q3 => ?_)
    have := h5 o q g2 wt (c ++ c1 ++ [10]) q2 (by omega)
    rw [List.length_append, List.length_append, List.length_singleton] at this
    revert this
    cases rd b E w n 5 o q g2 wt (c ++ c1 ++ [10]) with
    | inl f => exact fun z => z
    | inr x => exact fun z => ⟨by have := z.1; omega, z.2.1, by have := z.2.2; omega⟩
  · split
    · rename_i c1
      have l := tL_in (wno_w (b := b) (E := E) (p := p) (gl := gl) (by omega)).1
      refine Pg_then (h4 o (tL b E (tS b E p)) true 0 [] (by omega) (by omega)) (fun q g2 c1 q1 q2 q3 => ?_)
      have := h5 o q g2 11 (c ++ wtL wt ++ c1) q2 (by omega)
      have wl := wtL_len 11
      rw [List.length_append, List.length_append] at this
      revert this
      cases rd b E w n 5 o q g2 11 (c ++ wtL wt ++ c1) with
      | inl f => exact fun z => z
      | inr x => exact fun z => ⟨by have := z.1; omega, z.2.1, by have := z.2.2; omega⟩
    · refine ⟨Nat.le_refl _, hp, ?_⟩
      show (c ++ wtL wt).length + p ≤ _
      rw [List.length_append]
      exact Nat.le_refl _
theorem Ok_all (hE : E ≤ 1600) : ∀ n, Ok0 b E w n ∧ Ok1 b E w n ∧ Ok2 b E w n ∧ Ok3 b E w n ∧ Ok4 b E w n ∧ Ok5 b E w n
  | 0 => ⟨fun _ _ _ _ _ _ h => by omega, fun _ _ _ _ _ _ h => by omega, fun _ _ _ _ _ _ h => by omega, fun _ _ _ _ _ _ h => by omega, fun _ _ _ _ _ _ h => by omega, fun _ _ _ _ _ _ h => by omega⟩
  | n + 1 => by
    obtain ⟨h0, h1, h2, h3, h4, h5⟩ := Ok_all hE n
    exact ⟨Ok0_s hE h0 h1, Ok1_s h0 h2, Ok2_s h0 h2, Ok3_s h4 h5, Ok4_s hE h1 h3 h4, Ok5_s h4 h5⟩
end PGS
/-! its codes are well typed -/
def Ty (al : Int → Bool) (H : Nat) (t : Bool) (c : List Int) : Prop := ∀ ts : List Bool, ts.length + H ≤ 64 → tyL al c ts = some (t :: ts)
def TyO (al : Int → Bool) (H : Nat) (t : Bool) (r : RR) : Prop := match r with
  | .inl _ => True
  | .inr x => Ty al H t x.2.2
section TYS
variable {b : Nat → Int} {E : Nat} {w : Int}
theorem TyO_then {al : Int → Bool} {H H' : Nat} {t t' : Bool} {r : RR} {f : Nat → Bool → List Int → RR} (h : TyO al H t r) (hf : ∀ q g2 c, Ty al H t c → TyO al H' t' (f q g2 c)) : TyO al H' t' (fThen r f) := by
  cases r with
  | inl x => trivial
  | inr x => exact hf x.1 x.2.1 x.2.2 h
theorem TyO_sign {al : Int → Bool} {H q : Nat} {t : Bool} {x : Int} {r : RR} (h : TyO al H t r) : TyO al H t (fSign b E x q r) := by
  unfold fSign
  split
  · exact h
  · trivial
theorem Ty.mono {al : Int → Bool} {H H' : Nat} {t : Bool} {c : List Int} (h : Ty al H t c) (hh : H ≤ H') : Ty al H' t c := fun ts hs => h ts (by omega)
theorem tyL_1 {al : Int → Bool} {x : Int} {ts t : List Bool} (h : ty1 al x ts = some t) : tyL al [x] ts = some t := by
  unfold tyL
  rw [h]
  rfl
theorem ty1_num {al : Int → Bool} {v : Int} {ts : List Bool} (h0 : 0 ≤ v) (h1 : v ≤ 9999) (hs : ts.length < 64) : ty1 al (1000 + v) ts = some (false :: ts) := by
  unfold ty1
  rw [if_pos (by omega), if_pos ⟨by omega, hs⟩]
theorem ty1_val {al : Int → Bool} {v : Int} {ts : List Bool} (h0 : 0 ≤ v) (h1 : v ≤ 10) (ha : al v = true) (hs : ts.length < 64) : ty1 al (40 + v) ts = some (false :: ts) := by
  unfold ty1
  rw [if_neg (by omega), if_neg (by omega), if_pos (by omega), if_pos ⟨by omega, by rw [show 40 + v - 40 = v by omega]; exact ha, hs⟩]
theorem ty1_of {al : Int → Bool} {v : Int} {ts : List Bool} (h0 : v = 11 ∨ v = 12) (ha : al v = true) : ty1 al (49 + v) (false :: ts) = some (false :: ts) := by
  unfold ty1
  rw [if_neg (by omega), if_pos (by omega)]
  show (if 49 + v < 62 ∧ al (49 + v - 49) = true then some (false :: ts) else none) = _
  rw [if_pos ⟨by omega, by rw [show 49 + v - 49 = v by omega]; exact ha⟩]
theorem ty1_op {al : Int → Bool} {v : Int} {ts : List Bool} (h0 : 1 ≤ v) (h1 : v ≤ 9) : ty1 al v (false :: false :: ts) = some (decide (7 ≤ v) :: ts) := by
  unfold ty1
  rw [if_neg (by omega), if_neg (by omega), if_neg (by omega), if_neg (by omega), if_neg (by omega), if_neg (by omega), if_pos ⟨h0, h1⟩]
theorem ty1_bo {al : Int → Bool} {v : Int} {ts : List Bool} (h0 : v = 10 ∨ v = 11) : ty1 al v (true :: true :: ts) = some (true :: ts) := by
  unfold ty1
  rw [if_neg (by omega), if_neg (by omega), if_neg (by omega), if_neg (by omega), if_neg (by omega), if_pos h0]
theorem ty1_not {al : Int → Bool} {ts : List Bool} : ty1 al 12 (true :: ts) = some (true :: ts) := by
  unfold ty1
  rw [if_neg (by decide), if_neg (by decide), if_neg (by decide), if_neg (by decide), if_pos rfl]
theorem ty1_all {al : Int → Bool} {ts : List Bool} (hs : ts.length < 64) : ty1 al 13 ts = some (true :: ts) := by
  unfold ty1
  rw [if_neg (by decide), if_neg (by decide), if_neg (by decide), if_pos rfl, if_pos hs]
theorem okW_al {w k : Int} (w0 : 0 ≤ w) (w3 : w ≤ 3) (h0 : 0 ≤ k) (h1 : k ≤ 10) (h : okW w k = true) : alw w k = true := by
  unfold okW at h
  unfold alw
  by_cases c0 : w = 0
  · rw [if_pos c0] at h ⊢
    have := of_decide_eq_true h
    exact decide_eq_true (by omega)
  · rw [if_neg c0] at h ⊢
    by_cases c1 : w = 1
    · rw [if_pos c1] at h ⊢
      have := of_decide_eq_true h
      exact decide_eq_true (by omega)
    · rw [if_neg c1] at h ⊢
      by_cases c2 : w = 2
      · rw [if_pos c2] at h ⊢
        have := of_decide_eq_true h
        exact decide_eq_true (by omega)
      · rw [if_neg c2] at h ⊢
        have := of_decide_eq_true h
        exact decide_eq_true (by omega)
theorem valN_of {w v : Int} (h : valN w v = 11 ∨ valN w v = 12) : 3 ≤ w := by
  unfold valN at h
  repeat' split at h
  all_goals omega
theorem alw_of {w v : Int} (w3 : 3 ≤ w) (h : v = 11 ∨ v = 12) : alw w v = true := by
  unfold alw
  rw [if_neg (by omega), if_neg (by omega), if_neg (by omega)]
  exact decide_eq_true (by omega)
def tyW (u : Bool) (wt : Int) (ts : List Bool) : List Bool := if wt = 0 then u :: ts else u :: u :: ts
def Ty0 (b : Nat → Int) (E : Nat) (w : Int) (n : Nat) : Prop := ∀ o p gl wt c, o ≤ 6 → TyO (alw w) (6 * (6 - o) + 1) false (rd b E w n 0 o p gl wt c)
def Ty1 (b : Nat → Int) (E : Nat) (w : Int) (n : Nat) : Prop := ∀ o p gl wt c, o ≤ 6 → TyO (alw w) (6 * (6 - o) + 3) false (rd b E w n 1 o p gl wt c)
def Ty2 (b : Nat → Int) (E : Nat) (w : Int) (n : Nat) : Prop := ∀ o p gl wt c, o ≤ 6 → (wt = 0 ∨ wt = 1 ∨ wt = 2) → (∀ ts : List Bool, ts.length + (6 * (6 - o) + 3) ≤ 64 → tyL (alw w) c ts = some (tyW false wt ts)) → TyO (alw w) (6 * (6 - o) + 3) false (rd b E w n 2 o p gl wt c)
def Ty3 (b : Nat → Int) (E : Nat) (w : Int) (n : Nat) : Prop := ∀ o p gl wt c, o ≤ 6 → TyO (alw w) (6 * (6 - o) + 6) true (rd b E w n 3 o p gl wt c)
def Ty4 (b : Nat → Int) (E : Nat) (w : Int) (n : Nat) : Prop := ∀ o p gl wt c, o ≤ 6 → TyO (alw w) (6 * (6 - o) + 4) true (rd b E w n 4 o p gl wt c)
def Ty5 (b : Nat → Int) (E : Nat) (w : Int) (n : Nat) : Prop := ∀ o p gl wt c, o ≤ 6 → (wt = 0 ∨ wt = 11) → (∀ ts : List Bool, ts.length + (6 * (6 - o) + 6) ≤ 64 → tyL (alw w) c ts = some (tyW true wt ts)) → TyO (alw w) (6 * (6 - o) + 6) true (rd b E w n 5 o p gl wt c)
theorem numT_v {p : Nat} {gl : Bool} {lo hi : Nat} (h : (numT b E lo hi p gl).1 = 0) : (lo : Int) ≤ (numT b E lo hi p gl).2.2 ∧ (numT b E lo hi p gl).2.2 ≤ (hi : Int) := by
  unfold numT at h ⊢
  by_cases c1 : isDg (tB b E p) = true ∧ tG b E p gl = false
  · rw [if_pos c1] at h ⊢
    by_cases c2 : tD b E (tS b E p) ≤ tS b E p + 4
    · rw [if_pos c2] at h ⊢
      by_cases c3 : (lo : Int) ≤ numF b (tD b E (tS b E p) - tS b E p) (tS b E p) 0 ∧ numF b (tD b E (tS b E p) - tS b E p) (tS b E p) 0 ≤ (hi : Int)
      · rw [if_pos c3]
        exact c3
      · rw [if_neg c3] at h
        exact absurd h (by simp)
    · rw [if_neg c2] at h
      exact absurd h (by simp)
  · rw [if_neg c1] at h
    exact absurd h (by simp)
theorem Ty0_s {n : Nat} (w0 : 0 ≤ w) (w3 : w ≤ 3) (h0 : Ty0 b E w n) (h1 : Ty1 b E w n) : Ty0 b E w (n + 1) := by
  intro o p gl wt c ho
  rw [rd_0]
  unfold fPart
  split
  · split
    · rename_i c2
      have v := numT_v c2
      intro ts hs
      exact tyL_1 (ty1_num (by omega) (by omega) (by omega))
    · trivial
  · split
    · split
      · rename_i o6
        refine TyO_then (h1 (o + 1) _ false 0 [] (by omega)) (fun q g2 c1 hc => TyO_sign (hc.mono (by omega)))
      · trivial
    · split
      · rename_i c3
        intro ts hs
        exact tyL_1 (ty1_val c3.1 c3.2.1 (okW_al w0 w3 c3.1 c3.2.1 c3.2.2) (by omega))
      · split
        · refine TyO_sign ?_
          split
          · rename_i o6
            refine TyO_then (h1 (o + 1) _ false 0 [] (by omega)) (fun q g2 c1 hc => TyO_sign (TyO_then (h1 (o + 1) _ false 0 [] (by omega)) (fun r g3 c2 hc2 => TyO_sign ?_)))
            intro ts hs
            rw [List.append_assoc, tyL_app (hc ts (by omega)), tyL_app (hc2 (false :: ts) (by rw [List.length_cons]; omega))]
            split
            · exact tyL_1 (ty1_op (v := 5) (by omega) (by omega))
            · exact tyL_1 (ty1_op (v := 6) (by omega) (by omega))
          · trivial
        · split
          · rename_i c5
            split
            · rename_i o6
              refine TyO_then (h0 (o + 1) _ true 0 [] (by omega)) (fun q g2 c1 hc => ?_)
              intro ts hs
              rw [tyL_app (hc ts (by omega))]
              exact tyL_1 (ty1_of c5 (alw_of (valN_of c5) c5))
            · trivial
          · trivial
theorem Ty1_s {n : Nat} (h0 : Ty0 b E w n) (h2 : Ty2 b E w n) : Ty1 b E w (n + 1) := by
  intro o p gl wt c ho
  rw [rd_1]
  unfold fSum
  exact TyO_then (h0 o p gl 0 [] ho) (fun q g2 c1 hc => h2 o q g2 0 c1 ho (Or.inl rfl) (fun ts hs => hc ts (by omega)))
theorem tyW_push {u : Bool} {wt : Int} {ts : List Bool} : u :: tyW u wt ts = if wt = 0 then u :: u :: ts else u :: u :: u :: ts := by
  unfold tyW
  split <;> rfl
theorem Ty2_s {n : Nat} (h0 : Ty0 b E w n) (h2 : Ty2 b E w n) : Ty2 b E w (n + 1) := by
  intro o p gl wt c ho hw hc
  have fl : ∀ ts : List Bool, ts.length + (6 * (6 - o) + 3) ≤ 64 → tyL (alw w) (c ++ wtL wt) ts = some (false :: ts) := by
    intro ts hs
    rw [tyL_app (hc ts hs)]
    unfold wtL tyW
    by_cases z : wt = 0
    · rw [if_pos z, if_pos z]
      rfl
    · rw [if_neg z, if_neg z]
      have := ty1_op (al := alw w) (v := wt) (ts := ts) (by omega) (by omega)
      rw [decide_eq_false (by omega)] at this
      exact tyL_1 this
  rw [rd_2]
  unfold fRest
  split
  · rename_i c1
    have i1 := (opP_in c1).2
    refine TyO_then (h0 o _ false 0 [] ho) (fun q g2 c1 hc1 => h2 o q g2 wt _ ho hw (fun ts hs => ?_))
    have op : opP (tB b E p) = 3 ∨ opP (tB b E p) = 4 := by
      unfold opP
      rcases i1 with z | z <;> simp [z]
    rw [List.append_assoc, tyL_app (hc ts hs)]
    unfold tyW
    have o2 : ∀ tt : List Bool, ty1 (alw w) (opP (tB b E p)) (false :: false :: tt) = some (false :: tt) := by
      intro tt
      have := ty1_op (al := alw w) (v := opP (tB b E p)) (ts := tt) (by omega) (by omega)
      rw [decide_eq_false (by omega)] at this
      exact this
    by_cases z : wt = 0
    · rw [if_pos z, tyL_app (hc1 _ (by rw [List.length_cons]; omega))]
      exact tyL_1 (o2 _)
    · rw [if_neg z, tyL_app (hc1 _ (by rw [List.length_cons, List.length_cons]; omega))]
      exact tyL_1 (o2 _)
  · split
    · rename_i c1
      have i1 := (opS_in c1).2
      have op : opS (tB b E p) = 1 ∨ opS (tB b E p) = 2 := by
        unfold opS
        rcases i1 with z | z <;> simp [z]
      refine TyO_then (h0 o _ false 0 [] ho) (fun q g2 c1 hc1 => h2 o q g2 _ _ ho (Or.inr op) (fun ts hs => ?_))
      rw [tyL_app (fl ts hs), hc1 _ (by rw [List.length_cons]; omega)]
      unfold tyW
      rw [if_neg (by omega)]
    · intro ts hs
      exact fl ts hs
theorem Ty3_s {n : Nat} (h4 : Ty4 b E w n) (h5 : Ty5 b E w n) : Ty3 b E w (n + 1) := by
  intro o p gl wt c ho
  rw [rd_3]
  unfold fTest
  exact TyO_then (h4 o p gl 0 [] ho) (fun q g2 c1 hc => h5 o q g2 0 c1 ho (Or.inl rfl) (fun ts hs => hc ts (by omega)))
theorem Ty4_s {n : Nat} (h1 : Ty1 b E w n) (h3 : Ty3 b E w n) (h4 : Ty4 b E w n) : Ty4 b E w (n + 1) := by
  intro o p gl wt c ho
  rw [rd_4]
  unfold fFact
  split
  · split
    · rename_i o6
      refine TyO_then (h4 (o + 1) _ true 0 [] (by omega)) (fun q g2 c1 hc => ?_)
      intro ts hs
      rw [tyL_app (hc ts (by omega))]
      exact tyL_1 ty1_not
    · trivial
  · split
    · split
      · rename_i o6
        exact TyO_then (h3 (o + 1) _ false 0 [] (by omega)) (fun q g2 c1 hc => TyO_sign (hc.mono (by omega)))
      · trivial
    · split
      · intro ts hs
        exact tyL_1 (ty1_all (by omega))
      · refine TyO_then (h1 o p gl 0 [] ho) (fun q g2 c1 hc => ?_)
        split
        · rename_i c4
          have i4 := (opC_in c4).2
          refine TyO_then (h1 o _ false 0 [] ho) (fun r g3 c2 hc2 => ?_)
          intro ts hs
          have op : opC (tB b E q) = 7 ∨ opC (tB b E q) = 8 ∨ opC (tB b E q) = 9 := by
            unfold opC
            rcases i4 with z | z | z <;> simp [z]
          have o2 := ty1_op (al := alw w) (v := opC (tB b E q)) (ts := ts) (by omega) (by omega)
          rw [decide_eq_true (by omega)] at o2
          rw [List.append_assoc, tyL_app (hc ts (by omega)), tyL_app (hc2 (false :: ts) (by rw [List.length_cons]; omega))]
          exact tyL_1 o2
        · trivial
theorem Ty5_s {n : Nat} (h4 : Ty4 b E w n) (h5 : Ty5 b E w n) : Ty5 b E w (n + 1) := by
  intro o p gl wt c ho hw hc
  have fl : ∀ ts : List Bool, ts.length + (6 * (6 - o) + 6) ≤ 64 → tyL (alw w) (c ++ wtL wt) ts = some (true :: ts) := by
    intro ts hs
    rw [tyL_app (hc ts hs)]
    unfold wtL tyW
    by_cases z : wt = 0
    · rw [if_pos z, if_pos z]
      rfl
    · rw [if_neg z, if_neg z]
      exact tyL_1 (ty1_bo (by omega))
  rw [rd_5]
  unfold fTRest
  split
  · refine TyO_then (h4 o _ true 0 [] ho) (fun q g2 c1 hc1 => h5 o q g2 wt _ ho hw (fun ts hs => ?_))
    rw [List.append_assoc, tyL_app (hc ts hs)]
    unfold tyW
    by_cases z : wt = 0
    · rw [if_pos z, tyL_app (hc1 _ (by rw [List.length_cons]; omega))]
      exact tyL_1 (ty1_bo (Or.inl rfl))
    · rw [if_neg z, tyL_app (hc1 _ (by rw [List.length_cons, List.length_cons]; omega))]
      exact tyL_1 (ty1_bo (Or.inl rfl))
  · split
    · refine TyO_then (h4 o _ true 0 [] ho) (fun q g2 c1 hc1 => h5 o q g2 _ _ ho (Or.inr rfl) (fun ts hs => ?_))
      rw [tyL_app (fl ts hs), hc1 _ (by rw [List.length_cons]; omega)]
      unfold tyW
      rw [if_neg (by decide)]
    · intro ts hs
      exact fl ts hs
theorem Ty_all (w0 : 0 ≤ w) (w3 : w ≤ 3) : ∀ n, Ty0 b E w n ∧ Ty1 b E w n ∧ Ty2 b E w n ∧ Ty3 b E w n ∧ Ty4 b E w n ∧ Ty5 b E w n
  | 0 => ⟨fun _ _ _ _ _ _ => by rw [rd_z]; trivial, fun _ _ _ _ _ _ => by rw [rd_z]; trivial, fun _ _ _ _ _ _ _ _ => by rw [rd_z]; trivial, fun _ _ _ _ _ _ => by rw [rd_z]; trivial, fun _ _ _ _ _ _ => by rw [rd_z]; trivial, fun _ _ _ _ _ _ _ _ => by rw [rd_z]; trivial⟩
  | n + 1 => by
    obtain ⟨h0, h1, h2, h3, h4, h5⟩ := Ty_all w0 w3 n
    exact ⟨Ty0_s w0 w3 h0 h1, Ty1_s h0 h2, Ty2_s h0 h2, Ty3_s h4 h5, Ty4_s h1 h3 h4, Ty5_s h4 h5⟩
end TYS
