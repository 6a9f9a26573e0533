/-! the grammar of rules and questions, read downward: what both make of a text -/
/-- a fault (kind, place), or where it stands behind, and the codes -/
abbrev RR : Type := Sum (Int × Int) (Nat × Bool × List Int)
/-- the number of the word that stands next; -1 for one unknown, -2 where there is none -/
def wno (b : Nat → Int) (E p : Nat) (gl : Bool) : Int := if isLt (tB b E p) = true ∧ tG b E p gl = false then findW b (tS b E p) (tL b E (tS b E p)) allW 0 else -2
section WNO
variable {b : Nat → Int} {E p : Nat} {gl : Bool}
theorem mtW_eq {w w' : List Int} {s : Nat} (h1 : mtW b w s = true) (h2 : mtW b w' s = true) (hl : w.length = w'.length) : w = w' := by
  have a1 : ∀ k, k < w.length → b (s + k) = w.getD k 0 := of_decide_eq_true h1
  have a2 : ∀ k, k < w'.length → b (s + k) = w'.getD k 0 := of_decide_eq_true h2
  apply List.ext_getElem hl
  intro i i1 i2
  have x1 := a1 i i1
  have x2 := a2 i i2
  rw [List.getD_eq_getElem?_getD, List.getElem?_eq_getElem i1, Option.getD_some] at x1
  rw [List.getD_eq_getElem?_getD, List.getElem?_eq_getElem i2, Option.getD_some] at x2
  exact x1.symm.trans x2
theorem findW_hit {s e : Nat} : ∀ (ws : List (List Int)) (k : Int) (i : Nat) (w : List Int), ws[i]? = some w → e = s + w.length → mtW b w s = true → (∀ j, j < i → ws[j]? ≠ some w) → findW b s e ws k = k + i
  | [], k, i, w, h, _, _, _ => by simp at h
  | x :: r, k, 0, w, h, h1, h2, h3 => by
    have hx : x = w := by simpa using h
    rw [findW, hx, if_pos ⟨h1, h2⟩]
    omega
  | x :: r, k, i + 1, w, h, h1, h2, h3 => by
    have hr : r[i]? = some w := by simpa using h
    have nx : ¬ (e = s + x.length ∧ mtW b x s = true) := fun z => h3 0 (by omega) (by
      have : x = w := mtW_eq z.2 h2 (by omega)
      rw [this]
      rfl)
    rw [findW, if_neg nx, findW_hit r (k + 1) i w hr h1 h2 (fun j hj z => h3 (j + 1) (by omega) (by simpa using z))]
    omega
theorem findW_ge {s e : Nat} : ∀ (ws : List (List Int)) (k : Int), findW b s e ws k = -1 ∨ k ≤ findW b s e ws k
  | [], k => Or.inl rfl
  | x :: r, k => by
    rw [findW]
    split
    · exact Or.inr (Int.le_refl k)
    · rcases findW_ge r (k + 1) (s := s) (e := e) with h | h
      · exact Or.inl h
      · exact Or.inr (by omega)
theorem findW_of {s e : Nat} : ∀ (ws : List (List Int)) (k : Int) (i : Nat), 0 ≤ k → findW b s e ws k = k + i → ∃ w, ws[i]? = some w ∧ e = s + w.length ∧ mtW b w s = true
  | [], k, i, k0, h => by
    rw [findW] at h
    omega
  | x :: r, k, i, k0, h => by
    rw [findW] at h
    by_cases c : e = s + x.length ∧ mtW b x s = true
    · rw [if_pos c] at h
      have hi : i = 0 := by omega
      subst hi
      exact ⟨x, rfl, c⟩
    · rw [if_neg c] at h
      cases i with
      | zero =>
        rcases findW_ge r (k + 1) (b := b) (s := s) (e := e) with z | z <;> omega
      | succ i =>
        obtain ⟨w, h1, h2⟩ := findW_of (s := s) (e := e) r (k + 1) i (by omega) (by omega)
        exact ⟨w, by simpa using h1, h2⟩
theorem allW_nd : ∀ i, i < 31 → ∀ j, j < i → allW[j]? ≠ allW[i]? := by decide +kernel
theorem hasW_no {k : Int} {w : List Int} (k0 : 0 ≤ k) (h : allW[k.toNat]? = some w) : hasW b E w p gl = true ↔ wno b E p gl = k := by
  have kl : k.toNat < 31 := by
    have := (List.getElem?_eq_some_iff.mp h).1
    rw [allW_len] at this
    exact this
  unfold hasW wno
  by_cases c : isLt (tB b E p) = true ∧ tG b E p gl = false
  · rw [if_pos c, c.1, c.2]
    simp only [Bool.not_false, Bool.and_self, Bool.true_and]
    constructor
    · intro h2
      rw [Bool.and_eq_true] at h2
      have := findW_hit allW 0 k.toNat w h (of_decide_eq_true h2.1) h2.2 (fun j hj => by rw [← h]; exact allW_nd _ kl j hj)
      omega
    · intro h2
      obtain ⟨w', h3, h4, h5⟩ := findW_of allW 0 k.toNat (by omega) (by rw [h2]; omega)
      have e : w' = w := Option.some.inj (h3.symm.trans h)
      rw [e] at h4 h5
      rw [decide_eq_true h4, h5]
      rfl
  · rw [if_neg c]
    constructor
    · intro h2
      rw [Bool.and_eq_true, Bool.and_eq_true, Bool.and_eq_true] at h2
      exact absurd ⟨h2.1.1.1, by simpa using h2.1.1.2⟩ c
    · intro h2
      omega
theorem tB_in {x : Int} (h : tB b E p = x) (hx : x ≠ -1) : tS b E p < E := by
  unfold tB at h
  by_cases c : tS b E p < E
  · exact c
  · rw [if_neg c] at h
    exact absurd h.symm hx
theorem isLt_in (h : isLt (tB b E p) = true) : tS b E p < E ∧ isLt (b (tS b E p)) = true := by
  have a := isLt_iff.mp h
  have c : tS b E p < E := tB_in (x := tB b E p) rfl (by omega)
  refine ⟨c, ?_⟩
  unfold tB at h
  rw [if_pos c] at h
  exact h
theorem isDg_in (h : isDg (tB b E p) = true) : tS b E p < E ∧ isDg (b (tS b E p)) = true := by
  have a := isDg_iff.mp h
  have c : tS b E p < E := tB_in (x := tB b E p) rfl (by omega)
  refine ⟨c, ?_⟩
  unfold tB at h
  rw [if_pos c] at h
  exact h
theorem tL_in (h : isLt (tB b E p) = true) : tS b E p + 1 ≤ tL b E (tS b E p) ∧ tL b E (tS b E p) ≤ E := by
  have a := isLt_in h
  have e : tL b E (tS b E p) = tL b E (tS b E p + 1) := run_step a
  have g : tS b E p + 1 ≤ tL b E (tS b E p + 1) := run_ge
  exact ⟨by rw [e]; exact g, run_le (by omega)⟩
theorem tD_in (h : isDg (tB b E p) = true) : tS b E p + 1 ≤ tD b E (tS b E p) ∧ tD b E (tS b E p) ≤ E := by
  have a := isDg_in h
  have e : tD b E (tS b E p) = tD b E (tS b E p + 1) := run_step a
  have g : tS b E p + 1 ≤ tD b E (tS b E p + 1) := run_ge
  exact ⟨by rw [e]; exact g, run_le (by omega)⟩
theorem wno_w (h : wno b E p gl ≠ -2) : isLt (tB b E p) = true ∧ tG b E p gl = false := by
  unfold wno at h
  by_cases c : isLt (tB b E p) = true ∧ tG b E p gl = false
  · exact c
  · rw [if_neg c] at h
    exact absurd rfl h
theorem wno_b : -2 ≤ wno b E p gl ∧ wno b E p gl ≤ 31 := by
  unfold wno
  split
  · have := findW_b (b := b) (s := tS b E p) (e := tL b E (tS b E p)) allW 0 (by omega)
    rw [allW_len] at this
    omega
  · omega
end WNO
/-- the number of the word that stands next, as a value; -1 for none -/
def valN (w v : Int) : Int := if v = 3 then 0 else if v = 4 then 1 else if v = 5 then (if w < 3 then 2 else 11) else if v = 15 then 3 else if v = 11 then 4 else if v = 12 then 5 else if v = 13 then 6 else if v = 14 then (if w < 3 then 7 else 12) else if v = 16 then 8 else if v = 17 then 9 else if v = 18 then 10 else -1
theorem valN_b (w v : Int) : -1 ≤ valN w v ∧ valN w v ≤ 12 := by
  unfold valN
  repeat' split
  all_goals omega
theorem valN_no {w v : Int} (h : valN w v ≠ -1) : 3 ≤ v ∧ v ≤ 18 := by
  unfold valN at h
  repeat' split at h
  all_goals omega
def okW (w k : Int) : Bool := if w = 0 then decide (k < 6) else if w = 1 then decide (k < 4 ∨ k = 6) else if w = 2 then decide (k < 4 ∨ k = 7) else decide (k < 2 ∨ k = 3 ∨ k = 4 ∨ 7 < k)
/-- a product's code, or a sum's, or a comparison's, by its sign -/
def opP (x : Int) : Int := if x = 42 then 3 else if x = 47 then 4 else 0
def opS (x : Int) : Int := if x = 43 then 1 else if x = 45 then 2 else 0
def opC (x : Int) : Int := if x = 60 then 7 else if x = 62 then 8 else if x = 61 then 9 else 0
def wtL (w : Int) : List Int := if w = 0 then [] else [w]
abbrev RF : Type := Nat → Nat → Nat → Bool → Int → List Int → RR
def fThen (r : RR) (k : Nat → Bool → List Int → RR) : RR := match r with
  | .inl f => .inl f
  | .inr x => k x.1 x.2.1 x.2.2
section RD
variable (b : Nat → Int) (E : Nat) (w : Int)
def fSign (x : Int) (q : Nat) (r : RR) : RR := if tB b E q = x then r else .inl (1, (tS b E q : Int))
def fPart (R : RF) (o p : Nat) (gl : Bool) : RR :=
  if isDg (tB b E p) = true ∧ tG b E p gl = false then
    (if (numT b E 0 9999 p gl).1 = 0 then .inr (tD b E (tS b E p), true, [1000 + (numT b E 0 9999 p gl).2.2]) else .inl ((numT b E 0 9999 p gl).1, (numT b E 0 9999 p gl).2.1))
  else if tB b E p = 40 then
    (if o < 6 then fThen (R 1 (o + 1) (tS b E p + 1) false 0 []) (fun q _ c => fSign b E 41 q (.inr (tS b E q + 1, false, c))) else .inl (4, (tS b E p : Int)))
  else if 0 ≤ valN w (wno b E p gl) ∧ valN w (wno b E p gl) ≤ 10 ∧ okW w (valN w (wno b E p gl)) = true then .inr (tL b E (tS b E p), true, [40 + valN w (wno b E p gl)])
  else if wno b E p gl = 23 ∨ wno b E p gl = 24 then
    fSign b E 40 (tL b E (tS b E p)) (if o < 6 then fThen (R 1 (o + 1) (tS b E (tL b E (tS b E p)) + 1) false 0 []) (fun q _ c1 => fSign b E 44 q (fThen (R 1 (o + 1) (tS b E q + 1) false 0 []) (fun r _ c2 => fSign b E 41 r (.inr (tS b E r + 1, false, c1 ++ c2 ++ [if wno b E p gl = 23 then 5 else 6]))))) else .inl (4, (tS b E (tL b E (tS b E p)) : Int)))
  else if valN w (wno b E p gl) = 11 ∨ valN w (wno b E p gl) = 12 then
    (if o < 6 then fThen (R 0 (o + 1) (tL b E (tS b E p)) true 0 []) (fun q g2 c => .inr (q, g2, c ++ [49 + valN w (wno b E p gl)])) else .inl (4, (tS b E p : Int)))
  else .inl (1, (tS b E p : Int))
def fSum (R : RF) (o p : Nat) (gl : Bool) : RR := fThen (R 0 o p gl 0 []) (fun q g2 c => R 2 o q g2 0 c)
def fRest (R : RF) (o p : Nat) (gl : Bool) (wt : Int) (c : List Int) : RR :=
  if opP (tB b E p) ≠ 0 then fThen (R 0 o (tS b E p + 1) false 0 []) (fun q g2 c1 => R 2 o q g2 wt (c ++ c1 ++ [opP (tB b E p)]))
  else if opS (tB b E p) ≠ 0 then fThen (R 0 o (tS b E p + 1) false 0 []) (fun q g2 c1 => R 2 o q g2 (opS (tB b E p)) (c ++ wtL wt ++ c1))
  else .inr (p, gl, c ++ wtL wt)
def fTest (R : RF) (o p : Nat) (gl : Bool) : RR := fThen (R 4 o p gl 0 []) (fun q g2 c => R 5 o q g2 0 c)
def fFact (R : RF) (o p : Nat) (gl : Bool) : RR :=
  if wno b E p gl = 21 then
    (if o < 6 then fThen (R 4 (o + 1) (tL b E (tS b E p)) true 0 []) (fun q g2 c => .inr (q, g2, c ++ [12])) else .inl (4, (tS b E p : Int)))
  else if tB b E p = 91 then
    (if o < 6 then fThen (R 3 (o + 1) (tS b E p + 1) false 0 []) (fun q _ c => fSign b E 93 q (.inr (tS b E q + 1, false, c))) else .inl (4, (tS b E p : Int)))
  else if wno b E p gl = 22 then .inr (tL b E (tS b E p), true, [13])
  else fThen (R 1 o p gl 0 []) (fun q _ c1 => if opC (tB b E q) ≠ 0 then fThen (R 1 o (tS b E q + 1) false 0 []) (fun r g2 c2 => .inr (r, g2, c1 ++ c2 ++ [opC (tB b E q)])) else .inl (1, (tS b E q : Int)))
def fTRest (R : RF) (o p : Nat) (gl : Bool) (wt : Int) (c : List Int) : RR :=
  if wno b E p gl = 20 then fThen (R 4 o (tL b E (tS b E p)) true 0 []) (fun q g2 c1 => R 5 o q g2 wt (c ++ c1 ++ [10]))
  else if wno b E p gl = 19 then fThen (R 4 o (tL b E (tS b E p)) true 0 []) (fun q g2 c1 => R 5 o q g2 11 (c ++ wtL wt ++ c1))
  else .inr (p, gl, c ++ wtL wt)
/-- what: 0 a part, 1 a sum, 2 a sum's rest, 3 a test, 4 a fact, 5 a test's rest; o open ones; wt waits; c codes so far (2, 5) -/
def rd : Nat → Nat → Nat → Nat → Bool → Int → List Int → RR
  | 0, _, _, _, _, _, _ => .inl (9, 0)
  | n + 1, what, o, p, gl, wt, c =>
    if what = 0 then fPart b E w (rd n) o p gl
    else if what = 1 then fSum (rd n) o p gl
    else if what = 2 then fRest b E (rd n) o p gl wt c
    else if what = 3 then fTest (rd n) o p gl
    else if what = 4 then fFact b E (rd n) o p gl
    else fTRest b E (rd n) o p gl wt c
end RD
section RDE
variable {b : Nat → Int} {E : Nat} {w : Int} {n o p : Nat} {gl : Bool} {wt : Int} {c : List Int}
theorem rd_0 : rd b E w (n + 1) 0 o p gl wt c = fPart b E w (rd b E w n) o p gl := by rw [rd, if_pos rfl]
theorem rd_1 : rd b E w (n + 1) 1 o p gl wt c = fSum (rd b E w n) o p gl := by rw [rd, if_neg (by decide), if_pos rfl]
theorem rd_2 : rd b E w (n + 1) 2 o p gl wt c = fRest b E (rd b E w n) o p gl wt c := by rw [rd, if_neg (by decide), if_neg (by decide), if_pos rfl]
theorem rd_3 : rd b E w (n + 1) 3 o p gl wt c = fTest (rd b E w n) o p gl := by rw [rd, if_neg (by decide), if_neg (by decide), if_neg (by decide), if_pos rfl]
theorem rd_4 : rd b E w (n + 1) 4 o p gl wt c = fFact b E (rd b E w n) o p gl := by rw [rd, if_neg (by decide), if_neg (by decide), if_neg (by decide), if_neg (by decide), if_pos rfl]
theorem rd_5 : rd b E w (n + 1) 5 o p gl wt c = fTRest b E (rd b E w n) o p gl wt c := by rw [rd, if_neg (by decide), if_neg (by decide), if_neg (by decide), if_neg (by decide), if_neg (by decide)]
theorem rd_z {what : Nat} : rd b E w 0 what o p gl wt c = .inl (9, 0) := by rw [rd]
end RDE
