/-! the statements of a terrace, read: what both make of a text -/
/-- a person: letters, house, face, kindness -/
abbrev Pp : Type := List Int × Int × Int × Int
/-- people; thoughts; slip; the rules told, in their order -/
abbrev Tst : Type := List Pp × (Int → Int) × Int × List (Int × List Int)
/-- a fault, or where it stands behind and what is told then -/
abbrev RT2 : Type := Sum (Int × Int) (Nat × Bool × Tst)
def lets (b : Nat → Int) (s : Nat) : Nat → List Int
  | 0 => []
  | k + 1 => (b s - 96) :: lets b (s + 1) k
/-- a name asked for: fault, its place, the letters -/
def nmT (b : Nat → Int) (E p : Nat) (gl : Bool) : Int × Int × List Int :=
  if wno b E p gl ≠ -2 ∧ ¬ (0 ≤ wno b E p gl ∧ wno b E p gl ≤ 24) then
    (if tL b E (tS b E p) ≤ tS b E p + 6 then (0, 0, lets b (tS b E p) (tL b E (tS b E p) - tS b E p)) else (1, (tS b E p : Int) + 6, []))
  else (1, (tS b E p : Int), [])
def idxF (w : List Int) : List Pp → Int → Int
  | [], _ => -1
  | x :: r, k => if x.1 = w then k else idxF w r (k + 1)
def homeF (v : Int) : List Pp → Int → Int
  | [], _ => -1
  | x :: r, k => if x.2.1 = v then k else homeF v r (k + 1)
/-- where a rule's codes begin, and the codes -/
def rOf (w : Int) : List (Int × List Int) → Nat → Option (Nat × List Int)
  | [], _ => none
  | x :: r, k => if x.1 = w then some (k, x.2) else rOf w r (k + x.2.length)
def rAll : List (Int × List Int) → List Int
  | [] => []
  | x :: r => x.2 ++ rAll r
section TST
variable (b : Nat → Int) (E : Nat)
/-- a word is asked for -/
def pW (k : Int) (p : Nat) (gl : Bool) (K : Nat → RT2) : RT2 := if wno b E p gl = k then K (tL b E (tS b E p)) else .inl (1, (tS b E p : Int))
/-- a number -/
def pN (lo hi p : Nat) (gl : Bool) (K : Int → Nat → RT2) : RT2 := if (numT b E lo hi p gl).1 = 0 then K (numT b E lo hi p gl).2.2 (tD b E (tS b E p)) else .inl ((numT b E lo hi p gl).1, (numT b E lo hi p gl).2.1)
/-- a name -/
def pM (p : Nat) (gl : Bool) (K : List Int → Nat → RT2) : RT2 := if (nmT b E p gl).1 = 0 then K (nmT b E p gl).2.2 (tL b E (tS b E p)) else .inl ((nmT b E p gl).1, (nmT b E p gl).2.1)
def stSoul (hm : Nat) (st : Tst) (pl : Int) (p : Nat) : RT2 :=
  if st.1.length = 8 then .inl (5, pl)
  else pM b E p true (fun nm q => if idxF nm st.1 0 ≠ -1 then .inl (3, (tS b E p : Int)) else
    pW b E 2 q true (fun q2 => pN b E 0 (hm - 1) q2 true (fun hv q3 => if homeF hv st.1 0 ≠ -1 then .inl (2, (tS b E q2 : Int)) else
      pW b E 3 q3 true (fun q4 => pN b E 0 9 q4 true (fun fv q5 =>
        pW b E 4 q5 true (fun q6 => pN b E 0 9 q6 true (fun kv q7 => .inr (q7, true, st.1 ++ [(nm, hv, fv, kv)], st.2)))))))) 
def stThinks (st : Tst) (p : Nat) : RT2 :=
  pM b E p true (fun na q => if idxF na st.1 0 = -1 then .inl (3, (tS b E p : Int)) else
    pW b E 6 q true (fun q2 => pM b E q2 true (fun nb q3 => if idxF nb st.1 0 = -1 ∨ idxF nb st.1 0 = idxF na st.1 0 then .inl (3, (tS b E q2 : Int)) else
      pN b E 0 9 q3 true (fun v q4 => .inr (q4, true, st.1, up st.2.1 (8 * idxF na st.1 0 + idxF nb st.1 0) v, st.2.2)))))
def stRule (w : Int) (st : Tst) (pl : Int) (p : Nat) : RT2 :=
  if (rOf w st.2.2.2 0).isSome = true then .inl (5, pl)
  else match rd b E w (4 * E + 8) (if w = 2 then 3 else 1) 0 p true 0 [] with
    | .inl f => .inl f
    | .inr y => .inr (y.1, y.2.1, st.1, st.2.1, st.2.2.1, st.2.2.2 ++ [(w, y.2.2)])
def stSlip (st : Tst) (p : Nat) : RT2 := pN b E 0 100 p true (fun v q => .inr (q, true, st.1, st.2.1, v, st.2.2.2))
def stF (hm : Nat) (st : Tst) (p : Nat) (gl : Bool) : RT2 :=
  if wno b E p gl = 1 then stSoul b E hm st (tS b E p) (tL b E (tS b E p))
  else if wno b E p gl = 5 then stThinks b E st (tL b E (tS b E p))
  else if wno b E p gl = 7 then stRule b E 0 st (tS b E p) (tL b E (tS b E p))
  else if wno b E p gl = 8 then stRule b E 1 st (tS b E p) (tL b E (tS b E p))
  else if wno b E p gl = 9 then stRule b E 2 st (tS b E p) (tL b E (tS b E p))
  else if wno b E p gl = 10 then stSlip b E st (tL b E (tS b E p))
  else .inl (1, (tS b E p : Int))
/-- the statements behind the first: a fault, or their count and what is told -/
def trF (hm : Nat) : Nat → Nat → Tst → Nat → Bool → Sum (Int × Int) (Nat × Tst)
  | 0, _, _, _, _ => .inl (9, 0)
  | k + 1, n, st, p, gl =>
    if tB b E p = -1 then .inr (n, st)
    else if n = 80 then .inl (5, (tS b E p : Int))
    else match stF b E hm st p gl with
      | .inl f => .inl f
      | .inr y => if tB b E y.1 = 59 then trF hm k (n + 1) y.2.2 (tS b E y.1 + 1) false else .inl (1, (tS b E y.1 : Int))
end TST
def st0 : Tst := ([], fun _ => 5, 0, [])
/-! what holds of what is told -/
def PpOK (hm : Int) (x : Pp) : Prop := (1 ≤ x.1.length ∧ x.1.length ≤ 6 ∧ ∀ y ∈ x.1, 1 ≤ y ∧ y ≤ 26) ∧ (0 ≤ x.2.1 ∧ x.2.1 < hm) ∧ (0 ≤ x.2.2.1 ∧ x.2.2.1 ≤ 9) ∧ (0 ≤ x.2.2.2 ∧ x.2.2.2 ≤ 9)
def TstOK (hm : Int) (p : Nat) (st : Tst) : Prop := (st.1.length ≤ 8 ∧ ∀ x ∈ st.1, PpOK hm x) ∧ (∀ i j : Nat, ∀ x y, st.1[i]? = some x → st.1[j]? = some y → x.2.1 = y.2.1 → i = j) ∧ (∀ k, 0 ≤ st.2.1 k ∧ st.2.1 k ≤ 9) ∧ (∀ i j : Int, 0 ≤ i → i < 8 → 0 ≤ j → j < 8 → ((st.1.length : Int) ≤ i ∨ (st.1.length : Int) ≤ j) → st.2.1 (8 * i + j) = 5) ∧ (0 ≤ st.2.2.1 ∧ st.2.2.1 ≤ 100) ∧ (∀ x ∈ st.2.2.2, (x.1 = 0 ∨ x.1 = 1 ∨ x.1 = 2) ∧ tyL (alw x.1) x.2 [] = some [decide (x.1 = 2)]) ∧ (rAll st.2.2.2).length ≤ p
section TSO
variable {b : Nat → Int} {E : Nat} {hm : Nat}
theorem lets_len : ∀ (k s : Nat), (lets b s k).length = k
  | 0, _ => rfl
  | k + 1, s => by rw [lets, List.length_cons, lets_len k]
theorem lets_mem : ∀ (k s : Nat), (∀ j, s ≤ j → j < s + k → 97 ≤ b j ∧ b j ≤ 122) → ∀ y ∈ lets b s k, 1 ≤ y ∧ y ≤ 26
  | 0, _, _, y, hy => by
    rw [lets] at hy
    exact absurd hy (by simp)
  | k + 1, s, h, y, hy => by
    rw [lets] at hy
    rcases List.mem_cons.mp hy with e | e
    · have := h s (by omega) (by omega)
      omega
    · exact lets_mem k (s + 1) (fun j h1 h2 => h j (by omega) (by omega)) y e
theorem lets_get : ∀ (k s i : Nat), i < k → (lets b s k).getD i 0 = b (s + i) - 96
  | 0, _, _, h => by omega
  | k + 1, s, 0, _ => rfl
  | k + 1, s, i + 1, h => by
    have := lets_get k (s + 1) i (by omega)
    rw [show s + 1 + i = s + (i + 1) by omega] at this
    rw [lets]
    simpa using this
theorem nmT_b {p : Nat} {gl : Bool} (hE : E ≤ 1600) (hp : p ≤ E) : ((nmT b E p gl).1 = 0 ∨ (nmT b E p gl).1 = 1) ∧ 0 ≤ (nmT b E p gl).2.1 ∧ (nmT b E p gl).2.1 ≤ 1610 ∧ ((nmT b E p gl).1 = 0 → wno b E p gl ≠ -2 ∧ ¬ (0 ≤ wno b E p gl ∧ wno b E p gl ≤ 24) ∧ tL b E (tS b E p) ≤ tS b E p + 6 ∧ (nmT b E p gl).2.2 = lets b (tS b E p) (tL b E (tS b E p) - tS b E p) ∧ 1 ≤ (nmT b E p gl).2.2.length ∧ (nmT b E p gl).2.2.length ≤ 6 ∧ ∀ y ∈ (nmT b E p gl).2.2, 1 ≤ y ∧ y ≤ 26) := by
  have le := tS_le (b := b) (E := E) hp
  unfold nmT
  by_cases c1 : wno b E p gl ≠ -2 ∧ ¬ (0 ≤ wno b E p gl ∧ wno b E p gl ≤ 24)
  · rw [if_pos c1]
    have ww := wno_w c1.1
    have tl := tL_in ww.1
    by_cases c2 : tL b E (tS b E p) ≤ tS b E p + 6
    · rw [if_pos c2]
      refine ⟨Or.inl rfl, by show (0 : Int) ≤ 0; omega, by show (0 : Int) ≤ 1610; omega, fun _ => ⟨c1.1, c1.2, c2, rfl, ?_, ?_, ?_⟩⟩
      · show 1 ≤ (lets b (tS b E p) (tL b E (tS b E p) - tS b E p)).length
        rw [lets_len]
        omega
      · show (lets b (tS b E p) (tL b E (tS b E p) - tS b E p)).length ≤ 6
        rw [lets_len]
        omega
      · exact lets_mem _ _ (fun j h1 h2 => isLt_iff.mp (run_in (P := isLt) (b := b) (E := E) (p := tS b E p) h1 (show j < tL b E (tS b E p) by omega)).2)
    · rw [if_neg c2]
      exact ⟨Or.inr rfl, by show (0 : Int) ≤ (tS b E p : Int) + 6; omega, by show (tS b E p : Int) + 6 ≤ 1610; omega, fun z => absurd z (by simp)⟩
  · rw [if_neg c1]
    exact ⟨Or.inr rfl, by show (0 : Int) ≤ (tS b E p : Int); omega, by show (tS b E p : Int) ≤ 1610; omega, fun z => absurd z (by simp)⟩
theorem idxF_b {w : List Int} : ∀ (P : List Pp) (k : Int), 0 ≤ k → idxF w P k = -1 ∨ (k ≤ idxF w P k ∧ idxF w P k < k + P.length)
  | [], k, _ => Or.inl rfl
  | x :: r, k, h => by
    rw [idxF, List.length_cons]
    split
    · exact Or.inr ⟨by omega, by omega⟩
    · rcases idxF_b r (k + 1) (by omega) (w := w) with z | z
      · exact Or.inl z
      · exact Or.inr ⟨by omega, by omega⟩
theorem homeF_b {v : Int} : ∀ (P : List Pp) (k : Int), 0 ≤ k → homeF v P k = -1 ∨ (k ≤ homeF v P k ∧ homeF v P k < k + P.length)
  | [], k, _ => Or.inl rfl
  | x :: r, k, h => by
    rw [homeF, List.length_cons]
    split
    · exact Or.inr ⟨by omega, by omega⟩
    · rcases homeF_b r (k + 1) (by omega) (v := v) with z | z
      · exact Or.inl z
      · exact Or.inr ⟨by omega, by omega⟩
theorem homeF_no {v : Int} : ∀ (P : List Pp) (k : Int), 0 ≤ k → homeF v P k = -1 → ∀ x ∈ P, x.2.1 ≠ v
  | [], _, _, _, x, hx => absurd hx (by simp)
  | y :: r, k, h0, h, x, hx => by
    rw [homeF] at h
    by_cases c : y.2.1 = v
    · rw [if_pos c] at h
      omega
    · rw [if_neg c] at h
      rcases List.mem_cons.mp hx with e | e
      · rw [e]; exact c
      · exact homeF_no r (k + 1) (by omega) h x e
theorem homeF_app {v : Int} {x : Pp} : ∀ (P : List Pp) (k : Int), 0 ≤ k → homeF v (P ++ [x]) k = if homeF v P k = -1 then (if x.2.1 = v then k + P.length else -1) else homeF v P k
  | [], k, h0 => by
    rw [List.nil_append, homeF, homeF, if_pos rfl]
    show (if x.2.1 = v then k else -1) = (if x.2.1 = v then k + ((0 : Nat) : Int) else -1)
    rw [show k + ((0 : Nat) : Int) = k by omega]
  | y :: r, k, h0 => by
    rw [List.cons_append, homeF, homeF, List.length_cons]
    by_cases c : y.2.1 = v
    · rw [if_pos c, if_pos c, if_neg (by omega)]
    · rw [if_neg c, if_neg c, homeF_app r (k + 1) (by omega), show k + 1 + (r.length : Int) = k + ((r.length + 1 : Nat) : Int) by omega]
theorem rAll_app : ∀ (R : List (Int × List Int)) (x : Int × List Int), rAll (R ++ [x]) = rAll R ++ x.2
  | [], x => by
    rw [List.nil_append, rAll, rAll, rAll, List.append_nil, List.nil_append]
  | y :: r, x => by
    rw [List.cons_append, rAll, rAll, rAll_app r x, List.append_assoc]
theorem rOf_app {w : Int} : ∀ (R : List (Int × List Int)) (k : Nat) (x : Int × List Int), rOf w (R ++ [x]) k = match rOf w R k with
    | some y => some y
    | none => if x.1 = w then some (k + (rAll R).length, x.2) else none
  | [], k, x => by
    rw [List.nil_append, rOf, rOf, rOf, rAll]
    rfl
  | y :: r, k, x => by
    rw [List.cons_append, rOf, rOf]
    by_cases c : y.1 = w
    · rw [if_pos c, if_pos c]
    · rw [if_neg c, if_neg c, rOf_app r (k + y.2.length) x, rAll, List.length_append, Nat.add_assoc]
theorem rOf_in {w : Int} {k : Nat} {c : List Int} : ∀ (R : List (Int × List Int)) (j : Nat), rOf w R j = some (k, c) → (w, c) ∈ R ∧ j ≤ k ∧ k + c.length ≤ j + (rAll R).length ∧ ∀ i v, c[i]? = some v → (rAll R)[k - j + i]? = some v
  | [], j, h => by
    rw [rOf] at h
    cases h
  | y :: r, j, h => by
    rw [rOf] at h
    by_cases e : y.1 = w
    · rw [if_pos e] at h
      have h' := Option.some.inj h
      have e1 : j = k := congrArg Prod.fst h'
      have e2 : y.2 = c := congrArg Prod.snd h'
      refine ⟨?_, by omega, ?_, fun i v hv => ?_⟩
      · rw [← e2, ← e]
        exact List.mem_cons_self
      · rw [rAll, List.length_append, e2]
        omega
      · rw [rAll, show k - j + i = i by omega, e2, List.getElem?_append_left (List.getElem?_eq_some_iff.mp hv).1]
        exact hv
    · rw [if_neg e] at h
      obtain ⟨a1, a2, a3, a4⟩ := rOf_in r (j + y.2.length) h
      refine ⟨List.mem_cons_of_mem _ a1, by omega, ?_, fun i v hv => ?_⟩
      · rw [rAll, List.length_append]
        omega
      · have := a4 i v hv
        rw [rAll, List.getElem?_append_right (by omega), show k - j + i - y.2.length = k - (j + y.2.length) + i by omega]
        exact this
end TSO
