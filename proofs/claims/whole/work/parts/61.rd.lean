/-! the grammar of rules and questions, read downward: what both make of a text -/
/-- a fault (kind, place), or where it stands behind, and the codes -/
abbrev RR : Type := Sum (Int × Int) (Nat × Bool × List Int)
/-- the number of the word that stands next, as a value; -1 for none -/
def valW (b : Nat → Int) (E : Nat) (w : Int) (p : Nat) (gl : Bool) : Int :=
  if hasW b E (wordL 319) p gl = true then 0
  else if hasW b E (wordL 320) p gl = true then 1
  else if hasW b E (wordL 321) p gl = true then (if w < 3 then 2 else 11)
  else if hasW b E (wordL 322) p gl = true then 3
  else if hasW b E (wordL 323) p gl = true then 4
  else if hasW b E (wordL 324) p gl = true then 5
  else if hasW b E (wordL 325) p gl = true then 6
  else if hasW b E (wordL 326) p gl = true then (if w < 3 then 7 else 12)
  else if hasW b E (wordL 327) p gl = true then 8
  else if hasW b E (wordL 328) p gl = true then 9
  else if hasW b E (wordL 329) p gl = true then 10
  else -1
def okW (w k : Int) : Bool := if w = 0 then decide (k < 6) else if w = 1 then decide (k < 4 ∨ k = 6) else if w = 2 then decide (k < 4 ∨ k = 7) else decide (k < 2 ∨ k = 3 ∨ k = 4 ∨ 7 < k)
/-- a product's code, or a sum's, by its sign -/
def opP (x : Int) : Int := if x = 42 then 3 else if x = 47 then 4 else 0
def opS (x : Int) : Int := if x = 43 then 1 else if x = 45 then 2 else 0
def opC (x : Int) : Int := if x = 60 then 7 else if x = 62 then 8 else if x = 61 then 9 else 0
def wtL (w : Int) : List Int := if w = 0 then [] else [w]
/-- what: 0 a part, 1 a sum, 2 a sum's rest, 3 a test, 4 a fact, 5 a test's rest; o open ones; wt waits; c codes so far (2, 5) -/
def rd (b : Nat → Int) (E : Nat) (w : Int) : Nat → Nat → Nat → Nat → Bool → Int → List Int → RR
  | 0, _, _, _, _, _, _ => .inl (9, 0)
  | n + 1, what, o, p, gl, wt, c =>
    if what = 0 then
      (if isDg (tB b E p) = true ∧ tG b E p gl = false then
        (if (numT b E 0 9999 p gl).1 = 0 then .inr (tD b E (tS b E p), true, [1000 + (numT b E 0 9999 p gl).2.2]) else .inl ((numT b E 0 9999 p gl).1, (numT b E 0 9999 p gl).2.1))
      else if tB b E p = 40 then
        (if o < 6 then
          (match rd b E w n 1 (o + 1) (tS b E p + 1) false 0 [] with
          | .inl f => .inl f
          | .inr (q, _, c1) => if tB b E q = 41 then .inr (tS b E q + 1, false, c1) else .inl (1, (tS b E q : Int)))
        else .inl (4, (tS b E p : Int)))
      else if 0 ≤ valW b E w p gl ∧ valW b E w p gl ≤ 10 ∧ okW w (valW b E w p gl) = true then .inr (tL b E (tS b E p), true, [40 + valW b E w p gl])
      else if hasW b E (wordL 317) p gl = true ∨ hasW b E (wordL 318) p gl = true then
        (if tB b E (tL b E (tS b E p)) = 40 then
          (if o < 6 then
            (match rd b E w n 1 (o + 1) (tS b E (tL b E (tS b E p)) + 1) false 0 [] with
            | .inl f => .inl f
            | .inr (q, _, c1) =>
              if tB b E q = 44 then
                (match rd b E w n 1 (o + 1) (tS b E q + 1) false 0 [] with
                | .inl f => .inl f
                | .inr (r, _, c2) => if tB b E r = 41 then .inr (tS b E r + 1, false, c1 ++ c2 ++ [if hasW b E (wordL 317) p gl = true then 5 else 6]) else .inl (1, (tS b E r : Int)))
              else .inl (1, (tS b E q : Int)))
          else .inl (4, (tS b E (tL b E (tS b E p)) : Int)))
        else .inl (1, (tS b E (tL b E (tS b E p)) : Int)))
      else if valW b E w p gl = 11 ∨ valW b E w p gl = 12 then
        (if o < 6 then
          (match rd b E w n 0 (o + 1) (tL b E (tS b E p)) true 0 [] with
          | .inl f => .inl f
          | .inr (q, g2, c1) => .inr (q, g2, c1 ++ [if valW b E w p gl = 11 then 60 else 61]))
        else .inl (4, (tS b E p : Int)))
      else .inl (1, (tS b E p : Int)))
    else if what = 1 then
      (match rd b E w n 0 o p gl 0 [] with
      | .inl f => .inl f
      | .inr (q, g2, c1) => rd b E w n 2 o q g2 0 c1)
    else if what = 2 then
      (if opP (tB b E p) ≠ 0 then
        (match rd b E w n 0 o (tS b E p + 1) false 0 [] with
        | .inl f => .inl f
        | .inr (q, g2, c1) => rd b E w n 2 o q g2 wt (c ++ c1 ++ [opP (tB b E p)]))
      else if opS (tB b E p) ≠ 0 then
        (match rd b E w n 0 o (tS b E p + 1) false 0 [] with
        | .inl f => .inl f
        | .inr (q, g2, c1) => rd b E w n 2 o q g2 (opS (tB b E p)) (c ++ wtL wt ++ c1))
      else .inr (p, gl, c ++ wtL wt))
    else if what = 3 then
      (match rd b E w n 4 o p gl 0 [] with
      | .inl f => .inl f
      | .inr (q, g2, c1) => rd b E w n 5 o q g2 0 c1)
    else if what = 4 then
      (if hasW b E (wordL 313) p gl = true then
        (if o < 6 then
          (match rd b E w n 4 (o + 1) (tL b E (tS b E p)) true 0 [] with
          | .inl f => .inl f
          | .inr (q, g2, c1) => .inr (q, g2, c1 ++ [12]))
        else .inl (4, (tS b E p : Int)))
      else if tB b E p = 91 then
        (if o < 6 then
          (match rd b E w n 3 (o + 1) (tS b E p + 1) false 0 [] with
          | .inl f => .inl f
          | .inr (q, _, c1) => if tB b E q = 93 then .inr (tS b E q + 1, false, c1) else .inl (1, (tS b E q : Int)))
        else .inl (4, (tS b E p : Int)))
      else if hasW b E (wordL 316) p gl = true then .inr (tL b E (tS b E p), true, [13])
      else
        (match rd b E w n 1 o p gl 0 [] with
        | .inl f => .inl f
        | .inr (q, _, c1) =>
          if opC (tB b E q) ≠ 0 then
            (match rd b E w n 1 o (tS b E q + 1) false 0 [] with
            | .inl f => .inl f
            | .inr (r, g2, c2) => .inr (r, g2, c1 ++ c2 ++ [opC (tB b E q)]))
          else .inl (1, (tS b E q : Int))))
    else
      (if hasW b E (wordL 314) p gl = true then
        (match rd b E w n 4 o (tL b E (tS b E p)) true 0 [] with
        | .inl f => .inl f
        | .inr (q, g2, c1) => rd b E w n 5 o q g2 wt (c ++ c1 ++ [10]))
      else if hasW b E (wordL 315) p gl = true then
        (match rd b E w n 4 o (tL b E (tS b E p)) true 0 [] with
        | .inl f => .inl f
        | .inr (q, g2, c1) => rd b E w n 5 o q g2 11 (c ++ wtL wt ++ c1))
      else .inr (p, gl, c ++ wtL wt))
