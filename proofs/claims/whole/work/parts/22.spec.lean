/-! the formulas' codes (numbered as the reference numbers them) and what they are worth -/
def clp (v : Int) : Int := if v > 1000000 then 1000000 else if v < -1000000 then -1000000 else v
def jn (c a b : Int) : Int :=
  if c = 1 then clp (a + b) else if c = 2 then clp (a - b) else if c = 3 then clp (a * b) else if c = 4 then (if b = 0 then 0 else a.fdiv b)
  else if c = 5 then min a b else if c = 6 then max a b else if c = 7 then b2 (a < b) else if c = 8 then b2 (b < a) else if c = 9 then b2 (a = b)
  else if c = 10 then a * b else b2 (0 < a + b)
/-- one code on a pile -/
def ev1 (G : Int → Int) (O : Int → Int → Int) (c : Int) (st : List Int) : List Int :=
  if 1000 ≤ c then (c - 1000) :: st
  else if 60 ≤ c then O (c - 60) (st.headD 0) :: st.tail
  else if 40 ≤ c then G (c - 40) :: st
  else if c = 13 then 1 :: st
  else if c = 12 then (1 - st.headD 0) :: st.tail
  else jn c (st.tail.headD 0) (st.headD 0) :: st.tail.tail
def ev (G : Int → Int) (O : Int → Int → Int) : List Int → List Int → List Int
  | [], st => st
  | c :: r, st => ev G O r (ev1 G O c st)
def evv (G : Int → Int) (O : Int → Int → Int) (c : List Int) : Int := (ev G O c []).headD 0
/-- what kinds of value stand on the pile: true for a test's -/
def ty1 (al : Int → Bool) (c : Int) (ts : List Bool) : Option (List Bool) :=
  if 1000 ≤ c then (if c < 11000 ∧ ts.length < 64 then some (false :: ts) else none)
  else if 60 ≤ c then (match ts with
    | false :: r => if c < 62 ∧ al (c - 49) = true then some (false :: r) else none
    | _ => none)
  else if 40 ≤ c then (if c < 51 ∧ al (c - 40) = true ∧ ts.length < 64 then some (false :: ts) else none)
  else if c = 13 then (if ts.length < 64 then some (true :: ts) else none)
  else if c = 12 then (match ts with
    | true :: r => some (true :: r)
    | _ => none)
  else if c = 10 ∨ c = 11 then (match ts with
    | true :: true :: r => some (true :: r)
    | _ => none)
  else if 1 ≤ c ∧ c ≤ 9 then (match ts with
    | false :: false :: r => some (decide (7 ≤ c) :: r)
    | _ => none)
  else none
def tyL (al : Int → Bool) : List Int → List Bool → Option (List Bool)
  | [], ts => some ts
  | c :: r, ts => match ty1 al c ts with
    | none => none
    | some t => tyL al r t
theorem tyL_app {al : Int → Bool} : ∀ {a b : List Int} {ts t : List Bool}, tyL al a ts = some t → tyL al (a ++ b) ts = tyL al b t
  | [], b, ts, t, h => by
    cases h
    rfl
  | c :: r, b, ts, t, h => by
    show (match ty1 al c ts with
      | none => none
      | some t => tyL al (r ++ b) t) = _
    unfold tyL at h
    cases hc : ty1 al c ts with
    | none => rw [hc] at h; cases h
    | some u =>
      rw [hc] at h
      exact tyL_app h
/-- a value is of its kind -/
def vk (b : Bool) (x : Int) : Prop := -1000000 ≤ x ∧ x ≤ 1000000 ∧ (b = true → x = 0 ∨ x = 1)
def Vt : List Bool → List Int → Prop
  | [], [] => True
  | b :: t, x :: r => vk b x ∧ Vt t r
  | _, _ => False
theorem Vt.len : ∀ {t : List Bool} {r : List Int}, Vt t r → r.length = t.length
  | [], [], _ => rfl
  | b :: t, x :: r, h => by
    simp only [List.length_cons]
    rw [Vt.len h.2]
  | [], x :: r, h => h.elim
  | b :: t, [], h => h.elim
theorem clp_b (v : Int) : -1000000 ≤ clp v ∧ clp v ≤ 1000000 := by
  unfold clp
  repeat' split
  all_goals omega
theorem fdiv_b {a b : Int} (h1 : -1000000 ≤ a) (h2 : a ≤ 1000000) (hb : b ≠ 0) : -1000000 ≤ a.fdiv b ∧ a.fdiv b ≤ 1000000 := by
  have e := Int.mul_fdiv_add_fmod a b
  by_cases hp : 0 < b
  · have m1 := Int.fmod_nonneg_of_pos a hp
    have m2 := Int.fmod_lt_of_pos a hp
    constructor
    · by_cases c : a.fdiv b < -1000000
      · exfalso
        have : b * (a.fdiv b) ≤ b * (-1000001) := Int.mul_le_mul_of_nonneg_left (by omega) (by omega)
        have : b * (-1000001) ≤ 1 * (-1000001) := Int.mul_le_mul_of_nonpos_right (by omega) (by omega)
        omega
      · omega
    · by_cases c : 1000000 < a.fdiv b
      · exfalso
        have : b * 1000001 ≤ b * (a.fdiv b) := Int.mul_le_mul_of_nonneg_left (by omega) (by omega)
        have : 1 * 1000001 ≤ b * 1000001 := Int.mul_le_mul_of_nonneg_right (by omega) (by omega)
        omega
      · omega
  · have hn : b < 0 := by omega
    have e2 : a.fdiv b = (-a).fdiv (-b) := (Int.neg_fdiv_neg a b).symm
    have e3 := Int.mul_fdiv_add_fmod (-a) (-b)
    have m1 := Int.fmod_nonneg_of_pos (-a) (show 0 < -b by omega)
    have m2 := Int.fmod_lt_of_pos (-a) (show 0 < -b by omega)
    rw [e2]
    constructor
    · by_cases c : (-a).fdiv (-b) < -1000000
      · exfalso
        have : (-b) * ((-a).fdiv (-b)) ≤ (-b) * (-1000001) := Int.mul_le_mul_of_nonneg_left (by omega) (by omega)
        have : (-b) * (-1000001) ≤ 1 * (-1000001) := Int.mul_le_mul_of_nonpos_right (by omega) (by omega)
        omega
      · omega
    · by_cases c : 1000000 < (-a).fdiv (-b)
      · exfalso
        have : (-b) * 1000001 ≤ (-b) * ((-a).fdiv (-b)) := Int.mul_le_mul_of_nonneg_left (by omega) (by omega)
        have : 1 * 1000001 ≤ (-b) * 1000001 := Int.mul_le_mul_of_nonneg_right (by omega) (by omega)
        omega
      · omega
theorem jn_b {c a b : Int} (h1 : 1 ≤ c) (h2 : c ≤ 9) (ha : vk false a) (hb : vk false b) : vk (decide (7 ≤ c)) (jn c a b) := by
  have k1 := b2_le (a < b); have k2 := b2_le (b < a); have k3 := b2_le (a = b)
  have c1 := clp_b (a + b); have c2 := clp_b (a - b); have c3 := clp_b (a * b)
  unfold vk at *
  unfold jn
  rw [decide_eq_true_eq]
  by_cases hb0 : b = 0
  · repeat' split
    all_goals (refine ⟨?_, ?_, ?_⟩ <;> first | omega | (intro _; exact Or.elim (show b2 (a < b) = 0 ∨ b2 (a < b) = 1 by omega) Or.inl Or.inr))
  · have := fdiv_b ha.1 ha.2.1 hb0
    repeat' split
    all_goals (refine ⟨?_, ?_, ?_⟩ <;> omega)
theorem jn_t {c a b : Int} (h : c = 10 ∨ c = 11) (ha : vk true a) (hb : vk true b) : vk true (jn c a b) ∧ jn c a b = (if c = 10 then min a b else max a b) := by
  unfold vk at *
  have h1 := ha.2.2 rfl
  have h2 := hb.2.2 rfl
  have e : jn c a b = (if c = 10 then min a b else max a b) := by
    unfold jn b2
    rcases h with h | h <;> rcases h1 with h1 | h1 <;> rcases h2 with h2 | h2 <;> (simp [h, h1, h2]; try omega)
  rw [e]
  refine ⟨⟨?_, ?_, ?_⟩, rfl⟩
  · split <;> omega
  · split <;> omega
  · intro _
    split <;> omega
/-- a code that is well typed leaves a pile of its kind -/
theorem ev1_b {al : Int → Bool} {G : Int → Int} {O : Int → Int → Int} (hG : ∀ k, al k = true → -1000000 ≤ G k ∧ G k ≤ 1000000) (hO : ∀ k x, -1000000 ≤ O k x ∧ O k x ≤ 1000000) {c : Int} {ts t : List Bool} {st : List Int} (h : ty1 al c ts = some t) (v : Vt ts st) : Vt t (ev1 G O c st) := by
  unfold ty1 at h
  unfold ev1
  split at h
  · rename_i h1
    rw [if_pos h1]
    split at h
    · cases h
      refine ⟨?_, v⟩
      unfold vk
      exact ⟨by omega, by omega, fun q => by cases q⟩
    · cases h
  · rename_i h1
    rw [if_neg h1]
    split at h
    · rename_i h2
      rw [if_pos h2]
      split at h
      · split at h
        · cases h
          cases st with
          | nil => exact v.elim
          | cons x r =>
            have := hO (c - 60) x
            exact ⟨⟨this.1, this.2, fun q => by cases q⟩, v.2⟩
        · cases h
      · cases h
    · rename_i h2
      rw [if_neg h2]
      split at h
      · rename_i h3
        rw [if_pos h3]
        split at h
        · rename_i h4
          cases h
          have := hG (c - 40) h4.2.1
          exact ⟨⟨this.1, this.2, fun q => by cases q⟩, v⟩
        · cases h
      · rename_i h3
        rw [if_neg h3]
        split at h
        · rename_i h4
          rw [if_pos h4]
          split at h
          · cases h
            refine ⟨?_, v⟩
            unfold vk
            exact ⟨by omega, by omega, fun _ => Or.inr rfl⟩
          · cases h
        · rename_i h4
          rw [if_neg h4]
          split at h
          · rename_i h5
            rw [if_pos h5]
            split at h
            · cases h
              cases st with
              | nil => exact v.elim
              | cons x r =>
                have := v.1
                unfold vk at this
                refine ⟨?_, v.2⟩
                have e := this.2.2 rfl
                show vk true (1 - x)
                unfold vk
                exact ⟨by omega, by omega, fun _ => by omega⟩
            · cases h
          · rename_i h5
            rw [if_neg h5]
            split at h
            · rename_i h6
              split at h
              · cases h
                match st, v with
                | b :: a :: r, v => exact ⟨(jn_t h6 v.2.1 v.1).1, v.2.2⟩
                | [_], v => exact v.2.elim
                | [], v => exact v.elim
              · cases h
            · split at h
              · rename_i h7
                split at h
                · cases h
                  match st, v with
                  | b :: a :: r, v => exact ⟨jn_b h7.1 h7.2 v.2.1 v.1, v.2.2⟩
                  | [_], v => exact v.2.elim
                  | [], v => exact v.elim
                · cases h
              · cases h
theorem ev_b {al : Int → Bool} {G : Int → Int} {O : Int → Int → Int} (hG : ∀ k, al k = true → -1000000 ≤ G k ∧ G k ≤ 1000000) (hO : ∀ k x, -1000000 ≤ O k x ∧ O k x ≤ 1000000) : ∀ {c : List Int} {ts t : List Bool} {st : List Int}, tyL al c ts = some t → Vt ts st → Vt t (ev G O c st)
  | [], ts, t, st, h, v => by
    cases h
    exact v
  | c :: r, ts, t, st, h, v => by
    unfold tyL at h
    cases hc : ty1 al c ts with
    | none => rw [hc] at h; cases h
    | some u =>
      rw [hc] at h
      have h' : tyL al r u = some t := h
      show Vt t (ev G O r (ev1 G O c st))
      exact ev_b hG hO h' (ev1_b hG hO hc v)
/-! people, neighbours, strokes, years: n is the row of all that changes, as the reference lays it -/
def whoF (n : Int → Int) (h : Int) (p : Int) : Nat → Int
  | 0 => -1
  | k + 1 => if n (1 + 3 * p) = h then p else whoF n h (p + 1) k
def who (n : Int → Int) (pm h : Int) : Int := whoF n h 0 pm.toNat
theorem whoF_b {n : Int → Int} {h : Int} : ∀ {k : Nat} {p : Int}, whoF n h p k = -1 ∨ (p ≤ whoF n h p k ∧ whoF n h p k < p + k ∧ n (1 + 3 * whoF n h p k) = h)
  | 0, p => Or.inl rfl
  | k + 1, p => by
    unfold whoF
    by_cases c : n (1 + 3 * p) = h
    · rw [if_pos c]
      exact Or.inr ⟨by omega, by omega, c⟩
    · rw [if_neg c]
      rcases whoF_b (n := n) (h := h) (k := k) (p := p + 1) with e | e
      · exact Or.inl e
      · exact Or.inr ⟨by omega, by omega, e.2.2⟩
theorem who_b {n : Int → Int} {pm h : Int} (hp : 0 ≤ pm) : who n pm h = -1 ∨ (0 ≤ who n pm h ∧ who n pm h < pm ∧ n (1 + 3 * who n pm h) = h) := by
  unfold who
  rcases whoF_b (n := n) (h := h) (k := pm.toNat) (p := 0) with e | e
  · exact Or.inl e
  · exact Or.inr ⟨e.1, by omega, e.2.2⟩
theorem whoF_none {n : Int → Int} {h : Int} : ∀ {k : Nat} {p : Int}, whoF n h p k = -1 → 0 ≤ p → ∀ j, p ≤ j → j < p + k → n (1 + 3 * j) ≠ h
  | 0, p, _, _ => fun j h1 h2 => by omega
  | k + 1, p, e, h0 => fun j h1 h2 => by
    unfold whoF at e
    by_cases c : n (1 + 3 * p) = h
    · rw [if_pos c] at e
      omega
    · rw [if_neg c] at e
      by_cases cj : j = p
      · rw [cj]; exact c
      · exact whoF_none e (by omega) j (by omega) (by omega)
/-- the homes are told apart: who lives there is found -/
theorem who_at {n : Int → Int} {pm : Int} (hd : ∀ p q, 0 ≤ p → p < pm → 0 ≤ q → q < pm → n (1 + 3 * p) = n (1 + 3 * q) → p = q) {p : Int} (h1 : 0 ≤ p) (h2 : p < pm) : who n pm (n (1 + 3 * p)) = p := by
  rcases who_b (n := n) (pm := pm) (h := n (1 + 3 * p)) (by omega) with e | e
  · exact absurd rfl (whoF_none (n := n) (h := n (1 + 3 * p)) (k := pm.toNat) (p := 0) e (by omega) p h1 (by omega))
  · exact hd _ _ e.1 e.2.1 h1 h2 e.2.2
theorem whoF_congr {n m : Int → Int} {h : Int} : ∀ {k : Nat} {p : Int}, (∀ j, p ≤ j → j < p + k → n (1 + 3 * j) = m (1 + 3 * j)) → whoF n h p k = whoF m h p k
  | 0, p, _ => rfl
  | k + 1, p, e => by
    unfold whoF
    rw [e p (by omega) (by omega), whoF_congr (fun j h1 h2 => e j (by omega) (by omega))]
theorem who_congr {n m : Int → Int} {pm h : Int} (e : ∀ j, 0 ≤ j → j < pm → n (1 + 3 * j) = m (1 + 3 * j)) : who n pm h = who m pm h := whoF_congr (fun j h1 h2 => e j h1 (by omega))
def nb (n : Int → Int) (pm p side : Int) : Int := who n pm (n (1 + 3 * p) + (if side = 0 then -1 else 1))
def cutTo (v most : Int) : Int := if v < 0 then 0 else if most < v then most else v
theorem cutTo_b {v m : Int} (hm : 0 ≤ m) : 0 ≤ cutTo v m ∧ cutTo v m ≤ m := by
  unfold cutTo
  repeat' split
  all_goals omega
def Gp (fc kd n : Int → Int) (s q side : Int) : Int → Int := fun k => if k = 0 then fc s else if k = 1 then kd q else if k = 2 then n (25 + 8 * q + s) else if k = 3 then n 0 else if k = 4 then n (2 + 3 * s) else side
def Gm (fc kd n : Int → Int) (s q gain : Int) : Int → Int := fun k => if k = 0 then fc q else if k = 1 then kd s else if k = 2 then n (25 + 8 * s + q) else if k = 3 then n 0 else gain
def Gf (fc kd n : Int → Int) (a b : Int) : Int → Int := fun k => if k = 0 then fc b else if k = 1 then kd a else if k = 2 then n (25 + 8 * a + b) else if k = 3 then n 0 else n (25 + 8 * b + a)
def Gq (fc kd n : Int → Int) (i : Int) : Int → Int := fun k => if k = 0 then fc i else if k = 1 then kd i else if k = 3 then n 0 else if k = 4 then n (2 + 3 * i) else if k = 8 then i else if k = 9 then n (1 + 3 * i) else n (3 + 3 * i)
def Oq (n : Int → Int) (pm i : Int) : Int → Int → Int := fun w x => if (0 ≤ x ∧ x < pm) ∧ x ≠ i then (if w = 0 then n (25 + 8 * i + x) else n (25 + 8 * x + i)) else 0
def O0 : Int → Int → Int := fun _ _ => 0
def paint (cp : List Int) (fc kd n : Int → Int) (s q side : Int) : Int := cutTo (evv (Gp fc kd n s q side) O0 cp) 99
def mindS (cm : List Int) (fc kd n : Int → Int) (s q gain : Int) : Int := cutTo (evv (Gm fc kd n s q gain) O0 cm) 9
def feudS (cf : List Int) (fc kd n : Int → Int) (a b : Int) : Prop := evv (Gf fc kd n a b) O0 cf = 1
def strokeS (cp cm : List Int) (pm : Int) (fc kd n : Int → Int) (s side : Int) : Int → Int :=
  if nb n pm s side = -1 ∨ n (3 + 3 * nb n pm s side) = 1 then n
  else up (up n (2 + 3 * s) (paint cp fc kd n s (nb n pm s side) side)) (25 + 8 * s + nb n pm s side) (mindS cm fc kd (up n (2 + 3 * s) (paint cp fc kd n s (nb n pm s side) side)) s (nb n pm s side) (paint cp fc kd n s (nb n pm s side) side - n (2 + 3 * s)))
/-- the curtain that a stroke brings: one or none -/
def curtS (cp : List Int) (pm : Int) (fc kd n : Int → Int) (s side : Int) : List (Int × Int × Int) :=
  if nb n pm s side = -1 ∨ n (3 + 3 * nb n pm s side) = 1 then []
  else if paint cp fc kd n s (nb n pm s side) side = 0 ∧ 0 < n (2 + 3 * s) then [(n 0, s, nb n pm s side)] else []
/-- the houses from h on, k of them: the row and the curtains behind it -/
def houseS (cp cm : List Int) (pm : Int) (fc kd : Int → Int) : Nat → Int → (Int → Int) → (Int → Int) × List (Int × Int × Int)
  | 0, _, n => (n, [])
  | k + 1, h, n =>
    if who n pm h = -1 then houseS cp cm pm fc kd k (h + 1) n
    else
      let n1 := strokeS cp cm pm fc kd n (who n pm h) 0
      let n2 := strokeS cp cm pm fc kd n1 (who n pm h) 1
      let r := houseS cp cm pm fc kd k (h + 1) n2
      (r.1, curtS cp pm fc kd n (who n pm h) 0 ++ curtS cp pm fc kd n1 (who n pm h) 1 ++ r.2)
def yearS (cp cm : List Int) (hm pm : Int) (fc kd n : Int → Int) : (Int → Int) × List (Int × Int × Int) :=
  let r := houseS cp cm pm fc kd hm.toNat 0 n
  (up r.1 0 (r.1 0 + 1), r.2)
def yearsS (cp cm : List Int) (hm pm : Int) (fc kd : Int → Int) : Nat → (Int → Int) → (Int → Int) × List (Int × Int × Int)
  | 0, n => (n, [])
  | k + 1, n =>
    let r := yearS cp cm hm pm fc kd n
    let t := yearsS cp cm hm pm fc kd k r.1
    (t.1, r.2 ++ t.2)
