/-! what holds between the two before and after every call -/
abbrev Past : Type := List ((Int → Int) × Evs)
def EvOK (ev : Evs) : Prop := ∀ e ∈ ev, (0 ≤ e.1 ∧ e.1 ≤ 2000) ∧ (0 ≤ e.2.1 ∧ e.2.1 < 8) ∧ (0 ≤ e.2.2 ∧ e.2.2 < 8)
def KeptF (f : Nat → Int) (ev : Evs) : Prop := f 89 = ((min ev.length 40 : Nat) : Int) ∧ ∀ i, i < min ev.length 40 → ∀ e, ev[ev.length - min ev.length 40 + i]? = some e → f (90 + 3 * i) = e.1 ∧ f (91 + 3 * i) = e.2.1 ∧ f (92 + 3 * i) = e.2.2
theorem KeptF.congr {f g : Nat → Int} {ev : Evs} (r : KeptF f ev) (e : ∀ k, 89 ≤ k → k < 210 → g k = f k) : KeptF g ev := by
  refine ⟨(e 89 (by omega) (by omega)).trans r.1, fun i hi x hx => ?_⟩
  rw [e _ (by omega) (by omega), e _ (by omega) (by omega), e _ (by omega) (by omega)]
  exact r.2 i hi x hx
theorem KeptR_F {h : mm_H} {ev : Evs} : KeptR h ev ↔ KeptF (fun k => fd h 300 k) ev := Iff.rfl
/-- tape, faults, refusals, chance -/
def IvM (h : mm_H) : Prop := fd h 1 1 = fd h 264 1 ∧ (0 ≤ fd h 264 1 ∧ fd h 264 1 ≤ 1600) ∧ (∀ j : Nat, (j : Int) < fd h 264 1 → fd h 2 j = fd h 265 j ∧ 0 ≤ fd h 265 j ∧ fd h 265 j ≤ 255) ∧ (fd h 3 5 = fd h 264 7 ∧ fd h 3 6 = fd h 264 8) ∧ (∀ k, k < 6 → fd h 229 k = fd h 266 k) ∧ fd h 0 13 = fl h 264 75 ∧ 0 ≤ fl h 264 75
/-- the terrace and its scene -/
def IvW (h : mm_H) (i : Int) (t : Nat) (st pm hm : Int) (fc kd : Int → Int) (cp cm cf : List Int) (n : Int → Int) (ev : Evs) : Prop :=
  (mm_isT t ∧ h.2.2 0 10 = t ∧ h.2.2 0 11 = 477 - t) ∧ ((st = 0 ∨ st = 1) ∧ fd h 0 12 = st ∧ fd h 264 53 = st ∧ (st = 0 → pm = 0 ∧ hm = 0) ∧ (st = 1 → CT h t cp cm cf)) ∧ RT h pm hm fc kd cp cm cf ∧ RepR h n ∧ NI pm hm n ∧ FK pm fc kd ∧ (0 ≤ n 0 ∧ n 0 ≤ 999) ∧ SR h 13 pm hm fc kd n ∧ fd h 264 64 = 0 ∧ (KeptC h 13 ev ∧ KeptR h ev ∧ EvOK ev ∧ (ev.length : Int) ≤ 300 * i) ∧ (0 ≤ fd h 264 65 ∧ fd h 264 65 ≤ 20000 * i) ∧ (fd h t 3 = fd h 264 47 ∧ 0 ≤ fd h 264 47 ∧ fd h 264 47 ≤ 100) ∧ (0 ≤ i ∧ i ≤ 3072)
/-- the scenes kept for undo -/
def IvH (h : mm_H) (i pm hm : Int) (fc kd : Int → Int) (past : Past) : Prop := past.length ≤ 20 ∧ fd h 22 2 = (past.length : Int) ∧ fd h 264 73 = (past.length : Int) ∧ ∃ x : Nat, x < 20 ∧ fd h 22 1 = (x : Int) ∧ fd h 264 74 = (x : Int) ∧ ∀ j, j < past.length → ∀ m e, past[j]? = some (m, e) → SR h (24 + 9 * ((x + 19 - j) % 20)) pm hm fc kd m ∧ KeptC h (24 + 9 * ((x + 19 - j) % 20)) e ∧ (∀ z : Nat, z < 89 → fd h 306 (210 * ((x + 20 - j) % 20) + z) = m z) ∧ KeptF (fun k => fd h 306 (210 * ((x + 20 - j) % 20) + k)) e ∧ NI pm hm m ∧ (0 ≤ m 0 ∧ m 0 ≤ 999) ∧ EvOK e ∧ (e.length : Int) ≤ 300 * i
/-- what was seen -/
def IvS (h : mm_H) (pm : Int) : Prop := fd h 204 2 = fd h 264 67 ∧ (0 ≤ fd h 264 67 ∧ fd h 264 67 ≤ 16) ∧ (∀ k : Nat, (k : Int) < 3 * fd h 264 67 → fd h 214 k = fd h 303 k) ∧ ∀ r : Nat, (r : Int) < fd h 264 67 → (0 ≤ fd h 303 (3 * r) ∧ fd h 303 (3 * r) ≤ 30) ∧ (0 ≤ fd h 303 (3 * r + 1) ∧ fd h 303 (3 * r + 1) < pm) ∧ (0 ≤ fd h 303 (3 * r + 2) ∧ fd h 303 (3 * r + 2) ≤ 99)
/-- the image -/
def IvP (h : mm_H) : Prop := fd h 218 1 = fd h 264 112 ∧ (0 ≤ fd h 264 112 ∧ fd h 264 112 ≤ 83) ∧ ∀ k : Nat, (k : Int) < fd h 264 112 → fd h 219 k = fd h 335 k
/-- a name: its letters, and its number -/
def NmOK (v : Int) (f : Nat → Int) (w : List Int) : Prop := 1 ≤ w.length ∧ w.length ≤ 6 ∧ (∀ x ∈ w, 1 ≤ x ∧ x ≤ 26) ∧ v = w.foldl (fun a x => 27 * a + x) 0 ∧ ∀ k, k < 6 → f k = w.getD k 0
/-- the words that the reference compares with, by their rows -/
def wordL : Nat → List Int
  | 267 => [116, 101, 114, 114, 97, 99, 101]
  | 268 => [115, 111, 117, 108]
  | 269 => [97, 116]
  | 270 => [102, 97, 99, 101]
  | 271 => [107, 105, 110, 100]
  | 272 => [116, 104, 105, 110, 107, 115]
  | 273 => [111, 102]
  | 274 => [112, 97, 105, 110, 116, 115]
  | 275 => [109, 105, 110, 100, 115]
  | 276 => [102, 101, 117, 100]
  | 277 => [115, 108, 105, 112]
  | 278 => [108, 111, 111, 107]
  | 279 => [115, 105, 100, 101]
  | 280 => [103, 97, 105, 110]
  | 281 => [98, 97, 99, 107]
  | 282 => [121, 101, 97, 114]
  | 283 => [110, 117, 109, 98, 101, 114]
  | 284 => [104, 111, 117, 115, 101]
  | 285 => [115, 112, 97, 114, 101, 115]
  | 286 => [111, 114]
  | 287 => [97, 110, 100]
  | 288 => [110, 111, 116]
  | 289 => [97, 108, 108]
  | 290 => [109, 105, 110]
  | 291 => [109, 97, 120]
  | 307 => [102, 105, 114, 115, 116]
  | 308 => [108, 97, 115, 116]
  | 309 => [111, 102, 116, 101, 110]
  | 310 => [116, 111, 116, 97, 108]
  | 311 => [109, 111, 115, 116]
  | 312 => [108, 101, 97, 115, 116]
  | 313 => [110, 111, 116]
  | 314 => [97, 110, 100]
  | 315 => [111, 114]
  | 316 => [97, 108, 108]
  | 317 => [109, 105, 110]
  | 318 => [109, 97, 120]
  | 319 => [102, 97, 99, 101]
  | 320 => [107, 105, 110, 100]
  | 321 => [116, 104, 105, 110, 107, 115]
  | 322 => [121, 101, 97, 114]
  | 323 => [108, 111, 111, 107]
  | 324 => [115, 105, 100, 101]
  | 325 => [103, 97, 105, 110]
  | 326 => [98, 97, 99, 107]
  | 327 => [110, 117, 109, 98, 101, 114]
  | 328 => [104, 111, 117, 115, 101]
  | 329 => [115, 112, 97, 114, 101, 115]
  | 330 => [116, 104, 105, 110, 107, 115]
  | 331 => [98, 97, 99, 107]
  | _ => []
def IvK (h : mm_H) : Prop := ∀ a, ((267 ≤ a ∧ a ≤ 291) ∨ (307 ≤ a ∧ a ≤ 331)) → ∀ k v, (wordL a)[k]? = some v → fd h a k = v
def IvN (h : mm_H) (t : Nat) (pm : Int) : Prop := fd h (t + 1) 10 = pm ∧ (∀ p : Nat, (p : Int) < pm → ∃ w, NmOK (fl h 292 (8 + p)) (fun k => fd h (t + 16) (6 * p + k)) w) ∧ IvK h
def Inv (h : mm_H) (i : Int) : Prop := ∃ (t : Nat) (st pm hm : Int) (fc kd : Int → Int) (cp cm cf : List Int) (n : Int → Int) (ev : Evs) (past : Past), IvM h ∧ IvW h i t st pm hm fc kd cp cm cf n ev ∧ IvH h i pm hm fc kd past ∧ IvS h pm ∧ IvP h ∧ IvN h t pm
/-- cells that mean nothing between calls -/
def Scr (t : Nat) : Nat → Nat → Prop := fun a k => (a = 204 ∧ k ≠ 2) ∨ (205 ≤ a ∧ a ≤ 213) ∨ (215 ≤ a ∧ a ≤ 217) ∨ (220 ≤ a ∧ a ≤ 228) ∨ a = t + 14 ∨ a = t + 15 ∨ (a = t + 10 ∧ k = 6) ∨ (a = 264 ∧ (k = 108 ∨ k = 54 ∨ (57 ≤ k ∧ k ≤ 65) ∨ k = 71)) ∨ (301 ≤ a ∧ a ≤ 302) ∨ a = 304 ∨ a = 305
theorem isT_or {t : Nat} (h : mm_isT t) : t = 230 ∨ t = 247 := by
  have : ∀ x ∈ [230, 247], x = 230 ∨ x = 247 := by decide
  exact this t h
theorem isT_230 : mm_isT 230 := by
  show 230 ∈ [230, 247]
  decide
theorem isT_247 : mm_isT 247 := by
  show 247 ∈ [230, 247]
  decide
theorem isS_13 : mm_isS 13 := by
  show 13 ∈ mm_scs
  decide
theorem isS_205 : mm_isS 205 := by
  show 205 ∈ mm_scs
  decide
theorem isS_220 : mm_isS 220 := by
  show 220 ∈ mm_scs
  decide
theorem isS_past {j : Nat} (h : j < 20) : mm_isS (24 + 9 * j) := by
  have : ∀ x, x < 20 → (24 + 9 * x) ∈ mm_scs := by decide
  exact this j h
/-- cells that each part of it reads -/
def NM : Nat → Nat → Prop := fun a k => (a = 1 ∧ k = 1) ∨ a = 2 ∨ (a = 3 ∧ (k = 5 ∨ k = 6)) ∨ a = 229 ∨ (a = 0 ∧ k = 13) ∨ (a = 264 ∧ (k = 1 ∨ k = 7 ∨ k = 8)) ∨ a = 265 ∨ a = 266
def NC (t : Nat) : Nat → Nat → Prop := fun a k => (a = t ∧ k = 3) ∨ a = t + 11 ∨ a = t + 12 ∨ a = t + 13 ∨ (a = t + 10 ∧ k = 5)
def NR (pm : Int) : Nat → Nat → Prop := fun a k => (a = 264 ∧ (k = 38 ∨ k = 40)) ∨ ((a = 294 ∨ a = 295) ∧ 8 ≤ k ∧ (k : Int) < 8 + pm) ∨ ((a = 297 ∨ a = 298) ∧ 3 ≤ k) ∨ (a = 299 ∧ 1600 ≤ k)
def NW (t : Nat) (pm : Int) : Nat → Nat → Prop := fun a k => (a = 0 ∧ k = 12) ∨ (13 ≤ a ∧ a ≤ 21) ∨ NC t a k ∨ NR pm a k ∨ (a = 264 ∧ (k = 47 ∨ k = 53)) ∨ a = 300
def NH : Nat → Nat → Prop := fun a k => (a = 22 ∧ (k = 1 ∨ k = 2)) ∨ (24 ≤ a ∧ a ≤ 203) ∨ (a = 264 ∧ (k = 73 ∨ k = 74)) ∨ a = 306
def NS : Nat → Nat → Prop := fun a k => (a = 204 ∧ k = 2) ∨ a = 214 ∨ (a = 264 ∧ k = 67) ∨ a = 303
def NP : Nat → Nat → Prop := fun a k => (a = 218 ∧ k = 1) ∨ a = 219 ∨ (a = 264 ∧ k = 112) ∨ a = 335
def Nnm (t : Nat) : Nat → Nat → Prop := fun a k => a = t + 16 ∨ (a = t + 1 ∧ k = 10) ∨ (267 ≤ a ∧ a ≤ 291) ∨ (307 ≤ a ∧ a ≤ 331)
section INV
variable {h h' : mm_H} {i i' : Int} {t : Nat} {st pm hm : Int} {fc kd n : Int → Int} {cp cm cf : List Int} {ev : Evs} {past : Past} {Q L : Nat → Nat → Prop}
theorem IvM.kf (I : IvM h) (k : Kf Q L h h') (q : ∀ a j, NM a j → ¬ Q a j) (l : ¬ L 264 75) : IvM h' := by
  obtain ⟨a1, a2, a3, a4, a5, a6, a7⟩ := I
  have z : ∀ a j, NM a j → fd h' a j = fd h a j := fun a j x => k.1 a j (q a j x)
  have e1 : fd h' 264 1 = fd h 264 1 := z 264 1 (by unfold NM; omega)
  have e2 : fl h' 264 75 = fl h 264 75 := k.2.1 264 75 l
  refine ⟨?_, ?_, ?_, ⟨?_, ?_⟩, ?_, ?_, ?_⟩
  · rw [e1, z 1 1 (by unfold NM; omega)]; exact a1
  · rw [e1]; exact a2
  · rw [e1]
    intro j hj
    rw [z 2 j (by unfold NM; omega), z 265 j (by unfold NM; omega)]
    exact a3 j hj
  · rw [z 3 5 (by unfold NM; omega), z 264 7 (by unfold NM; omega)]; exact a4.1
  · rw [z 3 6 (by unfold NM; omega), z 264 8 (by unfold NM; omega)]; exact a4.2
  · intro j hj
    rw [z 229 j (by unfold NM; omega), z 266 j (by unfold NM; omega)]
    exact a5 j hj
  · rw [e2, z 0 13 (by unfold NM; omega)]; exact a6
  · rw [e2]; exact a7
theorem SR.kf {s : Nat} (S : SR h s pm hm fc kd n) (k : Kf Q L h h') (q : ∀ a j, s ≤ a → a ≤ s + 8 → ¬ Q a j) : SR h' s pm hm fc kd n := S.congr (fun a j a1 a2 => k.1 a j (q a j a1 (by omega)))
theorem KeptC.kf {s : Nat} (K : KeptC h s ev) (k : Kf Q L h h') (q : ∀ a j, s ≤ a → a ≤ s + 8 → ¬ Q a j) : KeptC h' s ev := K.congr (k.1 s 8 (q s 8 (by omega) (by omega))) (fun j => k.1 (s + 8) j (q _ _ (by omega) (by omega)))
theorem CT.kf2 (r : CT h t cp cm cf) (k : Kf Q L h h') (q : ∀ a j, Q a j → a ≠ t + 10 + 1 ∧ a ≠ t + 10 + 2 ∧ a ≠ t + 10 + 3 ∧ (a = t + 10 → j ≠ 5)) : CT h' t cp cm cf := ⟨r.1.kf k q, r.2.1.kf k q, r.2.2.kf k q⟩
theorem CT.kf3 (r : CT h t cp cm cf) (k : Kf Q L h h') (q : ∀ a j, NC t a j → ¬ Q a j) : CT h' t cp cm cf := r.kf2 k (fun a j x => ⟨fun y => q a j (by unfold NC; omega) x, fun y => q a j (by unfold NC; omega) x, fun y => q a j (by unfold NC; omega) x, fun y z => q a j (by unfold NC; omega) x⟩)
theorem CdR.congr2 (e : ∀ k, 1600 ≤ k → fd h' 299 k = fd h 299 k) : ∀ {c : List Int} {k : Int}, 0 ≤ k → CdR h k c → CdR h' k c
  | [], _, _, _ => trivial
  | _ :: _, k, k0, x => ⟨(e _ (by omega)).trans x.1, CdR.congr2 e (by omega) x.2⟩
theorem RuleR.kf2 {pm : Int} {w : Int} {c : List Int} (w0 : 0 ≤ w) (r : RuleR h w c) (k : Kf Q L h h') (q : ∀ a j, NR pm a j → ¬ Q a j) : RuleR h' w c := by
  have e7 : fd h' 297 (3 + w).toNat = fd h 297 (3 + w).toNat := k.1 297 _ (q _ _ (by unfold NR; omega))
  have e8 : fd h' 298 (3 + w).toNat = fd h 298 (3 + w).toNat := k.1 298 _ (q _ _ (by unfold NR; omega))
  have e9 : ∀ j, 1600 ≤ j → fd h' 299 j = fd h 299 j := fun j hj => k.1 299 j (q _ _ (by unfold NR; omega))
  refine ⟨r.1, ?_⟩
  rw [e7, e8]
  rcases r.2 with x | ⟨f, x1, x2, x3, x4, x5⟩
  · exact Or.inl x
  · exact Or.inr ⟨f, x1, x2, x3, x4, x5.congr2 e9 x1⟩
theorem RT.kf2 (r : RT h pm hm fc kd cp cm cf) (k : Kf Q L h h') (q : ∀ a j, NR pm a j → ¬ Q a j) : RT h' pm hm fc kd cp cm cf := by
  refine ⟨?_, ?_, ?_, r.2.2.2.1.kf2 (by omega) k q, r.2.2.2.2.1.kf2 (by omega) k q, r.2.2.2.2.2.kf2 (by omega) k q⟩
  · rw [k.1 264 40 (q _ _ (by unfold NR; omega))]
    exact r.1
  · rw [k.1 264 38 (q _ _ (by unfold NR; omega))]
    exact r.2.1
  · intro p p1 p2
    have := r.2.2.1 p p1 p2
    unfold fcR kdR at *
    rw [k.1 294 _ (q _ _ (by unfold NR; omega)), k.1 295 _ (q _ _ (by unfold NR; omega))]
    exact this
theorem IvW.kf (I : IvW h i t st pm hm fc kd cp cm cf n ev) (k : Kf Q L h h') (q : ∀ a j, NW t pm a j → ¬ Q a j) (e64 : fd h' 264 64 = 0) (e65 : 0 ≤ fd h' 264 65 ∧ fd h' 264 65 ≤ 20000 * i') (hi : i ≤ i') (hi2 : i' ≤ 3072) : IvW h' i' t st pm hm fc kd cp cm cf n ev := by
  obtain ⟨b1, b2', b3, b4, b5, b6, b7, b8, b9, b10, b11, b12, b13⟩ := I
  have z : ∀ a j, NW t pm a j → fd h' a j = fd h a j := fun a j x => k.1 a j (q a j x)
  refine ⟨⟨b1.1, ?_, ?_⟩, ⟨b2'.1, ?_, ?_, b2'.2.2.2.1, fun x => (b2'.2.2.2.2 x).kf3 k ?_⟩, b3.kf2 k ?_, ?_, b5, b6, b7, b8.kf k ?_, e64, ⟨b10.1.kf k ?_, b10.2.1.congr ?_, b10.2.2.1, by omega⟩, e65, ?_, by omega, hi2⟩
  · rw [k.2.2]; exact b1.2.1
  · rw [k.2.2]; exact b1.2.2
  · rw [z 0 12 (by unfold NW; omega)]; exact b2'.2.1
  · rw [z 264 53 (by unfold NW; omega)]; exact b2'.2.2.1
  · intro a j x; exact q a j (Or.inr (Or.inr (Or.inl x)))
  · intro a j x; exact q a j (Or.inr (Or.inr (Or.inr (Or.inl x))))
  · intro y z1 z2
    show fd h' 300 y.toNat = _
    rw [z 300 _ (by unfold NW; omega)]
    exact b4 y z1 z2
  · intro a j a1 a2; exact q a j (by unfold NW; omega)
  · intro a j a1 a2; exact q a j (by unfold NW; omega)
  · intro j hj; exact z 300 j (by unfold NW; omega)
  · rw [z t 3 (by unfold NW NC; omega), z 264 47 (by unfold NW; omega)]; exact b12
theorem IvH.kf (I : IvH h i pm hm fc kd past) (k : Kf Q L h h') (q : ∀ a j, NH a j → ¬ Q a j) (hi : i ≤ i') : IvH h' i' pm hm fc kd past := by
  obtain ⟨a1, a2, a3, x, a4, a5, a6, a7⟩ := I
  have y : ∀ a j, NH a j → fd h' a j = fd h a j := fun a j x => k.1 a j (q a j x)
  refine ⟨a1, ?_, ?_, x, a4, ?_, ?_, fun j hj m e he => ?_⟩
  · rw [y 22 2 (by unfold NH; omega)]; exact a2
  · rw [y 264 73 (by unfold NH; omega)]; exact a3
  · rw [y 22 1 (by unfold NH; omega)]; exact a5
  · rw [y 264 74 (by unfold NH; omega)]; exact a6
  · obtain ⟨c1, c2, c3, c4, c5, c6, c7, c8⟩ := a7 j hj m e he
    have hm : (x + 19 - j) % 20 < 20 := Nat.mod_lt _ (by omega)
    refine ⟨c1.kf k ?_, c2.kf k ?_, fun z hz => ?_, c4.congr (fun z _ _ => ?_), c5, c6, c7, by omega⟩
    · intro a j a1 a2; exact q a j (by unfold NH; omega)
    · intro a j a1 a2; exact q a j (by unfold NH; omega)
    · rw [y 306 _ (by unfold NH; omega)]; exact c3 z hz
    · exact y 306 _ (by unfold NH; omega)
theorem IvS.kf (I : IvS h pm) (k : Kf Q L h h') (q : ∀ a j, NS a j → ¬ Q a j) : IvS h' pm := by
  have y : ∀ a j, NS a j → fd h' a j = fd h a j := fun a j x => k.1 a j (q a j x)
  have e1 : fd h' 264 67 = fd h 264 67 := y 264 67 (by unfold NS; omega)
  have e2 : ∀ j, fd h' 303 j = fd h 303 j := fun j => y 303 j (by unfold NS; omega)
  refine ⟨?_, ?_, ?_, ?_⟩
  · rw [e1, y 204 2 (by unfold NS; omega)]; exact I.1
  · rw [e1]; exact I.2.1
  · rw [e1]
    intro j hj
    rw [e2, y 214 j (by unfold NS; omega)]
    exact I.2.2.1 j hj
  · rw [e1]
    intro r hr
    rw [e2, e2, e2]
    exact I.2.2.2 r hr
theorem IvP.kf (I : IvP h) (k : Kf Q L h h') (q : ∀ a j, NP a j → ¬ Q a j) : IvP h' := by
  have y : ∀ a j, NP a j → fd h' a j = fd h a j := fun a j x => k.1 a j (q a j x)
  have e1 : fd h' 264 112 = fd h 264 112 := y 264 112 (by unfold NP; omega)
  refine ⟨?_, ?_, ?_⟩
  · rw [e1, y 218 1 (by unfold NP; omega)]; exact I.1
  · rw [e1]; exact I.2.1
  · rw [e1]
    intro j hj
    rw [y 219 j (by unfold NP; omega), y 335 j (by unfold NP; omega)]
    exact I.2.2 j hj
theorem IvN.kf (I : IvN h t pm) (k : Kf Q L h h') (q : ∀ a j, Nnm t a j → ¬ Q a j) (l : ∀ j, 8 ≤ j → ¬ L 292 j) : IvN h' t pm := by
  refine ⟨(k.1 _ _ (q _ _ (by unfold Nnm; omega))).trans I.1, fun p hp => ?_, fun a ha j v hv => (k.1 _ _ (q _ _ (by unfold Nnm; omega))).trans (I.2.2 a ha j v hv)⟩
  obtain ⟨w, w1, w2, w3, w4, w5⟩ := I.2.1 p hp
  refine ⟨w, w1, w2, w3, ?_, fun j hj => ?_⟩
  · rw [k.2.1 292 _ (l _ (by omega))]; exact w4
  · show fd h' (t + 16) (6 * p + j) = _
    rw [k.1 (t + 16) _ (q _ _ (by unfold Nnm; omega))]; exact w5 j hj
/-- all but the machine's own cells stays -/
def Mac (t : Nat) (pm : Int) : Nat → Nat → Prop := fun a k => ¬ (NW t pm a k ∨ NH a k ∨ NS a k ∨ NP a k ∨ Nnm t a k ∨ (a = 264 ∧ (k = 64 ∨ k = 65)))
def LMc : Nat → Nat → Prop := fun a k => ¬ (a = 292 ∧ 8 ≤ k)
theorem Inv.mac (M' : IvM h') (W : IvW h i t st pm hm fc kd cp cm cf n ev) (H : IvH h i pm hm fc kd past) (S : IvS h pm) (P : IvP h) (N : IvN h t pm) (k : Kf (Mac t pm) LMc h h') (hi : i + 6 ≤ 3072) : Inv h' (i + 6) := by
  have b9 := W.2.2.2.2.2.2.2.2.1
  have b11 := W.2.2.2.2.2.2.2.2.2.2.1
  have e64 : fd h' 264 64 = 0 := (k.1 264 64 (by unfold Mac; omega)).trans b9
  have e65 : fd h' 264 65 = fd h 264 65 := k.1 264 65 (by unfold Mac; omega)
  exact ⟨t, st, pm, hm, fc, kd, cp, cm, cf, n, ev, past, M', W.kf k (fun a j x => fun y => y (Or.inl x)) e64 (by omega) (by omega) hi, H.kf k (fun a j x => fun y => y (Or.inr (Or.inl x))) (by omega), S.kf k (fun a j x => fun y => y (Or.inr (Or.inr (Or.inl x)))), P.kf k (fun a j x => fun y => y (Or.inr (Or.inr (Or.inr (Or.inl x))))), N.kf k (fun a j x => fun y => y (Or.inr (Or.inr (Or.inr (Or.inr (Or.inl x)))))) (fun j hj y => y ⟨rfl, hj⟩)⟩
theorem Inv.of (M : IvM h) (W : IvW h i t st pm hm fc kd cp cm cf n ev) (H : IvH h i pm hm fc kd past) (S : IvS h pm) (P : IvP h) (N : IvN h t pm) (k : Kf (Scr t) LE3 h h') (e64 : fd h' 264 64 = 0) (e65 : 0 ≤ fd h' 264 65 ∧ fd h' 264 65 ≤ fd h 264 65 + 120000) (hi : i + 6 ≤ 3072) : Inv h' (i + 6) := by
  have tt := isT_or W.1.1
  have b11 := W.2.2.2.2.2.2.2.2.2.2.1
  exact ⟨t, st, pm, hm, fc, kd, cp, cm, cf, n, ev, past, M.kf k (by intro a j; unfold NM Scr; omega) (by unfold LE3; omega), W.kf k (by intro a j; unfold NW NC NR Scr; omega) e64 (by omega) (by omega) hi, H.kf k (by intro a j; unfold NH Scr; omega) (by omega), S.kf k (by intro a j; unfold NS Scr; omega), P.kf k (by intro a j; unfold NP Scr; omega), N.kf k (by intro a j; unfold Nnm Scr; omega) (by intro j hj; unfold LE3; omega)⟩
theorem Inv.next (I : Inv h i) (hi : i + 6 ≤ 3072) : Inv h (i + 6) := by
  obtain ⟨t, st, pm, hm, fc, kd, cp, cm, cf, n, ev, past, M, W, H, S, P, N⟩ := I
  have b9 := W.2.2.2.2.2.2.2.2.1
  have b11 := W.2.2.2.2.2.2.2.2.2.2.1
  exact Inv.of M W H S P N Kf.refl b9 (by omega) hi
/-- a call of the one and of the other: the same answer, and all holds on -/
def CallI (c r : Nat) (as : List Value) : Prop := ∀ (d : Nat) (h : mm_H) (i : Int), Inv h i → i + 6 ≤ 3072 → ∃ v h1 h2, mm_M mm_T0 (d + 40) c (.ref 0 :: as) h = some (some (.int v), h1) ∧ mm_M mm_T0 (d + 40) r (.ref 264 :: as) h1 = some (some (.int v), h2) ∧ Inv h2 (i + 6)
theorem CallI.same {c r : Nat} {as : List Value} (H : ∀ (d : Nat) (h : mm_H) (i : Int), Inv h i → ∃ v, mm_M mm_T0 (d + 40) c (.ref 0 :: as) h = some (some (.int v), h) ∧ mm_M mm_T0 (d + 40) r (.ref 264 :: as) h = some (some (.int v), h)) : CallI c r as := by
  intro d h i I hi
  obtain ⟨v, h1, h2⟩ := H d h i I
  exact ⟨v, h, h, h1, h2, I.next hi⟩
end INV
