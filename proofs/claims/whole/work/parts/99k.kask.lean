/-! the call ask, whole -/
set_option maxHeartbeats 8000000 in
theorem K_ask : CallL 178 313 [] := by
  intro d h i I hi
  obtain ⟨t, s0, pm, hm, fc, kd, cp, cm, cf, n, ev, past, M, W, H, S, P, N⟩ := I
  have W0 := W
  obtain ⟨w1, w2, w3, w4, w5, w6, w7, w8, w9, w10, w11, w12, w13⟩ := W
  have tt := isT_or w1.1
  have h8 := w5.1
  have m1 := M.1
  have m2 := M.2.1
  have m3 := M.2.2.1
  obtain ⟨E, eE⟩ : ∃ E : Nat, fd h 264 1 = (E : Int) := ⟨(fd h 264 1).toNat, by omega⟩
  have hE : E ≤ 1600 := by omega
  have e12 : fd h 0 12 = s0 := w2.2.1
  have e53 : fd h 264 53 = s0 := w2.2.2.1
  have s01 := w2.1
  have n10 : ¬ iI 1 = iI 0 := by decide
  by_cases cs : s0 = 0
  · have sh : mm_M mm_T0 (d + 39) 128 [.ref 1, .int 0] h = some (none, wI h 1 1 (iI 0)) := C_shorten (d := d + 37) (h := h) (n := 0) (m1.trans eE) (by omega) (by omega) (by omega) (by omega)
    have z12 : h.1 0 12 = 0 := by
      rw [rdI, e12, cs]
      rfl
    have z53 : (wI h 1 1 (iI 0)).1 264 53 = 0 := by
      rw [rdI, fd_wI_row (by omega), e53, cs]
      rfl
    refine ⟨-1000000000000000, wI h 1 1 (iI 0), wI (wI h 1 1 (iI 0)) 264 1 (iI 0), ?_, ?_, ?_⟩
    · rw [U_X11_ask, if_pos z12, sh, mm_bV_some]
    · rw [U_X12_ask, if_neg (fun q => q z53)]
      simp only [iI_lit]
    · exact Inv.mac (M.cut (n := 0) (by omega) (by omega)) W0 H S P N ((Kf.refl.wI (by unfold Mac NW NC NR NH NS NP Nnm; omega)).wI (by unfold Mac NW NC NR NH NS NP Nnm; omega)) hi
  have cs1 : s0 = 1 := by omega
  have n12 : ¬ h.1 0 12 = iI 0 := by
    rw [rdI, e12, cs1]
    exact n10
  have TR0 : TpR h (fun j => fd h 265 j) E := fun j hj => ⟨rfl, (m3 j (by omega)).2⟩
  have TC0 : TpC h (fun j => fd h 265 j) E := ⟨by omega, fun j hj => m3 j (by omega)⟩
  generalize (fun j => fd h 265 j) = b at TR0 TC0
  have rc := C_read (d := d) hE TC0
  have rr : ∀ x, fd x 264 53 = 1 → fd x 264 1 = (E : Int) → (∀ j, fd x 265 j = fd h 265 j) → IvK x → RAk (d + 39) x (mm_M mm_T0 (d + 40) 313 [.ref 264] x) (asA b E) := fun x q1 q2 q3 q4 => R_ask (d := d) (by omega) hE q2 (fun j hj => ⟨(q3 j).trans (TR0 j hj).1, (TR0 j hj).2⟩) q4
  clear TR0 TC0 m3
  revert rc rr
  cases asA b E with
  | inl f =>
    intro rc rr
    obtain ⟨g, a1, a2, a3, K1⟩ := rc
    have e1 : fd g 1 1 = (E : Int) := by
      rw [K1.1 _ _ (by unfold QAk; omega), m1]
      exact eE
    have sh := C_shorten (d := d + 37) (h := g) (n := 0) e1 (by omega) (by omega) (by omega) (by omega)
    obtain ⟨h1, hh⟩ : ∃ h1, wI g 1 1 (iI 0) = h1 := ⟨_, rfl⟩
    have ca : mm_M mm_T0 (d + 40) 178 [.ref 0] h = some (some (.long (-1000000000000000)), h1) := by
      rw [U_X11_ask]
      simp only [iI_lit]
      rw [if_neg n12, a1, mm_bI_some, if_pos rfl, sh, mm_bV_some, hh]
    have z : ∀ a k, ¬ QAk a k → ¬ (a = 1 ∧ k = 1) → fd h1 a k = fd h a k := fun a k q1 q2 => by
      rw [← hh, fd_wI, if_neg q2, K1.1 _ _ q1]
    obtain ⟨v, g', b1, B, fk, f1, K2⟩ := rr h1 (by rw [z 264 53 (by unfold QAk; omega) (by omega), e53]; exact cs1) ((z 264 1 (by unfold QAk; omega) (by omega)).trans eE) (fun j => z 265 j (by unfold QAk; omega) (by omega)) (fun a ha k v hk => (z a k (by unfold QAk; omega) (by omega)).trans (N.2.2 a ha k v hk))
    have r5 : -2147483648 ≤ f.1 ∧ f.1 < 2147483648 := by
      rw [← a2]
      exact ⟨fd_lo _ _ _, fd_hi _ _ _⟩
    have r6 : -2147483648 ≤ f.2 ∧ f.2 < 2147483648 := by
      rw [← a3]
      exact ⟨fd_lo _ _ _, fd_hi _ _ _⟩
    obtain ⟨h2, hG⟩ : ∃ h2, wI (wI g' 264 7 (iI f.1)) 264 8 (iI f.2) = h2 := ⟨_, rfl⟩
    refine ⟨-1000000000000000, h1, h2, ca, by rw [b1, kA_bad B fk, hG], Inv.ask M W0 H S P N (fun a k q => ?_) (fun a k q1 q2 => ?_) ?_ ?_ ?_ ?_ (fun j => ?_) hi⟩
    · rw [← hG, fd_wI, if_neg (fun y => q (Or.inr (Or.inr (Or.inr ⟨y.1, Or.inr (Or.inl y.2)⟩)))), fd_wI, if_neg (fun y => q (Or.inr (Or.inr (Or.inr ⟨y.1, Or.inl y.2⟩)))), K2.1 _ _ (fun y => q (Or.inr (Or.inl y))), z _ _ (fun y => q (Or.inl y)) (fun y => q (Or.inr (Or.inr (Or.inl y))))]
    · rw [← hG, fl_wI, fl_wI, K2.2.1 _ _ (fun y => y), ← hh, fl_wI, K1.2.1]
    · rw [← hG, fd_wI_row (by omega), fd_wI_row (by omega), K2.1 _ _ (by unfold QAz QQ; omega), ← hh]
      exact fd_wI_same (by omega) (by omega)
    · rw [← hG, fd_wI_col (by omega), fd_wI_col (by omega)]
      exact f1
    · have x : fd h2 3 5 = f.1 := by
        rw [← hG, fd_wI_row (by omega), fd_wI_row (by omega), K2.1 _ _ (by unfold QAz QQ; omega), ← hh, fd_wI_row (by omega)]
        exact a2
      have y : fd h2 264 7 = f.1 := by
        rw [← hG, fd_wI_col (by omega)]
        exact fd_wI_same r5.1 r5.2
      rw [x, y]
    · have x : fd h2 3 6 = f.2 := by
        rw [← hG, fd_wI_row (by omega), fd_wI_row (by omega), K2.1 _ _ (by unfold QAz QQ; omega), ← hh, fd_wI_row (by omega)]
        exact a3
      have y : fd h2 264 8 = f.2 := by
        rw [← hG]
        exact fd_wI_same r6.1 r6.2
      rw [x, y]
    · rw [← hG, re_wI, re_wI, K2.2.2, ← hh, re_wI]
      exact K1.2.2 0 j (by omega)
  | inr y =>
    obtain ⟨kind, c⟩ := y
    intro rc rr
    obtain ⟨g, a1, ⟨a5, a6⟩, a41, ⟨a7, a8, a55⟩, K1⟩ := rc
    have a41' : fd g 4 1 = kind + 25 := a41
    have a8' : fd g 8 3 = (c.length : Nat) := a8
    have a55' : CQ g 5 0 c := a55
    have e1 : fd g 1 1 = (E : Int) := by
      rw [K1.1 _ _ (by unfold QAk; omega), m1]
      exact eE
    have sh := C_shorten (d := d + 37) (h := g) (n := 0) e1 (by omega) (by omega) (by omega) (by omega)
    obtain ⟨_, _, _, qs, _⟩ := rr h (by omega) eE (fun j => rfl) N.2.2
    have q0 : 0 ≤ kind := qs.1.1
    have q5 : kind ≤ 5 := qs.1.2
    have ql : c.length ≤ 1600 := qs.2.1
    have qT : tyL (alw 3) c [] = some [decide (kind ≤ 2)] := qs.2.2
    clear qs
    have A5 : AnC (wI g 1 1 (iI 0)) kind c := by
      refine ⟨(fd_wI_row (by omega)).trans a41', (fd_wI_row (by omega)).trans a7, (fd_wI_row (by omega)).trans a8', ?_, ?_⟩
      · rw [fd_wI_row (by omega), a55'.1, Nat.zero_add]
      · have x := CdC_of (h := wI g 1 1 (iI 0)) (c0 := 5) c 0 (fun j v hv => (fd_wI_row (by omega)).trans (a55'.2 j v hv))
        rw [show ((0 : Nat) : Int) = 0 from rfl] at x
        exact x
    have S5 : SR (wI g 1 1 (iI 0)) 13 pm hm fc kd n := w8.congr (fun a k q1 q2 => by rw [fd_wI_row (by omega), K1.1 _ _ (by unfold QAk; omega)])
    obtain ⟨h1, c1, k1⟩ := C_answer (d := d + 35) w5 w6 w7 q0 q5 ql qT S5 A5
    obtain ⟨Q, hQ⟩ : ∃ Q, qF kind (fun j => evv (Gq fc kd n j) (Oq n pm j) c) pm.toNat 0 (if kind < 2 then -1 else 0) = Q := ⟨_, rfl⟩
    rw [hQ] at c1
    have ca : mm_M mm_T0 (d + 40) 178 [.ref 0] h = some (some (.long (jI Q)), h1) := by
      rw [U_X11_ask]
      simp only [iI_lit]
      rw [if_neg n12, a1, mm_bI_some, if_neg n10, sh, mm_bV_some, c1, mm_bL_some]
    have z : ∀ a k, ¬ QAk a k → ¬ (a = 1 ∧ k = 1) → fd h1 a k = fd h a k := fun a k q1 q2 => by
      rw [k1.1 _ _ (fun y => q1 (by unfold QAn at y; unfold QAk; omega)), fd_wI, if_neg q2, K1.1 _ _ q1]
    obtain ⟨g', b1, ⟨c5, c6⟩, _, ⟨d1, d2⟩, f1, K2⟩ := rr h1 (by rw [z 264 53 (by unfold QAk; omega) (by omega), e53]; exact cs1) ((z 264 1 (by unfold QAk; omega) (by omega)).trans eE) (fun j => z 265 j (by unfold QAk; omega) (by omega)) (fun a ha k v hk => (z a k (by unfold QAk; omega) (by omega)).trans (N.2.2 a ha k v hk))
    obtain ⟨G, hG⟩ : ∃ G, wI (wI (wL (wI (wI g' 264 7 (iI 0)) 264 8 (iI (-1))) 264 109 (jI (if kind < 2 then -1 else 0))) 264 110 (iI 1)) 264 54 (iI 3) = G := ⟨_, rfl⟩
    have kG : Kf (fun a k => a = 264 ∧ (k = 7 ∨ k = 8 ∨ k = 110 ∨ k = 54)) (fun a k => a = 264 ∧ k = 109) g' G := by
      rw [← hG]
      exact Kf.wI (Kf.wI (Kf.wL (Kf.wI (Kf.wI Kf.refl (by omega)) (by omega)) (by omega)) (by omega)) (by omega)
    have b0 : -1 ≤ (if kind < 2 then (-1 : Int) else 0) ∧ (if kind < 2 then (-1 : Int) else 0) ≤ 0 := by
      split <;> omega
    have zG : ∀ a k, ¬ QAll a k → fd G a k = fd h a k := fun a k q => by
      rw [kG.1 _ _ (fun y => q (by unfold QAll QAz; omega)), K2.1 _ _ (fun y => q (Or.inr (Or.inl y))), z _ _ (fun y => q (Or.inl y)) (fun y => q (Or.inr (Or.inr (Or.inl y))))]
    have FG : fd G 264 54 = 3 ∧ fd G 264 40 = pm ∧ fd G 264 102 = (c.length : Nat) ∧ CdQ G 0 c ∧ RepR G n ∧ RepF G pm fc kd := by
      refine ⟨?_, ?_, ?_, ?_, fun x x1 x2 => ?_, fun p p1 p2 => ⟨?_, ?_⟩⟩
      · rw [← hG]
        exact fd_wI_same (by omega) (by omega)
      · exact (zG _ _ (by unfold QAll QAk QAz QQ; omega)).trans w3.1
      · exact (kG.1 _ _ (by omega)).trans d1
      · have x := CdQ_of (h := G) c 0 (fun j v hv => by
          rw [Nat.zero_add, kG.1 _ _ (by omega)]
          exact d2 j v hv)
        rw [show ((0 : Nat) : Int) = 0 from rfl] at x
        exact x
      · exact (zG 300 _ (by unfold QAll QAk QAz QQ; omega)).trans (w4 x x1 x2)
      · exact (zG 294 _ (by unfold QAll QAk QAz QQ; omega)).trans (w3.2.2.1 p p1 p2).1
      · exact (zG 295 _ (by unfold QAll QAk QAz QQ; omega)).trans (w3.2.2.1 p p1 p2).2
    have f109 : fl G 264 109 = (if kind < 2 then -1 else 0) := by
      rw [← hG, fl_wI, fl_wI, fl_wL, if_pos ⟨rfl, rfl⟩, jI_to (by omega) (by omega)]
    have f110 : fd G 264 110 = if (0 : Int) = 0 then 1 else 0 := by
      rw [if_pos rfl, ← hG, fd_wI_col (by omega)]
      exact fd_wI_same (by omega) (by omega)
    obtain ⟨h2, o1, k2⟩ := R_ask_188 (d := d + 34) w5 w6 w7 q0 q5 ql qT pm.toNat 0 (if kind < 2 then -1 else 0) G (by omega) (by omega) FG f109 f110 (by omega) (by omega)
    rw [hQ] at o1
    have cb : mm_M mm_T0 (d + 40) 313 [.ref 264] h1 = some (some (.long (jI Q)), h2) := by
      rw [b1]
      show kA (d + 39) (iI kind) g' = _
      rw [kA_ok q0 q5 c5 c6, hG]
      exact o1
    refine ⟨jI Q, h1, h2, ca, cb, Inv.ask M W0 H S P N (fun a k q => ?_) (fun a k q1 q2 => ?_) ?_ ?_ ?_ ?_ (fun j => ?_) hi⟩
    · rw [k2.1 _ _ (fun y => q (by unfold QN at y; unfold QAll; omega)), zG _ _ q]
    · rw [k2.2.1 _ _ (by unfold LN; omega), kG.2.1 _ _ q2, K2.2.1 _ _ (fun y => y), k1.2.1 _ _ (fun y => y), fl_wI, K1.2.1]
    · rw [k2.1 _ _ (by unfold QN; omega), kG.1 _ _ (by omega), K2.1 _ _ (by unfold QAz QQ; omega), k1.1 _ _ (by unfold QAn; omega)]
      exact fd_wI_same (by omega) (by omega)
    · rw [k2.1 _ _ (by unfold QN; omega), kG.1 _ _ (by omega)]
      exact f1
    · have x : fd h2 3 5 = 0 := by
        rw [k2.1 _ _ (by unfold QN; omega), kG.1 _ _ (by omega), K2.1 _ _ (by unfold QAz QQ; omega), k1.1 _ _ (by unfold QAn; omega), fd_wI_row (by omega)]
        exact a5
      have y : fd h2 264 7 = 0 := by
        rw [k2.1 _ _ (by unfold QN; omega), ← hG, fd_wI_col (by omega), fd_wI_col (by omega), fd_wL, fd_wI_col (by omega)]
        exact fd_wI_same (by omega) (by omega)
      rw [x, y]
    · have x : fd h2 3 6 = -1 := by
        rw [k2.1 _ _ (by unfold QN; omega), kG.1 _ _ (by omega), K2.1 _ _ (by unfold QAz QQ; omega), k1.1 _ _ (by unfold QAn; omega), fd_wI_row (by omega)]
        exact a6
      have y : fd h2 264 8 = -1 := by
        rw [k2.1 _ _ (by unfold QN; omega), ← hG, fd_wI_col (by omega), fd_wI_col (by omega), fd_wL]
        exact fd_wI_same (by omega) (by omega)
      rw [x, y]
    · rw [k2.2.2, kG.2.2, K2.2.2, k1.2.2, re_wI]
      exact K1.2.2 0 j (by omega)
