/-! the call terrace -/
section KTD
variable {h g g2 g3 h1 g' g4 h2 : mm_H} {i : Int} {t u E hv : Nat} {s0 pm hm : Int} {fc kd n : Int → Int} {cp cm cf : List Int} {ev : Evs} {past : Past} {st : Tst}
theorem nQs {a k : Nat} (h : a ≠ 264) (h2 : ¬ (293 ≤ a ∧ a ≤ 300)) : ¬ QSt a k := by
  unfold QSt
  omega
set_option maxHeartbeats 8000000 in
theorem Inv.tgood (M : IvM h) (W : IvW h i t s0 pm hm fc kd cp cm cf n ev) (H : IvH h i pm hm fc kd past) (P : IvP h) (N : IvN h t pm) (tu : (t = 230 ∧ u = 247) ∨ (t = 247 ∧ u = 230)) (ut : mm_isT u) (K1 : KR (QD u) h g) (T1 : CTs g u (hv : Nat) (adA st)) (a5 : fd g 3 5 = 0) (a6 : fd g 3 6 = -1) (hg2 : wR (wR (wI g 1 1 (iI 0)) 0 10 u) 0 11 t = g2) (C : Cpy 13 (u + 1) g2 g3) (k3 : Kf (QSc 13) nL g2 g3) (hh : wI (wI (wI g3 22 2 (iI 0)) 204 2 (iI 0)) 0 12 (iI 1) = h1) (T2 : RTs g' (hv : Nat) st) (c1 : fd g' 264 1 = 0) (K2 : Kf QRz LRt h1 g') (hg4 : wI (wI g' 264 7 (iI 0)) 264 8 (iI (-1)) = g4) (K4 : Kf QSt LSt g4 h2) (f : fd h2 264 53 = 1 ∧ fd h2 264 38 = (hv : Nat) ∧ fd h2 264 40 = (st.1.length : Nat) ∧ fd h2 264 47 = st.2.2.1 ∧ fd h2 264 73 = 0 ∧ fd h2 264 67 = 0) (p' : ∀ j x, st.1[j]? = some x → fl h2 292 (8 + j) = rvN x.1 ∧ fd h2 294 (8 + j) = x.2.2.1 ∧ fd h2 295 (8 + j) = x.2.2.2) (r : ∀ w : Nat, w < 3 → fd h2 297 (3 + w) = fd g4 297 w ∧ fd h2 298 (3 + w) = fd g4 298 w) (c : ∀ j v, (rAll st.2.2.2)[j]? = some v → fd h2 299 (1600 + j) = v) (nn : ((fd h2 300 0 = 0 ∧ fd h2 300 89 = 0) ∧ (∀ j x, st.1[j]? = some x → fd h2 300 (1 + 3 * j) = x.2.1 ∧ fd h2 300 (2 + 3 * j) = 10 * x.2.2.1 ∧ fd h2 300 (3 + 3 * j) = 0) ∧ ∀ z : Nat, z < 64 → fd h2 300 (25 + z) = st.2.1 z)) (O : TstOK (hv : Nat) E st) (v9 : hv ≤ 9) (hE : E ≤ 1600) (hi : i + 6 ≤ 3072) : Inv h2 (i + 6) := by
  have o1 := O.1.1
  have k1 : Kf (fun a k => (a = 22 ∧ k = 2) ∨ (a = 204 ∧ k = 2) ∨ (a = 0 ∧ k = 12)) nL g3 h1 := by
    rw [← hh]
    exact ((Kf.refl.wI (by omega)).wI (by omega)).wI (by omega)
  have k4 : Kf (fun a k => a = 264 ∧ (k = 7 ∨ k = 8)) nL g' g4 := by
    rw [← hg4]
    exact (Kf.refl.wI (by omega)).wI (by omega)
  have zg : ∀ a k, ¬ (a = 1 ∧ k = 1) → fd g2 a k = fd g a k := fun a k q => by
    rw [← hg2, fd_wR, fd_wR, fd_wI, if_neg q]
  have zc : ∀ a k, a ≠ 264 → ¬ (293 ≤ a ∧ a ≤ 300) → a ≠ 332 ∧ a ≠ 333 → fd h2 a k = fd h1 a k := fun a k q1 q2 q3 => by
    rw [K4.1 _ _ (nQs q1 q2), k4.1 _ _ (by omega), K2.1 _ _ (nQz q1 (by omega) q3)]
  have z4 : ∀ k, ¬ QSt 264 k → ¬ QRz 264 k → ¬ (k = 7 ∨ k = 8) → fd h2 264 k = fd h 264 k := fun k q1 q2 q3 => by
    rw [K4.1 _ _ q1, k4.1 _ _ (by omega), K2.1 _ _ q2, k1.1 _ _ (by omega), k3.1 _ _ (by unfold QSc; omega), zg _ _ (by omega), K1.1 _ _ (by unfold QD; omega)]
  have z1 : ∀ a k, ¬ ((a = 22 ∧ k = 2) ∨ (a = 204 ∧ k = 2) ∨ (a = 0 ∧ k = 12)) → ¬ (13 ≤ a ∧ a ≤ 21) → ¬ (a = 1 ∧ k = 1) → fd h1 a k = fd g a k := fun a k q1 q2 q3 => by
    rw [k1.1 _ _ q1, k3.1 _ _ (by unfold QSc; omega), zg _ _ q3]
  have zz : ∀ a k, a ≠ 264 → ¬ (293 ≤ a ∧ a ≤ 300) → a ≠ 332 ∧ a ≠ 333 → ¬ ((a = 22 ∧ k = 2) ∨ (a = 204 ∧ k = 2) ∨ (a = 0 ∧ k = 12)) → ¬ (13 ≤ a ∧ a ≤ 21) → ¬ (a = 1 ∧ k = 1) → ¬ QD u a k → fd h2 a k = fd h a k := fun a k q1 q2 q3 q4 q5 q6 q7 => by
    rw [zc _ _ q1 q2 q3, z1 _ _ q4 q5 q6, K1.1 _ _ q7]
  have zu : ∀ a k, u ≤ a → a ≤ u + 16 → fd h2 a k = fd g a k := fun a k q1 q2 => by
    rw [zc _ _ (by omega) (by omega) (by omega), z1 _ _ (by omega) (by omega) (by omega)]
  have h13 : ∀ a k, 13 ≤ a → a ≤ 21 → fd h2 a k = fd g3 a k := fun a k q1 q2 => by
    rw [zc _ _ (by omega) (by omega) (by omega), k1.1 _ _ (by omega)]
  have zl : ∀ a k, a ≠ 292 → fl h2 a k = fl h a k := fun a k q => by
    rw [K4.2.1 _ _ (fun y => q y.1), k4.2.1 _ _ (fun y => y), K2.2.1 _ _ (fun y => q y.1), k1.2.1 _ _ (fun y => y), k3.2.1 _ _ (fun y => y), ← hg2, fl_wR, fl_wR, fl_wI, K1.2.1]
  have rf : h2.2.2 = g2.2.2 := by rw [K4.2.2, k4.2.2, K2.2.2, k1.2.2, k3.2.2]
  have rr : ∀ w : Nat, w < 3 → fd h2 297 (3 + w) = fd g' 297 w ∧ fd h2 298 (3 + w) = fd g' 298 w := fun w hw => by
    rw [(r w hw).1, (r w hw).2, k4.1 _ _ (by omega), k4.1 _ _ (by omega)]
    exact ⟨rfl, rfl⟩
  have ef := adA_fst (st := st)
  have RC := fun (w : Nat) (hw : w < 3) => T_rule ut O hE T1 zu hw
  have RR := fun (w : Nat) (hw : w < 3) => T_ruleR O hE T2 rr c hw
  have SRR := T_SR O v9 T1 C (fun a k q => zg a k (by omega)) h13 p' nn
  have NII := T_NI O v9 nn
  obtain ⟨t1, t2, t3, t4, t5, t6, t7⟩ := T1
  clear t3 t4 t6 t7
  rw [ef.1] at t1 t2
  rw [ef.2.2] at t5
  obtain ⟨w1, w2, w3, w4, w5, w6, w7, w8, w9, w10, w11, w12, w13⟩ := W
  refine ⟨u, 1, (st.1.length : Nat), (hv : Nat), fcR h2, kdR h2, cW st 0, cW st 1, cW st 2, nw h2, [], [], ?_, ?_, ?_, ?_, ?_, ?_⟩
  · obtain ⟨m1, m2, m3, m4, m5, m6, m7⟩ := M
    have e1 : fd h2 264 1 = 0 := by
      rw [K4.1 _ _ (by unfold QSt; omega), k4.1 _ _ (by omega)]
      exact c1
    have e11 : fd h2 1 1 = 0 := by
      rw [zc _ _ (by omega) (by omega) (by omega), k1.1 _ _ (by omega), k3.1 _ _ (by unfold QSc; omega), ← hg2, fd_wR, fd_wR]
      exact fd_wI_same (by omega) (by omega)
    refine ⟨by omega, by omega, fun j hj => by omega, ⟨?_, ?_⟩, fun k hk => ?_, ?_, ?_⟩
    · have x : fd h2 3 5 = 0 := by
        rw [zc _ _ (by omega) (by omega) (by omega), z1 _ _ (by omega) (by omega) (by omega)]
        exact a5
      have y : fd h2 264 7 = 0 := by
        rw [K4.1 _ _ (by unfold QSt; omega), ← hg4, fd_wI_col (by omega)]
        exact fd_wI_same (by omega) (by omega)
      rw [x, y]
    · have x : fd h2 3 6 = -1 := by
        rw [zc _ _ (by omega) (by omega) (by omega), z1 _ _ (by omega) (by omega) (by omega)]
        exact a6
      have y : fd h2 264 8 = -1 := by
        rw [K4.1 _ _ (by unfold QSt; omega), ← hg4]
        exact fd_wI_same (by omega) (by omega)
      rw [x, y]
    · rw [zz 229 k (by omega) (by omega) (by omega) (by omega) (by omega) (by omega) (by unfold QD; omega), zz 266 k (by omega) (by omega) (by omega) (by omega) (by omega) (by omega) (by unfold QD; omega)]
      exact m5 k hk
    · rw [zz 0 13 (by omega) (by omega) (by omega) (by omega) (by omega) (by omega) (by unfold QD; omega), zl 264 75 (by omega)]
      exact m6
    · rw [zl 264 75 (by omega)]
      exact m7
  · refine ⟨⟨ut, ?_, ?_⟩, ⟨Or.inr rfl, ?_, f.1, fun z => absurd z (by decide), fun _ => ⟨RC 0 (by omega), RC 1 (by omega), RC 2 (by omega)⟩⟩, ⟨f.2.2.1, f.2.1, fun p _ _ => ⟨rfl, rfl⟩, RR 0 (by omega), RR 1 (by omega), RR 2 (by omega)⟩, fun z _ _ => rfl, NII, fun p p0 p1 => ?_, ?_, SRR, ?_, ⟨⟨?_, fun j _ e he => absurd he (by simp)⟩, ⟨?_, fun j _ e he => absurd he (by simp)⟩, fun e he => absurd he (by simp), ?_⟩, ?_, ?_, by omega, hi⟩
    · rw [rf, ← hg2, re_wR, if_neg (by omega), re_wR, if_pos ⟨rfl, rfl⟩]
    · rw [rf, ← hg2, re_wR, if_pos ⟨rfl, rfl⟩]
      omega
    · rw [zc _ _ (by omega) (by omega) (by omega), ← hh]
      exact fd_wI_same (by omega) (by omega)
    · obtain ⟨j, x, ej, hj, hx, px⟩ := T_at O p0 p1
      have q := p' j x hx
      show (0 ≤ fd h2 294 (8 + p).toNat ∧ fd h2 294 (8 + p).toNat ≤ 9) ∧ (0 ≤ fd h2 295 (8 + p).toNat ∧ fd h2 295 (8 + p).toNat ≤ 9)
      rw [show (8 + p).toNat = 8 + j by omega, q.2.1, q.2.2]
      exact ⟨px.2.2.1, px.2.2.2⟩
    · have e0 : nw h2 0 = 0 := nn.1.1
      rw [e0]
      omega
    · rw [z4 64 (by unfold QSt; omega) (by unfold QRz QRs QRt QQ; omega) (by omega)]
      exact w9
    · rw [h13 _ _ (by omega) (by omega), C.2.2.2.2 8 (by omega) (by omega), zg _ _ (by omega)]
      exact t1.2.2.2
    · exact nn.1.2
    · show ((0 : Nat) : Int) ≤ 300 * (i + 6)
      omega
    · rw [z4 65 (by unfold QSt; omega) (by unfold QRz QRs QRt QQ; omega) (by omega)]
      omega
    · rw [zu u 3 (by omega) (by omega), f.2.2.2.1, t5]
      exact ⟨rfl, O.2.2.2.2.1⟩
  · obtain ⟨a1', a2', a3', x, a4', a5', a6', a7'⟩ := H
    refine ⟨Nat.zero_le _, ?_, f.2.2.2.2.1, x, a4', ?_, ?_, fun j hj => absurd hj (Nat.not_lt_zero _)⟩
    · show fd h2 22 2 = 0
      rw [zc _ _ (by omega) (by omega) (by omega), ← hh, fd_wI_row (by omega), fd_wI_row (by omega)]
      exact fd_wI_same (by omega) (by omega)
    · rw [zz 22 1 (by omega) (by omega) (by omega) (by omega) (by omega) (by omega) (by unfold QD; omega)]
      exact a5'
    · rw [z4 74 (by unfold QSt; omega) (by unfold QRz QRs QRt QQ; omega) (by omega)]
      exact a6'
  · have e2 : fd h2 204 2 = 0 := by
      rw [zc _ _ (by omega) (by omega) (by omega), ← hh, fd_wI_row (by omega)]
      exact fd_wI_same (by omega) (by omega)
    have e67 := f.2.2.2.2.2
    exact ⟨by rw [e2, e67], by omega, fun k hk => by omega, fun k hk => by omega⟩
  · obtain ⟨p1, p2, p3⟩ := P
    have e112 : fd h2 264 112 = fd h 264 112 := z4 112 (by unfold QSt; omega) (by unfold QRz QRs QRt QQ; omega) (by omega)
    refine ⟨?_, ?_, fun k hk => ?_⟩
    · rw [e112, zz 218 1 (by omega) (by omega) (by omega) (by omega) (by omega) (by omega) (by unfold QD; omega)]
      exact p1
    · rw [e112]
      exact p2
    · rw [e112] at hk
      rw [zz 219 k (by omega) (by omega) (by omega) (by omega) (by omega) (by omega) (by unfold QD; omega), zz 335 k (by omega) (by omega) (by omega) (by omega) (by omega) (by omega) (by unfold QD; omega)]
      exact p3 k hk
  · refine ⟨?_, fun p hp => ?_, fun a ha k v hk => ?_⟩
    · rw [zu _ _ (by omega) (by omega)]
      exact t1.2.1
    · obtain ⟨j, x, ej, hj, hx, px⟩ := T_at O (p := (p : Nat)) (by omega) hp
      have e : p = j := by omega
      subst e
      refine ⟨x.1, px.1.1, px.1.2.1, px.1.2.2, (p' p x hx).1, fun k hk => ?_⟩
      show fd h2 (u + 16) (6 * p + k) = _
      rw [zu _ _ (by omega) (by omega)]
      exact (t2 p x hx).2 k hk
    · rw [zz a k (by omega) (by omega) (by omega) (by omega) (by omega) (by omega) (by unfold QD; omega)]
      exact N.2.2 a ha k v hk
end KTD
set_option maxHeartbeats 8000000 in
theorem K_terrace : CallI 150 211 [] := by
  intro d h i I hi
  obtain ⟨t, s0, pm, hm, fc, kd, cp, cm, cf, n, ev, past, M, W, H, S, P, N⟩ := I
  have w1 := W.1
  have tt := isT_or w1.1
  have m1 := M.1
  have m2 := M.2.1
  have m3 := M.2.2.1
  obtain ⟨E, eE⟩ : ∃ E : Nat, fd h 264 1 = (E : Int) := ⟨(fd h 264 1).toNat, by omega⟩
  have hE : E ≤ 1600 := by omega
  obtain ⟨u, hu⟩ : ∃ u, 477 - t = u := ⟨_, rfl⟩
  have e10 : h.2.2 0 10 = t := w1.2.1
  have e11 : h.2.2 0 11 = u := w1.2.2.trans hu
  have ut : mm_isT u := by
    rcases tt with z | z
    · rw [← hu, z]; exact isT_247
    · rw [← hu, z]; exact isT_230
  have tu : (t = 230 ∧ u = 247) ∨ (t = 247 ∧ u = 230) := by omega
  have TR0 : TpR h (fun j => fd h 265 j) E := fun j hj => ⟨rfl, (m3 j (by omega)).2⟩
  have TC0 : TpC h (fun j => fd h 265 j) E := ⟨by omega, fun j hj => m3 j (by omega)⟩
  generalize (fun j => fd h 265 j) = b at TR0 TC0
  have rc := C_rdT (d := d) ut hE TC0
  have ok := trA_ok (b := b) hE
  have rr : ∀ x, fd x 264 1 = (E : Int) → (∀ j, fd x 265 j = fd h 265 j) → IvK x → RTA (d + 39) x (mm_M mm_T0 (d + 40) 211 [.ref 264] x) (trA b E) := fun x e1 e2 k => R_rdT (d := d + 1) hE e1 (fun j hj => ⟨(e2 j).trans (TR0 j hj).1, (TR0 j hj).2⟩) k
  clear TR0 TC0 m3
  revert rc ok rr
  cases trA b E with
  | inl f =>
    intro rc ok rr
    obtain ⟨g, a1, a2, a3, K1⟩ := rc
    have kf : f.1 ≠ 0 := ok
    have e1 : fd g 1 1 = (E : Int) := by
      rw [K1.1 _ _ (by unfold QD; omega), m1]
      exact eE
    have sh := C_shorten (d := d + 37) (h := g) (n := 0) e1 (by omega) (by omega) (by omega) (by omega)
    have rf := C_ref1 (d := d + 38) (h := wI g 1 1 (iI 0))
    have f229 : fd (wI g 1 1 (iI 0)) 229 1 = fd g 229 1 := fd_wI_row (by omega)
    rw [f229] at rf
    have ca : mm_M mm_T0 (d + 40) 150 [.ref 0] h = some (some (.int (iI (-1))), wI (wI g 1 1 (iI 0)) 229 1 (iI (fd g 229 1 + 1))) := by
      rw [U_X11_terrace, e11]
      (try simp only [iI_lit, iI_neg]) <;> simp (maxSteps := 1000000) (disch := decide) only [iI_lit, iI_neg, iI_add, mm_bI_some, mm_bV_some, mm_bL_some, ↓reduceIte, i10, i00, i11, eq_self, not_true_eq_false, not_false_eq_true, ite_true, ite_false, if_true, if_false, and_true, true_and, and_false, false_and, and_self, or_self, or_false, false_or, or_true, true_or, iI_eq, iI_lt, iI_le, Int.reduceEq, Int.reduceLT, Int.reduceLE, ↓bI_eq a1, ↓bV_eq sh, ↓bI_eq rf]
    obtain ⟨h1, hh⟩ : ∃ h1, wI (wI g 1 1 (iI 0)) 229 1 (iI (fd g 229 1 + 1)) = h1 := ⟨_, rfl⟩
    rw [hh] at ca
    have z : ∀ a k, ¬ (a = 1 ∧ k = 1) → a ≠ 229 → ¬ QD u a k → fd h1 a k = fd h a k := fun a k q1 q2 q3 => by
      rw [← hh, fd_wI_row q2, fd_wI, if_neg q1, K1.1 _ _ q3]
    obtain ⟨g', b1, B, f1, K2⟩ := rr h1 ((z 264 1 (by omega) (by omega) (by unfold QD; omega)).trans eE) (fun j => z 265 j (by omega) (by omega) (by unfold QD; omega)) (fun a ha k v hv => (z a k (by omega) (by omega) (by unfold QD; omega)).trans (N.2.2 a ha k v hv))
    refine ⟨iI (-1), h1, _, ca, ?_, Inv.tfail M W H S P N tu K1 a2 a3 hh f1 K2 hi⟩
    rw [b1]
    exact kT_bad B kf
  | inr y =>
    obtain ⟨hv, nn, st⟩ := y
    intro rc ok rr
    obtain ⟨g, a1, T1, ⟨a4, a5, a6⟩, K1⟩ := rc
    have a4' : fd g u 4 = (nn : Nat) := a4
    have T1' : CTs g u (hv : Nat) (adA st) := T1
    have v29 : 2 ≤ hv ∧ hv ≤ 9 := ok.1
    have O : TstOK (hv : Nat) E st := ok.2
    have e1 : fd g 1 1 = (E : Int) := by
      rw [K1.1 _ _ (by unfold QD; omega), m1]
      exact eE
    have sh := C_shorten (d := d + 37) (h := g) (n := 0) e1 (by omega) (by omega) (by omega) (by omega)
    have r10 : (wI g 1 1 (iI 0)).2.2 0 10 = t := (K1.2.2 0 10 (by omega)).trans e10
    have r11 : (wI g 1 1 (iI 0)).2.2 0 11 = u := (K1.2.2 0 11 (by omega)).trans e11
    obtain ⟨g2, hg2⟩ : ∃ g2, wR (wR (wI g 1 1 (iI 0)) 0 10 u) 0 11 t = g2 := ⟨_, rfl⟩
    have q10 : g2.2.2 0 10 = u := by rw [← hg2, re_wR, if_neg (by omega), re_wR, if_pos ⟨rfl, rfl⟩]
    have shu := sh_T ut
    obtain ⟨g3, c1', C, k3⟩ := C_copy (d := d + 38) (h := g2) isS_13 (isT_S ut) (by omega)
    have fg : mm_M mm_T0 (d + 39) 61 [.ref 22] g3 = some (none, wI g3 22 2 (iI 0)) := U_X3_forget
    have fs : mm_M mm_T0 (d + 39) 14 [.ref 204] (wI g3 22 2 (iI 0)) = some (none, wI (wI g3 22 2 (iI 0)) 204 2 (iI 0)) := U_X0_forgetSeen
    obtain ⟨h1, hh⟩ : ∃ h1, wI (wI (wI g3 22 2 (iI 0)) 204 2 (iI 0)) 0 12 (iI 1) = h1 := ⟨_, rfl⟩
    have q12 : h1.2.2 0 10 = u := by
      rw [← hh, re_wI, re_wI, re_wI, k3.2.2]
      exact q10
    have zh : ∀ a k, ¬ (a = 22 ∧ k = 2) → ¬ (a = 204 ∧ k = 2) → ¬ (a = 0 ∧ k = 12) → ¬ (13 ≤ a ∧ a ≤ 21) → ¬ (a = 1 ∧ k = 1) → fd h1 a k = fd g a k := fun a k q1 q2 q3 q4 q5 => by
      rw [← hh, fd_wI, if_neg q3, fd_wI, if_neg q2, fd_wI, if_neg q1, k3.1 _ _ (by unfold QSc; omega), ← hg2, fd_wR, fd_wR, fd_wI, if_neg q5]
    have rn : h1.1 u 4 = iI (nn : Nat) := rdE ((zh u 4 (by omega) (by omega) (by omega) (by omega) (by omega)).trans a4')
    have n10 : ¬ iI 1 = iI 0 := by decide
    have ca : mm_M mm_T0 (d + 40) 150 [.ref 0] h = some (some (.int (iI (nn : Nat))), h1) := by
      rw [U_X11_terrace, e11]
      simp only [iI_lit]
      rw [a1, mm_bI_some, sh, mm_bV_some, if_pos n10, r11, r10, hg2, q10, if_pos shu, c1', mm_bV_some, fg, mm_bV_some, fs, mm_bV_some, hh, q12, if_pos shu, rn]
    have z : ∀ a k, ¬ (a = 22 ∧ k = 2) → ¬ (a = 204 ∧ k = 2) → ¬ (a = 0 ∧ k = 12) → ¬ (13 ≤ a ∧ a ≤ 21) → ¬ (a = 1 ∧ k = 1) → ¬ QD u a k → fd h1 a k = fd h a k := fun a k q1 q2 q3 q4 q5 q6 => by
      rw [zh a k q1 q2 q3 q4 q5, K1.1 _ _ q6]
    obtain ⟨g', b1, ⟨c5, c6⟩, T2, c52, c1, K2⟩ := rr h1 ((z 264 1 (by omega) (by omega) (by omega) (by omega) (by omega) (by unfold QD; omega)).trans eE) (fun j => z 265 j (by omega) (by omega) (by omega) (by omega) (by omega) (by unfold QD; omega)) (fun a ha k v hk => (z a k (by omega) (by omega) (by omega) (by omega) (by omega) (by unfold QD; omega)).trans (N.2.2 a ha k v hk))
    have T2' : RTs g' (hv : Nat) st := T2
    have c52' : fd g' 264 52 = (nn : Nat) := c52
    obtain ⟨g4, hg4⟩ : ∃ g4, wI (wI g' 264 7 (iI 0)) 264 8 (iI (-1)) = g4 := ⟨_, rfl⟩
    have k4 : Kf (fun a k => a = 264 ∧ (k = 7 ∨ k = 8)) nL g' g4 := by
      rw [← hg4]
      exact (Kf.refl.wI (by omega)).wI (by omega)
    have ol := O.2.2.2.2.2.2
    obtain ⟨h2, s1, s2, s3, s4, s5, s6, K4⟩ := R_stands (d := d + 38) (g := g4) (hm := hv) (st := st) v29.2 (T2'.kf k4 (by intro a j; omega) (fun j y => y)) O (by omega)
    refine ⟨iI (nn : Nat), h1, h2, ca, ?_, Inv.tgood M W H P N tu ut K1 T1' a5 a6 hg2 C k3 hh T2' c1 K2 hg4 K4 s2 s3 s4 s5 s6 O v29.2 hE hi⟩
    have r52 : h2.1 264 52 = iI (nn : Nat) := rdE (by rw [K4.1 _ _ (by unfold QSt; omega), k4.1 _ _ (by omega)]; exact c52')
    rw [b1, kT_ok c5 c6, hg4, s1, mm_bV_some, r52]
