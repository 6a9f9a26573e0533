def mm_TOK2 (l : Launch) (T : mm_T mm_H) (I : mm_I) : Prop := ∀ (y nL : Nat) (cd : mm_K mm_H), T y = some (nL, cd) → plainFor (I y).1 = true ∧ (I y).2.2.1 = nL ∧ mm_CodeOK l I (I y).1.cls (I y).2.1 nL (I y).2.2.2 cd
theorem mm_met2 {l : Launch} {T : mm_T mm_H} {I : mm_I} (hT : mm_TOK2 l T I) : ∀ d, mm_CO l I d (mm_M T d)
  | 0 => by
    intro y as h v h' e
    cases e
  | d + 1 => by
    intro y as h v h' e σ cA D
    obtain ⟨nL, cd, hy, hlen, n, hrun⟩ := mm_M_inv e
    obtain ⟨h1, h2, h3⟩ := hT y nL cd hy
    refine va_MetF (cc := (I y).2.1) (maxL := (I y).2.2.1) (ret := (I y).2.2.2) h1 rfl ?_
    intro p e s m args below meth c s₁ B hml hv
    obtain ⟨hargs, hP, hW, hE⟩ := hv
    subst hargs
    have hx := B.exec
    have hb := B.bytes
    have hr := B.returns
    have hts := atoms_spec (ws := Cond.code (I y).1 (I y).2.1 (I y).2.2.1 (I y).2.2.2 :: mm_tb) B.pre
    have hown : s.vm.findClass (I y).1.cls = some m.cls := findClass_of_methodNamed B.named
    have hlocks := B.notSynchronized
    rw [h2] at hml ⊢
    rw [lg_entry_eq]
    refine mm_sim_run (st := []) (σ := σ) (Rz := mm_Rz σ cA D (mm_A σ) s.heap 0 0) (C := mm_M T d) (cd := cd) (h3 p e (mm_rm (d + 1)) s m _ below meth c _ σ cA D (mm_A σ) 0 0 d (mm_M T d) ⟨hx, hb, hml, hown, fun w hw => hts w (List.mem_cons_of_mem _ hw), hW, hE, ⟨Nat.le_refl _, Nat.le_of_eq (by show 150 * d + 150 = 150 * (d + 1); omega), Nat.le_refl _, Nat.le_refl _⟩, mm_met2 hT d⟩) ?_ n 0 _ h hrun s.heap [] 0 0 _ ⟨hP, va_S.rf, rfl, rfl⟩ (mm_init_lv σ hlen)
    intro pc' H' locs' cells' slots' lsr' hret hR'
    obtain ⟨hP', hS', rfl, rfl⟩ := hR'
    cases v with
    | none =>
      obtain ⟨hd, hrt⟩ := hret
      exact W.vret hx hb (hr.trans hrt) (fun t ht hW' => ⟨rfl, by rw [ht]; exact hP', hS'.F ht⟩) hS'.2.2 hd
    | some w =>
      cases w with
      | int x =>
        obtain ⟨hd, ty, hrt, hn⟩ := hret
        exact W.zret hx hb (hr.trans hrt) hn (fun t ht hW' => ⟨rfl, by rw [ht]; exact hP', hS'.F ht⟩) hS'.2.2 hd
      | long x =>
        obtain ⟨hd, hrt⟩ := hret
        exact W.lret hx hb (hr.trans hrt) (fun t ht hW' => ⟨rfl, by rw [ht]; exact hP', hS'.F ht⟩) hS'.2.2 hd
      | ref x =>
        obtain ⟨hd, ty, hrt, hty⟩ := hret
        exact W.aret hx hb (hr.trans hrt) hty (Or.inr ⟨_, rfl⟩) (fun t ht hW' => ⟨rfl, by rw [ht]; exact hP', hS'.F ht⟩) hS'.2.2 hd
      | float x => exact False.elim hret
      | double x => exact False.elim hret
      | null => exact False.elim hret
      | retAddr x => exact False.elim hret

/-! String.checkIndex goes through a static that may be anything: told by hand, as one step -/
def s_chk : mm_S mm_H := fun _ ls st h => mm_lI ls 0 fun i => mm_lI ls 1 fun n => match st with
  | [] => if i < 0 then none else if i < n then some (.inr (none, h)) else none
  | _ => none
def cd_J0_checkIndex_df160 : mm_K mm_H := [(0, s_chk)]
set_option maxHeartbeats 4000000 in
set_option maxRecDepth 100000 in
theorem mm_chk0 (l : Launch) (d : Nat) {i n : Int32} {v : Value} (hv : v.category = 1) (h0 : ¬ i < 0) (h1 : i < n) : Met l yJ3_checkIndex_8e157 (Cond.code yJ3_checkIndex_8e157 cJ3_checkIndex_8e157 3 (some .int) :: mm_tb) (mm_rm d) (fun a _ => a = [.int i, .int n, v].toArray) (fun _ st oc t => oc = .returned (some (.int i)) ∧ t.heap = st.heap) 0 0 (fun _ => False) := by
  refine Met.ofW (cc := cJ3_checkIndex_8e157) (maxL := 3) (ret := some .int) (by decide +kernel) rfl ?_
  intro p e s m args below meth c s₁ B hml hargs
  subst hargs
  have hx := B.exec
  have hb := B.bytes
  have hr := B.returns
  have hlocks := B.notSynchronized
  have hl := lv_entry ([.int i, .int n, v]) (n := 3) (by
    have e3 : (lg_sl [Value.int i, Value.int n, v]).length = 3 := by
      cases v <;> first | rfl | (simp [Value.category] at hv)
    rw [e3]
    exact Nat.le_refl 3)
  rw [lg_entry_eq]
  generalize (lg_sl ([.int i, .int n, v]) ++ List.replicate (3 - (lg_sl ([.int i, .int n, v])).length) Slot.unset).toArray = ls at hl ⊢
  refine lv_iload_n hx hb (by decide +kernel : decode cJ3_checkIndex_8e157 0 = .ok (.iload_n 0, 1)) rfl (lv_at hl 0 rfl) ?_
  refine lv_if_lt (tgt := 9) hx hb (by decide +kernel : decode cJ3_checkIndex_8e157 1 = .ok (.ifCond .lt 8, 3)) (by decide) (fun q => absurd q h0) (fun _ => ?_)
  refine lv_iload_n hx hb (by decide +kernel : decode cJ3_checkIndex_8e157 4 = .ok (.iload_n 0, 1)) rfl (lv_at hl 0 rfl) ?_
  refine lv_iload_n hx hb (by decide +kernel : decode cJ3_checkIndex_8e157 5 = .ok (.iload_n 1, 1)) rfl (lv_at hl 1 rfl) ?_
  refine lv_icmp_lt (tgt := 16) hx hb (by decide +kernel : decode cJ3_checkIndex_8e157 6 = .ok (.if_icmp .lt 10, 3)) (by decide) (fun _ => ?_) (fun q => absurd h1 q)
  refine lv_iload_n hx hb (by decide +kernel : decode cJ3_checkIndex_8e157 16 = .ok (.iload_n 0, 1)) rfl (lv_at hl 0 rfl) ?_
  exact W.iret hx hb hr (fun t ht _ => ⟨rfl, ht⟩) (fun q hq => by cases hq) (by decide +kernel : decode cJ3_checkIndex_8e157 17 = .ok (.ireturn, 1))
theorem mm_call2 {p : Program} {l : Launch} {e : Env} {R : Room} {s : State} {m : MethodId} {args : Array Value} {below : List Frame} {meth : Method} {c : Code} {Q : State → Prop} {pc : Nat} {H : Heap} {locs : List Loc} {cells slots : Nat} {lsr : Array Slot} {st0 rest : List Value} {v : Value} (hr : va_Run p l e R s m args below meth c H locs cells slots 0 0 (F0 m pc lsr st0) rest (fun st oc t => oc = .returned (some v) ∧ t.heap = st.heap) (fun _ => False))
    (kk : W p l e R s m args below meth c H locs cells slots Q (F0 m (pc + 3) lsr (v :: rest))) : W p l e R s m args below meth c H locs cells slots Q (F0 m pc lsr st0) := by
  intro T hT X
  obtain ⟨w, st₀, t, T', L, h0, X', hL, e1, e2, ⟨hv, hp⟩, st⟩ := hr T hT X
  cases hv
  have hLn : L = [] := by
    cases L with
    | nil => rfl
    | cons q L => exact False.elim (hL q List.mem_cons_self)
  subst hLn
  rw [List.append_nil] at X'
  obtain ⟨t2, a1, b1⟩ := kk T' (by rw [e1, hp, h0]) X'
  exact ⟨t2, st t2 a1, b1⟩
set_option maxHeartbeats 4000000 in
set_option maxRecDepth 100000 in
theorem ok_J0_checkIndex_df160 (l : Launch) : mm_CodeOK l mm_I0 RJ0 cJ0_checkIndex_df160 2 none cd_J0_checkIndex_df160 := by
  intro p e R s m args below meth c Q σ cA D A kc ks d C X
  refine mm_fc ?_ mm_fn
  obtain ⟨hx, hb, hml, hown, hts, w0, ext, hrm, hC⟩ := X
  intro ls st h o hf H locs cells slots lsr hR hl kn kr
  obtain ⟨i, hi, hf1⟩ := mm_lI_inv hf
  obtain ⟨n, hn, hf2⟩ := mm_lI_inv hf1
  clear hf hf1
  cases st with
  | cons v r => cases hf2
  | nil =>
    by_cases h0 : i < 0
    · simp only [h0, if_true] at hf2
      cases hf2
    · by_cases h1 : i < n
      · simp only [h0, h1, if_true, if_false] at hf2
        cases hf2
        refine lv_iload_n hx hb (by decide +kernel : decode cJ0_checkIndex_df160 0 = .ok (.iload_n 0, 1)) rfl (hl.2.2.2 0 (.int i) hi (fun q => by cases q)) ?_
        refine lv_iload_n hx hb (by decide +kernel : decode cJ0_checkIndex_df160 1 = .ok (.iload_n 1, 1)) rfl (hl.2.2.2 1 (.int n) hn (fun q => by cases q)) ?_
        have key : ∀ v : Value, v.category = 1 → W p l e R s m args below meth c H locs cells slots Q (F0 m 5 lsr [v, .int n, .int i]) := by
          intro v hv
          refine mm_call2 (v := .int i) (va_runS (As := [.int i, .int n, v]) (rest := []) ⟨hx, hb, hml, hown, hts⟩ (mm_chk0 l d hv h0 h1) ⟨callB_of 3 hts (mm_good (mm_in (mt_3 (List.mem_of_getElem? (i := 2) (by decide +kernel))) rfl)) rfl rfl rfl (hts _ (mm_in (mt_1 (List.mem_of_getElem? (i := 17) (by decide +kernel))) rfl)) (hts _ (mm_in (mt_3 (List.mem_of_getElem? (i := 0) (by decide +kernel))) rfl)) ⟨by decide +kernel, by decide +kernel, by decide +kernel⟩ ⟨by show d + 1 ≤ R.frames; omega, by show 8 + (3 + 11) + 150 * d ≤ R.locals; omega⟩, hts _ (mm_in (mt_3 (List.mem_of_getElem? (i := 1) (by decide +kernel))) rfl)⟩ ⟨fun _ _ _ _ q => q, fun U _ _ => rfl⟩ rfl rfl hl.2.1 rfl (lv_room (Nat.le_of_ble_eq_true rfl)) (by decide +kernel : decode cJ0_checkIndex_df160 5 = .ok (.invokestatic 1059, 3)) ⟨by rw [hR.2.2.1]; exact hrm.2.2.1, by rw [hR.2.2.2]; exact hrm.2.2.2⟩) ?_
          refine lv_pop hx hb (by decide +kernel : decode cJ0_checkIndex_df160 8 = .ok (.pop, 1)) rfl ?_
          exact kr _ _ rfl 9 lsr ⟨by decide +kernel, rfl⟩ hR
        rcases ext.2.2.2.2.2.2.2 with hz | ⟨t, hz⟩
        · exact va_gets hx hb hz hR.2.1 hown (hts _ (mm_in (mt_2 (List.mem_of_getElem? (i := 238) (by decide +kernel))) rfl)) (fun _ h9 => h9) (by decide +kernel : decode cJ0_checkIndex_df160 2 = .ok (.getstatic 1053, 3)) (key _ rfl)
        · exact va_gets hx hb hz hR.2.1 hown (hts _ (mm_in (mt_2 (List.mem_of_getElem? (i := 238) (by decide +kernel))) rfl)) (fun _ h9 => h9) (by decide +kernel : decode cJ0_checkIndex_df160 2 = .ok (.getstatic 1053, 3)) (key _ rfl)
      · simp only [h0, h1, if_false] at hf2
        cases hf2
/-! the table of all methods, and that the JVM tells each -/
def mm_TL : List (Nat × mm_K mm_H) := [(1, cd_J0_length_8abf5), (2, cd_J0_charAt_5068e), (1, cd_J0_coder_7d493), (1, cd_J0_isLatin1_aae02), (2, cd_J0_checkIndex_df160), (2, cd_J1_charAt_3b067), (1, cd_J6_bitCount_0f7a4), (3, cd_J9_floorDiv_7cf53), (3, cd_J9_floorMod_7cf53), (2, cd_J9_max_7cf53), (4, cd_J9_max_f86c9), (2, cd_J9_min_7cf53), (4, cd_J9_min_f86c9), (1, cd_X0_countSeen), (1, cd_X0_forgetSeen), (4, cd_X0_sceneAfter), (6, cd_X0_firstCurtain), (6, cd_X0_findChange), (7, cd_X0_findHome), (7, cd_X0_fewestToPart), (7, cd_X0_parts), (2, cd_X0_forgetOutcomes), (7, cd_X0_isAtRest), (7, cd_X0_lookIn), (6, cd_X0_readSeen), (7, cd_X0_possibleThoughts), (6, cd_X0_possibleFaces), (4, cd_X0_comesAsSeen), (3, cd_X0_isAsSeen), (4, cd_X0_seenAt), (9, cd_X0_findTelling), (8, cd_X0_mostLeft), (4, cd_X0_lookBy), (2, cd_X1_clear), (2, cd_X1_isTold), (2, cd_X1_openRule), (2, cd_X1_closeRule), (2, cd_X1_add), (3, cd_X1_setValue), (7, cd_X1_work), (2, cd_X1_valueOf), (2, cd_X1_push), (1, cd_X1_pop), (4, cd_X1_turned), (3, cd_X1_joined), (2, cd_X1_held), (5, cd_X2_readRule), (5, cd_X2_readTest), (4, cd_X2_readFact), (3, cd_X2_readNot), (2, cd_X2_readInnerTest), (1, cd_X2_comparisonHere), (6, cd_X2_readSum), (1, cd_X2_deedHere), (3, cd_X2_readPart), (1, cd_X2_readNumber), (2, cd_X2_readInnerSum), (3, cd_X2_readPair), (4, cd_X2_readOfPerson), (2, cd_X2_isValueHere), (1, cd_X3_size), (1, cd_X3_forget), (2, cd_X3_remember), (2, cd_X3_restore), (2, cd_X4_byteAt), (4, cd_X4_write), (2, cd_X4_add), (6, cd_X4_read), (3, cd_X4_isChecked), (9, cd_X4_readPerson), (4, cd_X5_read), (7, cd_X5_answer), (5, cd_X5_joined), (3, cd_X5_setFor), (1, cd_X6_begin), (5, cd_X6_advance), (1, cd_X6_isAtEnd), (1, cd_X6_isAnyWord), (1, cd_X6_isAnyNumber), (2, cd_X6_isWord), (2, cd_X6_isSign), (2, cd_X6_takeWord), (2, cd_X6_takeSign), (3, cd_X6_isNumberHere), (1, cd_X6_isNameHere), (2, cd_X6_takeValue), (2, cd_X6_letterAt), (2, cd_X6_mayOpen), (1, cd_X6_unexpected), (2, cd_X6_fail), (3, cd_X6_failAt), (3, cd_X6_afterBlanks), (3, cd_X6_afterLetters), (3, cd_X6_afterDigits), (8, cd_X6_wordFrom), (6, cd_X6_numberFrom), (1, cd_X6_isBlank), (1, cd_X6_isLetter), (1, cd_X6_isDigit), (2, cd_X7_clear), (2, cd_X7_copyFrom), (2, cd_X7_isHouse), (2, cd_X7_isPerson), (3, cd_X7_arePair), (2, cd_X7_lodgerAt), (2, cd_X7_homeOf), (2, cd_X7_lookOf), (2, cd_X7_faceOf), (2, cd_X7_kindOf), (2, cd_X7_sparingOf), (4, cd_X7_thoughtOf), (3, cd_X7_neighbourOf), (3, cd_X7_setLook), (3, cd_X7_setFace), (3, cd_X7_setSparing), (4, cd_X7_setThought), (3, cd_X7_place), (4, cd_X7_swapHouses), (6, cd_X7_moveIn), (3, cd_X7_keep), (1, cd_X7_countKept), (4, cd_X7_keptAt), (3, cd_X7_countCurtains), (3, cd_X7_countSparing), (3, cd_X7_allLooks), (1, cd_X8_size), (2, cd_X8_byteAt), (3, cd_X8_addNumber), (2, cd_X8_shorten), (3, cd_X9_readTerrace), (2, cd_X9_readHouses), (2, cd_X9_readStatement), (4, cd_X9_readSoul), (4, cd_X9_readThought), (3, cd_X9_takePerson), (2, cd_X9_readSlip), (1, cd_X10_clear), (4, cd_X10_nameNext), (5, cd_X10_personNamed), (4, cd_X10_letterOf), (1, cd_X10_addUntoldRules), (6, cd_X10_pass), (7, cd_X10_stroke), (5, cd_X10_paintedLook), (5, cd_X10_setForPaints), (5, cd_X10_setForMinds), (4, cd_X10_isFeud), (6, cd_X10_feudBits), (6, cd_X11_feed), (2, cd_X11_end), (3, cd_X11_terrace), (2, cd_X11_fault), (2, cd_X11_has), (3, cd_X11_letter), (2, cd_X11_house), (3, cd_X11_person), (3, cd_X11_thinks), (4, cd_X11_paints), (3, cd_X11_feud), (3, cd_X11_kept), (3, cd_X11_later), (4, cd_X11_mind), (2, cd_X11_curtain), (3, cd_X11_changed), (5, cd_X11_stranger), (1, cd_X11_parted), (5, cd_X11_rest), (2, cd_X11_see), (3, cd_X11_thoughts), (2, cd_X11_faces), (5, cd_X11_tells), (4, cd_X11_change), (3, cd_X11_right), (3, cd_X11_spare), (3, cd_X11_years), (4, cd_X11_chance), (1, cd_X11_undo), (2, cd_X11_seed), (2, cd_X11_ask), (1, cd_X11_image), (2, cd_X11_octet), (2, cd_X11_on), (2, cd_X11_status), (2, cd_X11_refuse), (4, cd_X11_canPass), (2, cd_X11_slipOnce), (2, cd_X11_draw), (2, cd_X11_within), (6, cd_X12_isIn), (8, cd_X12_feed), (2, cd_X12_end), (3, cd_X12_fail), (1, cd_X12_isLetter), (1, cd_X12_isDigit), (1, cd_X12_look), (4, cd_X12_isHere), (2, cd_X12_takes), (2, cd_X12_asks), (2, cd_X12_takesSign), (2, cd_X12_asksSign), (5, cd_X12_number), (2, cd_X12_isOwnHere), (3, cd_X12_name), (2, cd_X12_isAllowed), (4, cd_X12_nameOf), (4, cd_X12_oneOf), (1, cd_X12_terraceTold), (7, cd_X12_soulTold), (4, cd_X12_thinksTold), (4, cd_X12_codesTold), (2, cd_X12_statementTold), (2, cd_X12_terrace), (2, cd_X12_stands), (2, cd_X12_fault), (3, cd_X12_isPerson), (4, cd_X12_isOther), (3, cd_X12_areTwo), (2, cd_X12_isHouse), (2, cd_X12_houseOf), (2, cd_X12_lookOf), (2, cd_X12_doesSpare), (2, cd_X12_faceOf), (2, cd_X12_kindOf), (3, cd_X12_thoughtOf), (3, cd_X12_whoIn), (3, cd_X12_neighbour), (4, cd_X12_codesTell), (3, cd_X12_cut), (4, cd_X12_painted), (4, cd_X12_minded), (3, cd_X12_isFeud), (4, cd_X12_isKept), (6, cd_X12_stroke), (3, cd_X12_yearGoes), (3, cd_X12_yearsGo), (2, cd_X12_putsAside), (2, cd_X12_triesAnew), (1, cd_X12_takesBack), (4, cd_X12_isAhead), (3, cd_X12_bits), (3, cd_X12_lookAll), (3, cd_X12_curtainsNow), (3, cd_X12_spareMany), (4, cd_X12_feudAt), (3, cd_X12_feudMany), (2, cd_X12_has), (8, cd_X12_letter), (2, cd_X12_house), (3, cd_X12_person), (3, cd_X12_thinks), (4, cd_X12_paints), (2, cd_X12_feud), (3, cd_X12_kept), (4, cd_X12_later), (5, cd_X12_mind), (4, cd_X12_curtain), (5, cd_X12_changes), (9, cd_X12_changed), (6, cd_X12_comes), (10, cd_X12_stranger), (3, cd_X12_isPeace), (3, cd_X12_parted), (4, cd_X12_laysThen), (3, cd_X12_isRest), (4, cd_X12_rest), (2, cd_X12_refuses), (4, cd_X12_see), (3, cd_X12_isAsSeen), (5, cd_X12_laysWay), (4, cd_X12_laysThoughts), (3, cd_X12_fitSet), (3, cd_X12_thoughts), (4, cd_X12_faces), (6, cd_X12_mostAlike), (8, cd_X12_tells), (2, cd_X12_keeps), (2, cd_X12_undo), (1, cd_X12_isRefused), (3, cd_X12_change), (2, cd_X12_right), (3, cd_X12_spare), (2, cd_X12_years), (2, cd_X12_seed), (2, cd_X12_drawOf), (5, cd_X12_chance), (2, cd_X12_qCode), (3, cd_X12_qOpens), (2, cd_X12_qIsOn), (1, cd_X12_qDrops), (1, cd_X12_qIsBracket), (2, cd_X12_qBracket), (1, cd_X12_qDropsToBracket), (1, cd_X12_qWordHere), (4, cd_X12_qWordOf), (2, cd_X12_qAsksWord), (1, cd_X12_qEndsPart), (6, cd_X12_qPartTold), (2, cd_X12_qGoesOn), (3, cd_X12_qSums), (2, cd_X12_qFact), (2, cd_X12_qHasSquare), (1, cd_X12_qDropsNots), (3, cd_X12_qTest), (1, cd_X12_qGoesOnTest), (2, cd_X12_qClip), (6, cd_X12_qFloor), (3, cd_X12_qPuts), (6, cd_X12_qJoins), (3, cd_X12_qPartOf), (5, cd_X12_qOf), (4, cd_X12_qTold), (2, cd_X12_qKind), (6, cd_X12_qTakes), (3, cd_X12_ask), (4, cd_X12_checked), (2, cd_X12_writes), (3, cd_X12_image), (2, cd_X12_octet), (5, cd_X12_isPersonTold), (3, cd_X12_isImage), (5, cd_X12_on), (2, cd_X12_status)]
def mm_T0 : mm_T mm_H := fun y => mm_TL[y]?
def mm_Tf (l : Launch) (k : Nat) (L : List (Nat × mm_K mm_H)) : Prop := ∀ (i nL : Nat) (cd : mm_K mm_H), L[i]? = some (nL, cd) → plainFor (mm_I0 (k + i)).1 = true ∧ (mm_I0 (k + i)).2.2.1 = nL ∧ mm_CodeOK l mm_I0 (mm_I0 (k + i)).1.cls (mm_I0 (k + i)).2.1 nL (mm_I0 (k + i)).2.2.2 cd
theorem mm_Tf0 (l : Launch) (k : Nat) : mm_Tf l k [] := fun i nL cd h => by simp at h
theorem mm_Tfc {l : Launch} {k nL : Nat} {cd : mm_K mm_H} {L : List (Nat × mm_K mm_H)} {q : MethodName × ByteArray × Nat × Option FieldType} (hI : mm_I0 k = q) (h1 : plainFor q.1 = true) (h2 : q.2.2.1 = nL) (h3 : mm_CodeOK l mm_I0 q.1.cls q.2.1 nL q.2.2.2 cd) (hL : mm_Tf l (k + 1) L) : mm_Tf l k ((nL, cd) :: L) := by
  intro i nL' cd' h
  cases i with
  | zero =>
    rw [List.getElem?_cons_zero] at h
    cases h
    rw [Nat.add_zero, hI]
    exact ⟨h1, h2, h3⟩
  | succ j =>
    rw [List.getElem?_cons_succ] at h
    have := hL j nL' cd' h
    rw [show k + 1 + j = k + (j + 1) by omega] at this
    exact this
set_option maxRecDepth 100000 in
set_option maxHeartbeats 4000000 in
theorem mm_T0_ok (l : Launch) : mm_TOK2 l mm_T0 mm_I0 := by
  have h : mm_Tf l 0 mm_TL := by
    refine mm_Tfc (q := (yJ0_length_8abf5, cJ0_length_8abf5, 1, (some .int))) rfl (by decide +kernel) rfl (ok_J0_length_8abf5 l) ?_
    refine mm_Tfc (q := (yJ0_charAt_5068e, cJ0_charAt_5068e, 2, (some .char))) rfl (by decide +kernel) rfl (ok_J0_charAt_5068e l) ?_
    refine mm_Tfc (q := (yJ0_coder_7d493, cJ0_coder_7d493, 1, (some .byte))) rfl (by decide +kernel) rfl (ok_J0_coder_7d493 l) ?_
    refine mm_Tfc (q := (yJ0_isLatin1_aae02, cJ0_isLatin1_aae02, 1, (some .boolean))) rfl (by decide +kernel) rfl (ok_J0_isLatin1_aae02 l) ?_
    refine mm_Tfc (q := (yJ0_checkIndex_df160, cJ0_checkIndex_df160, 2, none)) rfl (by decide +kernel) rfl (ok_J0_checkIndex_df160 l) ?_
    refine mm_Tfc (q := (yJ1_charAt_3b067, cJ1_charAt_3b067, 2, (some .char))) rfl (by decide +kernel) rfl (ok_J1_charAt_3b067 l) ?_
    refine mm_Tfc (q := (yJ6_bitCount_0f7a4, cJ6_bitCount_0f7a4, 1, (some .int))) rfl (by decide +kernel) rfl (ok_J6_bitCount_0f7a4 l) ?_
    refine mm_Tfc (q := (yJ9_floorDiv_7cf53, cJ9_floorDiv_7cf53, 3, (some .int))) rfl (by decide +kernel) rfl (ok_J9_floorDiv_7cf53 l) ?_
    refine mm_Tfc (q := (yJ9_floorMod_7cf53, cJ9_floorMod_7cf53, 3, (some .int))) rfl (by decide +kernel) rfl (ok_J9_floorMod_7cf53 l) ?_
    refine mm_Tfc (q := (yJ9_max_7cf53, cJ9_max_7cf53, 2, (some .int))) rfl (by decide +kernel) rfl (ok_J9_max_7cf53 l) ?_
    refine mm_Tfc (q := (yJ9_max_f86c9, cJ9_max_f86c9, 4, (some .long))) rfl (by decide +kernel) rfl (ok_J9_max_f86c9 l) ?_
    refine mm_Tfc (q := (yJ9_min_7cf53, cJ9_min_7cf53, 2, (some .int))) rfl (by decide +kernel) rfl (ok_J9_min_7cf53 l) ?_
    refine mm_Tfc (q := (yJ9_min_f86c9, cJ9_min_f86c9, 4, (some .long))) rfl (by decide +kernel) rfl (ok_J9_min_f86c9 l) ?_
    refine mm_Tfc (q := (yX0_countSeen, cX0_countSeen, 1, (some .int))) rfl (by decide +kernel) rfl (ok_X0_countSeen l) ?_
    refine mm_Tfc (q := (yX0_forgetSeen, cX0_forgetSeen, 1, none)) rfl (by decide +kernel) rfl (ok_X0_forgetSeen l) ?_
    refine mm_Tfc (q := (yX0_sceneAfter, cX0_sceneAfter, 4, (some (.object "Retouched$Scene")))) rfl (by decide +kernel) rfl (ok_X0_sceneAfter l) ?_
    refine mm_Tfc (q := (yX0_firstCurtain, cX0_firstCurtain, 6, (some .int))) rfl (by decide +kernel) rfl (ok_X0_firstCurtain l) ?_
    refine mm_Tfc (q := (yX0_findChange, cX0_findChange, 6, (some .boolean))) rfl (by decide +kernel) rfl (ok_X0_findChange l) ?_
    refine mm_Tfc (q := (yX0_findHome, cX0_findHome, 7, (some .boolean))) rfl (by decide +kernel) rfl (ok_X0_findHome l) ?_
    refine mm_Tfc (q := (yX0_fewestToPart, cX0_fewestToPart, 7, (some .int))) rfl (by decide +kernel) rfl (ok_X0_fewestToPart l) ?_
    refine mm_Tfc (q := (yX0_parts, cX0_parts, 7, (some .boolean))) rfl (by decide +kernel) rfl (ok_X0_parts l) ?_
    refine mm_Tfc (q := (yX0_forgetOutcomes, cX0_forgetOutcomes, 2, none)) rfl (by decide +kernel) rfl (ok_X0_forgetOutcomes l) ?_
    refine mm_Tfc (q := (yX0_isAtRest, cX0_isAtRest, 7, (some .boolean))) rfl (by decide +kernel) rfl (ok_X0_isAtRest l) ?_
    refine mm_Tfc (q := (yX0_lookIn, cX0_lookIn, 7, (some .int))) rfl (by decide +kernel) rfl (ok_X0_lookIn l) ?_
    refine mm_Tfc (q := (yX0_readSeen, cX0_readSeen, 6, (some .boolean))) rfl (by decide +kernel) rfl (ok_X0_readSeen l) ?_
    refine mm_Tfc (q := (yX0_possibleThoughts, cX0_possibleThoughts, 7, (some .int))) rfl (by decide +kernel) rfl (ok_X0_possibleThoughts l) ?_
    refine mm_Tfc (q := (yX0_possibleFaces, cX0_possibleFaces, 6, (some .int))) rfl (by decide +kernel) rfl (ok_X0_possibleFaces l) ?_
    refine mm_Tfc (q := (yX0_comesAsSeen, cX0_comesAsSeen, 4, (some .boolean))) rfl (by decide +kernel) rfl (ok_X0_comesAsSeen l) ?_
    refine mm_Tfc (q := (yX0_isAsSeen, cX0_isAsSeen, 3, (some .boolean))) rfl (by decide +kernel) rfl (ok_X0_isAsSeen l) ?_
    refine mm_Tfc (q := (yX0_seenAt, cX0_seenAt, 4, (some .int))) rfl (by decide +kernel) rfl (ok_X0_seenAt l) ?_
    refine mm_Tfc (q := (yX0_findTelling, cX0_findTelling, 9, (some .boolean))) rfl (by decide +kernel) rfl (ok_X0_findTelling l) ?_
    refine mm_Tfc (q := (yX0_mostLeft, cX0_mostLeft, 8, (some .int))) rfl (by decide +kernel) rfl (ok_X0_mostLeft l) ?_
    refine mm_Tfc (q := (yX0_lookBy, cX0_lookBy, 4, (some .int))) rfl (by decide +kernel) rfl (ok_X0_lookBy l) ?_
    refine mm_Tfc (q := (yX1_clear, cX1_clear, 2, none)) rfl (by decide +kernel) rfl (ok_X1_clear l) ?_
    refine mm_Tfc (q := (yX1_isTold, cX1_isTold, 2, (some .boolean))) rfl (by decide +kernel) rfl (ok_X1_isTold l) ?_
    refine mm_Tfc (q := (yX1_openRule, cX1_openRule, 2, none)) rfl (by decide +kernel) rfl (ok_X1_openRule l) ?_
    refine mm_Tfc (q := (yX1_closeRule, cX1_closeRule, 2, none)) rfl (by decide +kernel) rfl (ok_X1_closeRule l) ?_
    refine mm_Tfc (q := (yX1_add, cX1_add, 2, none)) rfl (by decide +kernel) rfl (ok_X1_add l) ?_
    refine mm_Tfc (q := (yX1_setValue, cX1_setValue, 3, none)) rfl (by decide +kernel) rfl (ok_X1_setValue l) ?_
    refine mm_Tfc (q := (yX1_work, cX1_work, 7, (some .int))) rfl (by decide +kernel) rfl (ok_X1_work l) ?_
    refine mm_Tfc (q := (yX1_valueOf, cX1_valueOf, 2, (some .int))) rfl (by decide +kernel) rfl (ok_X1_valueOf l) ?_
    refine mm_Tfc (q := (yX1_push, cX1_push, 2, none)) rfl (by decide +kernel) rfl (ok_X1_push l) ?_
    refine mm_Tfc (q := (yX1_pop, cX1_pop, 1, (some .int))) rfl (by decide +kernel) rfl (ok_X1_pop l) ?_
    refine mm_Tfc (q := (yX1_turned, cX1_turned, 4, (some .int))) rfl (by decide +kernel) rfl (ok_X1_turned l) ?_
    refine mm_Tfc (q := (yX1_joined, cX1_joined, 3, (some .int))) rfl (by decide +kernel) rfl (ok_X1_joined l) ?_
    refine mm_Tfc (q := (yX1_held, cX1_held, 2, (some .int))) rfl (by decide +kernel) rfl (ok_X1_held l) ?_
    refine mm_Tfc (q := (yX2_readRule, cX2_readRule, 5, (some .boolean))) rfl (by decide +kernel) rfl (ok_X2_readRule l) ?_
    refine mm_Tfc (q := (yX2_readTest, cX2_readTest, 5, (some .boolean))) rfl (by decide +kernel) rfl (ok_X2_readTest l) ?_
    refine mm_Tfc (q := (yX2_readFact, cX2_readFact, 4, (some .boolean))) rfl (by decide +kernel) rfl (ok_X2_readFact l) ?_
    refine mm_Tfc (q := (yX2_readNot, cX2_readNot, 3, (some .boolean))) rfl (by decide +kernel) rfl (ok_X2_readNot l) ?_
    refine mm_Tfc (q := (yX2_readInnerTest, cX2_readInnerTest, 2, (some .boolean))) rfl (by decide +kernel) rfl (ok_X2_readInnerTest l) ?_
    refine mm_Tfc (q := (yX2_comparisonHere, cX2_comparisonHere, 1, (some .int))) rfl (by decide +kernel) rfl (ok_X2_comparisonHere l) ?_
    refine mm_Tfc (q := (yX2_readSum, cX2_readSum, 6, (some .boolean))) rfl (by decide +kernel) rfl (ok_X2_readSum l) ?_
    refine mm_Tfc (q := (yX2_deedHere, cX2_deedHere, 1, (some .int))) rfl (by decide +kernel) rfl (ok_X2_deedHere l) ?_
    refine mm_Tfc (q := (yX2_readPart, cX2_readPart, 3, (some .boolean))) rfl (by decide +kernel) rfl (ok_X2_readPart l) ?_
    refine mm_Tfc (q := (yX2_readNumber, cX2_readNumber, 1, (some .boolean))) rfl (by decide +kernel) rfl (ok_X2_readNumber l) ?_
    refine mm_Tfc (q := (yX2_readInnerSum, cX2_readInnerSum, 2, (some .boolean))) rfl (by decide +kernel) rfl (ok_X2_readInnerSum l) ?_
    refine mm_Tfc (q := (yX2_readPair, cX2_readPair, 3, (some .boolean))) rfl (by decide +kernel) rfl (ok_X2_readPair l) ?_
    refine mm_Tfc (q := (yX2_readOfPerson, cX2_readOfPerson, 4, (some .boolean))) rfl (by decide +kernel) rfl (ok_X2_readOfPerson l) ?_
    refine mm_Tfc (q := (yX2_isValueHere, cX2_isValueHere, 2, (some .boolean))) rfl (by decide +kernel) rfl (ok_X2_isValueHere l) ?_
    refine mm_Tfc (q := (yX3_size, cX3_size, 1, (some .int))) rfl (by decide +kernel) rfl (ok_X3_size l) ?_
    refine mm_Tfc (q := (yX3_forget, cX3_forget, 1, none)) rfl (by decide +kernel) rfl (ok_X3_forget l) ?_
    refine mm_Tfc (q := (yX3_remember, cX3_remember, 2, none)) rfl (by decide +kernel) rfl (ok_X3_remember l) ?_
    refine mm_Tfc (q := (yX3_restore, cX3_restore, 2, (some .boolean))) rfl (by decide +kernel) rfl (ok_X3_restore l) ?_
    refine mm_Tfc (q := (yX4_byteAt, cX4_byteAt, 2, (some .int))) rfl (by decide +kernel) rfl (ok_X4_byteAt l) ?_
    refine mm_Tfc (q := (yX4_write, cX4_write, 4, (some .int))) rfl (by decide +kernel) rfl (ok_X4_write l) ?_
    refine mm_Tfc (q := (yX4_add, cX4_add, 2, none)) rfl (by decide +kernel) rfl (ok_X4_add l) ?_
    refine mm_Tfc (q := (yX4_read, cX4_read, 6, (some .boolean))) rfl (by decide +kernel) rfl (ok_X4_read l) ?_
    refine mm_Tfc (q := (yX4_isChecked, cX4_isChecked, 3, (some .boolean))) rfl (by decide +kernel) rfl (ok_X4_isChecked l) ?_
    refine mm_Tfc (q := (yX4_readPerson, cX4_readPerson, 9, (some .boolean))) rfl (by decide +kernel) rfl (ok_X4_readPerson l) ?_
    refine mm_Tfc (q := (yX5_read, cX5_read, 4, (some .boolean))) rfl (by decide +kernel) rfl (ok_X5_read l) ?_
    refine mm_Tfc (q := (yX5_answer, cX5_answer, 7, (some .long))) rfl (by decide +kernel) rfl (ok_X5_answer l) ?_
    refine mm_Tfc (q := (yX5_joined, cX5_joined, 5, (some .long))) rfl (by decide +kernel) rfl (ok_X5_joined l) ?_
    refine mm_Tfc (q := (yX5_setFor, cX5_setFor, 3, none)) rfl (by decide +kernel) rfl (ok_X5_setFor l) ?_
    refine mm_Tfc (q := (yX6_begin, cX6_begin, 1, none)) rfl (by decide +kernel) rfl (ok_X6_begin l) ?_
    refine mm_Tfc (q := (yX6_advance, cX6_advance, 5, none)) rfl (by decide +kernel) rfl (ok_X6_advance l) ?_
    refine mm_Tfc (q := (yX6_isAtEnd, cX6_isAtEnd, 1, (some .boolean))) rfl (by decide +kernel) rfl (ok_X6_isAtEnd l) ?_
    refine mm_Tfc (q := (yX6_isAnyWord, cX6_isAnyWord, 1, (some .boolean))) rfl (by decide +kernel) rfl (ok_X6_isAnyWord l) ?_
    refine mm_Tfc (q := (yX6_isAnyNumber, cX6_isAnyNumber, 1, (some .boolean))) rfl (by decide +kernel) rfl (ok_X6_isAnyNumber l) ?_
    refine mm_Tfc (q := (yX6_isWord, cX6_isWord, 2, (some .boolean))) rfl (by decide +kernel) rfl (ok_X6_isWord l) ?_
    refine mm_Tfc (q := (yX6_isSign, cX6_isSign, 2, (some .boolean))) rfl (by decide +kernel) rfl (ok_X6_isSign l) ?_
    refine mm_Tfc (q := (yX6_takeWord, cX6_takeWord, 2, (some .boolean))) rfl (by decide +kernel) rfl (ok_X6_takeWord l) ?_
    refine mm_Tfc (q := (yX6_takeSign, cX6_takeSign, 2, (some .boolean))) rfl (by decide +kernel) rfl (ok_X6_takeSign l) ?_
    refine mm_Tfc (q := (yX6_isNumberHere, cX6_isNumberHere, 3, (some .boolean))) rfl (by decide +kernel) rfl (ok_X6_isNumberHere l) ?_
    refine mm_Tfc (q := (yX6_isNameHere, cX6_isNameHere, 1, (some .boolean))) rfl (by decide +kernel) rfl (ok_X6_isNameHere l) ?_
    refine mm_Tfc (q := (yX6_takeValue, cX6_takeValue, 2, (some .int))) rfl (by decide +kernel) rfl (ok_X6_takeValue l) ?_
    refine mm_Tfc (q := (yX6_letterAt, cX6_letterAt, 2, (some .int))) rfl (by decide +kernel) rfl (ok_X6_letterAt l) ?_
    refine mm_Tfc (q := (yX6_mayOpen, cX6_mayOpen, 2, (some .boolean))) rfl (by decide +kernel) rfl (ok_X6_mayOpen l) ?_
    refine mm_Tfc (q := (yX6_unexpected, cX6_unexpected, 1, (some .boolean))) rfl (by decide +kernel) rfl (ok_X6_unexpected l) ?_
    refine mm_Tfc (q := (yX6_fail, cX6_fail, 2, (some .boolean))) rfl (by decide +kernel) rfl (ok_X6_fail l) ?_
    refine mm_Tfc (q := (yX6_failAt, cX6_failAt, 3, (some .boolean))) rfl (by decide +kernel) rfl (ok_X6_failAt l) ?_
    refine mm_Tfc (q := (yX6_afterBlanks, cX6_afterBlanks, 3, (some .int))) rfl (by decide +kernel) rfl (ok_X6_afterBlanks l) ?_
    refine mm_Tfc (q := (yX6_afterLetters, cX6_afterLetters, 3, (some .int))) rfl (by decide +kernel) rfl (ok_X6_afterLetters l) ?_
    refine mm_Tfc (q := (yX6_afterDigits, cX6_afterDigits, 3, (some .int))) rfl (by decide +kernel) rfl (ok_X6_afterDigits l) ?_
    refine mm_Tfc (q := (yX6_wordFrom, cX6_wordFrom, 8, (some .int))) rfl (by decide +kernel) rfl (ok_X6_wordFrom l) ?_
    refine mm_Tfc (q := (yX6_numberFrom, cX6_numberFrom, 6, (some .int))) rfl (by decide +kernel) rfl (ok_X6_numberFrom l) ?_
    refine mm_Tfc (q := (yX6_isBlank, cX6_isBlank, 1, (some .boolean))) rfl (by decide +kernel) rfl (ok_X6_isBlank l) ?_
    refine mm_Tfc (q := (yX6_isLetter, cX6_isLetter, 1, (some .boolean))) rfl (by decide +kernel) rfl (ok_X6_isLetter l) ?_
    refine mm_Tfc (q := (yX6_isDigit, cX6_isDigit, 1, (some .boolean))) rfl (by decide +kernel) rfl (ok_X6_isDigit l) ?_
    refine mm_Tfc (q := (yX7_clear, cX7_clear, 2, none)) rfl (by decide +kernel) rfl (ok_X7_clear l) ?_
    refine mm_Tfc (q := (yX7_copyFrom, cX7_copyFrom, 2, none)) rfl (by decide +kernel) rfl (ok_X7_copyFrom l) ?_
    refine mm_Tfc (q := (yX7_isHouse, cX7_isHouse, 2, (some .boolean))) rfl (by decide +kernel) rfl (ok_X7_isHouse l) ?_
    refine mm_Tfc (q := (yX7_isPerson, cX7_isPerson, 2, (some .boolean))) rfl (by decide +kernel) rfl (ok_X7_isPerson l) ?_
    refine mm_Tfc (q := (yX7_arePair, cX7_arePair, 3, (some .boolean))) rfl (by decide +kernel) rfl (ok_X7_arePair l) ?_
    refine mm_Tfc (q := (yX7_lodgerAt, cX7_lodgerAt, 2, (some .int))) rfl (by decide +kernel) rfl (ok_X7_lodgerAt l) ?_
    refine mm_Tfc (q := (yX7_homeOf, cX7_homeOf, 2, (some .int))) rfl (by decide +kernel) rfl (ok_X7_homeOf l) ?_
    refine mm_Tfc (q := (yX7_lookOf, cX7_lookOf, 2, (some .int))) rfl (by decide +kernel) rfl (ok_X7_lookOf l) ?_
    refine mm_Tfc (q := (yX7_faceOf, cX7_faceOf, 2, (some .int))) rfl (by decide +kernel) rfl (ok_X7_faceOf l) ?_
    refine mm_Tfc (q := (yX7_kindOf, cX7_kindOf, 2, (some .int))) rfl (by decide +kernel) rfl (ok_X7_kindOf l) ?_
    refine mm_Tfc (q := (yX7_sparingOf, cX7_sparingOf, 2, (some .int))) rfl (by decide +kernel) rfl (ok_X7_sparingOf l) ?_
    refine mm_Tfc (q := (yX7_thoughtOf, cX7_thoughtOf, 4, (some .int))) rfl (by decide +kernel) rfl (ok_X7_thoughtOf l) ?_
    refine mm_Tfc (q := (yX7_neighbourOf, cX7_neighbourOf, 3, (some .int))) rfl (by decide +kernel) rfl (ok_X7_neighbourOf l) ?_
    refine mm_Tfc (q := (yX7_setLook, cX7_setLook, 3, none)) rfl (by decide +kernel) rfl (ok_X7_setLook l) ?_
    refine mm_Tfc (q := (yX7_setFace, cX7_setFace, 3, none)) rfl (by decide +kernel) rfl (ok_X7_setFace l) ?_
    refine mm_Tfc (q := (yX7_setSparing, cX7_setSparing, 3, none)) rfl (by decide +kernel) rfl (ok_X7_setSparing l) ?_
    refine mm_Tfc (q := (yX7_setThought, cX7_setThought, 4, none)) rfl (by decide +kernel) rfl (ok_X7_setThought l) ?_
    refine mm_Tfc (q := (yX7_place, cX7_place, 3, none)) rfl (by decide +kernel) rfl (ok_X7_place l) ?_
    refine mm_Tfc (q := (yX7_swapHouses, cX7_swapHouses, 4, none)) rfl (by decide +kernel) rfl (ok_X7_swapHouses l) ?_
    refine mm_Tfc (q := (yX7_moveIn, cX7_moveIn, 6, none)) rfl (by decide +kernel) rfl (ok_X7_moveIn l) ?_
    refine mm_Tfc (q := (yX7_keep, cX7_keep, 3, none)) rfl (by decide +kernel) rfl (ok_X7_keep l) ?_
    refine mm_Tfc (q := (yX7_countKept, cX7_countKept, 1, (some .int))) rfl (by decide +kernel) rfl (ok_X7_countKept l) ?_
    refine mm_Tfc (q := (yX7_keptAt, cX7_keptAt, 4, (some .int))) rfl (by decide +kernel) rfl (ok_X7_keptAt l) ?_
    refine mm_Tfc (q := (yX7_countCurtains, cX7_countCurtains, 3, (some .int))) rfl (by decide +kernel) rfl (ok_X7_countCurtains l) ?_
    refine mm_Tfc (q := (yX7_countSparing, cX7_countSparing, 3, (some .int))) rfl (by decide +kernel) rfl (ok_X7_countSparing l) ?_
    refine mm_Tfc (q := (yX7_allLooks, cX7_allLooks, 3, (some .int))) rfl (by decide +kernel) rfl (ok_X7_allLooks l) ?_
    refine mm_Tfc (q := (yX8_size, cX8_size, 1, (some .int))) rfl (by decide +kernel) rfl (ok_X8_size l) ?_
    refine mm_Tfc (q := (yX8_byteAt, cX8_byteAt, 2, (some .int))) rfl (by decide +kernel) rfl (ok_X8_byteAt l) ?_
    refine mm_Tfc (q := (yX8_addNumber, cX8_addNumber, 3, none)) rfl (by decide +kernel) rfl (ok_X8_addNumber l) ?_
    refine mm_Tfc (q := (yX8_shorten, cX8_shorten, 2, none)) rfl (by decide +kernel) rfl (ok_X8_shorten l) ?_
    refine mm_Tfc (q := (yX9_readTerrace, cX9_readTerrace, 3, (some .boolean))) rfl (by decide +kernel) rfl (ok_X9_readTerrace l) ?_
    refine mm_Tfc (q := (yX9_readHouses, cX9_readHouses, 2, (some .boolean))) rfl (by decide +kernel) rfl (ok_X9_readHouses l) ?_
    refine mm_Tfc (q := (yX9_readStatement, cX9_readStatement, 2, (some .boolean))) rfl (by decide +kernel) rfl (ok_X9_readStatement l) ?_
    refine mm_Tfc (q := (yX9_readSoul, cX9_readSoul, 4, (some .boolean))) rfl (by decide +kernel) rfl (ok_X9_readSoul l) ?_
    refine mm_Tfc (q := (yX9_readThought, cX9_readThought, 4, (some .boolean))) rfl (by decide +kernel) rfl (ok_X9_readThought l) ?_
    refine mm_Tfc (q := (yX9_takePerson, cX9_takePerson, 3, (some .int))) rfl (by decide +kernel) rfl (ok_X9_takePerson l) ?_
    refine mm_Tfc (q := (yX9_readSlip, cX9_readSlip, 2, (some .boolean))) rfl (by decide +kernel) rfl (ok_X9_readSlip l) ?_
    refine mm_Tfc (q := (yX10_clear, cX10_clear, 1, none)) rfl (by decide +kernel) rfl (ok_X10_clear l) ?_
    refine mm_Tfc (q := (yX10_nameNext, cX10_nameNext, 4, none)) rfl (by decide +kernel) rfl (ok_X10_nameNext l) ?_
    refine mm_Tfc (q := (yX10_personNamed, cX10_personNamed, 5, (some .int))) rfl (by decide +kernel) rfl (ok_X10_personNamed l) ?_
    refine mm_Tfc (q := (yX10_letterOf, cX10_letterOf, 4, (some .int))) rfl (by decide +kernel) rfl (ok_X10_letterOf l) ?_
    refine mm_Tfc (q := (yX10_addUntoldRules, cX10_addUntoldRules, 1, none)) rfl (by decide +kernel) rfl (ok_X10_addUntoldRules l) ?_
    refine mm_Tfc (q := (yX10_pass, cX10_pass, 6, none)) rfl (by decide +kernel) rfl (ok_X10_pass l) ?_
    refine mm_Tfc (q := (yX10_stroke, cX10_stroke, 7, none)) rfl (by decide +kernel) rfl (ok_X10_stroke l) ?_
    refine mm_Tfc (q := (yX10_paintedLook, cX10_paintedLook, 5, (some .int))) rfl (by decide +kernel) rfl (ok_X10_paintedLook l) ?_
    refine mm_Tfc (q := (yX10_setForPaints, cX10_setForPaints, 5, none)) rfl (by decide +kernel) rfl (ok_X10_setForPaints l) ?_
    refine mm_Tfc (q := (yX10_setForMinds, cX10_setForMinds, 5, none)) rfl (by decide +kernel) rfl (ok_X10_setForMinds l) ?_
    refine mm_Tfc (q := (yX10_isFeud, cX10_isFeud, 4, (some .boolean))) rfl (by decide +kernel) rfl (ok_X10_isFeud l) ?_
    refine mm_Tfc (q := (yX10_feudBits, cX10_feudBits, 6, (some .int))) rfl (by decide +kernel) rfl (ok_X10_feudBits l) ?_
    refine mm_Tfc (q := (yX11_feed, cX11_feed, 6, (some .int))) rfl (by decide +kernel) rfl (ok_X11_feed l) ?_
    refine mm_Tfc (q := (yX11_end, cX11_end, 2, (some .boolean))) rfl (by decide +kernel) rfl (ok_X11_end l) ?_
    refine mm_Tfc (q := (yX11_terrace, cX11_terrace, 3, (some .int))) rfl (by decide +kernel) rfl (ok_X11_terrace l) ?_
    refine mm_Tfc (q := (yX11_fault, cX11_fault, 2, (some .int))) rfl (by decide +kernel) rfl (ok_X11_fault l) ?_
    refine mm_Tfc (q := (yX11_has, cX11_has, 2, (some .int))) rfl (by decide +kernel) rfl (ok_X11_has l) ?_
    refine mm_Tfc (q := (yX11_letter, cX11_letter, 3, (some .int))) rfl (by decide +kernel) rfl (ok_X11_letter l) ?_
    refine mm_Tfc (q := (yX11_house, cX11_house, 2, (some .int))) rfl (by decide +kernel) rfl (ok_X11_house l) ?_
    refine mm_Tfc (q := (yX11_person, cX11_person, 3, (some .int))) rfl (by decide +kernel) rfl (ok_X11_person l) ?_
    refine mm_Tfc (q := (yX11_thinks, cX11_thinks, 3, (some .int))) rfl (by decide +kernel) rfl (ok_X11_thinks l) ?_
    refine mm_Tfc (q := (yX11_paints, cX11_paints, 4, (some .int))) rfl (by decide +kernel) rfl (ok_X11_paints l) ?_
    refine mm_Tfc (q := (yX11_feud, cX11_feud, 3, (some .int))) rfl (by decide +kernel) rfl (ok_X11_feud l) ?_
    refine mm_Tfc (q := (yX11_kept, cX11_kept, 3, (some .int))) rfl (by decide +kernel) rfl (ok_X11_kept l) ?_
    refine mm_Tfc (q := (yX11_later, cX11_later, 3, (some .int))) rfl (by decide +kernel) rfl (ok_X11_later l) ?_
    refine mm_Tfc (q := (yX11_mind, cX11_mind, 4, (some .int))) rfl (by decide +kernel) rfl (ok_X11_mind l) ?_
    refine mm_Tfc (q := (yX11_curtain, cX11_curtain, 2, (some .int))) rfl (by decide +kernel) rfl (ok_X11_curtain l) ?_
    refine mm_Tfc (q := (yX11_changed, cX11_changed, 3, (some .int))) rfl (by decide +kernel) rfl (ok_X11_changed l) ?_
    refine mm_Tfc (q := (yX11_stranger, cX11_stranger, 5, (some .int))) rfl (by decide +kernel) rfl (ok_X11_stranger l) ?_
    refine mm_Tfc (q := (yX11_parted, cX11_parted, 1, (some .int))) rfl (by decide +kernel) rfl (ok_X11_parted l) ?_
    refine mm_Tfc (q := (yX11_rest, cX11_rest, 5, (some .int))) rfl (by decide +kernel) rfl (ok_X11_rest l) ?_
    refine mm_Tfc (q := (yX11_see, cX11_see, 2, (some .int))) rfl (by decide +kernel) rfl (ok_X11_see l) ?_
    refine mm_Tfc (q := (yX11_thoughts, cX11_thoughts, 3, (some .int))) rfl (by decide +kernel) rfl (ok_X11_thoughts l) ?_
    refine mm_Tfc (q := (yX11_faces, cX11_faces, 2, (some .int))) rfl (by decide +kernel) rfl (ok_X11_faces l) ?_
    refine mm_Tfc (q := (yX11_tells, cX11_tells, 5, (some .int))) rfl (by decide +kernel) rfl (ok_X11_tells l) ?_
    refine mm_Tfc (q := (yX11_change, cX11_change, 4, (some .boolean))) rfl (by decide +kernel) rfl (ok_X11_change l) ?_
    refine mm_Tfc (q := (yX11_right, cX11_right, 3, (some .boolean))) rfl (by decide +kernel) rfl (ok_X11_right l) ?_
    refine mm_Tfc (q := (yX11_spare, cX11_spare, 3, (some .boolean))) rfl (by decide +kernel) rfl (ok_X11_spare l) ?_
    refine mm_Tfc (q := (yX11_years, cX11_years, 3, (some .int))) rfl (by decide +kernel) rfl (ok_X11_years l) ?_
    refine mm_Tfc (q := (yX11_chance, cX11_chance, 4, (some .int))) rfl (by decide +kernel) rfl (ok_X11_chance l) ?_
    refine mm_Tfc (q := (yX11_undo, cX11_undo, 1, (some .boolean))) rfl (by decide +kernel) rfl (ok_X11_undo l) ?_
    refine mm_Tfc (q := (yX11_seed, cX11_seed, 2, (some .boolean))) rfl (by decide +kernel) rfl (ok_X11_seed l) ?_
    refine mm_Tfc (q := (yX11_ask, cX11_ask, 2, (some .long))) rfl (by decide +kernel) rfl (ok_X11_ask l) ?_
    refine mm_Tfc (q := (yX11_image, cX11_image, 1, (some .int))) rfl (by decide +kernel) rfl (ok_X11_image l) ?_
    refine mm_Tfc (q := (yX11_octet, cX11_octet, 2, (some .int))) rfl (by decide +kernel) rfl (ok_X11_octet l) ?_
    refine mm_Tfc (q := (yX11_on, cX11_on, 2, (some .boolean))) rfl (by decide +kernel) rfl (ok_X11_on l) ?_
    refine mm_Tfc (q := (yX11_status, cX11_status, 2, (some .int))) rfl (by decide +kernel) rfl (ok_X11_status l) ?_
    refine mm_Tfc (q := (yX11_refuse, cX11_refuse, 2, (some .int))) rfl (by decide +kernel) rfl (ok_X11_refuse l) ?_
    refine mm_Tfc (q := (yX11_canPass, cX11_canPass, 4, (some .boolean))) rfl (by decide +kernel) rfl (ok_X11_canPass l) ?_
    refine mm_Tfc (q := (yX11_slipOnce, cX11_slipOnce, 2, (some .int))) rfl (by decide +kernel) rfl (ok_X11_slipOnce l) ?_
    refine mm_Tfc (q := (yX11_draw, cX11_draw, 2, (some .int))) rfl (by decide +kernel) rfl (ok_X11_draw l) ?_
    refine mm_Tfc (q := (yX11_within, cX11_within, 2, (some .int))) rfl (by decide +kernel) rfl (ok_X11_within l) ?_
    refine mm_Tfc (q := (yX12_isIn, cX12_isIn, 6, (some .boolean))) rfl (by decide +kernel) rfl (ok_X12_isIn l) ?_
    refine mm_Tfc (q := (yX12_feed, cX12_feed, 8, (some .int))) rfl (by decide +kernel) rfl (ok_X12_feed l) ?_
    refine mm_Tfc (q := (yX12_end, cX12_end, 2, (some .boolean))) rfl (by decide +kernel) rfl (ok_X12_end l) ?_
    refine mm_Tfc (q := (yX12_fail, cX12_fail, 3, none)) rfl (by decide +kernel) rfl (ok_X12_fail l) ?_
    refine mm_Tfc (q := (yX12_isLetter, cX12_isLetter, 1, (some .boolean))) rfl (by decide +kernel) rfl (ok_X12_isLetter l) ?_
    refine mm_Tfc (q := (yX12_isDigit, cX12_isDigit, 1, (some .boolean))) rfl (by decide +kernel) rfl (ok_X12_isDigit l) ?_
    refine mm_Tfc (q := (yX12_look, cX12_look, 1, (some .int))) rfl (by decide +kernel) rfl (ok_X12_look l) ?_
    refine mm_Tfc (q := (yX12_isHere, cX12_isHere, 4, (some .boolean))) rfl (by decide +kernel) rfl (ok_X12_isHere l) ?_
    refine mm_Tfc (q := (yX12_takes, cX12_takes, 2, (some .boolean))) rfl (by decide +kernel) rfl (ok_X12_takes l) ?_
    refine mm_Tfc (q := (yX12_asks, cX12_asks, 2, none)) rfl (by decide +kernel) rfl (ok_X12_asks l) ?_
    refine mm_Tfc (q := (yX12_takesSign, cX12_takesSign, 2, (some .boolean))) rfl (by decide +kernel) rfl (ok_X12_takesSign l) ?_
    refine mm_Tfc (q := (yX12_asksSign, cX12_asksSign, 2, none)) rfl (by decide +kernel) rfl (ok_X12_asksSign l) ?_
    refine mm_Tfc (q := (yX12_number, cX12_number, 5, (some .int))) rfl (by decide +kernel) rfl (ok_X12_number l) ?_
    refine mm_Tfc (q := (yX12_isOwnHere, cX12_isOwnHere, 2, (some .boolean))) rfl (by decide +kernel) rfl (ok_X12_isOwnHere l) ?_
    refine mm_Tfc (q := (yX12_name, cX12_name, 3, (some .long))) rfl (by decide +kernel) rfl (ok_X12_name l) ?_
    refine mm_Tfc (q := (yX12_isAllowed, cX12_isAllowed, 2, (some .boolean))) rfl (by decide +kernel) rfl (ok_X12_isAllowed l) ?_
    refine mm_Tfc (q := (yX12_nameOf, cX12_nameOf, 4, (some .int))) rfl (by decide +kernel) rfl (ok_X12_nameOf l) ?_
    refine mm_Tfc (q := (yX12_oneOf, cX12_oneOf, 4, (some .int))) rfl (by decide +kernel) rfl (ok_X12_oneOf l) ?_
    refine mm_Tfc (q := (yX12_terraceTold, cX12_terraceTold, 1, none)) rfl (by decide +kernel) rfl (ok_X12_terraceTold l) ?_
    refine mm_Tfc (q := (yX12_soulTold, cX12_soulTold, 7, none)) rfl (by decide +kernel) rfl (ok_X12_soulTold l) ?_
    refine mm_Tfc (q := (yX12_thinksTold, cX12_thinksTold, 4, none)) rfl (by decide +kernel) rfl (ok_X12_thinksTold l) ?_
    refine mm_Tfc (q := (yX12_codesTold, cX12_codesTold, 4, none)) rfl (by decide +kernel) rfl (ok_X12_codesTold l) ?_
    refine mm_Tfc (q := (yX12_statementTold, cX12_statementTold, 2, none)) rfl (by decide +kernel) rfl (ok_X12_statementTold l) ?_
    refine mm_Tfc (q := (yX12_terrace, cX12_terrace, 2, (some .int))) rfl (by decide +kernel) rfl (ok_X12_terrace l) ?_
    refine mm_Tfc (q := (yX12_stands, cX12_stands, 2, none)) rfl (by decide +kernel) rfl (ok_X12_stands l) ?_
    refine mm_Tfc (q := (yX12_fault, cX12_fault, 2, (some .int))) rfl (by decide +kernel) rfl (ok_X12_fault l) ?_
    refine mm_Tfc (q := (yX12_isPerson, cX12_isPerson, 3, (some .boolean))) rfl (by decide +kernel) rfl (ok_X12_isPerson l) ?_
    refine mm_Tfc (q := (yX12_isOther, cX12_isOther, 4, (some .boolean))) rfl (by decide +kernel) rfl (ok_X12_isOther l) ?_
    refine mm_Tfc (q := (yX12_areTwo, cX12_areTwo, 3, (some .boolean))) rfl (by decide +kernel) rfl (ok_X12_areTwo l) ?_
    refine mm_Tfc (q := (yX12_isHouse, cX12_isHouse, 2, (some .boolean))) rfl (by decide +kernel) rfl (ok_X12_isHouse l) ?_
    refine mm_Tfc (q := (yX12_houseOf, cX12_houseOf, 2, (some .int))) rfl (by decide +kernel) rfl (ok_X12_houseOf l) ?_
    refine mm_Tfc (q := (yX12_lookOf, cX12_lookOf, 2, (some .int))) rfl (by decide +kernel) rfl (ok_X12_lookOf l) ?_
    refine mm_Tfc (q := (yX12_doesSpare, cX12_doesSpare, 2, (some .boolean))) rfl (by decide +kernel) rfl (ok_X12_doesSpare l) ?_
    refine mm_Tfc (q := (yX12_faceOf, cX12_faceOf, 2, (some .int))) rfl (by decide +kernel) rfl (ok_X12_faceOf l) ?_
    refine mm_Tfc (q := (yX12_kindOf, cX12_kindOf, 2, (some .int))) rfl (by decide +kernel) rfl (ok_X12_kindOf l) ?_
    refine mm_Tfc (q := (yX12_thoughtOf, cX12_thoughtOf, 3, (some .int))) rfl (by decide +kernel) rfl (ok_X12_thoughtOf l) ?_
    refine mm_Tfc (q := (yX12_whoIn, cX12_whoIn, 3, (some .int))) rfl (by decide +kernel) rfl (ok_X12_whoIn l) ?_
    refine mm_Tfc (q := (yX12_neighbour, cX12_neighbour, 3, (some .int))) rfl (by decide +kernel) rfl (ok_X12_neighbour l) ?_
    refine mm_Tfc (q := (yX12_codesTell, cX12_codesTell, 4, (some .long))) rfl (by decide +kernel) rfl (ok_X12_codesTell l) ?_
    refine mm_Tfc (q := (yX12_cut, cX12_cut, 3, (some .int))) rfl (by decide +kernel) rfl (ok_X12_cut l) ?_
    refine mm_Tfc (q := (yX12_painted, cX12_painted, 4, (some .int))) rfl (by decide +kernel) rfl (ok_X12_painted l) ?_
    refine mm_Tfc (q := (yX12_minded, cX12_minded, 4, (some .int))) rfl (by decide +kernel) rfl (ok_X12_minded l) ?_
    refine mm_Tfc (q := (yX12_isFeud, cX12_isFeud, 3, (some .boolean))) rfl (by decide +kernel) rfl (ok_X12_isFeud l) ?_
    refine mm_Tfc (q := (yX12_isKept, cX12_isKept, 4, none)) rfl (by decide +kernel) rfl (ok_X12_isKept l) ?_
    refine mm_Tfc (q := (yX12_stroke, cX12_stroke, 6, none)) rfl (by decide +kernel) rfl (ok_X12_stroke l) ?_
    refine mm_Tfc (q := (yX12_yearGoes, cX12_yearGoes, 3, none)) rfl (by decide +kernel) rfl (ok_X12_yearGoes l) ?_
    refine mm_Tfc (q := (yX12_yearsGo, cX12_yearsGo, 3, none)) rfl (by decide +kernel) rfl (ok_X12_yearsGo l) ?_
    refine mm_Tfc (q := (yX12_putsAside, cX12_putsAside, 2, none)) rfl (by decide +kernel) rfl (ok_X12_putsAside l) ?_
    refine mm_Tfc (q := (yX12_triesAnew, cX12_triesAnew, 2, none)) rfl (by decide +kernel) rfl (ok_X12_triesAnew l) ?_
    refine mm_Tfc (q := (yX12_takesBack, cX12_takesBack, 1, none)) rfl (by decide +kernel) rfl (ok_X12_takesBack l) ?_
    refine mm_Tfc (q := (yX12_isAhead, cX12_isAhead, 4, (some .boolean))) rfl (by decide +kernel) rfl (ok_X12_isAhead l) ?_
    refine mm_Tfc (q := (yX12_bits, cX12_bits, 3, (some .int))) rfl (by decide +kernel) rfl (ok_X12_bits l) ?_
    refine mm_Tfc (q := (yX12_lookAll, cX12_lookAll, 3, (some .int))) rfl (by decide +kernel) rfl (ok_X12_lookAll l) ?_
    refine mm_Tfc (q := (yX12_curtainsNow, cX12_curtainsNow, 3, (some .int))) rfl (by decide +kernel) rfl (ok_X12_curtainsNow l) ?_
    refine mm_Tfc (q := (yX12_spareMany, cX12_spareMany, 3, (some .int))) rfl (by decide +kernel) rfl (ok_X12_spareMany l) ?_
    refine mm_Tfc (q := (yX12_feudAt, cX12_feudAt, 4, (some .int))) rfl (by decide +kernel) rfl (ok_X12_feudAt l) ?_
    refine mm_Tfc (q := (yX12_feudMany, cX12_feudMany, 3, (some .int))) rfl (by decide +kernel) rfl (ok_X12_feudMany l) ?_
    refine mm_Tfc (q := (yX12_has, cX12_has, 2, (some .int))) rfl (by decide +kernel) rfl (ok_X12_has l) ?_
    refine mm_Tfc (q := (yX12_letter, cX12_letter, 8, (some .int))) rfl (by decide +kernel) rfl (ok_X12_letter l) ?_
    refine mm_Tfc (q := (yX12_house, cX12_house, 2, (some .int))) rfl (by decide +kernel) rfl (ok_X12_house l) ?_
    refine mm_Tfc (q := (yX12_person, cX12_person, 3, (some .int))) rfl (by decide +kernel) rfl (ok_X12_person l) ?_
    refine mm_Tfc (q := (yX12_thinks, cX12_thinks, 3, (some .int))) rfl (by decide +kernel) rfl (ok_X12_thinks l) ?_
    refine mm_Tfc (q := (yX12_paints, cX12_paints, 4, (some .int))) rfl (by decide +kernel) rfl (ok_X12_paints l) ?_
    refine mm_Tfc (q := (yX12_feud, cX12_feud, 2, (some .int))) rfl (by decide +kernel) rfl (ok_X12_feud l) ?_
    refine mm_Tfc (q := (yX12_kept, cX12_kept, 3, (some .int))) rfl (by decide +kernel) rfl (ok_X12_kept l) ?_
    refine mm_Tfc (q := (yX12_later, cX12_later, 4, (some .int))) rfl (by decide +kernel) rfl (ok_X12_later l) ?_
    refine mm_Tfc (q := (yX12_mind, cX12_mind, 5, (some .int))) rfl (by decide +kernel) rfl (ok_X12_mind l) ?_
    refine mm_Tfc (q := (yX12_curtain, cX12_curtain, 4, (some .int))) rfl (by decide +kernel) rfl (ok_X12_curtain l) ?_
    refine mm_Tfc (q := (yX12_changes, cX12_changes, 5, none)) rfl (by decide +kernel) rfl (ok_X12_changes l) ?_
    refine mm_Tfc (q := (yX12_changed, cX12_changed, 9, (some .int))) rfl (by decide +kernel) rfl (ok_X12_changed l) ?_
    refine mm_Tfc (q := (yX12_comes, cX12_comes, 6, none)) rfl (by decide +kernel) rfl (ok_X12_comes l) ?_
    refine mm_Tfc (q := (yX12_stranger, cX12_stranger, 10, (some .int))) rfl (by decide +kernel) rfl (ok_X12_stranger l) ?_
    refine mm_Tfc (q := (yX12_isPeace, cX12_isPeace, 3, (some .boolean))) rfl (by decide +kernel) rfl (ok_X12_isPeace l) ?_
    refine mm_Tfc (q := (yX12_parted, cX12_parted, 3, (some .int))) rfl (by decide +kernel) rfl (ok_X12_parted l) ?_
    refine mm_Tfc (q := (yX12_laysThen, cX12_laysThen, 4, none)) rfl (by decide +kernel) rfl (ok_X12_laysThen l) ?_
    refine mm_Tfc (q := (yX12_isRest, cX12_isRest, 3, (some .boolean))) rfl (by decide +kernel) rfl (ok_X12_isRest l) ?_
    refine mm_Tfc (q := (yX12_rest, cX12_rest, 4, (some .int))) rfl (by decide +kernel) rfl (ok_X12_rest l) ?_
    refine mm_Tfc (q := (yX12_refuses, cX12_refuses, 2, (some .int))) rfl (by decide +kernel) rfl (ok_X12_refuses l) ?_
    refine mm_Tfc (q := (yX12_see, cX12_see, 4, (some .int))) rfl (by decide +kernel) rfl (ok_X12_see l) ?_
    refine mm_Tfc (q := (yX12_isAsSeen, cX12_isAsSeen, 3, (some .boolean))) rfl (by decide +kernel) rfl (ok_X12_isAsSeen l) ?_
    refine mm_Tfc (q := (yX12_laysWay, cX12_laysWay, 5, none)) rfl (by decide +kernel) rfl (ok_X12_laysWay l) ?_
    refine mm_Tfc (q := (yX12_laysThoughts, cX12_laysThoughts, 4, none)) rfl (by decide +kernel) rfl (ok_X12_laysThoughts l) ?_
    refine mm_Tfc (q := (yX12_fitSet, cX12_fitSet, 3, (some .int))) rfl (by decide +kernel) rfl (ok_X12_fitSet l) ?_
    refine mm_Tfc (q := (yX12_thoughts, cX12_thoughts, 3, (some .int))) rfl (by decide +kernel) rfl (ok_X12_thoughts l) ?_
    refine mm_Tfc (q := (yX12_faces, cX12_faces, 4, (some .int))) rfl (by decide +kernel) rfl (ok_X12_faces l) ?_
    refine mm_Tfc (q := (yX12_mostAlike, cX12_mostAlike, 6, (some .int))) rfl (by decide +kernel) rfl (ok_X12_mostAlike l) ?_
    refine mm_Tfc (q := (yX12_tells, cX12_tells, 8, (some .int))) rfl (by decide +kernel) rfl (ok_X12_tells l) ?_
    refine mm_Tfc (q := (yX12_keeps, cX12_keeps, 2, none)) rfl (by decide +kernel) rfl (ok_X12_keeps l) ?_
    refine mm_Tfc (q := (yX12_undo, cX12_undo, 2, (some .boolean))) rfl (by decide +kernel) rfl (ok_X12_undo l) ?_
    refine mm_Tfc (q := (yX12_isRefused, cX12_isRefused, 1, (some .boolean))) rfl (by decide +kernel) rfl (ok_X12_isRefused l) ?_
    refine mm_Tfc (q := (yX12_change, cX12_change, 3, (some .boolean))) rfl (by decide +kernel) rfl (ok_X12_change l) ?_
    refine mm_Tfc (q := (yX12_right, cX12_right, 2, (some .boolean))) rfl (by decide +kernel) rfl (ok_X12_right l) ?_
    refine mm_Tfc (q := (yX12_spare, cX12_spare, 3, (some .boolean))) rfl (by decide +kernel) rfl (ok_X12_spare l) ?_
    refine mm_Tfc (q := (yX12_years, cX12_years, 2, (some .int))) rfl (by decide +kernel) rfl (ok_X12_years l) ?_
    refine mm_Tfc (q := (yX12_seed, cX12_seed, 2, (some .boolean))) rfl (by decide +kernel) rfl (ok_X12_seed l) ?_
    refine mm_Tfc (q := (yX12_drawOf, cX12_drawOf, 2, (some .int))) rfl (by decide +kernel) rfl (ok_X12_drawOf l) ?_
    refine mm_Tfc (q := (yX12_chance, cX12_chance, 5, (some .int))) rfl (by decide +kernel) rfl (ok_X12_chance l) ?_
    refine mm_Tfc (q := (yX12_qCode, cX12_qCode, 2, none)) rfl (by decide +kernel) rfl (ok_X12_qCode l) ?_
    refine mm_Tfc (q := (yX12_qOpens, cX12_qOpens, 3, none)) rfl (by decide +kernel) rfl (ok_X12_qOpens l) ?_
    refine mm_Tfc (q := (yX12_qIsOn, cX12_qIsOn, 2, (some .boolean))) rfl (by decide +kernel) rfl (ok_X12_qIsOn l) ?_
    refine mm_Tfc (q := (yX12_qDrops, cX12_qDrops, 1, none)) rfl (by decide +kernel) rfl (ok_X12_qDrops l) ?_
    refine mm_Tfc (q := (yX12_qIsBracket, cX12_qIsBracket, 1, (some .boolean))) rfl (by decide +kernel) rfl (ok_X12_qIsBracket l) ?_
    refine mm_Tfc (q := (yX12_qBracket, cX12_qBracket, 2, (some .int))) rfl (by decide +kernel) rfl (ok_X12_qBracket l) ?_
    refine mm_Tfc (q := (yX12_qDropsToBracket, cX12_qDropsToBracket, 1, none)) rfl (by decide +kernel) rfl (ok_X12_qDropsToBracket l) ?_
    refine mm_Tfc (q := (yX12_qWordHere, cX12_qWordHere, 1, (some .int))) rfl (by decide +kernel) rfl (ok_X12_qWordHere l) ?_
    refine mm_Tfc (q := (yX12_qWordOf, cX12_qWordOf, 4, (some .int))) rfl (by decide +kernel) rfl (ok_X12_qWordOf l) ?_
    refine mm_Tfc (q := (yX12_qAsksWord, cX12_qAsksWord, 2, none)) rfl (by decide +kernel) rfl (ok_X12_qAsksWord l) ?_
    refine mm_Tfc (q := (yX12_qEndsPart, cX12_qEndsPart, 1, none)) rfl (by decide +kernel) rfl (ok_X12_qEndsPart l) ?_
    refine mm_Tfc (q := (yX12_qPartTold, cX12_qPartTold, 6, none)) rfl (by decide +kernel) rfl (ok_X12_qPartTold l) ?_
    refine mm_Tfc (q := (yX12_qGoesOn, cX12_qGoesOn, 2, (some .boolean))) rfl (by decide +kernel) rfl (ok_X12_qGoesOn l) ?_
    refine mm_Tfc (q := (yX12_qSums, cX12_qSums, 3, none)) rfl (by decide +kernel) rfl (ok_X12_qSums l) ?_
    refine mm_Tfc (q := (yX12_qFact, cX12_qFact, 2, none)) rfl (by decide +kernel) rfl (ok_X12_qFact l) ?_
    refine mm_Tfc (q := (yX12_qHasSquare, cX12_qHasSquare, 2, (some .boolean))) rfl (by decide +kernel) rfl (ok_X12_qHasSquare l) ?_
    refine mm_Tfc (q := (yX12_qDropsNots, cX12_qDropsNots, 1, none)) rfl (by decide +kernel) rfl (ok_X12_qDropsNots l) ?_
    refine mm_Tfc (q := (yX12_qTest, cX12_qTest, 3, none)) rfl (by decide +kernel) rfl (ok_X12_qTest l) ?_
    refine mm_Tfc (q := (yX12_qGoesOnTest, cX12_qGoesOnTest, 1, (some .boolean))) rfl (by decide +kernel) rfl (ok_X12_qGoesOnTest l) ?_
    refine mm_Tfc (q := (yX12_qClip, cX12_qClip, 2, (some .long))) rfl (by decide +kernel) rfl (ok_X12_qClip l) ?_
    refine mm_Tfc (q := (yX12_qFloor, cX12_qFloor, 6, (some .long))) rfl (by decide +kernel) rfl (ok_X12_qFloor l) ?_
    refine mm_Tfc (q := (yX12_qPuts, cX12_qPuts, 3, none)) rfl (by decide +kernel) rfl (ok_X12_qPuts l) ?_
    refine mm_Tfc (q := (yX12_qJoins, cX12_qJoins, 6, none)) rfl (by decide +kernel) rfl (ok_X12_qJoins l) ?_
    refine mm_Tfc (q := (yX12_qPartOf, cX12_qPartOf, 3, (some .long))) rfl (by decide +kernel) rfl (ok_X12_qPartOf l) ?_
    refine mm_Tfc (q := (yX12_qOf, cX12_qOf, 5, (some .long))) rfl (by decide +kernel) rfl (ok_X12_qOf l) ?_
    refine mm_Tfc (q := (yX12_qTold, cX12_qTold, 4, (some .long))) rfl (by decide +kernel) rfl (ok_X12_qTold l) ?_
    refine mm_Tfc (q := (yX12_qKind, cX12_qKind, 2, (some .int))) rfl (by decide +kernel) rfl (ok_X12_qKind l) ?_
    refine mm_Tfc (q := (yX12_qTakes, cX12_qTakes, 6, none)) rfl (by decide +kernel) rfl (ok_X12_qTakes l) ?_
    refine mm_Tfc (q := (yX12_ask, cX12_ask, 3, (some .long))) rfl (by decide +kernel) rfl (ok_X12_ask l) ?_
    refine mm_Tfc (q := (yX12_checked, cX12_checked, 4, (some .int))) rfl (by decide +kernel) rfl (ok_X12_checked l) ?_
    refine mm_Tfc (q := (yX12_writes, cX12_writes, 2, none)) rfl (by decide +kernel) rfl (ok_X12_writes l) ?_
    refine mm_Tfc (q := (yX12_image, cX12_image, 3, (some .int))) rfl (by decide +kernel) rfl (ok_X12_image l) ?_
    refine mm_Tfc (q := (yX12_octet, cX12_octet, 2, (some .int))) rfl (by decide +kernel) rfl (ok_X12_octet l) ?_
    refine mm_Tfc (q := (yX12_isPersonTold, cX12_isPersonTold, 5, (some .boolean))) rfl (by decide +kernel) rfl (ok_X12_isPersonTold l) ?_
    refine mm_Tfc (q := (yX12_isImage, cX12_isImage, 3, (some .boolean))) rfl (by decide +kernel) rfl (ok_X12_isImage l) ?_
    refine mm_Tfc (q := (yX12_on, cX12_on, 5, (some .boolean))) rfl (by decide +kernel) rfl (ok_X12_on l) ?_
    refine mm_Tfc (q := (yX12_status, cX12_status, 2, (some .int))) rfl (by decide +kernel) rfl (ok_X12_status l) ?_
    exact mm_Tf0 l _
  intro y nL cd hy
  have := h y nL cd hy
  rw [Nat.zero_add] at this
  exact this
theorem mm_met0 (l : Launch) (d : Nat) : mm_CO l mm_I0 d (mm_M mm_T0 d) := mm_met2 (mm_T0_ok l) d
