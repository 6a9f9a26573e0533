/-! steps without a heap, and that the JVM tells them -/
section PURE
variable {Hp : Type} {p : Program} {l : Launch} {e : Env} {R : Room} {s : State} {m : MethodId} {args : Array Value} {below : List Frame} {meth : Method} {c : Code} {rt : Option FieldType} {cc : ByteArray} {nL : Nat} {Q : State → Prop} {σ : Nat → Nat} {Rz : Hp → Heap → List Loc → Nat → Nat → Prop} {C : mm_C Hp} {pc : Nat}

def s_pushI {Hp : Type} (v : Int32) (nx : Nat) : mm_S Hp := fun _ ls st h => some (.inl (nx, ls, .int v :: st, h))
def s_pushL {Hp : Type} (v : Int64) (nx : Nat) : mm_S Hp := fun _ ls st h => some (.inl (nx, ls, .long v :: st, h))
theorem ss_iconst (hx : p.tables.exec = Jvm.exec) (hb : c.code = cc) {n : Int} {v : Int32} (hd : decode cc pc = .ok (.iconst n, 1)) (hv : Int32.ofInt n = v) : mm_Sim p l e R s m args below meth c rt cc nL Q σ Rz C (pc, s_pushI v (pc + 1)) := by
  intro ls st h o hf H locs cells slots lsr hR hl kn kr
  cases hf
  exact lv_iconst hx hb hd hv (kn _ _ _ _ rfl _ _ _ _ _ hR hl)
theorem ss_bipush (hx : p.tables.exec = Jvm.exec) (hb : c.code = cc) {n : Int} {v : Int32} (hd : decode cc pc = .ok (.bipush n, 2)) (hv : (Int8.ofInt n).toInt32 = v) : mm_Sim p l e R s m args below meth c rt cc nL Q σ Rz C (pc, s_pushI v (pc + 2)) := by
  intro ls st h o hf H locs cells slots lsr hR hl kn kr
  cases hf
  exact lv_bipush hx hb hd hv (kn _ _ _ _ rfl _ _ _ _ _ hR hl)
theorem ss_sipush (hx : p.tables.exec = Jvm.exec) (hb : c.code = cc) {n : Int} {v : Int32} (hd : decode cc pc = .ok (.sipush n, 3)) (hv : (Int16.ofInt n).toInt32 = v) : mm_Sim p l e R s m args below meth c rt cc nL Q σ Rz C (pc, s_pushI v (pc + 3)) := by
  intro ls st h o hf H locs cells slots lsr hR hl kn kr
  cases hf
  exact lv_sipush hx hb hd hv (kn _ _ _ _ rfl _ _ _ _ _ hR hl)
theorem ss_lconst (hx : p.tables.exec = Jvm.exec) (hb : c.code = cc) {n : Fin 2} {v : Int64} (hd : decode cc pc = .ok (.lconst n, 1)) (hv : Int64.ofNat (n : Nat) = v) : mm_Sim p l e R s m args below meth c rt cc nL Q σ Rz C (pc, s_pushL v (pc + 1)) := by
  intro ls st h o hf H locs cells slots lsr hR hl kn kr
  cases hf
  exact lv_lconst hx hb hd hv (kn _ _ _ _ rfl _ _ _ _ _ hR hl)
theorem ss_ldc (hx : p.tables.exec = Jvm.exec) (hb : c.code = cc) {own : String} {index : Nat} {v : Int32} (hown : s.vm.findClass own = some m.cls) (hw : (Jvm.Cond.constant own index v).before args s = true) (hd : decode cc pc = .ok (.ldc index, 2)) : mm_Sim p l e R s m args below meth c rt cc nL Q σ Rz C (pc, s_pushI v (pc + 2)) := by
  intro ls st h o hf H locs cells slots lsr hR hl kn kr
  cases hf
  exact lv_ldc hx hb hown hw hd (kn _ _ _ _ rfl _ _ _ _ _ hR hl)
theorem ss_ldcw (hx : p.tables.exec = Jvm.exec) (hb : c.code = cc) {own : String} {index : Nat} {v : Int32} (hown : s.vm.findClass own = some m.cls) (hw : (Jvm.Cond.constant own index v).before args s = true) (hd : decode cc pc = .ok (.ldc_w index, 3)) : mm_Sim p l e R s m args below meth c rt cc nL Q σ Rz C (pc, s_pushI v (pc + 3)) := by
  intro ls st h o hf H locs cells slots lsr hR hl kn kr
  cases hf
  exact lv_ldcw hx hb hown hw hd (kn _ _ _ _ rfl _ _ _ _ _ hR hl)
theorem ss_ldc2 (hx : p.tables.exec = Jvm.exec) (hb : c.code = cc) {own : String} {index : Nat} {v : Int64} (hown : s.vm.findClass own = some m.cls) (hw : (Jvm.Cond.constantLong own index v).before args s = true) (hd : decode cc pc = .ok (.ldc2_w index, 3)) : mm_Sim p l e R s m args below meth c rt cc nL Q σ Rz C (pc, s_pushL v (pc + 3)) := by
  intro ls st h o hf H locs cells slots lsr hR hl kn kr
  cases hf
  exact lv_ldc2 hx hb hown hw hd (kn _ _ _ _ rfl _ _ _ _ _ hR hl)
def s_iload {Hp : Type} (i nx : Nat) : mm_S Hp := fun _ ls st h => mm_lI ls i fun x => some (.inl (nx, ls, .int x :: st, h))
theorem ss_iload (hx : p.tables.exec = Jvm.exec) (hb : c.code = cc) {i : Nat} (hd : decode cc pc = .ok (.iload i, 2)) : mm_Sim p l e R s m args below meth c rt cc nL Q σ Rz C (pc, s_iload i (pc + 2)) := by
  intro ls st h o hf H locs cells slots lsr hR hl kn kr
  obtain ⟨x, h1, hf⟩ := mm_lI_inv hf
  cases hf
  exact lv_iload hx hb hd (hl.2.2.2 i (.int x) h1 (fun q => by cases q)) (kn _ _ _ _ rfl _ _ _ _ _ hR hl)
theorem ss_iload_n (hx : p.tables.exec = Jvm.exec) (hb : c.code = cc) {k : Fin 4} {i : Nat} (hd : decode cc pc = .ok (.iload_n k, 1)) (hi : (k : Nat) = i) : mm_Sim p l e R s m args below meth c rt cc nL Q σ Rz C (pc, s_iload i (pc + 1)) := by
  intro ls st h o hf H locs cells slots lsr hR hl kn kr
  obtain ⟨x, h1, hf⟩ := mm_lI_inv hf
  cases hf
  exact lv_iload_n hx hb hd hi (hl.2.2.2 i (.int x) h1 (fun q => by cases q)) (kn _ _ _ _ rfl _ _ _ _ _ hR hl)
def s_lload {Hp : Type} (i nx : Nat) : mm_S Hp := fun _ ls st h => mm_lL ls i fun x => some (.inl (nx, ls, .long x :: st, h))
theorem ss_lload (hx : p.tables.exec = Jvm.exec) (hb : c.code = cc) {i : Nat} (hd : decode cc pc = .ok (.lload i, 2)) : mm_Sim p l e R s m args below meth c rt cc nL Q σ Rz C (pc, s_lload i (pc + 2)) := by
  intro ls st h o hf H locs cells slots lsr hR hl kn kr
  obtain ⟨x, h1, hf⟩ := mm_lL_inv hf
  cases hf
  exact lv_lload hx hb hd (hl.2.2.2 i (.long x) h1 (fun q => by cases q)) (kn _ _ _ _ rfl _ _ _ _ _ hR hl)
theorem ss_lload_n (hx : p.tables.exec = Jvm.exec) (hb : c.code = cc) {k : Fin 4} {i : Nat} (hd : decode cc pc = .ok (.lload_n k, 1)) (hi : (k : Nat) = i) : mm_Sim p l e R s m args below meth c rt cc nL Q σ Rz C (pc, s_lload i (pc + 1)) := by
  intro ls st h o hf H locs cells slots lsr hR hl kn kr
  obtain ⟨x, h1, hf⟩ := mm_lL_inv hf
  cases hf
  exact lv_lload_n hx hb hd hi (hl.2.2.2 i (.long x) h1 (fun q => by cases q)) (kn _ _ _ _ rfl _ _ _ _ _ hR hl)
def s_aload {Hp : Type} (i nx : Nat) : mm_S Hp := fun _ ls st h => mm_lA ls i fun x => some (.inl (nx, ls, .ref x :: st, h))
theorem ss_aload (hx : p.tables.exec = Jvm.exec) (hb : c.code = cc) {i : Nat} (hd : decode cc pc = .ok (.aload i, 2)) : mm_Sim p l e R s m args below meth c rt cc nL Q σ Rz C (pc, s_aload i (pc + 2)) := by
  intro ls st h o hf H locs cells slots lsr hR hl kn kr
  obtain ⟨x, h1, hf⟩ := mm_lA_inv hf
  cases hf
  exact lv_aload hx hb hd (hl.2.2.2 i (.ref x) h1 (fun q => by cases q)) (kn _ _ _ _ rfl _ _ _ _ _ hR hl)
theorem ss_aload_n (hx : p.tables.exec = Jvm.exec) (hb : c.code = cc) {k : Fin 4} {i : Nat} (hd : decode cc pc = .ok (.aload_n k, 1)) (hi : (k : Nat) = i) : mm_Sim p l e R s m args below meth c rt cc nL Q σ Rz C (pc, s_aload i (pc + 1)) := by
  intro ls st h o hf H locs cells slots lsr hR hl kn kr
  obtain ⟨x, h1, hf⟩ := mm_lA_inv hf
  cases hf
  exact lv_aload_n hx hb hd hi (hl.2.2.2 i (.ref x) h1 (fun q => by cases q)) (kn _ _ _ _ rfl _ _ _ _ _ hR hl)
def s_istore {Hp : Type} (i nx : Nat) : mm_S Hp := fun _ ls st h => mm_pI st fun x st => some (.inl (nx, mm_st1 ls i (.int x), st, h))
theorem ss_istore (hx : p.tables.exec = Jvm.exec) (hb : c.code = cc) {i : Nat} (hd : decode cc pc = .ok (.istore i, 2)) (hi : i < nL) : mm_Sim p l e R s m args below meth c rt cc nL Q σ Rz C (pc, s_istore i (pc + 2)) := by
  intro ls st h o hf H locs cells slots lsr hR hl kn kr
  obtain ⟨x, r, rfl, hf⟩ := mm_pI_inv hf
  cases hf
  exact lv_istore hx hb hd (mm_lv_has hl) hi rfl (fun ls1 h1 => kn _ _ _ _ rfl _ _ _ _ _ hR (mm_lv_st1 (v := .int x) hl hi h1))
theorem ss_istore_n (hx : p.tables.exec = Jvm.exec) (hb : c.code = cc) {k : Fin 4} {i : Nat} (hd : decode cc pc = .ok (.istore_n k, 1)) (hk : (k : Nat) = i) (hi : i < nL) : mm_Sim p l e R s m args below meth c rt cc nL Q σ Rz C (pc, s_istore i (pc + 1)) := by
  intro ls st h o hf H locs cells slots lsr hR hl kn kr
  obtain ⟨x, r, rfl, hf⟩ := mm_pI_inv hf
  cases hf
  exact lv_istore_n hx hb hd hk (mm_lv_has hl) hi rfl (fun ls1 h1 => kn _ _ _ _ rfl _ _ _ _ _ hR (mm_lv_st1 (v := .int x) hl hi h1))
def s_lstore {Hp : Type} (i nx : Nat) : mm_S Hp := fun _ ls st h => mm_pL st fun x st => some (.inl (nx, mm_st2 ls i (.long x), st, h))
theorem ss_lstore (hx : p.tables.exec = Jvm.exec) (hb : c.code = cc) {i : Nat} (hd : decode cc pc = .ok (.lstore i, 2)) (hi : i + 1 < nL) : mm_Sim p l e R s m args below meth c rt cc nL Q σ Rz C (pc, s_lstore i (pc + 2)) := by
  intro ls st h o hf H locs cells slots lsr hR hl kn kr
  obtain ⟨x, r, rfl, hf⟩ := mm_pL_inv hf
  cases hf
  exact lv_lstore hx hb hd (mm_lv_has hl) hi rfl (fun ls1 h1 => kn _ _ _ _ rfl _ _ _ _ _ hR (mm_lv_st2 (v := .long x) hl hi h1))
theorem ss_lstore_n (hx : p.tables.exec = Jvm.exec) (hb : c.code = cc) {k : Fin 4} {i : Nat} (hd : decode cc pc = .ok (.lstore_n k, 1)) (hk : (k : Nat) = i) (hi : i + 1 < nL) : mm_Sim p l e R s m args below meth c rt cc nL Q σ Rz C (pc, s_lstore i (pc + 1)) := by
  intro ls st h o hf H locs cells slots lsr hR hl kn kr
  obtain ⟨x, r, rfl, hf⟩ := mm_pL_inv hf
  cases hf
  exact lv_lstore_n hx hb hd hk (mm_lv_has hl) hi rfl (fun ls1 h1 => kn _ _ _ _ rfl _ _ _ _ _ hR (mm_lv_st2 (v := .long x) hl hi h1))
def s_astore {Hp : Type} (i nx : Nat) : mm_S Hp := fun _ ls st h => mm_pA st fun x st => some (.inl (nx, mm_st1 ls i (.ref x), st, h))
theorem ss_astore (hx : p.tables.exec = Jvm.exec) (hb : c.code = cc) {i : Nat} (hd : decode cc pc = .ok (.astore i, 2)) (hi : i < nL) : mm_Sim p l e R s m args below meth c rt cc nL Q σ Rz C (pc, s_astore i (pc + 2)) := by
  intro ls st h o hf H locs cells slots lsr hR hl kn kr
  obtain ⟨x, r, rfl, hf⟩ := mm_pA_inv hf
  cases hf
  exact lv_astore hx hb hd (mm_lv_has hl) hi rfl (fun ls1 h1 => kn _ _ _ _ rfl _ _ _ _ _ hR (mm_lv_st1 (v := .ref x) hl hi h1))
theorem ss_astore_n (hx : p.tables.exec = Jvm.exec) (hb : c.code = cc) {k : Fin 4} {i : Nat} (hd : decode cc pc = .ok (.astore_n k, 1)) (hk : (k : Nat) = i) (hi : i < nL) : mm_Sim p l e R s m args below meth c rt cc nL Q σ Rz C (pc, s_astore i (pc + 1)) := by
  intro ls st h o hf H locs cells slots lsr hR hl kn kr
  obtain ⟨x, r, rfl, hf⟩ := mm_pA_inv hf
  cases hf
  exact lv_astore_n hx hb hd hk (mm_lv_has hl) hi rfl (fun ls1 h1 => kn _ _ _ _ rfl _ _ _ _ _ hR (mm_lv_st1 (v := .ref x) hl hi h1))
def s_iinc {Hp : Type} (i : Nat) (n : Int32) (nx : Nat) : mm_S Hp := fun _ ls st h => mm_lI ls i fun x => some (.inl (nx, mm_st1 ls i (.int (x + n)), st, h))
theorem ss_iinc (hx : p.tables.exec = Jvm.exec) (hb : c.code = cc) {i : Nat} {n : Int} {v : Int32} (hd : decode cc pc = .ok (.iinc i n, 3)) (hv : Int32.ofInt n = v) (hi : i < nL) : mm_Sim p l e R s m args below meth c rt cc nL Q σ Rz C (pc, s_iinc i v (pc + 3)) := by
  intro ls st h o hf H locs cells slots lsr hR hl kn kr
  obtain ⟨x, h1, hf⟩ := mm_lI_inv hf
  cases hf
  subst hv
  obtain ⟨k, hk⟩ := List.getElem?_of_mem (mm_ll_mem (σ := σ) h1 (fun q => by cases q))
  exact lv_iinc hx hb hd (mm_lv_has hl) hk rfl hi rfl (fun ls1 h2 => kn _ _ _ _ rfl _ _ _ _ _ hR (mm_lv_st1 (v := .int (x + Int32.ofInt n)) hl hi h2))
def s_bin {Hp : Type} (f : Int32 → Int32 → Int32) (nx : Nat) : mm_S Hp := fun _ ls st h => mm_pI st fun y st => mm_pI st fun x st => some (.inl (nx, ls, .int (f x y) :: st, h))
def s_lbin {Hp : Type} (f : Int64 → Int64 → Int64) (nx : Nat) : mm_S Hp := fun _ ls st h => mm_pL st fun y st => mm_pL st fun x st => some (.inl (nx, ls, .long (f x y) :: st, h))
def s_bin0 {Hp : Type} (f : Int32 → Int32 → Int32) (nx : Nat) : mm_S Hp := fun _ ls st h => mm_pI st fun y st => mm_pI st fun x st => if y = 0 then none else some (.inl (nx, ls, .int (f x y) :: st, h))
def s_lbin0 {Hp : Type} (f : Int64 → Int64 → Int64) (nx : Nat) : mm_S Hp := fun _ ls st h => mm_pL st fun y st => mm_pL st fun x st => if y = 0 then none else some (.inl (nx, ls, .long (f x y) :: st, h))
theorem ss_iadd (hx : p.tables.exec = Jvm.exec) (hb : c.code = cc) (hd : decode cc pc = .ok (.iadd, 1)) : mm_Sim p l e R s m args below meth c rt cc nL Q σ Rz C (pc, s_bin (fun x y => x + y) (pc + 1)) := by
  intro ls st h o hf H locs cells slots lsr hR hl kn kr
  obtain ⟨y, r, rfl, hf⟩ := mm_pI_inv hf
  obtain ⟨x, r, rfl, hf⟩ := mm_pI_inv hf
  cases hf
  exact lv_iadd hx hb hd (kn _ _ _ _ rfl _ _ _ _ _ hR hl)
theorem ss_isub (hx : p.tables.exec = Jvm.exec) (hb : c.code = cc) (hd : decode cc pc = .ok (.isub, 1)) : mm_Sim p l e R s m args below meth c rt cc nL Q σ Rz C (pc, s_bin (fun x y => x - y) (pc + 1)) := by
  intro ls st h o hf H locs cells slots lsr hR hl kn kr
  obtain ⟨y, r, rfl, hf⟩ := mm_pI_inv hf
  obtain ⟨x, r, rfl, hf⟩ := mm_pI_inv hf
  cases hf
  exact lv_isub hx hb hd (kn _ _ _ _ rfl _ _ _ _ _ hR hl)
theorem ss_imul (hx : p.tables.exec = Jvm.exec) (hb : c.code = cc) (hd : decode cc pc = .ok (.imul, 1)) : mm_Sim p l e R s m args below meth c rt cc nL Q σ Rz C (pc, s_bin (fun x y => x * y) (pc + 1)) := by
  intro ls st h o hf H locs cells slots lsr hR hl kn kr
  obtain ⟨y, r, rfl, hf⟩ := mm_pI_inv hf
  obtain ⟨x, r, rfl, hf⟩ := mm_pI_inv hf
  cases hf
  exact lv_imul hx hb hd (kn _ _ _ _ rfl _ _ _ _ _ hR hl)
theorem ss_iand (hx : p.tables.exec = Jvm.exec) (hb : c.code = cc) (hd : decode cc pc = .ok (.iand, 1)) : mm_Sim p l e R s m args below meth c rt cc nL Q σ Rz C (pc, s_bin (fun x y => x &&& y) (pc + 1)) := by
  intro ls st h o hf H locs cells slots lsr hR hl kn kr
  obtain ⟨y, r, rfl, hf⟩ := mm_pI_inv hf
  obtain ⟨x, r, rfl, hf⟩ := mm_pI_inv hf
  cases hf
  exact lv_iand hx hb hd (kn _ _ _ _ rfl _ _ _ _ _ hR hl)
theorem ss_ior (hx : p.tables.exec = Jvm.exec) (hb : c.code = cc) (hd : decode cc pc = .ok (.ior, 1)) : mm_Sim p l e R s m args below meth c rt cc nL Q σ Rz C (pc, s_bin (fun x y => x ||| y) (pc + 1)) := by
  intro ls st h o hf H locs cells slots lsr hR hl kn kr
  obtain ⟨y, r, rfl, hf⟩ := mm_pI_inv hf
  obtain ⟨x, r, rfl, hf⟩ := mm_pI_inv hf
  cases hf
  exact lv_ior hx hb hd (kn _ _ _ _ rfl _ _ _ _ _ hR hl)
theorem ss_ixor (hx : p.tables.exec = Jvm.exec) (hb : c.code = cc) (hd : decode cc pc = .ok (.ixor, 1)) : mm_Sim p l e R s m args below meth c rt cc nL Q σ Rz C (pc, s_bin (fun x y => x ^^^ y) (pc + 1)) := by
  intro ls st h o hf H locs cells slots lsr hR hl kn kr
  obtain ⟨y, r, rfl, hf⟩ := mm_pI_inv hf
  obtain ⟨x, r, rfl, hf⟩ := mm_pI_inv hf
  cases hf
  exact lv_ixor hx hb hd (kn _ _ _ _ rfl _ _ _ _ _ hR hl)
theorem ss_ishl (hx : p.tables.exec = Jvm.exec) (hb : c.code = cc) (hd : decode cc pc = .ok (.ishl, 1)) : mm_Sim p l e R s m args below meth c rt cc nL Q σ Rz C (pc, s_bin (fun x y => x <<< (y &&& 31)) (pc + 1)) := by
  intro ls st h o hf H locs cells slots lsr hR hl kn kr
  obtain ⟨y, r, rfl, hf⟩ := mm_pI_inv hf
  obtain ⟨x, r, rfl, hf⟩ := mm_pI_inv hf
  cases hf
  exact lv_ishl hx hb hd (kn _ _ _ _ rfl _ _ _ _ _ hR hl)
theorem ss_ishr (hx : p.tables.exec = Jvm.exec) (hb : c.code = cc) (hd : decode cc pc = .ok (.ishr, 1)) : mm_Sim p l e R s m args below meth c rt cc nL Q σ Rz C (pc, s_bin (fun x y => x >>> (y &&& 31)) (pc + 1)) := by
  intro ls st h o hf H locs cells slots lsr hR hl kn kr
  obtain ⟨y, r, rfl, hf⟩ := mm_pI_inv hf
  obtain ⟨x, r, rfl, hf⟩ := mm_pI_inv hf
  cases hf
  exact lv_ishr hx hb hd (kn _ _ _ _ rfl _ _ _ _ _ hR hl)
theorem ss_iushr (hx : p.tables.exec = Jvm.exec) (hb : c.code = cc) (hd : decode cc pc = .ok (.iushr, 1)) : mm_Sim p l e R s m args below meth c rt cc nL Q σ Rz C (pc, s_bin (fun x y => (x.toUInt32 >>> (y.toUInt32 &&& Int32.toUInt32 31)).toInt32) (pc + 1)) := by
  intro ls st h o hf H locs cells slots lsr hR hl kn kr
  obtain ⟨y, r, rfl, hf⟩ := mm_pI_inv hf
  obtain ⟨x, r, rfl, hf⟩ := mm_pI_inv hf
  cases hf
  exact lv_iushr hx hb hd rfl (kn _ _ _ _ rfl _ _ _ _ _ hR hl)
theorem ss_ladd (hx : p.tables.exec = Jvm.exec) (hb : c.code = cc) (hd : decode cc pc = .ok (.ladd, 1)) : mm_Sim p l e R s m args below meth c rt cc nL Q σ Rz C (pc, s_lbin (fun x y => x + y) (pc + 1)) := by
  intro ls st h o hf H locs cells slots lsr hR hl kn kr
  obtain ⟨y, r, rfl, hf⟩ := mm_pL_inv hf
  obtain ⟨x, r, rfl, hf⟩ := mm_pL_inv hf
  cases hf
  exact lv_ladd hx hb hd (kn _ _ _ _ rfl _ _ _ _ _ hR hl)
theorem ss_lsub (hx : p.tables.exec = Jvm.exec) (hb : c.code = cc) (hd : decode cc pc = .ok (.lsub, 1)) : mm_Sim p l e R s m args below meth c rt cc nL Q σ Rz C (pc, s_lbin (fun x y => x - y) (pc + 1)) := by
  intro ls st h o hf H locs cells slots lsr hR hl kn kr
  obtain ⟨y, r, rfl, hf⟩ := mm_pL_inv hf
  obtain ⟨x, r, rfl, hf⟩ := mm_pL_inv hf
  cases hf
  exact lv_lsub hx hb hd (kn _ _ _ _ rfl _ _ _ _ _ hR hl)
theorem ss_lmul (hx : p.tables.exec = Jvm.exec) (hb : c.code = cc) (hd : decode cc pc = .ok (.lmul, 1)) : mm_Sim p l e R s m args below meth c rt cc nL Q σ Rz C (pc, s_lbin (fun x y => x * y) (pc + 1)) := by
  intro ls st h o hf H locs cells slots lsr hR hl kn kr
  obtain ⟨y, r, rfl, hf⟩ := mm_pL_inv hf
  obtain ⟨x, r, rfl, hf⟩ := mm_pL_inv hf
  cases hf
  exact lv_lmul hx hb hd (kn _ _ _ _ rfl _ _ _ _ _ hR hl)
theorem ss_land (hx : p.tables.exec = Jvm.exec) (hb : c.code = cc) (hd : decode cc pc = .ok (.land, 1)) : mm_Sim p l e R s m args below meth c rt cc nL Q σ Rz C (pc, s_lbin (fun x y => x &&& y) (pc + 1)) := by
  intro ls st h o hf H locs cells slots lsr hR hl kn kr
  obtain ⟨y, r, rfl, hf⟩ := mm_pL_inv hf
  obtain ⟨x, r, rfl, hf⟩ := mm_pL_inv hf
  cases hf
  exact lv_land hx hb hd (kn _ _ _ _ rfl _ _ _ _ _ hR hl)
theorem ss_lor (hx : p.tables.exec = Jvm.exec) (hb : c.code = cc) (hd : decode cc pc = .ok (.lor, 1)) : mm_Sim p l e R s m args below meth c rt cc nL Q σ Rz C (pc, s_lbin (fun x y => x ||| y) (pc + 1)) := by
  intro ls st h o hf H locs cells slots lsr hR hl kn kr
  obtain ⟨y, r, rfl, hf⟩ := mm_pL_inv hf
  obtain ⟨x, r, rfl, hf⟩ := mm_pL_inv hf
  cases hf
  exact lv_lor hx hb hd (kn _ _ _ _ rfl _ _ _ _ _ hR hl)
theorem ss_idiv (hx : p.tables.exec = Jvm.exec) (hb : c.code = cc) (hd : decode cc pc = .ok (.idiv, 1)) : mm_Sim p l e R s m args below meth c rt cc nL Q σ Rz C (pc, s_bin0 (fun x y => x / y) (pc + 1)) := by
  intro ls st h o hf H locs cells slots lsr hR hl kn kr
  obtain ⟨y, r, rfl, hf1⟩ := mm_pI_inv hf
  obtain ⟨x, r, rfl, hf2⟩ := mm_pI_inv hf1
  clear hf hf1
  by_cases hy : y = 0
  · rw [if_pos hy] at hf2
    cases hf2
  · rw [if_neg hy] at hf2
    cases hf2
    exact lv_idiv hx hb hd hy (kn _ _ _ _ rfl _ _ _ _ _ hR hl)
theorem ss_irem (hx : p.tables.exec = Jvm.exec) (hb : c.code = cc) (hd : decode cc pc = .ok (.irem, 1)) : mm_Sim p l e R s m args below meth c rt cc nL Q σ Rz C (pc, s_bin0 (fun x y => x - x / y * y) (pc + 1)) := by
  intro ls st h o hf H locs cells slots lsr hR hl kn kr
  obtain ⟨y, r, rfl, hf1⟩ := mm_pI_inv hf
  obtain ⟨x, r, rfl, hf2⟩ := mm_pI_inv hf1
  clear hf hf1
  by_cases hy : y = 0
  · rw [if_pos hy] at hf2
    cases hf2
  · rw [if_neg hy] at hf2
    cases hf2
    exact lv_irem hx hb hd hy (kn _ _ _ _ rfl _ _ _ _ _ hR hl)
theorem ss_ldiv (hx : p.tables.exec = Jvm.exec) (hb : c.code = cc) (hd : decode cc pc = .ok (.ldiv, 1)) : mm_Sim p l e R s m args below meth c rt cc nL Q σ Rz C (pc, s_lbin0 (fun x y => x / y) (pc + 1)) := by
  intro ls st h o hf H locs cells slots lsr hR hl kn kr
  obtain ⟨y, r, rfl, hf1⟩ := mm_pL_inv hf
  obtain ⟨x, r, rfl, hf2⟩ := mm_pL_inv hf1
  clear hf hf1
  by_cases hy : y = 0
  · rw [if_pos hy] at hf2
    cases hf2
  · rw [if_neg hy] at hf2
    cases hf2
    exact lv_ldiv hx hb hd hy (kn _ _ _ _ rfl _ _ _ _ _ hR hl)
theorem ss_lrem (hx : p.tables.exec = Jvm.exec) (hb : c.code = cc) (hd : decode cc pc = .ok (.lrem, 1)) : mm_Sim p l e R s m args below meth c rt cc nL Q σ Rz C (pc, s_lbin0 (fun x y => x - x / y * y) (pc + 1)) := by
  intro ls st h o hf H locs cells slots lsr hR hl kn kr
  obtain ⟨y, r, rfl, hf1⟩ := mm_pL_inv hf
  obtain ⟨x, r, rfl, hf2⟩ := mm_pL_inv hf1
  clear hf hf1
  by_cases hy : y = 0
  · rw [if_pos hy] at hf2
    cases hf2
  · rw [if_neg hy] at hf2
    cases hf2
    exact lv_lrem hx hb hd hy (kn _ _ _ _ rfl _ _ _ _ _ hR hl)
def s_ineg {Hp : Type} (nx : Nat) : mm_S Hp := fun _ ls st h => mm_pI st fun x st => some (.inl (nx, ls, .int (-x) :: st, h))
theorem ss_ineg (hx : p.tables.exec = Jvm.exec) (hb : c.code = cc) (hd : decode cc pc = .ok (.ineg, 1)) : mm_Sim p l e R s m args below meth c rt cc nL Q σ Rz C (pc, s_ineg (pc + 1)) := by
  intro ls st h o hf H locs cells slots lsr hR hl kn kr
  obtain ⟨x, r, rfl, hf⟩ := mm_pI_inv hf
  cases hf
  exact lv_ineg hx hb hd (kn _ _ _ _ rfl _ _ _ _ _ hR hl)
def s_i2l {Hp : Type} (nx : Nat) : mm_S Hp := fun _ ls st h => mm_pI st fun x st => some (.inl (nx, ls, .long x.toInt64 :: st, h))
theorem ss_i2l (hx : p.tables.exec = Jvm.exec) (hb : c.code = cc) (hd : decode cc pc = .ok (.i2l, 1)) : mm_Sim p l e R s m args below meth c rt cc nL Q σ Rz C (pc, s_i2l (pc + 1)) := by
  intro ls st h o hf H locs cells slots lsr hR hl kn kr
  obtain ⟨x, r, rfl, hf⟩ := mm_pI_inv hf
  cases hf
  exact lv_i2l hx hb hd rfl (kn _ _ _ _ rfl _ _ _ _ _ hR hl)
def s_l2i {Hp : Type} (nx : Nat) : mm_S Hp := fun _ ls st h => mm_pL st fun x st => some (.inl (nx, ls, .int x.toInt32 :: st, h))
theorem ss_l2i (hx : p.tables.exec = Jvm.exec) (hb : c.code = cc) (hd : decode cc pc = .ok (.l2i, 1)) : mm_Sim p l e R s m args below meth c rt cc nL Q σ Rz C (pc, s_l2i (pc + 1)) := by
  intro ls st h o hf H locs cells slots lsr hR hl kn kr
  obtain ⟨x, r, rfl, hf⟩ := mm_pL_inv hf
  cases hf
  exact lv_l2i hx hb hd rfl (kn _ _ _ _ rfl _ _ _ _ _ hR hl)
def s_lcmp {Hp : Type} (nx : Nat) : mm_S Hp := fun _ ls st h => mm_pL st fun y st => mm_pL st fun x st => some (.inl (nx, ls, .int (lg_cmp x y) :: st, h))
theorem ss_lcmp (hx : p.tables.exec = Jvm.exec) (hb : c.code = cc) (hd : decode cc pc = .ok (.lcmp, 1)) : mm_Sim p l e R s m args below meth c rt cc nL Q σ Rz C (pc, s_lcmp (pc + 1)) := by
  intro ls st h o hf H locs cells slots lsr hR hl kn kr
  obtain ⟨y, r, rfl, hf⟩ := mm_pL_inv hf
  obtain ⟨x, r, rfl, hf⟩ := mm_pL_inv hf
  cases hf
  exact W.lcmp hx hb hd (kn _ _ _ _ rfl _ _ _ _ _ hR hl)
def mm_p1 {β : Type} (st : List Value) (k : Value → List Value → Option β) : Option β := match st with
  | .int x :: r => k (.int x) r
  | .ref x :: r => k (.ref x) r
  | _ => none
theorem mm_p1_inv {β : Type} {st : List Value} {k : Value → List Value → Option β} {o : β} (h : mm_p1 st k = some o) : ∃ v r, st = v :: r ∧ v.category = 1 ∧ k v r = some o := by
  cases st with
  | nil => cases h
  | cons v r => cases v <;> first | exact ⟨_, _, rfl, rfl, h⟩ | cases h
def s_dup {Hp : Type} (nx : Nat) : mm_S Hp := fun _ ls st h => mm_p1 st fun v st => some (.inl (nx, ls, v :: v :: st, h))
theorem ss_dup (hx : p.tables.exec = Jvm.exec) (hb : c.code = cc) (hd : decode cc pc = .ok (.dup, 1)) : mm_Sim p l e R s m args below meth c rt cc nL Q σ Rz C (pc, s_dup (pc + 1)) := by
  intro ls st h o hf H locs cells slots lsr hR hl kn kr
  replace hf : s_dup (pc + 1) C ls st h = some o := hf
  unfold s_dup at hf
  obtain ⟨v, r, rfl, hv, hf⟩ := mm_p1_inv hf
  cases hf
  exact lv_dup hx hb hd ((mm_v_cat σ v).trans hv) (kn _ _ _ _ rfl _ _ _ _ _ hR hl)
def s_pop {Hp : Type} (nx : Nat) : mm_S Hp := fun _ ls st h => mm_p1 st fun _ st => some (.inl (nx, ls, st, h))
theorem ss_pop (hx : p.tables.exec = Jvm.exec) (hb : c.code = cc) (hd : decode cc pc = .ok (.pop, 1)) : mm_Sim p l e R s m args below meth c rt cc nL Q σ Rz C (pc, s_pop (pc + 1)) := by
  intro ls st h o hf H locs cells slots lsr hR hl kn kr
  replace hf : s_pop (pc + 1) C ls st h = some o := hf
  unfold s_pop at hf
  obtain ⟨v, r, rfl, hv, hf⟩ := mm_p1_inv hf
  cases hf
  exact lv_pop hx hb hd ((mm_v_cat σ v).trans hv) (kn _ _ _ _ rfl _ _ _ _ _ hR hl)
def s_dup2 {Hp : Type} (nx : Nat) : mm_S Hp := fun _ ls st h => mm_p1 st fun v st => mm_p1 st fun w st => some (.inl (nx, ls, v :: w :: v :: w :: st, h))
theorem ss_dup2 (hx : p.tables.exec = Jvm.exec) (hb : c.code = cc) (hd : decode cc pc = .ok (.dup2, 1)) : mm_Sim p l e R s m args below meth c rt cc nL Q σ Rz C (pc, s_dup2 (pc + 1)) := by
  intro ls st h o hf H locs cells slots lsr hR hl kn kr
  replace hf : s_dup2 (pc + 1) C ls st h = some o := hf
  unfold s_dup2 at hf
  obtain ⟨v, r, rfl, hv, hf⟩ := mm_p1_inv hf
  obtain ⟨w, r, rfl, hw, hf⟩ := mm_p1_inv hf
  cases hf
  exact lv_dup2_11 hx hb hd ((mm_v_cat σ v).trans hv) ((mm_v_cat σ w).trans hw) (kn _ _ _ _ rfl _ _ _ _ _ hR hl)
def s_dupx1 {Hp : Type} (nx : Nat) : mm_S Hp := fun _ ls st h => mm_p1 st fun v st => mm_p1 st fun w st => some (.inl (nx, ls, v :: w :: v :: st, h))
theorem ss_dupx1 (hx : p.tables.exec = Jvm.exec) (hb : c.code = cc) (hd : decode cc pc = .ok (.dup_x1, 1)) : mm_Sim p l e R s m args below meth c rt cc nL Q σ Rz C (pc, s_dupx1 (pc + 1)) := by
  intro ls st h o hf H locs cells slots lsr hR hl kn kr
  replace hf : s_dupx1 (pc + 1) C ls st h = some o := hf
  unfold s_dupx1 at hf
  obtain ⟨v, r, rfl, hv, hf⟩ := mm_p1_inv hf
  obtain ⟨w, r, rfl, hw, hf⟩ := mm_p1_inv hf
  cases hf
  exact lv_dup_x1 hx hb hd ((mm_v_cat σ v).trans hv) ((mm_v_cat σ w).trans hw) (kn _ _ _ _ rfl _ _ _ _ _ hR hl)
def s_goto {Hp : Type} (tgt : Nat) : mm_S Hp := fun _ ls st h => some (.inl (tgt, ls, st, h))
theorem ss_goto (hx : p.tables.exec = Jvm.exec) (hb : c.code = cc) {off : Int} {tgt : Nat} (hd : decode cc pc = .ok (.goto off, 3)) (ht : (pc : Int) + off = (tgt : Int)) : mm_Sim p l e R s m args below meth c rt cc nL Q σ Rz C (pc, s_goto tgt) := by
  intro ls st h o hf H locs cells slots lsr hR hl kn kr
  cases hf
  exact lv_goto hx hb hd ht (kn _ _ _ _ rfl _ _ _ _ _ hR hl)
def s_if {Hp : Type} (f : Int32 → Prop) [∀ x, Decidable (f x)] (tgt nx : Nat) : mm_S Hp := fun _ ls st h => mm_pI st fun x st => if f x then some (.inl (tgt, ls, st, h)) else some (.inl (nx, ls, st, h))
def s_icmp {Hp : Type} (f : Int32 → Int32 → Prop) [∀ x y, Decidable (f x y)] (tgt nx : Nat) : mm_S Hp := fun _ ls st h => mm_pI st fun y st => mm_pI st fun x st => if f x y then some (.inl (tgt, ls, st, h)) else some (.inl (nx, ls, st, h))
theorem ss_ifeq (hx : p.tables.exec = Jvm.exec) (hb : c.code = cc) {off : Int} {tgt : Nat} (hd : decode cc pc = .ok (.ifCond .eq off, 3)) (ht : (pc : Int) + off = (tgt : Int)) : mm_Sim p l e R s m args below meth c rt cc nL Q σ Rz C (pc, s_if (fun x => x = 0) tgt (pc + 3)) := by
  intro ls st h o hf H locs cells slots lsr hR hl kn kr
  obtain ⟨x, r, rfl, hf2⟩ := mm_pI_inv hf
  exact lv_if_eq hx hb hd ht (fun q => by rw [if_pos q] at hf2; cases hf2; exact (kn _ _ _ _ rfl _ _ _ _ _ hR hl)) (fun q => by rw [if_neg q] at hf2; cases hf2; exact (kn _ _ _ _ rfl _ _ _ _ _ hR hl))
theorem ss_icmpeq (hx : p.tables.exec = Jvm.exec) (hb : c.code = cc) {off : Int} {tgt : Nat} (hd : decode cc pc = .ok (.if_icmp .eq off, 3)) (ht : (pc : Int) + off = (tgt : Int)) : mm_Sim p l e R s m args below meth c rt cc nL Q σ Rz C (pc, s_icmp (fun x y => x = y) tgt (pc + 3)) := by
  intro ls st h o hf H locs cells slots lsr hR hl kn kr
  obtain ⟨y, r, rfl, hf1⟩ := mm_pI_inv hf
  obtain ⟨x, r, rfl, hf2⟩ := mm_pI_inv hf1
  exact lv_icmp_eq hx hb hd ht (fun q => by rw [if_pos q] at hf2; cases hf2; exact (kn _ _ _ _ rfl _ _ _ _ _ hR hl)) (fun q => by rw [if_neg q] at hf2; cases hf2; exact (kn _ _ _ _ rfl _ _ _ _ _ hR hl))
theorem ss_ifne (hx : p.tables.exec = Jvm.exec) (hb : c.code = cc) {off : Int} {tgt : Nat} (hd : decode cc pc = .ok (.ifCond .ne off, 3)) (ht : (pc : Int) + off = (tgt : Int)) : mm_Sim p l e R s m args below meth c rt cc nL Q σ Rz C (pc, s_if (fun x => ¬ x = 0) tgt (pc + 3)) := by
  intro ls st h o hf H locs cells slots lsr hR hl kn kr
  obtain ⟨x, r, rfl, hf2⟩ := mm_pI_inv hf
  exact lv_if_ne hx hb hd ht (fun q => by rw [if_pos q] at hf2; cases hf2; exact (kn _ _ _ _ rfl _ _ _ _ _ hR hl)) (fun q => by rw [if_neg (not_not_intro q)] at hf2; cases hf2; exact (kn _ _ _ _ rfl _ _ _ _ _ hR hl))
theorem ss_icmpne (hx : p.tables.exec = Jvm.exec) (hb : c.code = cc) {off : Int} {tgt : Nat} (hd : decode cc pc = .ok (.if_icmp .ne off, 3)) (ht : (pc : Int) + off = (tgt : Int)) : mm_Sim p l e R s m args below meth c rt cc nL Q σ Rz C (pc, s_icmp (fun x y => ¬ x = y) tgt (pc + 3)) := by
  intro ls st h o hf H locs cells slots lsr hR hl kn kr
  obtain ⟨y, r, rfl, hf1⟩ := mm_pI_inv hf
  obtain ⟨x, r, rfl, hf2⟩ := mm_pI_inv hf1
  exact lv_icmp_ne hx hb hd ht (fun q => by rw [if_pos q] at hf2; cases hf2; exact (kn _ _ _ _ rfl _ _ _ _ _ hR hl)) (fun q => by rw [if_neg (not_not_intro q)] at hf2; cases hf2; exact (kn _ _ _ _ rfl _ _ _ _ _ hR hl))
theorem ss_iflt (hx : p.tables.exec = Jvm.exec) (hb : c.code = cc) {off : Int} {tgt : Nat} (hd : decode cc pc = .ok (.ifCond .lt off, 3)) (ht : (pc : Int) + off = (tgt : Int)) : mm_Sim p l e R s m args below meth c rt cc nL Q σ Rz C (pc, s_if (fun x => x < 0) tgt (pc + 3)) := by
  intro ls st h o hf H locs cells slots lsr hR hl kn kr
  obtain ⟨x, r, rfl, hf2⟩ := mm_pI_inv hf
  exact lv_if_lt hx hb hd ht (fun q => by rw [if_pos q] at hf2; cases hf2; exact (kn _ _ _ _ rfl _ _ _ _ _ hR hl)) (fun q => by rw [if_neg q] at hf2; cases hf2; exact (kn _ _ _ _ rfl _ _ _ _ _ hR hl))
theorem ss_icmplt (hx : p.tables.exec = Jvm.exec) (hb : c.code = cc) {off : Int} {tgt : Nat} (hd : decode cc pc = .ok (.if_icmp .lt off, 3)) (ht : (pc : Int) + off = (tgt : Int)) : mm_Sim p l e R s m args below meth c rt cc nL Q σ Rz C (pc, s_icmp (fun x y => x < y) tgt (pc + 3)) := by
  intro ls st h o hf H locs cells slots lsr hR hl kn kr
  obtain ⟨y, r, rfl, hf1⟩ := mm_pI_inv hf
  obtain ⟨x, r, rfl, hf2⟩ := mm_pI_inv hf1
  exact lv_icmp_lt hx hb hd ht (fun q => by rw [if_pos q] at hf2; cases hf2; exact (kn _ _ _ _ rfl _ _ _ _ _ hR hl)) (fun q => by rw [if_neg q] at hf2; cases hf2; exact (kn _ _ _ _ rfl _ _ _ _ _ hR hl))
theorem ss_ifge (hx : p.tables.exec = Jvm.exec) (hb : c.code = cc) {off : Int} {tgt : Nat} (hd : decode cc pc = .ok (.ifCond .ge off, 3)) (ht : (pc : Int) + off = (tgt : Int)) : mm_Sim p l e R s m args below meth c rt cc nL Q σ Rz C (pc, s_if (fun x => 0 ≤ x) tgt (pc + 3)) := by
  intro ls st h o hf H locs cells slots lsr hR hl kn kr
  obtain ⟨x, r, rfl, hf2⟩ := mm_pI_inv hf
  exact lv_if_ge hx hb hd ht (fun q => by rw [if_pos q] at hf2; cases hf2; exact (kn _ _ _ _ rfl _ _ _ _ _ hR hl)) (fun q => by rw [if_neg q] at hf2; cases hf2; exact (kn _ _ _ _ rfl _ _ _ _ _ hR hl))
theorem ss_icmpge (hx : p.tables.exec = Jvm.exec) (hb : c.code = cc) {off : Int} {tgt : Nat} (hd : decode cc pc = .ok (.if_icmp .ge off, 3)) (ht : (pc : Int) + off = (tgt : Int)) : mm_Sim p l e R s m args below meth c rt cc nL Q σ Rz C (pc, s_icmp (fun x y => y ≤ x) tgt (pc + 3)) := by
  intro ls st h o hf H locs cells slots lsr hR hl kn kr
  obtain ⟨y, r, rfl, hf1⟩ := mm_pI_inv hf
  obtain ⟨x, r, rfl, hf2⟩ := mm_pI_inv hf1
  exact lv_icmp_ge hx hb hd ht (fun q => by rw [if_pos q] at hf2; cases hf2; exact (kn _ _ _ _ rfl _ _ _ _ _ hR hl)) (fun q => by rw [if_neg q] at hf2; cases hf2; exact (kn _ _ _ _ rfl _ _ _ _ _ hR hl))
theorem ss_ifgt (hx : p.tables.exec = Jvm.exec) (hb : c.code = cc) {off : Int} {tgt : Nat} (hd : decode cc pc = .ok (.ifCond .gt off, 3)) (ht : (pc : Int) + off = (tgt : Int)) : mm_Sim p l e R s m args below meth c rt cc nL Q σ Rz C (pc, s_if (fun x => 0 < x) tgt (pc + 3)) := by
  intro ls st h o hf H locs cells slots lsr hR hl kn kr
  obtain ⟨x, r, rfl, hf2⟩ := mm_pI_inv hf
  exact lv_if_gt hx hb hd ht (fun q => by rw [if_pos q] at hf2; cases hf2; exact (kn _ _ _ _ rfl _ _ _ _ _ hR hl)) (fun q => by rw [if_neg q] at hf2; cases hf2; exact (kn _ _ _ _ rfl _ _ _ _ _ hR hl))
theorem ss_icmpgt (hx : p.tables.exec = Jvm.exec) (hb : c.code = cc) {off : Int} {tgt : Nat} (hd : decode cc pc = .ok (.if_icmp .gt off, 3)) (ht : (pc : Int) + off = (tgt : Int)) : mm_Sim p l e R s m args below meth c rt cc nL Q σ Rz C (pc, s_icmp (fun x y => y < x) tgt (pc + 3)) := by
  intro ls st h o hf H locs cells slots lsr hR hl kn kr
  obtain ⟨y, r, rfl, hf1⟩ := mm_pI_inv hf
  obtain ⟨x, r, rfl, hf2⟩ := mm_pI_inv hf1
  exact lv_icmp_gt hx hb hd ht (fun q => by rw [if_pos q] at hf2; cases hf2; exact (kn _ _ _ _ rfl _ _ _ _ _ hR hl)) (fun q => by rw [if_neg q] at hf2; cases hf2; exact (kn _ _ _ _ rfl _ _ _ _ _ hR hl))
theorem ss_ifle (hx : p.tables.exec = Jvm.exec) (hb : c.code = cc) {off : Int} {tgt : Nat} (hd : decode cc pc = .ok (.ifCond .le off, 3)) (ht : (pc : Int) + off = (tgt : Int)) : mm_Sim p l e R s m args below meth c rt cc nL Q σ Rz C (pc, s_if (fun x => x ≤ 0) tgt (pc + 3)) := by
  intro ls st h o hf H locs cells slots lsr hR hl kn kr
  obtain ⟨x, r, rfl, hf2⟩ := mm_pI_inv hf
  exact lv_if_le hx hb hd ht (fun q => by rw [if_pos q] at hf2; cases hf2; exact (kn _ _ _ _ rfl _ _ _ _ _ hR hl)) (fun q => by rw [if_neg q] at hf2; cases hf2; exact (kn _ _ _ _ rfl _ _ _ _ _ hR hl))
theorem ss_icmple (hx : p.tables.exec = Jvm.exec) (hb : c.code = cc) {off : Int} {tgt : Nat} (hd : decode cc pc = .ok (.if_icmp .le off, 3)) (ht : (pc : Int) + off = (tgt : Int)) : mm_Sim p l e R s m args below meth c rt cc nL Q σ Rz C (pc, s_icmp (fun x y => x ≤ y) tgt (pc + 3)) := by
  intro ls st h o hf H locs cells slots lsr hR hl kn kr
  obtain ⟨y, r, rfl, hf1⟩ := mm_pI_inv hf
  obtain ⟨x, r, rfl, hf2⟩ := mm_pI_inv hf1
  exact lv_icmp_le hx hb hd ht (fun q => by rw [if_pos q] at hf2; cases hf2; exact (kn _ _ _ _ rfl _ _ _ _ _ hR hl)) (fun q => by rw [if_neg q] at hf2; cases hf2; exact (kn _ _ _ _ rfl _ _ _ _ _ hR hl))
/-- a switch: the first case that fits -/
def mm_sw : List (Int32 × Nat) → Nat → Int32 → Nat
  | [], df, _ => df
  | (k, t) :: r, df, x => if x = k then t else mm_sw r df x
def s_sw {Hp : Type} (cs : List (Int32 × Nat)) (df : Nat) : mm_S Hp := fun _ ls st h => mm_pI st fun x st => some (.inl (mm_sw cs df x, ls, st, h))
/-- the cases of a table: from lo on, one by one -/
def mm_tab (pc : Nat) : Int → List Int → List (Int32 × Nat) → Bool
  | _, [], [] => true
  | lo, o :: r, (k, t) :: cs => decide (k.toInt = lo) && decide ((pc : Int) + o = (t : Int)) && mm_tab pc (lo + 1) r cs
  | _, _, _ => false
theorem mm_tab_sw {pc : Nat} {df : Nat} {x : Int32} : ∀ (offs : List Int) (lo : Int) (cs : List (Int32 × Nat)), mm_tab pc lo offs cs = true → ((x.toInt < lo ∨ lo + offs.length ≤ x.toInt) ∧ mm_sw cs df x = df) ∨ (lo ≤ x.toInt ∧ ∃ o, offs[(x.toInt - lo).toNat]? = some o ∧ (pc : Int) + o = (mm_sw cs df x : Int))
  | [], lo, [], _ => by
    refine Or.inl ⟨?_, rfl⟩
    simp only [List.length_nil]
    omega
  | o :: r, lo, (k, t) :: cs, h => by
    simp only [mm_tab, Bool.and_eq_true, decide_eq_true_eq] at h
    obtain ⟨⟨h1, h2⟩, h3⟩ := h
    by_cases hk : x = k
    · refine Or.inr ⟨by rw [hk, h1]; exact Int.le_refl _, o, ?_, ?_⟩
      · rw [hk, h1, Int.sub_self]
        rfl
      · rw [mm_sw, if_pos hk]
        exact h2
    · have hne : x.toInt ≠ lo := fun q => hk (Int32.toInt_inj.mp (q.trans h1.symm))
      rcases mm_tab_sw (df := df) (x := x) r (lo + 1) cs h3 with ⟨a, b⟩ | ⟨a, o2, b, d⟩
      · refine Or.inl ⟨?_, by rw [mm_sw, if_neg hk]; exact b⟩
        simp only [List.length_cons]
        omega
      · refine Or.inr ⟨by omega, o2, ?_, by rw [mm_sw, if_neg hk]; exact d⟩
        rw [show (x.toInt - lo).toNat = (x.toInt - (lo + 1)).toNat + 1 by omega, List.getElem?_cons_succ]
        exact b
  | [], lo, _ :: _, h => by cases h
  | _ :: _, lo, [], h => by cases h
theorem ss_table (hx : p.tables.exec = Jvm.exec) (hb : c.code = cc) {dflt lo hi : Int} {offs : Array Int} {len df : Nat} {cs : List (Int32 × Nat)} (hd : decode cc pc = .ok (.tableswitch dflt lo hi offs, len)) (h1 : mm_tab pc lo offs.toList cs = true) (h2 : hi = lo + offs.toList.length - 1) (h3 : (pc : Int) + dflt = (df : Int)) : mm_Sim p l e R s m args below meth c rt cc nL Q σ Rz C (pc, s_sw cs df) := by
  intro ls st h o hf H locs cells slots lsr hR hl kn kr
  obtain ⟨x, r, rfl, hf⟩ := mm_pI_inv hf
  cases hf
  rcases mm_tab_sw (df := df) (x := x) offs.toList lo cs h1 with ⟨a, b⟩ | ⟨a, o2, b, d⟩
  · refine lv_tableOut hx hb hd (by omega) h3 ?_
    have k1 := kn _ _ _ _ rfl _ _ _ _ _ hR hl
    rw [b] at k1
    exact k1
  · have hlt : (x.toInt - lo).toNat < offs.toList.length := (List.getElem?_eq_some_iff.mp b).1
    exact lv_tableIn hx hb hd (by omega) (by omega) (by rw [← Array.getElem?_toList]; exact b) d (kn _ _ _ _ rfl _ _ _ _ _ hR hl)
/-- the cases of a lookup -/
def mm_lk (pc : Nat) : List (Int × Int) → List (Int32 × Nat) → Bool
  | [], [] => true
  | (a, o) :: r, (k, t) :: cs => decide (k.toInt = a) && decide ((pc : Int) + o = (t : Int)) && mm_lk pc r cs
  | _, _ => false
theorem mm_lk_sw {pc df : Nat} {dflt : Int} {x : Int32} (h3 : (pc : Int) + dflt = (df : Int)) : ∀ (ps : List (Int × Int)) (cs : List (Int32 × Nat)), mm_lk pc ps cs = true → (pc : Int) + Op.lookupswitch.offset ps dflt x.toInt = (mm_sw cs df x : Int)
  | [], [], _ => h3
  | (a, o) :: r, (k, t) :: cs, h => by
    simp only [mm_lk, Bool.and_eq_true, decide_eq_true_eq] at h
    obtain ⟨⟨h1, h2⟩, h4⟩ := h
    by_cases hk : x = k
    · rw [mm_sw, if_pos hk, hk]
      simp [Op.lookupswitch.offset, h1, h2]
    · rw [mm_sw, if_neg hk, lv_osw hk h1]
      exact mm_lk_sw h3 r cs h4
  | [], _ :: _, h => by cases h
  | _ :: _, [], h => by cases h
theorem ss_lookup (hx : p.tables.exec = Jvm.exec) (hb : c.code = cc) {dflt : Int} {ps : Array (Int × Int)} {len df : Nat} {cs : List (Int32 × Nat)} (hd : decode cc pc = .ok (.lookupswitch dflt ps, len)) (hp : (ps.toList.zip (ps.toList.drop 1)).all (fun (a, next) => a.1 < next.1) = true) (h1 : mm_lk pc ps.toList cs = true) (h3 : (pc : Int) + dflt = (df : Int)) : mm_Sim p l e R s m args below meth c rt cc nL Q σ Rz C (pc, s_sw cs df) := by
  intro ls st h o hf H locs cells slots lsr hR hl kn kr
  obtain ⟨x, r, rfl, hf⟩ := mm_pI_inv hf
  cases hf
  exact lv_lookup hx hb hd hp rfl (mm_lk_sw h3 ps.toList cs h1) (kn _ _ _ _ rfl _ _ _ _ _ hR hl)
def s_vret {Hp : Type} : mm_S Hp := fun _ _ st h => match st with
  | [] => some (.inr (none, h))
  | _ => none
theorem ss_vret (hd : decode cc pc = .ok (.return_, 1)) (hr : rt = none) : mm_Sim p l e R s m args below meth c rt cc nL Q σ Rz C (pc, s_vret) := by
  intro ls st h o hf H locs cells slots lsr hR hl kn kr
  cases st with
  | nil => cases hf; exact kr _ _ rfl _ _ ⟨hd, hr⟩ hR
  | cons v r => cases hf
def s_iret {Hp : Type} : mm_S Hp := fun _ _ st h => match st with
  | [.int x] => some (.inr (some (.int x), h))
  | _ => none
def s_zret {Hp : Type} : mm_S Hp := fun _ _ st h => match st with
  | [.int x] => if x = 0 ∨ x = 1 then some (.inr (some (.int x), h)) else none
  | _ => none
def s_lret {Hp : Type} : mm_S Hp := fun _ _ st h => match st with
  | [.long x] => some (.inr (some (.long x), h))
  | _ => none
def s_aret {Hp : Type} : mm_S Hp := fun _ _ st h => match st with
  | [.ref x] => some (.inr (some (.ref x), h))
  | _ => none
theorem ss_iret (hd : decode cc pc = .ok (.ireturn, 1)) (hr : rt = some .int) : mm_Sim p l e R s m args below meth c rt cc nL Q σ Rz C (pc, s_iret) := by
  intro ls st h o hf H locs cells slots lsr hR hl kn kr
  replace hf : s_iret C ls st h = some o := hf
  unfold s_iret at hf
  split at hf
  · cases hf
    exact kr _ _ rfl _ _ ⟨hd, .int, hr, rfl⟩ hR
  · cases hf
theorem ss_lret (hd : decode cc pc = .ok (.lreturn, 1)) (hr : rt = some .long) : mm_Sim p l e R s m args below meth c rt cc nL Q σ Rz C (pc, s_lret) := by
  intro ls st h o hf H locs cells slots lsr hR hl kn kr
  replace hf : s_lret C ls st h = some o := hf
  unfold s_lret at hf
  split at hf
  · cases hf
    exact kr _ _ rfl _ _ ⟨hd, hr⟩ hR
  · cases hf
theorem ss_aret (hd : decode cc pc = .ok (.areturn, 1)) (hr : ∃ ty, rt = some ty ∧ ((∃ n, ty = .object n) ∨ ∃ t, ty = .array t)) : mm_Sim p l e R s m args below meth c rt cc nL Q σ Rz C (pc, s_aret) := by
  intro ls st h o hf H locs cells slots lsr hR hl kn kr
  replace hf : s_aret C ls st h = some o := hf
  unfold s_aret at hf
  split at hf
  · cases hf
    exact kr _ _ rfl _ _ ⟨hd, hr⟩ hR
  · cases hf
theorem ss_zret (hd : decode cc pc = .ok (.ireturn, 1)) (hr : rt = some .boolean) : mm_Sim p l e R s m args below meth c rt cc nL Q σ Rz C (pc, s_zret) := by
  intro ls st h o hf H locs cells slots lsr hR hl kn kr
  replace hf : s_zret C ls st h = some o := hf
  unfold s_zret at hf
  split at hf
  · split at hf
    · rename_i hz
      cases hf
      exact kr _ _ rfl _ _ ⟨hd, .boolean, hr, by rcases hz with rfl | rfl <;> rfl⟩ hR
    · cases hf
  · cases hf
def s_nret {Hp : Type} (ty : FieldType) : mm_S Hp := fun _ _ st h => match st with
  | [.int x] => if narrow ty (.int x) = .int x then some (.inr (some (.int x), h)) else none
  | _ => none
theorem ss_nret {ty : FieldType} (hd : decode cc pc = .ok (.ireturn, 1)) (hr : rt = some ty) : mm_Sim p l e R s m args below meth c rt cc nL Q σ Rz C (pc, s_nret ty) := by
  intro ls st h o hf H locs cells slots lsr hR hl kn kr
  replace hf : s_nret ty C ls st h = some o := hf
  unfold s_nret at hf
  split at hf
  · split at hf
    · rename_i hz
      cases hf
      exact kr _ _ rfl _ _ ⟨hd, ty, hr, hz⟩ hR
    · cases hf
  · cases hf
def s_i2c {Hp : Type} (nx : Nat) : mm_S Hp := fun _ ls st h => mm_pI st fun x st => some (.inl (nx, ls, .int (x.toUInt32 % 65536).toInt32 :: st, h))
theorem ss_i2c (hx : p.tables.exec = Jvm.exec) (hb : c.code = cc) (hd : decode cc pc = .ok (.i2c, 1)) : mm_Sim p l e R s m args below meth c rt cc nL Q σ Rz C (pc, s_i2c (pc + 1)) := by
  intro ls st h o hf H locs cells slots lsr hR hl kn kr
  obtain ⟨x, r, rfl, hf⟩ := mm_pI_inv hf
  cases hf
  exact lv_i2c hx hb hd rfl (kn _ _ _ _ rfl _ _ _ _ _ hR hl)
end PURE
