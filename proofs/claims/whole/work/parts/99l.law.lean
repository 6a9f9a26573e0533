/-! the law's loop: every call answers alike, so it comes to its end with 1 -/
def GG (x : mm_X) : Prop := ∃ h2 : mm_H, x = some (some (.int 1), h2)
theorem GG_ite {c : Prop} [Decidable c] {a b : mm_X} (x : c → GG a) (y : ¬ c → GG b) : GG (if c then a else b) := by
  by_cases z : c
  · rw [if_pos z]
    exact x z
  · rw [if_neg z]
    exact y z
theorem GG_gd {c : Prop} [Decidable c] {a : mm_X} (z : ¬ c) (y : GG a) : GG (if c then none else a) := by
  rw [if_neg z]
  exact y
theorem GG_pos {c : Prop} [Decidable c] {a b : mm_X} (z : c) (y : GG a) : GG (if c then a else b) := by
  rw [if_pos z]
  exact y
theorem GG_bI {X : mm_X} {v : Int32} {h : mm_H} {k : Int32 → mm_H → mm_X} (e : X = some (some (.int v), h)) (y : GG (k v h)) : GG (mm_bI X k) := by
  rw [bI_eq e]
  exact y
theorem GG_bL {X : mm_X} {v : Int64} {h : mm_H} {k : Int64 → mm_H → mm_X} (e : X = some (some (.long v), h)) (y : GG (k v h)) : GG (mm_bL X k) := by
  rw [bL_eq e]
  exact y
theorem al1 {P : Int32 → Prop} (H : ∀ a : Int, -2147483648 ≤ a → a < 2147483648 → P (iI a)) (x : Int32) : P x := by
  have z := H x.toInt (i32_lo x) (i32_hi x)
  rw [iI_of] at z
  exact z
theorem lw_gd {L : Nat} {i k : Int} {x : Int32} (hL : L ≤ 3072) (i0 : 0 ≤ i) (k0 : 0 ≤ k) (z : i + k < (L : Int)) (e : x = iI (i + k)) : ¬ (x < 0 ∨ L ≤ x.toNatClampNeg) := by
  subst e
  have e0 : (iI (i + k) < iI 0) = (i + k < 0) := iI_lt (by omega) (by omega) (by omega) (by omega)
  rw [iI_nat (by omega) (by omega), show (0 : Int32) = iI 0 from rfl, e0]
  omega
theorem lw_k {i : Int} (k : Nat) : iI i + (OfNat.ofNat k : Int32) = iI (i + (OfNat.ofNat k : Int)) := (congrArg (fun z => iI i + z) (iI_lit k)).trans (iI_add i _)
theorem lw_out {L : Nat} {i : Int} (hL : L ≤ 3072) (i0 : 0 ≤ i) (i1 : i ≤ 4000) : ((Int32.ofNat L) - 6 < iI i) = ((L : Int) - 6 < i) := by
  have on : Int32.ofNat L = iI (L : Int) := (Int32.ofInt_eq_ofNat (n := L)).symm
  have e6 : (6 : Int32) = iI 6 := iI_lit 6
  rw [on, e6, iI_sub, iI_lt (by omega) (by omega) (by omega) (by omega)]
theorem N_end (x : Int32) : CallI 149 190 [.int x] := al1 (P := fun x => CallI 149 190 [.int x]) (fun a al au => K_end al au) x
theorem N_fault (x : Int32) : CallI 151 213 [.int x] := al1 (P := fun x => CallI 151 213 [.int x]) (fun a al au => K_fault al au) x
theorem N_has (x : Int32) : CallI 152 245 [.int x] := al1 (P := fun x => CallI 152 245 [.int x]) (fun a al au => K_has al au) x
theorem N_letter (x y : Int32) : CallI 153 246 [.int x, .int y] := al1 (P := fun x => CallI 153 246 [.int x, .int y]) (fun a al au => al1 (P := fun y => CallI 153 246 [.int (iI a), .int y]) (fun b bl bu => K_letter al au bl bu) y) x
theorem N_house (x : Int32) : CallI 154 247 [.int x] := al1 (P := fun x => CallI 154 247 [.int x]) (fun a al au => K_house al au) x
theorem N_person (x y : Int32) : CallI 155 248 [.int x, .int y] := al1 (P := fun x => CallI 155 248 [.int x, .int y]) (fun a al au => al1 (P := fun y => CallI 155 248 [.int (iI a), .int y]) (fun b bl bu => K_person al au bl bu) y) x
theorem N_thinks (x y : Int32) : CallI 156 249 [.int x, .int y] := al1 (P := fun x => CallI 156 249 [.int x, .int y]) (fun a al au => al1 (P := fun y => CallI 156 249 [.int (iI a), .int y]) (fun b bl bu => K_thinks al au bl bu) y) x
theorem N_paints (x y : Int32) : CallI 157 250 [.int x, .int y] := al1 (P := fun x => CallI 157 250 [.int x, .int y]) (fun a al au => al1 (P := fun y => CallI 157 250 [.int (iI a), .int y]) (fun b bl bu => K_paints al au bl bu) y) x
theorem N_feud (x : Int32) : CallI 158 251 [.int x] := al1 (P := fun x => CallI 158 251 [.int x]) (fun a al au => K_feud al au) x
theorem N_kept (x y : Int32) : CallI 159 252 [.int x, .int y] := al1 (P := fun x => CallI 159 252 [.int x, .int y]) (fun a al au => al1 (P := fun y => CallI 159 252 [.int (iI a), .int y]) (fun b bl bu => K_kept al au bl bu) y) x
theorem N_later (x y : Int32) : CallI 160 253 [.int x, .int y] := al1 (P := fun x => CallI 160 253 [.int x, .int y]) (fun a al au => al1 (P := fun y => CallI 160 253 [.int (iI a), .int y]) (fun b bl bu => K_later al au bl bu) y) x
theorem N_mind (x y z : Int32) : CallI 161 254 [.int x, .int y, .int z] := al1 (P := fun x => CallI 161 254 [.int x, .int y, .int z]) (fun a al au => al1 (P := fun y => CallI 161 254 [.int (iI a), .int y, .int z]) (fun b bl bu => al1 (P := fun z => CallI 161 254 [.int (iI a), .int (iI b), .int z]) (fun c cl cu => K_mind al au bl bu cl cu) z) y) x
theorem N_curtain (x : Int32) : CallI 162 255 [.int x] := al1 (P := fun x => CallI 162 255 [.int x]) (fun a al au => K_curtain al au) x
theorem N_changed (x y : Int32) : CallI 163 257 [.int x, .int y] := al1 (P := fun x => CallI 163 257 [.int x, .int y]) (fun a al au => al1 (P := fun y => CallI 163 257 [.int (iI a), .int y]) (fun b bl bu => K_changed al au bl bu) y) x
theorem N_stranger (x y z u : Int32) : CallI 164 259 [.int x, .int y, .int z, .int u] := al1 (P := fun x => CallI 164 259 [.int x, .int y, .int z, .int u]) (fun a al au => al1 (P := fun y => CallI 164 259 [.int (iI a), .int y, .int z, .int u]) (fun b bl bu => al1 (P := fun z => CallI 164 259 [.int (iI a), .int (iI b), .int z, .int u]) (fun c cl cu => al1 (P := fun u => CallI 164 259 [.int (iI a), .int (iI b), .int (iI c), .int u]) (fun e el eu => K_stranger al au bl bu cl cu el eu) u) z) y) x
theorem N_rest (x : Int32) : CallI 166 264 [.int x] := al1 (P := fun x => CallI 166 264 [.int x]) (fun a al au => K_rest al au) x
theorem N_thoughts (x y : Int32) : CallI 168 271 [.int x, .int y] := al1 (P := fun x => CallI 168 271 [.int x, .int y]) (fun a al au => al1 (P := fun y => CallI 168 271 [.int (iI a), .int y]) (fun b bl bu => K_thoughts al au bl bu) y) x
theorem N_faces (x : Int32) : CallI 169 272 [.int x] := al1 (P := fun x => CallI 169 272 [.int x]) (fun a al au => K_faces al au) x
theorem N_tells (x y z : Int32) : CallI 170 274 [.int x, .int y, .int z] := al1 (P := fun x => CallI 170 274 [.int x, .int y, .int z]) (fun a al au => al1 (P := fun y => CallI 170 274 [.int (iI a), .int y, .int z]) (fun b bl bu => al1 (P := fun z => CallI 170 274 [.int (iI a), .int (iI b), .int z]) (fun c cl cu => K_tells al au bl bu cl cu) z) y) x
theorem N_change (x y : Int32) : CallI 171 278 [.int x, .int y] := al1 (P := fun x => CallI 171 278 [.int x, .int y]) (fun a al au => al1 (P := fun y => CallI 171 278 [.int (iI a), .int y]) (fun b bl bu => K_change al au bl bu) y) x
theorem N_right (x : Int32) : CallI 172 279 [.int x] := al1 (P := fun x => CallI 172 279 [.int x]) (fun a al au => K_right al au) x
theorem N_spare (x y : Int32) : CallI 173 280 [.int x, .int y] := al1 (P := fun x => CallI 173 280 [.int x, .int y]) (fun a al au => al1 (P := fun y => CallI 173 280 [.int (iI a), .int y]) (fun b bl bu => K_spare al au bl bu) y) x
theorem N_years (x : Int32) : CallI 174 281 [.int x] := al1 (P := fun x => CallI 174 281 [.int x]) (fun a al au => K_years al au) x
theorem N_chance (x : Int32) : CallI 175 284 [.int x] := al1 (P := fun x => CallI 175 284 [.int x]) (fun a al au => K_chance al au) x
theorem N_seed (x : Int32) : CallI 177 282 [.int x] := al1 (P := fun x => CallI 177 282 [.int x]) (fun a al au => K_seed al au) x
theorem N_octet (x : Int32) : CallI 180 317 [.int x] := al1 (P := fun x => CallI 180 317 [.int x]) (fun a al au => K_octet al au) x
theorem N_status (x : Int32) : CallI 182 321 [.int x] := al1 (P := fun x => CallI 182 321 [.int x]) (fun a al au => K_status al au) x
set_option maxRecDepth 100000 in
set_option maxHeartbeats 8000000 in
theorem GG_step {d L : Nat} {xs : Nat → Int32} {i : Int} {h : mm_H} (hL : L ≤ 3072) (i0 : 0 ≤ i) (i1 : i ≤ 4000) (I : Inv h i) (N : i + 6 ≤ (L : Int) → ∀ h2, Inv h2 (i + 6) → GG (mm_D (mm_M mm_T0 (d + 40)) (cd_L_law L xs) 18 [.ref 338, .ref 0, .ref 264, .int (iI i + 6)] [] h2)) : GG (mm_D (mm_M mm_T0 (d + 40)) (cd_L_law L xs) 18 [.ref 338, .ref 0, .ref 264, .int (iI i)] [] h) := by
  rw [U_L_law_18]
  refine GG_ite (fun _ => ⟨h, rfl⟩) (fun q => ?_)
  rw [lw_out hL i0 i1] at q
  have hi : i + 6 ≤ 3072 := by omega
  have N := N (by omega)
  have g0 : ¬ (iI i < 0 ∨ L ≤ (iI i).toNatClampNeg) := lw_gd (k := 0) hL i0 (by omega) (by omega) (by rw [Int.add_zero])
  have g1 : ¬ (iI i + 1 < 0 ∨ L ≤ (iI i + 1).toNatClampNeg) := lw_gd (k := 1) hL i0 (by omega) (by omega) (lw_k 1)
  have g2 : ¬ (iI i + 2 < 0 ∨ L ≤ (iI i + 2).toNatClampNeg) := lw_gd (k := 2) hL i0 (by omega) (by omega) (lw_k 2)
  have g3 : ¬ (iI i + 3 < 0 ∨ L ≤ (iI i + 3).toNatClampNeg) := lw_gd (k := 3) hL i0 (by omega) (by omega) (lw_k 3)
  have g4 : ¬ (iI i + 4 < 0 ∨ L ≤ (iI i + 4).toNatClampNeg) := lw_gd (k := 4) hL i0 (by omega) (by omega) (lw_k 4)
  have g5 : ¬ (iI i + 5 < 0 ∨ L ≤ (iI i + 5).toNatClampNeg) := lw_gd (k := 5) hL i0 (by omega) (by omega) (lw_k 5)
  refine GG_gd g0 ?_
  refine GG_ite (fun _ => ?_) (fun _ => ?_)
  · refine GG_gd g1 ?_
    refine GG_gd g2 ?_
    refine GG_gd g3 ?_
    refine GG_gd g4 ?_
    refine GG_gd g5 ?_
    obtain ⟨v, h1, h2, e1, e2, I2⟩ := (K_feed (x1 := xs (iI i + 1).toNatClampNeg) (x2 := xs (iI i + 2).toNatClampNeg) (x3 := xs (iI i + 3).toNatClampNeg) (x4 := xs (iI i + 4).toNatClampNeg) (x5 := xs (iI i + 5).toNatClampNeg)) d h i I hi
    refine GG_bI e1 ?_
    refine GG_gd g1 ?_
    refine GG_gd g2 ?_
    refine GG_gd g3 ?_
    refine GG_gd g4 ?_
    refine GG_gd g5 ?_
    refine GG_bI e2 ?_
    refine GG_pos rfl ?_
    exact N h2 I2
  refine GG_ite (fun _ => ?_) (fun _ => ?_)
  · refine GG_gd g1 ?_
    obtain ⟨v, h1, h2, e1, e2, I2⟩ := (N_end (xs (iI i + 1).toNatClampNeg)) d h i I hi
    refine GG_bI e1 ?_
    refine GG_gd g1 ?_
    refine GG_bI e2 ?_
    refine GG_pos rfl ?_
    exact N h2 I2
  refine GG_ite (fun _ => ?_) (fun _ => ?_)
  · obtain ⟨v, h1, h2, e1, e2, I2⟩ := K_terrace d h i I hi
    refine GG_bI e1 ?_
    refine GG_bI e2 ?_
    refine GG_pos rfl ?_
    exact N h2 I2
  refine GG_ite (fun _ => ?_) (fun _ => ?_)
  · refine GG_gd g1 ?_
    obtain ⟨v, h1, h2, e1, e2, I2⟩ := (N_fault (xs (iI i + 1).toNatClampNeg)) d h i I hi
    refine GG_bI e1 ?_
    refine GG_gd g1 ?_
    refine GG_bI e2 ?_
    refine GG_pos rfl ?_
    exact N h2 I2
  refine GG_ite (fun _ => ?_) (fun _ => ?_)
  · refine GG_gd g1 ?_
    obtain ⟨v, h1, h2, e1, e2, I2⟩ := (N_has (xs (iI i + 1).toNatClampNeg)) d h i I hi
    refine GG_bI e1 ?_
    refine GG_gd g1 ?_
    refine GG_bI e2 ?_
    refine GG_pos rfl ?_
    exact N h2 I2
  refine GG_ite (fun _ => ?_) (fun _ => ?_)
  · refine GG_gd g1 ?_
    refine GG_gd g2 ?_
    obtain ⟨v, h1, h2, e1, e2, I2⟩ := (N_letter (xs (iI i + 1).toNatClampNeg) (xs (iI i + 2).toNatClampNeg)) d h i I hi
    refine GG_bI e1 ?_
    refine GG_gd g1 ?_
    refine GG_gd g2 ?_
    refine GG_bI e2 ?_
    refine GG_pos rfl ?_
    exact N h2 I2
  refine GG_ite (fun _ => ?_) (fun _ => ?_)
  · refine GG_gd g1 ?_
    obtain ⟨v, h1, h2, e1, e2, I2⟩ := (N_house (xs (iI i + 1).toNatClampNeg)) d h i I hi
    refine GG_bI e1 ?_
    refine GG_gd g1 ?_
    refine GG_bI e2 ?_
    refine GG_pos rfl ?_
    exact N h2 I2
  refine GG_ite (fun _ => ?_) (fun _ => ?_)
  · refine GG_gd g1 ?_
    refine GG_gd g2 ?_
    obtain ⟨v, h1, h2, e1, e2, I2⟩ := (N_person (xs (iI i + 1).toNatClampNeg) (xs (iI i + 2).toNatClampNeg)) d h i I hi
    refine GG_bI e1 ?_
    refine GG_gd g1 ?_
    refine GG_gd g2 ?_
    refine GG_bI e2 ?_
    refine GG_pos rfl ?_
    exact N h2 I2
  refine GG_ite (fun _ => ?_) (fun _ => ?_)
  · refine GG_gd g1 ?_
    refine GG_gd g2 ?_
    obtain ⟨v, h1, h2, e1, e2, I2⟩ := (N_thinks (xs (iI i + 1).toNatClampNeg) (xs (iI i + 2).toNatClampNeg)) d h i I hi
    refine GG_bI e1 ?_
    refine GG_gd g1 ?_
    refine GG_gd g2 ?_
    refine GG_bI e2 ?_
    refine GG_pos rfl ?_
    exact N h2 I2
  refine GG_ite (fun _ => ?_) (fun _ => ?_)
  · refine GG_gd g1 ?_
    refine GG_gd g2 ?_
    obtain ⟨v, h1, h2, e1, e2, I2⟩ := (N_paints (xs (iI i + 1).toNatClampNeg) (xs (iI i + 2).toNatClampNeg)) d h i I hi
    refine GG_bI e1 ?_
    refine GG_gd g1 ?_
    refine GG_gd g2 ?_
    refine GG_bI e2 ?_
    refine GG_pos rfl ?_
    exact N h2 I2
  refine GG_ite (fun _ => ?_) (fun _ => ?_)
  · refine GG_gd g1 ?_
    obtain ⟨v, h1, h2, e1, e2, I2⟩ := (N_feud (xs (iI i + 1).toNatClampNeg)) d h i I hi
    refine GG_bI e1 ?_
    refine GG_gd g1 ?_
    refine GG_bI e2 ?_
    refine GG_pos rfl ?_
    exact N h2 I2
  refine GG_ite (fun _ => ?_) (fun _ => ?_)
  · refine GG_gd g1 ?_
    refine GG_gd g2 ?_
    obtain ⟨v, h1, h2, e1, e2, I2⟩ := (N_kept (xs (iI i + 1).toNatClampNeg) (xs (iI i + 2).toNatClampNeg)) d h i I hi
    refine GG_bI e1 ?_
    refine GG_gd g1 ?_
    refine GG_gd g2 ?_
    refine GG_bI e2 ?_
    refine GG_pos rfl ?_
    exact N h2 I2
  refine GG_ite (fun _ => ?_) (fun _ => ?_)
  · refine GG_gd g1 ?_
    refine GG_gd g2 ?_
    obtain ⟨v, h1, h2, e1, e2, I2⟩ := (N_later (xs (iI i + 1).toNatClampNeg) (xs (iI i + 2).toNatClampNeg)) d h i I hi
    refine GG_bI e1 ?_
    refine GG_gd g1 ?_
    refine GG_gd g2 ?_
    refine GG_bI e2 ?_
    refine GG_pos rfl ?_
    exact N h2 I2
  refine GG_ite (fun _ => ?_) (fun _ => ?_)
  · refine GG_gd g1 ?_
    refine GG_gd g2 ?_
    refine GG_gd g3 ?_
    obtain ⟨v, h1, h2, e1, e2, I2⟩ := (N_mind (xs (iI i + 1).toNatClampNeg) (xs (iI i + 2).toNatClampNeg) (xs (iI i + 3).toNatClampNeg)) d h i I hi
    refine GG_bI e1 ?_
    refine GG_gd g1 ?_
    refine GG_gd g2 ?_
    refine GG_gd g3 ?_
    refine GG_bI e2 ?_
    refine GG_pos rfl ?_
    exact N h2 I2
  refine GG_ite (fun _ => ?_) (fun _ => ?_)
  · refine GG_gd g1 ?_
    obtain ⟨v, h1, h2, e1, e2, I2⟩ := (N_curtain (xs (iI i + 1).toNatClampNeg)) d h i I hi
    refine GG_bI e1 ?_
    refine GG_gd g1 ?_
    refine GG_bI e2 ?_
    refine GG_pos rfl ?_
    exact N h2 I2
  refine GG_ite (fun _ => ?_) (fun _ => ?_)
  · refine GG_gd g1 ?_
    refine GG_gd g2 ?_
    obtain ⟨v, h1, h2, e1, e2, I2⟩ := (N_changed (xs (iI i + 1).toNatClampNeg) (xs (iI i + 2).toNatClampNeg)) d h i I hi
    refine GG_bI e1 ?_
    refine GG_gd g1 ?_
    refine GG_gd g2 ?_
    refine GG_bI e2 ?_
    refine GG_pos rfl ?_
    exact N h2 I2
  refine GG_ite (fun _ => ?_) (fun _ => ?_)
  · refine GG_gd g1 ?_
    refine GG_gd g2 ?_
    refine GG_gd g3 ?_
    refine GG_gd g4 ?_
    obtain ⟨v, h1, h2, e1, e2, I2⟩ := (N_stranger (xs (iI i + 1).toNatClampNeg) (xs (iI i + 2).toNatClampNeg) (xs (iI i + 3).toNatClampNeg) (xs (iI i + 4).toNatClampNeg)) d h i I hi
    refine GG_bI e1 ?_
    refine GG_gd g1 ?_
    refine GG_gd g2 ?_
    refine GG_gd g3 ?_
    refine GG_gd g4 ?_
    refine GG_bI e2 ?_
    refine GG_pos rfl ?_
    exact N h2 I2
  refine GG_ite (fun _ => ?_) (fun _ => ?_)
  · obtain ⟨v, h1, h2, e1, e2, I2⟩ := K_parted d h i I hi
    refine GG_bI e1 ?_
    refine GG_bI e2 ?_
    refine GG_pos rfl ?_
    exact N h2 I2
  refine GG_ite (fun _ => ?_) (fun _ => ?_)
  · refine GG_gd g1 ?_
    obtain ⟨v, h1, h2, e1, e2, I2⟩ := (N_rest (xs (iI i + 1).toNatClampNeg)) d h i I hi
    refine GG_bI e1 ?_
    refine GG_gd g1 ?_
    refine GG_bI e2 ?_
    refine GG_pos rfl ?_
    exact N h2 I2
  refine GG_ite (fun _ => ?_) (fun _ => ?_)
  · obtain ⟨v, h1, h2, e1, e2, I2⟩ := K_see d h i I hi
    refine GG_bI e1 ?_
    refine GG_bI e2 ?_
    refine GG_pos rfl ?_
    exact N h2 I2
  refine GG_ite (fun _ => ?_) (fun _ => ?_)
  · refine GG_gd g1 ?_
    refine GG_gd g2 ?_
    obtain ⟨v, h1, h2, e1, e2, I2⟩ := (N_thoughts (xs (iI i + 1).toNatClampNeg) (xs (iI i + 2).toNatClampNeg)) d h i I hi
    refine GG_bI e1 ?_
    refine GG_gd g1 ?_
    refine GG_gd g2 ?_
    refine GG_bI e2 ?_
    refine GG_pos rfl ?_
    exact N h2 I2
  refine GG_ite (fun _ => ?_) (fun _ => ?_)
  · refine GG_gd g1 ?_
    obtain ⟨v, h1, h2, e1, e2, I2⟩ := (N_faces (xs (iI i + 1).toNatClampNeg)) d h i I hi
    refine GG_bI e1 ?_
    refine GG_gd g1 ?_
    refine GG_bI e2 ?_
    refine GG_pos rfl ?_
    exact N h2 I2
  refine GG_ite (fun _ => ?_) (fun _ => ?_)
  · refine GG_gd g1 ?_
    refine GG_gd g2 ?_
    refine GG_gd g3 ?_
    obtain ⟨v, h1, h2, e1, e2, I2⟩ := (N_tells (xs (iI i + 1).toNatClampNeg) (xs (iI i + 2).toNatClampNeg) (xs (iI i + 3).toNatClampNeg)) d h i I hi
    refine GG_bI e1 ?_
    refine GG_gd g1 ?_
    refine GG_gd g2 ?_
    refine GG_gd g3 ?_
    refine GG_bI e2 ?_
    refine GG_pos rfl ?_
    exact N h2 I2
  refine GG_ite (fun _ => ?_) (fun _ => ?_)
  · refine GG_gd g1 ?_
    refine GG_gd g2 ?_
    obtain ⟨v, h1, h2, e1, e2, I2⟩ := (N_change (xs (iI i + 1).toNatClampNeg) (xs (iI i + 2).toNatClampNeg)) d h i I hi
    refine GG_bI e1 ?_
    refine GG_gd g1 ?_
    refine GG_gd g2 ?_
    refine GG_bI e2 ?_
    refine GG_pos rfl ?_
    exact N h2 I2
  refine GG_ite (fun _ => ?_) (fun _ => ?_)
  · refine GG_gd g1 ?_
    obtain ⟨v, h1, h2, e1, e2, I2⟩ := (N_right (xs (iI i + 1).toNatClampNeg)) d h i I hi
    refine GG_bI e1 ?_
    refine GG_gd g1 ?_
    refine GG_bI e2 ?_
    refine GG_pos rfl ?_
    exact N h2 I2
  refine GG_ite (fun _ => ?_) (fun _ => ?_)
  · refine GG_gd g1 ?_
    refine GG_gd g2 ?_
    obtain ⟨v, h1, h2, e1, e2, I2⟩ := (N_spare (xs (iI i + 1).toNatClampNeg) (xs (iI i + 2).toNatClampNeg)) d h i I hi
    refine GG_bI e1 ?_
    refine GG_gd g1 ?_
    refine GG_gd g2 ?_
    refine GG_bI e2 ?_
    refine GG_pos rfl ?_
    exact N h2 I2
  refine GG_ite (fun _ => ?_) (fun _ => ?_)
  · refine GG_gd g1 ?_
    obtain ⟨v, h1, h2, e1, e2, I2⟩ := (N_years (xs (iI i + 1).toNatClampNeg)) d h i I hi
    refine GG_bI e1 ?_
    refine GG_gd g1 ?_
    refine GG_bI e2 ?_
    refine GG_pos rfl ?_
    exact N h2 I2
  refine GG_ite (fun _ => ?_) (fun _ => ?_)
  · refine GG_gd g1 ?_
    obtain ⟨v, h1, h2, e1, e2, I2⟩ := (N_chance (xs (iI i + 1).toNatClampNeg)) d h i I hi
    refine GG_bI e1 ?_
    refine GG_gd g1 ?_
    refine GG_bI e2 ?_
    refine GG_pos rfl ?_
    exact N h2 I2
  refine GG_ite (fun _ => ?_) (fun _ => ?_)
  · obtain ⟨v, h1, h2, e1, e2, I2⟩ := K_undo d h i I hi
    refine GG_bI e1 ?_
    refine GG_bI e2 ?_
    refine GG_pos rfl ?_
    exact N h2 I2
  refine GG_ite (fun _ => ?_) (fun _ => ?_)
  · refine GG_gd g1 ?_
    obtain ⟨v, h1, h2, e1, e2, I2⟩ := (N_seed (xs (iI i + 1).toNatClampNeg)) d h i I hi
    refine GG_bI e1 ?_
    refine GG_gd g1 ?_
    refine GG_bI e2 ?_
    refine GG_pos rfl ?_
    exact N h2 I2
  refine GG_ite (fun _ => ?_) (fun _ => ?_)
  · obtain ⟨v, h1, h2, e1, e2, I2⟩ := K_ask d h i I hi
    refine GG_bL e1 ?_
    refine GG_bL e2 ?_
    refine GG_pos (by rw [lg_cmp_eq]) ?_
    exact N h2 I2
  refine GG_ite (fun _ => ?_) (fun _ => ?_)
  · obtain ⟨v, h1, h2, e1, e2, I2⟩ := K_image d h i I hi
    refine GG_bI e1 ?_
    refine GG_bI e2 ?_
    refine GG_pos rfl ?_
    exact N h2 I2
  refine GG_ite (fun _ => ?_) (fun _ => ?_)
  · refine GG_gd g1 ?_
    obtain ⟨v, h1, h2, e1, e2, I2⟩ := (N_octet (xs (iI i + 1).toNatClampNeg)) d h i I hi
    refine GG_bI e1 ?_
    refine GG_gd g1 ?_
    refine GG_bI e2 ?_
    refine GG_pos rfl ?_
    exact N h2 I2
  refine GG_ite (fun _ => ?_) (fun _ => ?_)
  · obtain ⟨v, h1, h2, e1, e2, I2⟩ := K_on d h i I hi
    refine GG_bI e1 ?_
    refine GG_bI e2 ?_
    refine GG_pos rfl ?_
    exact N h2 I2
  refine GG_ite (fun _ => ?_) (fun _ => ?_)
  · refine GG_gd g1 ?_
    obtain ⟨v, h1, h2, e1, e2, I2⟩ := (N_status (xs (iI i + 1).toNatClampNeg)) d h i I hi
    refine GG_bI e1 ?_
    refine GG_gd g1 ?_
    refine GG_bI e2 ?_
    refine GG_pos rfl ?_
    exact N h2 I2
  exact N h (I.next hi)
theorem GG_law {d L : Nat} {xs : Nat → Int32} (hL : L ≤ 3072) : ∀ (n : Nat) (i : Int) (h : mm_H), 0 ≤ i → i ≤ 3072 → 3072 < i + 6 * (n : Int) → Inv h i → GG (mm_D (mm_M mm_T0 (d + 40)) (cd_L_law L xs) 18 [.ref 338, .ref 0, .ref 264, .int (iI i)] [] h)
  | 0, i, h, i0, i1, iL, I => absurd iL (by omega)
  | n + 1, i, h, i0, i1, iL, I => by
    refine GG_step hL i0 (by omega) I (fun q h2 I2 => ?_)
    rw [lw_k 6]
    exact GG_law hL n (i + 6) h2 (by omega) (by omega) (by omega) I2
