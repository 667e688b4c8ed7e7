/-! what every contract here says of a state: the classes, the rows of ints and bytes, the private links of nest mates -/
abbrev cz_in (lo v hi : Int32) : Prop := lo ≤ v ∧ v ≤ hi
theorem cz_lt (a b : Int32) : a < b ↔ a.toInt < b.toInt := Int32.lt_iff_toInt_lt
theorem cz_le (a b : Int32) : a ≤ b ↔ a.toInt ≤ b.toInt := Int32.le_iff_toInt_le
theorem cz_eq (a b : Int32) : a = b ↔ a.toInt = b.toInt := ⟨fun h => by rw [h], fun h => Int32.toInt_inj.mp h⟩
theorem cz_l : (0 : Int32).toInt = 0 ∧ (1 : Int32).toInt = 1 ∧ (2 : Int32).toInt = 2 ∧ (3 : Int32).toInt = 3 ∧ (4 : Int32).toInt = 4 ∧ (5 : Int32).toInt = 5 ∧ (6 : Int32).toInt = 6 ∧ (7 : Int32).toInt = 7 ∧ (8 : Int32).toInt = 8 ∧ (9 : Int32).toInt = 9 ∧ (15 : Int32).toInt = 15 ∧ (18 : Int32).toInt = 18 ∧ (19 : Int32).toInt = 19 ∧ (20 : Int32).toInt = 20 ∧ (21 : Int32).toInt = 21 ∧ (22 : Int32).toInt = 22 ∧ (23 : Int32).toInt = 23 ∧ (24 : Int32).toInt = 24 ∧ (31 : Int32).toInt = 31 ∧ (32 : Int32).toInt = 32 ∧ (35 : Int32).toInt = 35 ∧ (46 : Int32).toInt = 46 ∧ (47 : Int32).toInt = 47 ∧ (59 : Int32).toInt = 59 ∧ (60 : Int32).toInt = 60 ∧ (79 : Int32).toInt = 79 ∧ (80 : Int32).toInt = 80 ∧ (126 : Int32).toInt = 126 ∧ (400 : Int32).toInt = 400 ∧ (-1 : Int32).toInt = -1 ∧ (-2 : Int32).toInt = -2 ∧ (-3 : Int32).toInt = -3 ∧ (-101 : Int32).toInt = -101 ∧ (-102 : Int32).toInt = -102 ∧ (-103 : Int32).toInt = -103 ∧ (-104 : Int32).toInt = -104 := by decide
def cz_links : List (String × Nat × MethodName) := [(RX6, 11, yX2_init), (RX6, 18, yX4_init), (RX4, 11, yX1_init), (RX4, 20, yX0_init), (RX5, 28, yX6_neighbour), (RX5, 32, yX6_isPlace), (RX5, 36, yX6_bit), (RX6, 35, yX0_init), (RX6, 41, yX3_init), (RX1, 27, yX6_bit), (RX0, 43, yX6_bit), (RX4, 43, yX6_placeOf), (RX4, 47, yX6_bit), (RX5, 40, yX6_placeOf), (RX5, 67, yX6_isOfKind), (RX5, 47, yX6_sideOf), (RX4, 80, yX6_sideOf), (RX4, 83, yX6_stanceOf), (RX4, 87, yX6_neighbour), (RX4, 90, yX6_isOpen), (RX3, 35, yX6_placeOf)]
def cz_N (dC : Nat → ClassId) (dI : Nat → Nat → Nat) (cI cB : ClassId) (U : State) : Prop := va_K (dC, dI) vwCl [(cI, .int), (cB, .byte)] U ∧ ∀ q ∈ cz_links, va_Nw (.methodLinkNest q.1 q.2.1 q.2.2 "LeftProfile") U
theorem cz_N.warm {dC : Nat → ClassId} {dI : Nat → Nat → Nat} {cI cB : ClassId} {s U : State} (h : cz_N dC dI cI cB s) (hW : s.WarmedH U.vm) : cz_N dC dI cI cB U := ⟨va_K.moved hW.alike h.1, fun q hq => va_Nw.warmM hW (h.2 q hq)⟩
theorem cz_N.call {dC : Nat → ClassId} {dI : Nat → Nat → Nat} {cI cB : ClassId} {U : State} {g : JFrame} {mk : MethodId} {a : Array Value} (h : cz_N dC dI cI cB U) : cz_N dC dI cI cB (U.calling g mk a) := ⟨va_K.moved (u := U) (U := U.calling g mk a) (Vm.Alike.refl U.vm) h.1, fun q hq => va_Nw.same rfl (u := U) (U := U.calling g mk a) rfl (h.2 q hq)⟩
theorem cz_cI {D : va_G} {cl : List vw_C} {cI cB cA : ClassId} {U : State} (h : va_K D cl ([(cI, .int), (cB, .byte)] ++ [(cA, .int)]) U) : cA = cI := by
  have h1 : U.vm.findClass ("[" ++ FieldType.int.toString) = some cI := (h.2 0 (cI, .int) rfl).2
  have h2 : U.vm.findClass ("[" ++ FieldType.int.toString) = some cA := (h.2 2 (cA, .int) rfl).2
  exact Option.some.inj (h2.symm.trans h1)
theorem cz_cB {D : va_G} {cl : List vw_C} {cI cB cA : ClassId} {U : State} (h : va_K D cl ([(cI, .int), (cB, .byte)] ++ [(cA, .byte)]) U) : cA = cB := by
  have h1 : U.vm.findClass ("[" ++ FieldType.byte.toString) = some cB := (h.2 1 (cB, .byte) rfl).2
  have h2 : U.vm.findClass ("[" ++ FieldType.byte.toString) = some cA := (h.2 2 (cA, .byte) rfl).2
  exact Option.some.inj (h2.symm.trans h1)
section CZW
variable {p : Program} {l : Launch} {e : Env} {R : Room} {s : State} {m : MethodId} {args : Array Value} {below : List Frame} {meth : Method} {c : Code} {H : Heap} {locs : List Loc} {cells slots : Nat} {Q : State → Prop} {pc : Nat} {ls : Array Slot} {rest : List Value}
theorem cz_i {x y : Int32} (h : x = y) (k : W p l e R s m args below meth c H locs cells slots Q (F0 m pc ls (.int y :: rest))) : W p l e R s m args below meth c H locs cells slots Q (F0 m pc ls (.int x :: rest)) := h ▸ k
theorem cz_lg {x y : Int64} (h : x = y) (k : W p l e R s m args below meth c H locs cells slots Q (F0 m pc ls (.long y :: rest))) : W p l e R s m args below meth c H locs cells slots Q (F0 m pc ls (.long x :: rest)) := h ▸ k
theorem cz_run {mc ms : Nat} {g : JFrame} {Qa : State → Outcome → State → Prop} {free : Addr → Prop} (h : va_Run p l e R s m args below meth c H locs cells slots mc ms g rest Qa free) : CallRun p l e R s m args below meth c H locs cells slots mc ms g rest Qa free := by
  intro T hT X
  obtain ⟨v, st0, t, T', L, a1, a2, a3, a4, -, a6, a7⟩ := h T hT X
  exact ⟨v, st0, t, T', L, a1, a2, a3, a4, a6, a7⟩
end CZW
/-! the statics: the two tables of the eight ways -/
def cz_fR : Nat → Int32 := fun k => match k with
  | 0 => -1
  | 1 => -1
  | 2 => 0
  | 3 => 1
  | 4 => 1
  | 5 => 1
  | 6 => 0
  | _ => -1
def cz_fC : Nat → Int32 := fun k => match k with
  | 0 => 0
  | 1 => 1
  | 2 => 1
  | 3 => 1
  | 4 => 0
  | _ => -1
def cz_St (tR tC : Nat) (A : Nat → Prop) (U : State) (H : Heap) : Prop := va_Z "LeftProfile" "ROWS_ON" "[I" (.ref tR) A U H ∧ va_T .int tR 8 (fun j => .int (cz_fR j)) A U H ∧ va_Z "LeftProfile" "COLUMNS_ON" "[I" (.ref tC) A U H ∧ va_T .int tC 8 (fun j => .int (cz_fC j)) A U H
theorem cz_St.moved {tR tC : Nat} {A : Nat → Prop} {u U : State} {H : Heap} (hvm : u.vm.Alike U.vm) (h : cz_St tR tC A u H) : cz_St tR tC A U H := ⟨h.1.moved hvm, h.2.1.moved hvm, h.2.2.1.moved hvm, h.2.2.2.moved hvm⟩
theorem cz_St.narrow {tR tC : Nat} {A B : Nat → Prop} {U : State} {H : Heap} (h : cz_St tR tC A U H) (hAB : ∀ q, B q → A q) : cz_St tR tC B U H := ⟨h.1.narrow hAB, h.2.1.narrow hAB, h.2.2.1.narrow hAB, h.2.2.2.narrow hAB⟩
theorem cz_St.kept {tR tC : Nat} {A : Nat → Prop} {U : State} {H H1 : Heap} (h : cz_St tR tC A U H) (hq : ∀ a : Nat, a < H.size → ¬ A a → H1[a]? = H[a]?) : cz_St tR tC A U H1 := ⟨h.1.kept hq, h.2.1.kept hq, h.2.2.1.kept hq, h.2.2.2.kept hq⟩
theorem cz_St.pass {tR tC : Nat} {A : Nat → Prop} {s : State} {H : Heap} {locs : List Loc} (h : cz_St tR tC A s s.heap) (hS : va_S A s.heap H locs) : cz_St tR tC (fun _ => False) s H := (h.kept hS.2.1).narrow (fun _ h => h.elim)
theorem cz_St.any {tR tC : Nat} {A : Nat → Prop} {s : State} {H : Heap} (h : cz_St tR tC A s H) : cz_St tR tC (fun _ => False) s H := h.narrow (fun _ h => h.elim)
theorem cz_St.give {tR tC : Nat} {A : Nat → Prop} {s : State} {H : Heap} {locs : List Loc} {wc : va_W} (h : cz_St tR tC A s s.heap) (hS : va_S A s.heap H locs) (hF : ∀ q, va_A wc H.size q → A q) : cz_St tR tC (va_A wc H.size) s H := (h.kept hS.2.1).narrow hF
/-! what a contract starts from: one that only reads, one that writes; with the statics -/
section CZP
variable {dC : Nat → ClassId} {dI : Nat → Nat → Nat} {cI cB : ClassId} {s : State} {H : Heap} {av As : List Value} {ws : va_W} {tR tC : Nat} {C : String} {b sz : Nat} {A : Nat → Prop}
abbrev cz_Pp (dC : Nat → ClassId) (dI : Nat → Nat → Nat) (cI cB : ClassId) (av : List Value) (ws : va_W) : Array Value → State → Prop := va_Pc av (fun U => va_P (dC, dI) vwCl ws U.heap ∧ cz_N dC dI cI cB U)
abbrev cz_PpT (dC : Nat → ClassId) (dI : Nat → Nat → Nat) (cI cB : ClassId) (tR tC : Nat) (av : List Value) (ws : va_W) : Array Value → State → Prop := va_Pc av (fun U => va_P (dC, dI) vwCl ws U.heap ∧ cz_N dC dI cI cB U ∧ cz_St tR tC (fun _ => False) U U.heap)
abbrev cz_Pm (dC : Nat → ClassId) (dI : Nat → Nat → Nat) (cI cB : ClassId) (av : List Value) (ws : va_W) (sz : Nat) : Array Value → State → Prop := va_Pc av (fun U => U.heap.size = sz ∧ va_P (dC, dI) vwCl ws U.heap ∧ cz_N dC dI cI cB U ∧ va_D (fun _ => True) ws)
abbrev cz_PmT (dC : Nat → ClassId) (dI : Nat → Nat → Nat) (cI cB : ClassId) (tR tC : Nat) (av : List Value) (ws : va_W) (sz : Nat) : Array Value → State → Prop := va_Pc av (fun U => U.heap.size = sz ∧ va_P (dC, dI) vwCl ws U.heap ∧ cz_N dC dI cI cB U ∧ va_D (fun _ => True) ws ∧ cz_St tR tC (va_A ws sz) U U.heap)
theorem cz_stC {g : JFrame} {mk : MethodId} {a : Array Value} {U : State} (h : cz_St tR tC A U U.heap) : cz_St tR tC A (U.calling g mk a) (U.calling g mk a).heap := cz_St.moved (u := U) (U := U.calling g mk a) (Vm.Alike.refl U.vm) h
theorem cz_blp : FrameBlind (cz_Pp dC dI cI cB av ws) := fun _ _ _ _ q => ⟨q.1, q.2.1, q.2.2.call⟩
theorem cz_blpT : FrameBlind (cz_PpT dC dI cI cB tR tC av ws) := fun _ _ _ _ q => ⟨q.1, q.2.1, q.2.2.1.call, cz_stC q.2.2.2⟩
theorem cz_blm : FrameBlind (cz_Pm dC dI cI cB av ws sz) := fun _ _ _ _ q => ⟨q.1, q.2.1, q.2.2.1, q.2.2.2.1.call, q.2.2.2.2⟩
theorem cz_blmT : FrameBlind (cz_PmT dC dI cI cB tR tC av ws sz) := fun _ _ _ _ q => ⟨q.1, q.2.1, q.2.2.1, q.2.2.2.1.call, q.2.2.2.2.1, cz_stC q.2.2.2.2.2⟩
theorem cz_pS (hP : va_P (dC, dI) vwCl ws H) (hN : cz_N dC dI cI cB s) : PreS s H (cz_Pp dC dI cI cB av ws) av := ⟨cz_blp, fun U hU hW => ⟨rfl, by rw [hU]; exact hP, hN.warm hW⟩⟩
theorem cz_pV (hP : va_P (dC, dI) vwCl ws H) (hN : cz_N dC dI cI cB s) (hr : ∃ cellB : Cell, H[b]? = some cellB ∧ cellB.vm.isStatics = false ∧ s.vm.findClass C = some cellB.cls) : PreV s H C b (cz_Pp dC dI cI cB (.ref b :: As) ws) As := ⟨cz_blp, hr, fun U hU hW => ⟨rfl, by rw [hU]; exact hP, hN.warm hW⟩⟩
theorem cz_pT (hP : va_P (dC, dI) vwCl ws H) (hN : cz_N dC dI cI cB s) (hT : cz_St tR tC (fun _ => False) s H) : PreS s H (cz_PpT dC dI cI cB tR tC av ws) av := ⟨cz_blpT, fun U hU hW => ⟨rfl, by rw [hU]; exact hP, hN.warm hW, by rw [hU]; exact hT.moved hW.alike⟩⟩
theorem cz_mS (hP : va_P (dC, dI) vwCl ws H) (hN : cz_N dC dI cI cB s) (hD : va_D A ws) : PreS s H (cz_Pm dC dI cI cB av ws H.size) av := ⟨cz_blm, fun U hU hW => ⟨rfl, by rw [hU], by rw [hU]; exact hP, hN.warm hW, hD.weaken (fun _ _ _ _ => trivial)⟩⟩
theorem cz_mV (hP : va_P (dC, dI) vwCl ws H) (hN : cz_N dC dI cI cB s) (hD : va_D A ws) (hr : ∃ cellB : Cell, H[b]? = some cellB ∧ cellB.vm.isStatics = false ∧ s.vm.findClass C = some cellB.cls) : PreV s H C b (cz_Pm dC dI cI cB (.ref b :: As) ws H.size) As := ⟨cz_blm, hr, fun U hU hW => ⟨rfl, by rw [hU], by rw [hU]; exact hP, hN.warm hW, hD.weaken (fun _ _ _ _ => trivial)⟩⟩
theorem cz_mST (hP : va_P (dC, dI) vwCl ws H) (hN : cz_N dC dI cI cB s) (hD : va_D A ws) (hT : cz_St tR tC (va_A ws H.size) s H) : PreS s H (cz_PmT dC dI cI cB tR tC av ws H.size) av := ⟨cz_blmT, fun U hU hW => ⟨rfl, by rw [hU], by rw [hU]; exact hP, hN.warm hW, hD.weaken (fun _ _ _ _ => trivial), by rw [hU]; exact hT.moved hW.alike⟩⟩
theorem cz_mVT (hP : va_P (dC, dI) vwCl ws H) (hN : cz_N dC dI cI cB s) (hD : va_D A ws) (hT : cz_St tR tC (va_A ws H.size) s H) (hr : ∃ cellB : Cell, H[b]? = some cellB ∧ cellB.vm.isStatics = false ∧ s.vm.findClass C = some cellB.cls) : PreV s H C b (cz_PmT dC dI cI cB tR tC (.ref b :: As) ws H.size) As := ⟨cz_blmT, hr, fun U hU hW => ⟨rfl, by rw [hU], by rw [hU]; exact hP, hN.warm hW, hD.weaken (fun _ _ _ _ => trivial), by rw [hU]; exact hT.moved hW.alike⟩⟩
end CZP
theorem cz_ds0 : ∀ j, j < 8 → defaultValue (tyX0 j) = vp_V [.int 0, .int 0, .int 0, .null, .null, .null, .null, .null] j := fun j hj => match j, hj with
  | 0, _ => rfl
  | 1, _ => rfl
  | 2, _ => rfl
  | 3, _ => rfl
  | 4, _ => rfl
  | 5, _ => rfl
  | 6, _ => rfl
  | 7, _ => rfl
  | j + 8, hj => absurd hj (by omega)
theorem cz_ds1 : ∀ j, j < 3 → defaultValue (tyX1 j) = vp_V [.int 0, .int 0, .int 0] j := fun j hj => match j, hj with
  | 0, _ => rfl
  | 1, _ => rfl
  | 2, _ => rfl
  | j + 3, hj => absurd hj (by omega)
theorem cz_ds2 : ∀ j, j < 2 → defaultValue (tyX2 j) = vp_V [.null, .int 0] j := fun j hj => match j, hj with
  | 0, _ => rfl
  | 1, _ => rfl
  | j + 2, hj => absurd hj (by omega)
theorem cz_ds3 : ∀ j, j < 4 → defaultValue (tyX3 j) = vp_V [.null, .null, .null, .int 0] j := fun j hj => match j, hj with
  | 0, _ => rfl
  | 1, _ => rfl
  | 2, _ => rfl
  | 3, _ => rfl
  | j + 4, hj => absurd hj (by omega)
theorem cz_ds4 : ∀ j, j < 3 → defaultValue (tyX4 j) = vp_V [.null, .null, .null] j := fun j hj => match j, hj with
  | 0, _ => rfl
  | 1, _ => rfl
  | 2, _ => rfl
  | j + 3, hj => absurd hj (by omega)
theorem cz_ds5 : ∀ j, j < 2 → defaultValue (tyX5 j) = vp_V [.null, .null] j := fun j hj => match j, hj with
  | 0, _ => rfl
  | 1, _ => rfl
  | j + 2, hj => absurd hj (by omega)
theorem cz_ds6 : ∀ j, j < 7 → defaultValue (tyX6 j) = vp_V [.null, .null, .null, .null, .null, .null, .int 0] j := fun j hj => match j, hj with
  | 0, _ => rfl
  | 1, _ => rfl
  | 2, _ => rfl
  | 3, _ => rfl
  | 4, _ => rfl
  | 5, _ => rfl
  | 6, _ => rfl
  | j + 7, hj => absurd hj (by omega)
theorem cz_ds7 : ∀ j, j < 31 → defaultValue (tyX7 j) = vp_V [.int 0, .int 0, .int 0, .int 0, .int 0, .int 0, .int 0, .null, .null, .null, .null, .null, .int 0, .null, .int 0, .int 0, .null, .null, .null, .long 0, .int 0, .int 0, .int 0, .int 0, .int 0, .int 0, .null, .null, .null, .null, .long 0] j := fun j hj => match j, hj with
  | 0, _ => rfl
  | 1, _ => rfl
  | 2, _ => rfl
  | 3, _ => rfl
  | 4, _ => rfl
  | 5, _ => rfl
  | 6, _ => rfl
  | 7, _ => rfl
  | 8, _ => rfl
  | 9, _ => rfl
  | 10, _ => rfl
  | 11, _ => rfl
  | 12, _ => rfl
  | 13, _ => rfl
  | 14, _ => rfl
  | 15, _ => rfl
  | 16, _ => rfl
  | 17, _ => rfl
  | 18, _ => rfl
  | 19, _ => rfl
  | 20, _ => rfl
  | 21, _ => rfl
  | 22, _ => rfl
  | 23, _ => rfl
  | 24, _ => rfl
  | 25, _ => rfl
  | 26, _ => rfl
  | 27, _ => rfl
  | 28, _ => rfl
  | 29, _ => rfl
  | 30, _ => rfl
  | j + 31, hj => absurd hj (by omega)
theorem cz_sw_0_8 (x : Int32) : x = 0 ∨ x = 1 ∨ x = 2 ∨ x = 3 ∨ x = 4 ∨ x = 5 ∨ x = 6 ∨ x = 7 ∨ x = 8 ∨ (x.toInt < 0 ∨ 8 < x.toInt) := by
  simp only [cz_eq, cz_l]
  omega
/-- a place among 20 by 20 -/
theorem cz_ix {a b : Int32} (ha : cz_in 0 a 19) (hb : cz_in 0 b 19) {x y : Int32} (ex : x = a * 20) (ey : y = x + b) : vp_in y 400 := by
  have h0 : ∀ v : Int32, cz_in 0 v 19 → ∃ j : Nat, j < 20 ∧ v = nI j := by
    intro v hv
    obtain ⟨j, hj, e⟩ := nI_of2 (x := v) (M := 19) (n := 19) (by decide) (by have := hv.1; simp only [cz_lt, cz_le] at *; omega) hv.2
    exact ⟨j, by omega, e⟩
  obtain ⟨i, hi, rfl⟩ := h0 a ha
  obtain ⟨j, hj, rfl⟩ := h0 b hb
  have e20 : (20 : Int32) = nI 20 := by decide
  rw [ey, ex, e20, pk_mul, nI_add]
  exact vp_in_nI (by omega) (by decide)
theorem cz_in_nI {i : Nat} (h : i < 20) : cz_in 0 (nI i) 19 := by
  have e : (nI i).toInt = (i : Int) := nI_toInt (by omega)
  constructor
  · rw [cz_le, e]; exact Int.natCast_nonneg i
  · rw [cz_le, e]; simp only [cz_l]; omega

section CZO
variable {l : Launch}
theorem cz_of {y : MethodName} {ws ws' : List Cond} {rm : Room} {Pc : Array Value → State → Prop} {Qc : Array Value → State → Outcome → State → Prop} {mc ms : Nat} {free : Addr → Prop} {cc : ByteArray} {maxL : Nat} {ret : Option FieldType} (hy : plainName y.cls = true) (hw : ws = Cond.code y cc maxL ret :: ws') (body : ∀ p e s m args below meth c s₁ (Q : State → Prop), BodyLoose p l y (headSpec ws rm) cc maxL ret e s m args below meth c s₁ → c.maxLocals = maxL → Pc args s → Q = MQ below Qc args s mc ms free → W p l e (headSpec ws rm).room s m args below meth c s.heap [] 0 0 Q (entryFrame m args maxL)) : Met l y ws rm Pc Qc mc ms free := Met.ofW hy hw (fun p e s m args below meth c s₁ B hml hP => body p e s m args below meth c s₁ _ B hml hP rfl)
theorem cz_ofF {y : MethodName} {ws ws' : List Cond} {rm : Room} {Pc : Array Value → State → Prop} {Qc : Array Value → State → Outcome → State → Prop} {mc ms : Nat} {free : Addr → Prop} {cc : ByteArray} {maxL : Nat} {ret : Option FieldType} (hy : plainFor y = true) (hw : ws = Cond.code y cc maxL ret :: ws') (body : ∀ p e s m args below meth c s₁ (Q : State → Prop), BodyLoose p l y (headSpec ws rm) cc maxL ret e s m args below meth c s₁ → c.maxLocals = maxL → Pc args s → Q = MQ below Qc args s mc ms free → W p l e (headSpec ws rm).room s m args below meth c s.heap [] 0 0 Q (entryFrame m args maxL)) : Met l y ws rm Pc Qc mc ms free := by
  refine MetFree.of_bodySF (code := cc) (maxLocals := maxL) (ret := ret) hy ?_ ?_
  · intro args s m h hn
    obtain ⟨meth, c, h1, h2, h3, h4, h5, h6, -, -⟩ := Cond.code_spec hn (atoms_spec (ws := ws) h _ (by rw [hw]; exact List.mem_cons_self))
    exact ⟨meth, c, h1, h2, h3, h4, h5, h6⟩
  · intro p e s m args below meth c s₁ B hml hP _
    have hh0 : s₁.heap = s.heap := by rw [B.state]; rfl
    obtain ⟨t, a1, o, b1, b2, b3⟩ := body p e s m args below meth c s₁ _ B hml hP rfl s₁ hh0 (Stand.of_body B)
    exact ⟨t, o, a1, b1, b2, ⟨b3.1, b3.2⟩⟩
end CZO
theorem cz_pVT {dC : Nat → ClassId} {dI : Nat → Nat → Nat} {cI cB : ClassId} {s : State} {H : Heap} {As : List Value} {ws : va_W} {tR tC : Nat} {C : String} {b : Nat} (hP : va_P (dC, dI) vwCl ws H) (hN : cz_N dC dI cI cB s) (hT : cz_St tR tC (fun _ => False) s H) (hr : ∃ cellB : Cell, H[b]? = some cellB ∧ cellB.vm.isStatics = false ∧ s.vm.findClass C = some cellB.cls) : PreV s H C b (cz_PpT dC dI cI cB tR tC (.ref b :: As) ws) As := ⟨cz_blpT, hr, fun U hU hW => ⟨rfl, by rw [hU]; exact hP, hN.warm hW, by rw [hU]; exact hT.moved hW.alike⟩⟩
theorem cz_ex {x : Int32} {k : Nat} (h0 : ¬ x < 0) (h : ¬ nI k ≤ x) (hk : k < 2 ^ 31) : ∃ j : Nat, j < k ∧ x = nI j := by
  obtain ⟨j, hj, e, -⟩ := pk_mu h0 h hk
  exact ⟨j, hj, e⟩
theorem cz_exI {x : Int32} {k : Nat} (hk : k ≤ 24) (h : cz_in 0 x (nI k - 1)) : ∃ j : Nat, j < k ∧ x = nI j := by
  obtain ⟨h1, h2⟩ := h
  have h0 : ¬ x < 0 := by simp only [cz_lt, cz_le, cz_l] at *; omega
  refine cz_ex h0 ?_ (by omega)
  intro h3
  have hb : ∀ q, q ≤ 24 → (nI q - 1).toInt = (q : Int) - 1 := by decide
  have hn : (nI k).toInt = (k : Int) := nI_toInt (by omega)
  have hb := hb k hk
  simp only [cz_le] at *
  omega
theorem cz_in_n3 {i : Nat} (h : i < 4) : cz_in 0 (nI i) 3 := by
  have e : (nI i).toInt = (i : Int) := nI_toInt (by omega)
  constructor
  · rw [cz_le, e]; exact Int.natCast_nonneg i
  · rw [cz_le, e]; simp only [cz_l]; omega
/-- the duke is nowhere, or on a place and to a side -/
def cz_du (a b : Int32) : Prop := a = -1 ∨ (cz_in 0 a 19 ∧ cz_in 0 b 3)
theorem cz_du_n {a b : Nat} (h : a < 20) (h2 : b < 4) : cz_du (nI a) (nI b) := Or.inr ⟨cz_in_nI h, cz_in_n3 h2⟩
theorem cz_du1 {b : Int32} : cz_du (-1) b := Or.inl rfl
theorem cz_du_ex {a b : Int32} (h : cz_du a b) (hn : ¬ a = -1) : (∃ d : Nat, d < 20 ∧ a = nI d) ∧ ∃ e : Nat, e < 4 ∧ b = nI e := by
  rcases h with h | ⟨h1, h2⟩
  · exact absurd h hn
  · obtain ⟨d, hd, e1⟩ := nI_of2 (x := a) (M := 19) (n := 19) (by decide) (by have := h1.1; simp only [cz_lt, cz_le] at *; omega) h1.2
    obtain ⟨f, hf, e2⟩ := nI_of2 (x := b) (M := 3) (n := 3) (by decide) (by have := h2.1; simp only [cz_lt, cz_le] at *; omega) h2.2
    exact ⟨⟨d, by omega, e1⟩, f, by omega, e2⟩
def cz_pl (g : Nat → Int32) : Prop := ∀ k, k < 6 → cz_in 0 (g k) 19
theorem cz_pl0 : cz_pl (fun _ => 0) := fun _ _ => show cz_in 0 0 19 by decide
theorem cz_pl_upd {g : Nat → Int32} {k : Nat} {v : Int32} (h : cz_pl g) (hv : cz_in 0 v 19) : cz_pl (upd g k v) := by
  intro j hj
  by_cases e : j = k
  · subst e; rw [pk_us]; exact hv
  · rw [pk_un e]; exact h j hj
theorem cz_sw_0_5 (x : Int32) : x = 0 ∨ x = 1 ∨ x = 2 ∨ x = 3 ∨ x = 4 ∨ x = 5 ∨ (x.toInt < 0 ∨ 5 < x.toInt) := by
  simp only [cz_eq, cz_l]
  omega
theorem cz_sw_0_2 (x : Int32) : x = 0 ∨ x = 1 ∨ x = 2 ∨ (x.toInt < 0 ∨ 2 < x.toInt) := by
  simp only [cz_eq, cz_l]
  omega
/-- a letter of THE PAGE is one that a HALL may have there -/
def cz_fit (f : Nat → Int32) (k : Nat) : Prop := k < 23 ∧ ((k % 6 = 5 ∧ f k = 47) ∨ (¬ k % 6 = 5 ∧ (f k = 46 ∨ f k = 35)))
def cz_fits (f : Nat → Int32) (k : Nat) : Prop := ∀ j, j < k → cz_fit f j
theorem cz_fits0 {f : Nat → Int32} : cz_fits f 0 := fun _ h => absurd h (Nat.not_lt_zero _)
theorem cz_fits1 {f : Nat → Int32} {k : Nat} (h : cz_fits f k) (h1 : cz_fit f k) : cz_fits f (k + 1) := by
  intro j hj
  rcases Nat.lt_succ_iff_lt_or_eq.mp hj with q | q
  · exact h j q
  · subst q; exact h1
theorem cz_nh {f : Nat → Int32} {k n : Nat} (hk : k ≤ n) (hn : k = n ∨ ¬ cz_fit f k) (h23 : n = 23) (hne : ¬ k = 23) : ¬ (n = 23 ∧ cz_fits f 23) := by
  rintro ⟨-, h⟩
  rcases hn with q | q
  · exact hne (q.trans h23)
  · exact q (h k (by omega))
def cz_pp (g : Nat → Int32) : Nat → Int32
  | 0 => 0
  | k + 1 => cz_pp g k ||| (1 <<< (g k &&& 31))
