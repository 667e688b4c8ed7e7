set_option maxHeartbeats 4000000 in
set_option maxRecDepth 100000 in
theorem c_X1_init (l : Launch) (dC : Nat → ClassId) (dI : Nat → Nat → Nat) (cI cB : ClassId) (hh : Nat) (sz : Nat) : Met l yX1_init wsX1_init ({ frames := 1, cells := 0, slots := 0, locals := 12 }) (cz_Pm dC dI cI cB [.ref hh] [(hh, .inr (1, [.int 0, .int 0, .int 0]))] sz) (va_Qv (fun _ : Unit => True) (fun _ t => va_P (dC, dI) vwCl [(hh, .inr (1, [.int 0, .int 0, .int 0]))] t.heap ∧ va_D (va_A [(hh, .inr (1, [.int 0, .int 0, .int 0]))] sz) [(hh, .inr (1, [.int 0, .int 0, .int 0]))]) (va_A [(hh, .inr (1, [.int 0, .int 0, .int 0]))] sz)) 0 0 (va_A [(hh, .inr (1, [.int 0, .int 0, .int 0]))] sz) := by
  refine Met.ofW (cc := cX1_init) (maxL := 1) (ret := none) (by decide) rfl ?_
  intro p e s m args below meth c s₁ B hml hv
  obtain ⟨rfl, hsz, hP, hN, hD0⟩ := hv
  have hx := B.exec
  have hb := B.bytes
  have hr := B.returns
  have hts := atoms_spec (ws := wsX1_init) B.pre
  have hown : s.vm.findClass RX1 = some m.cls := findClass_of_methodNamed B.named
  have hlocks := B.notSynchronized
  have hK := hN.1
  have hin : meth.name = "<init>" := (name_of_methodNamed B.named B.method).1
  have hiX1 : ∀ w ∈ wsX10, w ∈ wsX1_init := (fun _ h => List.mem_cons_of_mem _ (List.mem_append_right _ h))
  subst hsz
  have hD := hD0.self (sz := s.heap.size)
  generalize hAe : va_A [(hh, .inr (1, [.int 0, .int 0, .int 0]))] s.heap.size = A at hD ⊢
  have hA : ∀ q : Nat, s.heap.size ≤ q → A q := fun q h => by rw [← hAe]; exact Or.inr h
  have hS : va_S A s.heap s.heap [] := va_S.rf
  obtain ⟨H, eH⟩ : ∃ H, H = s.heap := ⟨_, rfl⟩
  have hP : va_P (dC, dI) vwCl [(hh, .inr (1, [.int 0, .int 0, .int 0]))] s.heap := hP
  have hl := lv_entry ([.ref hh]) (n := 1) (Nat.le_of_ble_eq_true rfl)
  rw [lg_entry_eq]
  generalize (lg_sl ([.ref hh]) ++ List.replicate (1 - (lg_sl ([.ref hh])).length) Slot.unset).toArray = ls at hl ⊢
  have hl : lv_has ls 1 [(0, .ref hh)] := hl
  refine lv_aload_n hx hb dX1_init_0 rfl (lv_at hl 0 rfl) ?_
  refine W.objInit hx hb hown (hts (.methodLink RX1 3 objectInit) (List.mem_of_getElem? (i := 1) rfl)) (hts (.instanceMethod objectInit) (List.mem_of_getElem? (i := 2) rfl)) (hts (.code objectInit ⟨#[0xb1]⟩ 1 none) (List.mem_of_getElem? (i := 3) rfl)) rfl (by rw [hml]; exact hl.1) rfl dX1_init_1 (Nat.le_of_ble_eq_true rfl) (Nat.le_of_ble_eq_true rfl) ?_
  refine W.eq (g2 := F0 m 4 ls []) rfl ?_
  refine lv_aload_n hx hb dX1_init_4 rfl (lv_at hl 0 rfl) ?_
  refine lv_iconst (v := 0) hx hb dX1_init_5 (by decide) ?_
  refine va_put (D := (dC, dI)) (ci := 1) (v := .int 0) (ty := .int) (C := RX1) (T := TX1) (N := 3) hx hb hts hiX1 tyX1 tyX1_ok nmX1 hown hK hP hD hS 0 rfl rfl 0 (by decide) (hts (.fieldLink RX1 9 "LeftProfile$Hall" "walls" "I") (List.mem_of_getElem? (i := 4) rfl)) (fun _ h9 => h9) rfl (by decide +kernel) rfl rfl (Nat.le_of_ble_eq_true rfl) dX1_init_6 (fun H locs hP hD hS => ?_)
  have hP : va_P (dC, dI) vwCl [(hh, .inr (1, [.int 0, .int 0, .int 0]))] H := hP
  have hD : va_D A [(hh, .inr (1, [.int 0, .int 0, .int 0]))] := hD
  refine lv_aload_n hx hb dX1_init_9 rfl (lv_at hl 0 rfl) ?_
  refine lv_iconst (v := 0) hx hb dX1_init_10 (by decide) ?_
  refine va_put (D := (dC, dI)) (ci := 1) (v := .int 0) (ty := .int) (C := RX1) (T := TX1) (N := 3) hx hb hts hiX1 tyX1 tyX1_ok nmX1 hown hK hP hD hS 0 rfl rfl 1 (by decide) (hts (.fieldLink RX1 15 "LeftProfile$Hall" "floors" "I") (List.mem_of_getElem? (i := 5) rfl)) (fun _ h9 => h9) rfl (by decide +kernel) rfl rfl (Nat.le_of_ble_eq_true rfl) dX1_init_11 (fun H locs hP hD hS => ?_)
  have hP : va_P (dC, dI) vwCl [(hh, .inr (1, [.int 0, .int 0, .int 0]))] H := hP
  have hD : va_D A [(hh, .inr (1, [.int 0, .int 0, .int 0]))] := hD
  refine lv_aload_n hx hb dX1_init_14 rfl (lv_at hl 0 rfl) ?_
  refine lv_iconst (v := 0) hx hb dX1_init_15 (by decide) ?_
  refine va_put (D := (dC, dI)) (ci := 1) (v := .int 0) (ty := .int) (C := RX1) (T := TX1) (N := 3) hx hb hts hiX1 tyX1 tyX1_ok nmX1 hown hK hP hD hS 0 rfl rfl 2 (by decide) (hts (.fieldLink RX1 18 "LeftProfile$Hall" "readings" "I") (List.mem_of_getElem? (i := 6) rfl)) (fun _ h9 => h9) rfl (by decide +kernel) rfl rfl (Nat.le_of_ble_eq_true rfl) dX1_init_16 (fun H locs hP hD hS => ?_)
  have hP : va_P (dC, dI) vwCl [(hh, .inr (1, [.int 0, .int 0, .int 0]))] H := hP
  have hD : va_D A [(hh, .inr (1, [.int 0, .int 0, .int 0]))] := hD
  refine W.widen (k := 0) (n := 0) (Nat.le_of_ble_eq_true rfl) (Nat.le_of_ble_eq_true rfl) ?_
  have hP9 := hP.sub (ws' := [(hh, .inr (1, [.int 0, .int 0, .int 0]))]) [0] rfl
  have hD9 := hD.sub (ws' := [(hh, .inr (1, [.int 0, .int 0, .int 0]))]) [0] (by decide) rfl
  exact W.vret hx hb hr (fun t ht hW => ⟨⟨(), rfl, trivial, ⟨by rw [ht]; exact hP9, hD9⟩⟩, hS.F ht⟩) hS.2.2 dX1_init_19

set_option maxHeartbeats 4000000 in
set_option maxRecDepth 100000 in
theorem c_X2_init (l : Launch) (dC : Nat → ClassId) (dI : Nat → Nat → Nat) (cI cB : ClassId) (hp : Nat) (sz : Nat) : Met l yX2_init wsX2_init ({ frames := 1, cells := 1, slots := 24, locals := 12 }) (cz_Pm dC dI cI cB [.ref hp] [(hp, .inr (2, [.null, .int 0]))] sz) (va_Qv (fun _ : Unit => True) (fun _ t => ∃ (cd : Nat), va_P (dC, dI) vwCl [(hp, .inr (2, [.ref cd, .int 0])), (cd, .inl (cI, 24, .inl (fun _ => 0)))] t.heap ∧ va_D (va_A [(hp, .inr (2, [.null, .int 0]))] sz) [(hp, .inr (2, [.ref cd, .int 0])), (cd, .inl (cI, 24, .inl (fun _ => 0)))]) (va_A [(hp, .inr (2, [.null, .int 0]))] sz)) 1 24 (va_A [(hp, .inr (2, [.null, .int 0]))] sz) := by
  refine Met.ofW (cc := cX2_init) (maxL := 1) (ret := none) (by decide) rfl ?_
  intro p e s m args below meth c s₁ B hml hv
  obtain ⟨rfl, hsz, hP, hN, hD0⟩ := hv
  have hx := B.exec
  have hb := B.bytes
  have hr := B.returns
  have hts := atoms_spec (ws := wsX2_init) B.pre
  have hown : s.vm.findClass RX2 = some m.cls := findClass_of_methodNamed B.named
  have hlocks := B.notSynchronized
  have hK := hN.1
  have hin : meth.name = "<init>" := (name_of_methodNamed B.named B.method).1
  have hiX2 : ∀ w ∈ wsX20, w ∈ wsX2_init := (fun _ h => List.mem_cons_of_mem _ (List.mem_append_right _ h))
  subst hsz
  have hD := hD0.self (sz := s.heap.size)
  generalize hAe : va_A [(hp, .inr (2, [.null, .int 0]))] s.heap.size = A at hD ⊢
  have hA : ∀ q : Nat, s.heap.size ≤ q → A q := fun q h => by rw [← hAe]; exact Or.inr h
  have hS : va_S A s.heap s.heap [] := va_S.rf
  obtain ⟨H, eH⟩ : ∃ H, H = s.heap := ⟨_, rfl⟩
  have hP : va_P (dC, dI) vwCl [(hp, .inr (2, [.null, .int 0]))] s.heap := hP
  have hl := lv_entry ([.ref hp]) (n := 1) (Nat.le_of_ble_eq_true rfl)
  rw [lg_entry_eq]
  generalize (lg_sl ([.ref hp]) ++ List.replicate (1 - (lg_sl ([.ref hp])).length) Slot.unset).toArray = ls at hl ⊢
  have hl : lv_has ls 1 [(0, .ref hp)] := hl
  refine lv_aload_n hx hb dX2_init_0 rfl (lv_at hl 0 rfl) ?_
  refine W.objInit hx hb hown (hts (.methodLink RX2 3 objectInit) (List.mem_of_getElem? (i := 1) rfl)) (hts (.instanceMethod objectInit) (List.mem_of_getElem? (i := 2) rfl)) (hts (.code objectInit ⟨#[0xb1]⟩ 1 none) (List.mem_of_getElem? (i := 3) rfl)) rfl (by rw [hml]; exact hl.1) rfl dX2_init_1 (Nat.le_of_ble_eq_true rfl) (Nat.le_of_ble_eq_true rfl) ?_
  refine W.eq (g2 := F0 m 4 ls []) rfl ?_
  refine lv_aload_n hx hb dX2_init_4 rfl (lv_at hl 0 rfl) ?_
  refine lv_bipush (v := 24) hx hb dX2_init_5 (by decide) ?_
  refine va_newa (N' := 24) (a0 := (24, .inl (fun _ => 0))) hx hb (atype := .int) (hts (.arrayClass .int) (List.mem_of_getElem? (i := 4) rfl)) rfl hK hP hD hS hA (fun _ => rfl) (by decide) (by decide) (by decide) (Nat.le_of_ble_eq_true rfl) (Nat.le_of_ble_eq_true rfl) dX2_init_7 (fun q_1 cA H hK9 hP hD hS => ?_)
  rw [cz_cI hK9] at hP hD
  have hP : va_P (dC, dI) vwCl [(hp, .inr (2, [.null, .int 0])), (q_1, .inl (cI, 24, .inl (fun _ => 0)))] H := hP
  have hD : va_D A [(hp, .inr (2, [.null, .int 0])), (q_1, .inl (cI, 24, .inl (fun _ => 0)))] := hD
  refine W.widen (k := 1) (n := 24) (Nat.le_of_ble_eq_true rfl) (Nat.le_of_ble_eq_true rfl) ?_
  refine va_putF (D := (dC, dI)) (ci := 2) (v := .ref q_1) (ty := .array .int) (C := RX2) (T := TX2) (N := 2) hx hb hts hiX2 tyX2 tyX2_ok nmX2 hown hK hP hD hS 0 rfl rfl 0 (by decide) (hts (.fieldLink RX2 11 "LeftProfile$Page" "codes" "[I") (List.mem_of_getElem? (i := 5) rfl)) (fun _ h9 => h9) rfl hin rfl (by decide +kernel) rfl rfl (Nat.le_of_ble_eq_true rfl) dX2_init_9 (fun H locs hP hD hS => ?_)
  have hP : va_P (dC, dI) vwCl [(hp, .inr (2, [.ref q_1, .int 0])), (q_1, .inl (cI, 24, .inl (fun _ => 0)))] H := hP
  have hD : va_D A [(hp, .inr (2, [.ref q_1, .int 0])), (q_1, .inl (cI, 24, .inl (fun _ => 0)))] := hD
  refine lv_aload_n hx hb dX2_init_12 rfl (lv_at hl 0 rfl) ?_
  refine lv_iconst (v := 0) hx hb dX2_init_13 (by decide) ?_
  refine va_put (D := (dC, dI)) (ci := 2) (v := .int 0) (ty := .int) (C := RX2) (T := TX2) (N := 2) hx hb hts hiX2 tyX2 tyX2_ok nmX2 hown hK hP hD hS 0 rfl rfl 1 (by decide) (hts (.fieldLink RX2 15 "LeftProfile$Page" "size" "I") (List.mem_of_getElem? (i := 6) rfl)) (fun _ h9 => h9) rfl (by decide +kernel) rfl rfl (Nat.le_of_ble_eq_true rfl) dX2_init_14 (fun H locs hP hD hS => ?_)
  have hP : va_P (dC, dI) vwCl [(hp, .inr (2, [.ref q_1, .int 0])), (q_1, .inl (cI, 24, .inl (fun _ => 0)))] H := hP
  have hD : va_D A [(hp, .inr (2, [.ref q_1, .int 0])), (q_1, .inl (cI, 24, .inl (fun _ => 0)))] := hD
  refine W.widen (k := 1) (n := 24) (Nat.le_of_ble_eq_true rfl) (Nat.le_of_ble_eq_true rfl) ?_
  have hP9 := hP.sub (ws' := [(hp, .inr (2, [.ref q_1, .int 0])), (q_1, .inl (cI, 24, .inl (fun _ => 0)))]) [0, 1] rfl
  have hD9 := hD.sub (ws' := [(hp, .inr (2, [.ref q_1, .int 0])), (q_1, .inl (cI, 24, .inl (fun _ => 0)))]) [0, 1] (by decide) rfl
  exact W.vret hx hb hr (fun t ht hW => ⟨⟨(), rfl, trivial, ⟨q_1, by rw [ht]; exact hP9, hD9⟩⟩, hS.F ht⟩) hS.2.2 dX2_init_17

set_option maxHeartbeats 4000000 in
set_option maxRecDepth 100000 in
theorem c_X0_init (l : Launch) (dC : Nat → ClassId) (dI : Nat → Nat → Nat) (cI cB : ClassId) (hc : Nat) (sz : Nat) : Met l yX0_init wsX0_init ({ frames := 1, cells := 5, slots := 30, locals := 12 }) (cz_Pm dC dI cI cB [.ref hc] [(hc, .inr (0, [.int 0, .int 0, .int 0, .null, .null, .null, .null, .null]))] sz) (va_Qv (fun _ : Unit => True) (fun _ t => ∃ (k1 : Nat) (k2 : Nat) (k3 : Nat) (k4 : Nat) (k5 : Nat), va_P (dC, dI) vwCl [(hc, .inr (0, [.int (-1), .int 0, .int 0, .ref k1, .ref k2, .ref k3, .ref k4, .ref k5])), (k1, .inl (cI, 6, .inl (fun _ => 0))), (k2, .inl (cI, 6, .inl (fun _ => 0))), (k3, .inl (cI, 6, .inl (fun _ => 0))), (k4, .inl (cI, 6, .inl (fun _ => 0))), (k5, .inl (cI, 6, .inl (fun _ => 0)))] t.heap ∧ va_D (va_A [(hc, .inr (0, [.int 0, .int 0, .int 0, .null, .null, .null, .null, .null]))] sz) [(hc, .inr (0, [.int (-1), .int 0, .int 0, .ref k1, .ref k2, .ref k3, .ref k4, .ref k5])), (k1, .inl (cI, 6, .inl (fun _ => 0))), (k2, .inl (cI, 6, .inl (fun _ => 0))), (k3, .inl (cI, 6, .inl (fun _ => 0))), (k4, .inl (cI, 6, .inl (fun _ => 0))), (k5, .inl (cI, 6, .inl (fun _ => 0)))]) (va_A [(hc, .inr (0, [.int 0, .int 0, .int 0, .null, .null, .null, .null, .null]))] sz)) 5 30 (va_A [(hc, .inr (0, [.int 0, .int 0, .int 0, .null, .null, .null, .null, .null]))] sz) := by
  refine Met.ofW (cc := cX0_init) (maxL := 1) (ret := none) (by decide) rfl ?_
  intro p e s m args below meth c s₁ B hml hv
  obtain ⟨rfl, hsz, hP, hN, hD0⟩ := hv
  have hx := B.exec
  have hb := B.bytes
  have hr := B.returns
  have hts := atoms_spec (ws := wsX0_init) B.pre
  have hown : s.vm.findClass RX0 = some m.cls := findClass_of_methodNamed B.named
  have hlocks := B.notSynchronized
  have hK := hN.1
  have hin : meth.name = "<init>" := (name_of_methodNamed B.named B.method).1
  have hiX0 : ∀ w ∈ wsX00, w ∈ wsX0_init := (fun _ h => List.mem_cons_of_mem _ (List.mem_append_right _ h))
  subst hsz
  have hD := hD0.self (sz := s.heap.size)
  generalize hAe : va_A [(hc, .inr (0, [.int 0, .int 0, .int 0, .null, .null, .null, .null, .null]))] s.heap.size = A at hD ⊢
  have hA : ∀ q : Nat, s.heap.size ≤ q → A q := fun q h => by rw [← hAe]; exact Or.inr h
  have hS : va_S A s.heap s.heap [] := va_S.rf
  obtain ⟨H, eH⟩ : ∃ H, H = s.heap := ⟨_, rfl⟩
  have hP : va_P (dC, dI) vwCl [(hc, .inr (0, [.int 0, .int 0, .int 0, .null, .null, .null, .null, .null]))] s.heap := hP
  have hl := lv_entry ([.ref hc]) (n := 1) (Nat.le_of_ble_eq_true rfl)
  rw [lg_entry_eq]
  generalize (lg_sl ([.ref hc]) ++ List.replicate (1 - (lg_sl ([.ref hc])).length) Slot.unset).toArray = ls at hl ⊢
  have hl : lv_has ls 1 [(0, .ref hc)] := hl
  refine lv_aload_n hx hb dX0_init_0 rfl (lv_at hl 0 rfl) ?_
  refine W.objInit hx hb hown (hts (.methodLink RX0 3 objectInit) (List.mem_of_getElem? (i := 1) rfl)) (hts (.instanceMethod objectInit) (List.mem_of_getElem? (i := 2) rfl)) (hts (.code objectInit ⟨#[0xb1]⟩ 1 none) (List.mem_of_getElem? (i := 3) rfl)) rfl (by rw [hml]; exact hl.1) rfl dX0_init_1 (Nat.le_of_ble_eq_true rfl) (Nat.le_of_ble_eq_true rfl) ?_
  refine W.eq (g2 := F0 m 4 ls []) rfl ?_
  refine lv_aload_n hx hb dX0_init_4 rfl (lv_at hl 0 rfl) ?_
  refine lv_iconst (v := (-1)) hx hb dX0_init_5 (by decide) ?_
  refine va_put (D := (dC, dI)) (ci := 0) (v := .int (-1)) (ty := .int) (C := RX0) (T := TX0) (N := 8) hx hb hts hiX0 tyX0 tyX0_ok nmX0 hown hK hP hD hS 0 rfl rfl 0 (by decide) (hts (.fieldLink RX0 9 "LeftProfile$Court" "stance" "I") (List.mem_of_getElem? (i := 4) rfl)) (fun _ h9 => h9) rfl (by decide +kernel) rfl rfl (Nat.le_of_ble_eq_true rfl) dX0_init_6 (fun H locs hP hD hS => ?_)
  have hP : va_P (dC, dI) vwCl [(hc, .inr (0, [.int (-1), .int 0, .int 0, .null, .null, .null, .null, .null]))] H := hP
  have hD : va_D A [(hc, .inr (0, [.int (-1), .int 0, .int 0, .null, .null, .null, .null, .null]))] := hD
  refine lv_aload_n hx hb dX0_init_9 rfl (lv_at hl 0 rfl) ?_
  refine lv_iconst (v := 0) hx hb dX0_init_10 (by decide) ?_
  refine va_put (D := (dC, dI)) (ci := 0) (v := .int 0) (ty := .int) (C := RX0) (T := TX0) (N := 8) hx hb hts hiX0 tyX0 tyX0_ok nmX0 hown hK hP hD hS 0 rfl rfl 1 (by decide) (hts (.fieldLink RX0 15 "LeftProfile$Court" "acts" "I") (List.mem_of_getElem? (i := 5) rfl)) (fun _ h9 => h9) rfl (by decide +kernel) rfl rfl (Nat.le_of_ble_eq_true rfl) dX0_init_11 (fun H locs hP hD hS => ?_)
  have hP : va_P (dC, dI) vwCl [(hc, .inr (0, [.int (-1), .int 0, .int 0, .null, .null, .null, .null, .null]))] H := hP
  have hD : va_D A [(hc, .inr (0, [.int (-1), .int 0, .int 0, .null, .null, .null, .null, .null]))] := hD
  refine lv_aload_n hx hb dX0_init_14 rfl (lv_at hl 0 rfl) ?_
  refine lv_iconst (v := 0) hx hb dX0_init_15 (by decide) ?_
  refine va_put (D := (dC, dI)) (ci := 0) (v := .int 0) (ty := .int) (C := RX0) (T := TX0) (N := 8) hx hb hts hiX0 tyX0 tyX0_ok nmX0 hown hK hP hD hS 0 rfl rfl 2 (by decide) (hts (.fieldLink RX0 18 "LeftProfile$Court" "size" "I") (List.mem_of_getElem? (i := 6) rfl)) (fun _ h9 => h9) rfl (by decide +kernel) rfl rfl (Nat.le_of_ble_eq_true rfl) dX0_init_16 (fun H locs hP hD hS => ?_)
  have hP : va_P (dC, dI) vwCl [(hc, .inr (0, [.int (-1), .int 0, .int 0, .null, .null, .null, .null, .null]))] H := hP
  have hD : va_D A [(hc, .inr (0, [.int (-1), .int 0, .int 0, .null, .null, .null, .null, .null]))] := hD
  refine lv_aload_n hx hb dX0_init_19 rfl (lv_at hl 0 rfl) ?_
  refine lv_bipush (v := 6) hx hb dX0_init_20 (by decide) ?_
  refine va_newa (N' := 6) (a0 := (6, .inl (fun _ => 0))) hx hb (atype := .int) (hts (.arrayClass .int) (List.mem_of_getElem? (i := 7) rfl)) rfl hK hP hD hS hA (fun _ => rfl) (by decide) (by decide) (by decide) (Nat.le_of_ble_eq_true rfl) (Nat.le_of_ble_eq_true rfl) dX0_init_22 (fun q_1 cA H hK9 hP hD hS => ?_)
  rw [cz_cI hK9] at hP hD
  have hP : va_P (dC, dI) vwCl [(hc, .inr (0, [.int (-1), .int 0, .int 0, .null, .null, .null, .null, .null])), (q_1, .inl (cI, 6, .inl (fun _ => 0)))] H := hP
  have hD : va_D A [(hc, .inr (0, [.int (-1), .int 0, .int 0, .null, .null, .null, .null, .null])), (q_1, .inl (cI, 6, .inl (fun _ => 0)))] := hD
  refine W.widen (k := 1) (n := 6) (Nat.le_of_ble_eq_true rfl) (Nat.le_of_ble_eq_true rfl) ?_
  refine va_putF (D := (dC, dI)) (ci := 0) (v := .ref q_1) (ty := .array .int) (C := RX0) (T := TX0) (N := 8) hx hb hts hiX0 tyX0 tyX0_ok nmX0 hown hK hP hD hS 0 rfl rfl 3 (by decide) (hts (.fieldLink RX0 21 "LeftProfile$Court" "kinds" "[I") (List.mem_of_getElem? (i := 8) rfl)) (fun _ h9 => h9) rfl hin rfl (by decide +kernel) rfl rfl (Nat.le_of_ble_eq_true rfl) dX0_init_24 (fun H locs hP hD hS => ?_)
  have hP : va_P (dC, dI) vwCl [(hc, .inr (0, [.int (-1), .int 0, .int 0, .ref q_1, .null, .null, .null, .null])), (q_1, .inl (cI, 6, .inl (fun _ => 0)))] H := hP
  have hD : va_D A [(hc, .inr (0, [.int (-1), .int 0, .int 0, .ref q_1, .null, .null, .null, .null])), (q_1, .inl (cI, 6, .inl (fun _ => 0)))] := hD
  refine lv_aload_n hx hb dX0_init_27 rfl (lv_at hl 0 rfl) ?_
  refine lv_bipush (v := 6) hx hb dX0_init_28 (by decide) ?_
  refine va_newa (N' := 6) (a0 := (6, .inl (fun _ => 0))) hx hb (atype := .int) (hts (.arrayClass .int) (List.mem_of_getElem? (i := 7) rfl)) rfl hK hP hD hS hA (fun _ => rfl) (by decide) (by decide) (by decide) (Nat.le_of_ble_eq_true rfl) (Nat.le_of_ble_eq_true rfl) dX0_init_30 (fun q_2 cA H hK9 hP hD hS => ?_)
  rw [cz_cI hK9] at hP hD
  have hP : va_P (dC, dI) vwCl [(hc, .inr (0, [.int (-1), .int 0, .int 0, .ref q_1, .null, .null, .null, .null])), (q_1, .inl (cI, 6, .inl (fun _ => 0))), (q_2, .inl (cI, 6, .inl (fun _ => 0)))] H := hP
  have hD : va_D A [(hc, .inr (0, [.int (-1), .int 0, .int 0, .ref q_1, .null, .null, .null, .null])), (q_1, .inl (cI, 6, .inl (fun _ => 0))), (q_2, .inl (cI, 6, .inl (fun _ => 0)))] := hD
  refine W.widen (k := 2) (n := 12) (Nat.le_of_ble_eq_true rfl) (Nat.le_of_ble_eq_true rfl) ?_
  refine va_putF (D := (dC, dI)) (ci := 0) (v := .ref q_2) (ty := .array .int) (C := RX0) (T := TX0) (N := 8) hx hb hts hiX0 tyX0 tyX0_ok nmX0 hown hK hP hD hS 0 rfl rfl 4 (by decide) (hts (.fieldLink RX0 25 "LeftProfile$Court" "places" "[I") (List.mem_of_getElem? (i := 9) rfl)) (fun _ h9 => h9) rfl hin rfl (by decide +kernel) rfl rfl (Nat.le_of_ble_eq_true rfl) dX0_init_32 (fun H locs hP hD hS => ?_)
  have hP : va_P (dC, dI) vwCl [(hc, .inr (0, [.int (-1), .int 0, .int 0, .ref q_1, .ref q_2, .null, .null, .null])), (q_1, .inl (cI, 6, .inl (fun _ => 0))), (q_2, .inl (cI, 6, .inl (fun _ => 0)))] H := hP
  have hD : va_D A [(hc, .inr (0, [.int (-1), .int 0, .int 0, .ref q_1, .ref q_2, .null, .null, .null])), (q_1, .inl (cI, 6, .inl (fun _ => 0))), (q_2, .inl (cI, 6, .inl (fun _ => 0)))] := hD
  refine lv_aload_n hx hb dX0_init_35 rfl (lv_at hl 0 rfl) ?_
  refine lv_bipush (v := 6) hx hb dX0_init_36 (by decide) ?_
  refine va_newa (N' := 6) (a0 := (6, .inl (fun _ => 0))) hx hb (atype := .int) (hts (.arrayClass .int) (List.mem_of_getElem? (i := 7) rfl)) rfl hK hP hD hS hA (fun _ => rfl) (by decide) (by decide) (by decide) (Nat.le_of_ble_eq_true rfl) (Nat.le_of_ble_eq_true rfl) dX0_init_38 (fun q_3 cA H hK9 hP hD hS => ?_)
  rw [cz_cI hK9] at hP hD
  have hP : va_P (dC, dI) vwCl [(hc, .inr (0, [.int (-1), .int 0, .int 0, .ref q_1, .ref q_2, .null, .null, .null])), (q_1, .inl (cI, 6, .inl (fun _ => 0))), (q_2, .inl (cI, 6, .inl (fun _ => 0))), (q_3, .inl (cI, 6, .inl (fun _ => 0)))] H := hP
  have hD : va_D A [(hc, .inr (0, [.int (-1), .int 0, .int 0, .ref q_1, .ref q_2, .null, .null, .null])), (q_1, .inl (cI, 6, .inl (fun _ => 0))), (q_2, .inl (cI, 6, .inl (fun _ => 0))), (q_3, .inl (cI, 6, .inl (fun _ => 0)))] := hD
  refine W.widen (k := 3) (n := 18) (Nat.le_of_ble_eq_true rfl) (Nat.le_of_ble_eq_true rfl) ?_
  refine va_putF (D := (dC, dI)) (ci := 0) (v := .ref q_3) (ty := .array .int) (C := RX0) (T := TX0) (N := 8) hx hb hts hiX0 tyX0 tyX0_ok nmX0 hown hK hP hD hS 0 rfl rfl 5 (by decide) (hts (.fieldLink RX0 28 "LeftProfile$Court" "sawLeft" "[I") (List.mem_of_getElem? (i := 10) rfl)) (fun _ h9 => h9) rfl hin rfl (by decide +kernel) rfl rfl (Nat.le_of_ble_eq_true rfl) dX0_init_40 (fun H locs hP hD hS => ?_)
  have hP : va_P (dC, dI) vwCl [(hc, .inr (0, [.int (-1), .int 0, .int 0, .ref q_1, .ref q_2, .ref q_3, .null, .null])), (q_1, .inl (cI, 6, .inl (fun _ => 0))), (q_2, .inl (cI, 6, .inl (fun _ => 0))), (q_3, .inl (cI, 6, .inl (fun _ => 0)))] H := hP
  have hD : va_D A [(hc, .inr (0, [.int (-1), .int 0, .int 0, .ref q_1, .ref q_2, .ref q_3, .null, .null])), (q_1, .inl (cI, 6, .inl (fun _ => 0))), (q_2, .inl (cI, 6, .inl (fun _ => 0))), (q_3, .inl (cI, 6, .inl (fun _ => 0)))] := hD
  refine lv_aload_n hx hb dX0_init_43 rfl (lv_at hl 0 rfl) ?_
  refine lv_bipush (v := 6) hx hb dX0_init_44 (by decide) ?_
  refine va_newa (N' := 6) (a0 := (6, .inl (fun _ => 0))) hx hb (atype := .int) (hts (.arrayClass .int) (List.mem_of_getElem? (i := 7) rfl)) rfl hK hP hD hS hA (fun _ => rfl) (by decide) (by decide) (by decide) (Nat.le_of_ble_eq_true rfl) (Nat.le_of_ble_eq_true rfl) dX0_init_46 (fun q_4 cA H hK9 hP hD hS => ?_)
  rw [cz_cI hK9] at hP hD
  have hP : va_P (dC, dI) vwCl [(hc, .inr (0, [.int (-1), .int 0, .int 0, .ref q_1, .ref q_2, .ref q_3, .null, .null])), (q_1, .inl (cI, 6, .inl (fun _ => 0))), (q_2, .inl (cI, 6, .inl (fun _ => 0))), (q_3, .inl (cI, 6, .inl (fun _ => 0))), (q_4, .inl (cI, 6, .inl (fun _ => 0)))] H := hP
  have hD : va_D A [(hc, .inr (0, [.int (-1), .int 0, .int 0, .ref q_1, .ref q_2, .ref q_3, .null, .null])), (q_1, .inl (cI, 6, .inl (fun _ => 0))), (q_2, .inl (cI, 6, .inl (fun _ => 0))), (q_3, .inl (cI, 6, .inl (fun _ => 0))), (q_4, .inl (cI, 6, .inl (fun _ => 0)))] := hD
  refine W.widen (k := 4) (n := 24) (Nat.le_of_ble_eq_true rfl) (Nat.le_of_ble_eq_true rfl) ?_
  refine va_putF (D := (dC, dI)) (ci := 0) (v := .ref q_4) (ty := .array .int) (C := RX0) (T := TX0) (N := 8) hx hb hts hiX0 tyX0 tyX0_ok nmX0 hown hK hP hD hS 0 rfl rfl 6 (by decide) (hts (.fieldLink RX0 31 "LeftProfile$Court" "sawRight" "[I") (List.mem_of_getElem? (i := 11) rfl)) (fun _ h9 => h9) rfl hin rfl (by decide +kernel) rfl rfl (Nat.le_of_ble_eq_true rfl) dX0_init_48 (fun H locs hP hD hS => ?_)
  have hP : va_P (dC, dI) vwCl [(hc, .inr (0, [.int (-1), .int 0, .int 0, .ref q_1, .ref q_2, .ref q_3, .ref q_4, .null])), (q_1, .inl (cI, 6, .inl (fun _ => 0))), (q_2, .inl (cI, 6, .inl (fun _ => 0))), (q_3, .inl (cI, 6, .inl (fun _ => 0))), (q_4, .inl (cI, 6, .inl (fun _ => 0)))] H := hP
  have hD : va_D A [(hc, .inr (0, [.int (-1), .int 0, .int 0, .ref q_1, .ref q_2, .ref q_3, .ref q_4, .null])), (q_1, .inl (cI, 6, .inl (fun _ => 0))), (q_2, .inl (cI, 6, .inl (fun _ => 0))), (q_3, .inl (cI, 6, .inl (fun _ => 0))), (q_4, .inl (cI, 6, .inl (fun _ => 0)))] := hD
  refine lv_aload_n hx hb dX0_init_51 rfl (lv_at hl 0 rfl) ?_
  refine lv_bipush (v := 6) hx hb dX0_init_52 (by decide) ?_
  refine va_newa (N' := 6) (a0 := (6, .inl (fun _ => 0))) hx hb (atype := .int) (hts (.arrayClass .int) (List.mem_of_getElem? (i := 7) rfl)) rfl hK hP hD hS hA (fun _ => rfl) (by decide) (by decide) (by decide) (Nat.le_of_ble_eq_true rfl) (Nat.le_of_ble_eq_true rfl) dX0_init_54 (fun q_5 cA H hK9 hP hD hS => ?_)
  rw [cz_cI hK9] at hP hD
  have hP : va_P (dC, dI) vwCl [(hc, .inr (0, [.int (-1), .int 0, .int 0, .ref q_1, .ref q_2, .ref q_3, .ref q_4, .null])), (q_1, .inl (cI, 6, .inl (fun _ => 0))), (q_2, .inl (cI, 6, .inl (fun _ => 0))), (q_3, .inl (cI, 6, .inl (fun _ => 0))), (q_4, .inl (cI, 6, .inl (fun _ => 0))), (q_5, .inl (cI, 6, .inl (fun _ => 0)))] H := hP
  have hD : va_D A [(hc, .inr (0, [.int (-1), .int 0, .int 0, .ref q_1, .ref q_2, .ref q_3, .ref q_4, .null])), (q_1, .inl (cI, 6, .inl (fun _ => 0))), (q_2, .inl (cI, 6, .inl (fun _ => 0))), (q_3, .inl (cI, 6, .inl (fun _ => 0))), (q_4, .inl (cI, 6, .inl (fun _ => 0))), (q_5, .inl (cI, 6, .inl (fun _ => 0)))] := hD
  refine W.widen (k := 5) (n := 30) (Nat.le_of_ble_eq_true rfl) (Nat.le_of_ble_eq_true rfl) ?_
  refine va_putF (D := (dC, dI)) (ci := 0) (v := .ref q_5) (ty := .array .int) (C := RX0) (T := TX0) (N := 8) hx hb hts hiX0 tyX0 tyX0_ok nmX0 hown hK hP hD hS 0 rfl rfl 7 (by decide) (hts (.fieldLink RX0 34 "LeftProfile$Court" "told" "[I") (List.mem_of_getElem? (i := 12) rfl)) (fun _ h9 => h9) rfl hin rfl (by decide +kernel) rfl rfl (Nat.le_of_ble_eq_true rfl) dX0_init_56 (fun H locs hP hD hS => ?_)
  have hP : va_P (dC, dI) vwCl [(hc, .inr (0, [.int (-1), .int 0, .int 0, .ref q_1, .ref q_2, .ref q_3, .ref q_4, .ref q_5])), (q_1, .inl (cI, 6, .inl (fun _ => 0))), (q_2, .inl (cI, 6, .inl (fun _ => 0))), (q_3, .inl (cI, 6, .inl (fun _ => 0))), (q_4, .inl (cI, 6, .inl (fun _ => 0))), (q_5, .inl (cI, 6, .inl (fun _ => 0)))] H := hP
  have hD : va_D A [(hc, .inr (0, [.int (-1), .int 0, .int 0, .ref q_1, .ref q_2, .ref q_3, .ref q_4, .ref q_5])), (q_1, .inl (cI, 6, .inl (fun _ => 0))), (q_2, .inl (cI, 6, .inl (fun _ => 0))), (q_3, .inl (cI, 6, .inl (fun _ => 0))), (q_4, .inl (cI, 6, .inl (fun _ => 0))), (q_5, .inl (cI, 6, .inl (fun _ => 0)))] := hD
  refine W.widen (k := 5) (n := 30) (Nat.le_of_ble_eq_true rfl) (Nat.le_of_ble_eq_true rfl) ?_
  have hP9 := hP.sub (ws' := [(hc, .inr (0, [.int (-1), .int 0, .int 0, .ref q_1, .ref q_2, .ref q_3, .ref q_4, .ref q_5])), (q_1, .inl (cI, 6, .inl (fun _ => 0))), (q_2, .inl (cI, 6, .inl (fun _ => 0))), (q_3, .inl (cI, 6, .inl (fun _ => 0))), (q_4, .inl (cI, 6, .inl (fun _ => 0))), (q_5, .inl (cI, 6, .inl (fun _ => 0)))]) [0, 1, 2, 3, 4, 5] rfl
  have hD9 := hD.sub (ws' := [(hc, .inr (0, [.int (-1), .int 0, .int 0, .ref q_1, .ref q_2, .ref q_3, .ref q_4, .ref q_5])), (q_1, .inl (cI, 6, .inl (fun _ => 0))), (q_2, .inl (cI, 6, .inl (fun _ => 0))), (q_3, .inl (cI, 6, .inl (fun _ => 0))), (q_4, .inl (cI, 6, .inl (fun _ => 0))), (q_5, .inl (cI, 6, .inl (fun _ => 0)))]) [0, 1, 2, 3, 4, 5] (by decide) rfl
  exact W.vret hx hb hr (fun t ht hW => ⟨⟨(), rfl, trivial, ⟨q_1, q_2, q_3, q_4, q_5, by rw [ht]; exact hP9, hD9⟩⟩, hS.F ht⟩) hS.2.2 dX0_init_59

set_option maxHeartbeats 4000000 in
set_option maxRecDepth 100000 in
theorem c_X3_init (l : Launch) (dC : Nat → ClassId) (dI : Nat → Nat → Nat) (cI cB : ClassId) (rt : Nat) (sz : Nat) : Met l yX3_init wsX3_init ({ frames := 1, cells := 3, slots := 240, locals := 12 }) (cz_Pm dC dI cI cB [.ref rt] [(rt, .inr (3, [.null, .null, .null, .int 0]))] sz) (va_Qv (fun _ : Unit => True) (fun _ t => ∃ (q1 : Nat) (q2 : Nat) (q3 : Nat), va_P (dC, dI) vwCl [(rt, .inr (3, [.ref q1, .ref q2, .ref q3, .int 0])), (q1, .inl (cI, 80, .inl (fun _ => 0))), (q2, .inl (cI, 80, .inl (fun _ => 0))), (q3, .inl (cI, 80, .inl (fun _ => 0)))] t.heap ∧ va_D (va_A [(rt, .inr (3, [.null, .null, .null, .int 0]))] sz) [(rt, .inr (3, [.ref q1, .ref q2, .ref q3, .int 0])), (q1, .inl (cI, 80, .inl (fun _ => 0))), (q2, .inl (cI, 80, .inl (fun _ => 0))), (q3, .inl (cI, 80, .inl (fun _ => 0)))]) (va_A [(rt, .inr (3, [.null, .null, .null, .int 0]))] sz)) 3 240 (va_A [(rt, .inr (3, [.null, .null, .null, .int 0]))] sz) := by
  refine Met.ofW (cc := cX3_init) (maxL := 1) (ret := none) (by decide) rfl ?_
  intro p e s m args below meth c s₁ B hml hv
  obtain ⟨rfl, hsz, hP, hN, hD0⟩ := hv
  have hx := B.exec
  have hb := B.bytes
  have hr := B.returns
  have hts := atoms_spec (ws := wsX3_init) B.pre
  have hown : s.vm.findClass RX3 = some m.cls := findClass_of_methodNamed B.named
  have hlocks := B.notSynchronized
  have hK := hN.1
  have hin : meth.name = "<init>" := (name_of_methodNamed B.named B.method).1
  have hiX3 : ∀ w ∈ wsX30, w ∈ wsX3_init := (fun _ h => List.mem_cons_of_mem _ (List.mem_append_right _ h))
  subst hsz
  have hD := hD0.self (sz := s.heap.size)
  generalize hAe : va_A [(rt, .inr (3, [.null, .null, .null, .int 0]))] s.heap.size = A at hD ⊢
  have hA : ∀ q : Nat, s.heap.size ≤ q → A q := fun q h => by rw [← hAe]; exact Or.inr h
  have hS : va_S A s.heap s.heap [] := va_S.rf
  obtain ⟨H, eH⟩ : ∃ H, H = s.heap := ⟨_, rfl⟩
  have hP : va_P (dC, dI) vwCl [(rt, .inr (3, [.null, .null, .null, .int 0]))] s.heap := hP
  have hl := lv_entry ([.ref rt]) (n := 1) (Nat.le_of_ble_eq_true rfl)
  rw [lg_entry_eq]
  generalize (lg_sl ([.ref rt]) ++ List.replicate (1 - (lg_sl ([.ref rt])).length) Slot.unset).toArray = ls at hl ⊢
  have hl : lv_has ls 1 [(0, .ref rt)] := hl
  refine lv_aload_n hx hb dX3_init_0 rfl (lv_at hl 0 rfl) ?_
  refine W.objInit hx hb hown (hts (.methodLink RX3 3 objectInit) (List.mem_of_getElem? (i := 1) rfl)) (hts (.instanceMethod objectInit) (List.mem_of_getElem? (i := 2) rfl)) (hts (.code objectInit ⟨#[0xb1]⟩ 1 none) (List.mem_of_getElem? (i := 3) rfl)) rfl (by rw [hml]; exact hl.1) rfl dX3_init_1 (Nat.le_of_ble_eq_true rfl) (Nat.le_of_ble_eq_true rfl) ?_
  refine W.eq (g2 := F0 m 4 ls []) rfl ?_
  refine lv_aload_n hx hb dX3_init_4 rfl (lv_at hl 0 rfl) ?_
  refine lv_bipush (v := 80) hx hb dX3_init_5 (by decide) ?_
  refine va_newa (N' := 80) (a0 := (80, .inl (fun _ => 0))) hx hb (atype := .int) (hts (.arrayClass .int) (List.mem_of_getElem? (i := 4) rfl)) rfl hK hP hD hS hA (fun _ => rfl) (by decide) (by decide) (by decide) (Nat.le_of_ble_eq_true rfl) (Nat.le_of_ble_eq_true rfl) dX3_init_7 (fun q_1 cA H hK9 hP hD hS => ?_)
  rw [cz_cI hK9] at hP hD
  have hP : va_P (dC, dI) vwCl [(rt, .inr (3, [.null, .null, .null, .int 0])), (q_1, .inl (cI, 80, .inl (fun _ => 0)))] H := hP
  have hD : va_D A [(rt, .inr (3, [.null, .null, .null, .int 0])), (q_1, .inl (cI, 80, .inl (fun _ => 0)))] := hD
  refine W.widen (k := 1) (n := 80) (Nat.le_of_ble_eq_true rfl) (Nat.le_of_ble_eq_true rfl) ?_
  refine va_putF (D := (dC, dI)) (ci := 3) (v := .ref q_1) (ty := .array .int) (C := RX3) (T := TX3) (N := 4) hx hb hts hiX3 tyX3 tyX3_ok nmX3 hown hK hP hD hS 0 rfl rfl 0 (by decide) (hts (.fieldLink RX3 9 "LeftProfile$Route" "queue" "[I") (List.mem_of_getElem? (i := 5) rfl)) (fun _ h9 => h9) rfl hin rfl (by decide +kernel) rfl rfl (Nat.le_of_ble_eq_true rfl) dX3_init_9 (fun H locs hP hD hS => ?_)
  have hP : va_P (dC, dI) vwCl [(rt, .inr (3, [.ref q_1, .null, .null, .int 0])), (q_1, .inl (cI, 80, .inl (fun _ => 0)))] H := hP
  have hD : va_D A [(rt, .inr (3, [.ref q_1, .null, .null, .int 0])), (q_1, .inl (cI, 80, .inl (fun _ => 0)))] := hD
  refine lv_aload_n hx hb dX3_init_12 rfl (lv_at hl 0 rfl) ?_
  refine lv_bipush (v := 80) hx hb dX3_init_13 (by decide) ?_
  refine va_newa (N' := 80) (a0 := (80, .inl (fun _ => 0))) hx hb (atype := .int) (hts (.arrayClass .int) (List.mem_of_getElem? (i := 4) rfl)) rfl hK hP hD hS hA (fun _ => rfl) (by decide) (by decide) (by decide) (Nat.le_of_ble_eq_true rfl) (Nat.le_of_ble_eq_true rfl) dX3_init_15 (fun q_2 cA H hK9 hP hD hS => ?_)
  rw [cz_cI hK9] at hP hD
  have hP : va_P (dC, dI) vwCl [(rt, .inr (3, [.ref q_1, .null, .null, .int 0])), (q_1, .inl (cI, 80, .inl (fun _ => 0))), (q_2, .inl (cI, 80, .inl (fun _ => 0)))] H := hP
  have hD : va_D A [(rt, .inr (3, [.ref q_1, .null, .null, .int 0])), (q_1, .inl (cI, 80, .inl (fun _ => 0))), (q_2, .inl (cI, 80, .inl (fun _ => 0)))] := hD
  refine W.widen (k := 2) (n := 160) (Nat.le_of_ble_eq_true rfl) (Nat.le_of_ble_eq_true rfl) ?_
  refine va_putF (D := (dC, dI)) (ci := 3) (v := .ref q_2) (ty := .array .int) (C := RX3) (T := TX3) (N := 4) hx hb hts hiX3 tyX3 tyX3_ok nmX3 hown hK hP hD hS 0 rfl rfl 1 (by decide) (hts (.fieldLink RX3 15 "LeftProfile$Route" "lengths" "[I") (List.mem_of_getElem? (i := 6) rfl)) (fun _ h9 => h9) rfl hin rfl (by decide +kernel) rfl rfl (Nat.le_of_ble_eq_true rfl) dX3_init_17 (fun H locs hP hD hS => ?_)
  have hP : va_P (dC, dI) vwCl [(rt, .inr (3, [.ref q_1, .ref q_2, .null, .int 0])), (q_1, .inl (cI, 80, .inl (fun _ => 0))), (q_2, .inl (cI, 80, .inl (fun _ => 0)))] H := hP
  have hD : va_D A [(rt, .inr (3, [.ref q_1, .ref q_2, .null, .int 0])), (q_1, .inl (cI, 80, .inl (fun _ => 0))), (q_2, .inl (cI, 80, .inl (fun _ => 0)))] := hD
  refine lv_aload_n hx hb dX3_init_20 rfl (lv_at hl 0 rfl) ?_
  refine lv_bipush (v := 80) hx hb dX3_init_21 (by decide) ?_
  refine va_newa (N' := 80) (a0 := (80, .inl (fun _ => 0))) hx hb (atype := .int) (hts (.arrayClass .int) (List.mem_of_getElem? (i := 4) rfl)) rfl hK hP hD hS hA (fun _ => rfl) (by decide) (by decide) (by decide) (Nat.le_of_ble_eq_true rfl) (Nat.le_of_ble_eq_true rfl) dX3_init_23 (fun q_3 cA H hK9 hP hD hS => ?_)
  rw [cz_cI hK9] at hP hD
  have hP : va_P (dC, dI) vwCl [(rt, .inr (3, [.ref q_1, .ref q_2, .null, .int 0])), (q_1, .inl (cI, 80, .inl (fun _ => 0))), (q_2, .inl (cI, 80, .inl (fun _ => 0))), (q_3, .inl (cI, 80, .inl (fun _ => 0)))] H := hP
  have hD : va_D A [(rt, .inr (3, [.ref q_1, .ref q_2, .null, .int 0])), (q_1, .inl (cI, 80, .inl (fun _ => 0))), (q_2, .inl (cI, 80, .inl (fun _ => 0))), (q_3, .inl (cI, 80, .inl (fun _ => 0)))] := hD
  refine W.widen (k := 3) (n := 240) (Nat.le_of_ble_eq_true rfl) (Nat.le_of_ble_eq_true rfl) ?_
  refine va_putF (D := (dC, dI)) (ci := 3) (v := .ref q_3) (ty := .array .int) (C := RX3) (T := TX3) (N := 4) hx hb hts hiX3 tyX3 tyX3_ok nmX3 hown hK hP hD hS 0 rfl rfl 2 (by decide) (hts (.fieldLink RX3 18 "LeftProfile$Route" "firsts" "[I") (List.mem_of_getElem? (i := 7) rfl)) (fun _ h9 => h9) rfl hin rfl (by decide +kernel) rfl rfl (Nat.le_of_ble_eq_true rfl) dX3_init_25 (fun H locs hP hD hS => ?_)
  have hP : va_P (dC, dI) vwCl [(rt, .inr (3, [.ref q_1, .ref q_2, .ref q_3, .int 0])), (q_1, .inl (cI, 80, .inl (fun _ => 0))), (q_2, .inl (cI, 80, .inl (fun _ => 0))), (q_3, .inl (cI, 80, .inl (fun _ => 0)))] H := hP
  have hD : va_D A [(rt, .inr (3, [.ref q_1, .ref q_2, .ref q_3, .int 0])), (q_1, .inl (cI, 80, .inl (fun _ => 0))), (q_2, .inl (cI, 80, .inl (fun _ => 0))), (q_3, .inl (cI, 80, .inl (fun _ => 0)))] := hD
  refine lv_aload_n hx hb dX3_init_28 rfl (lv_at hl 0 rfl) ?_
  refine lv_iconst (v := 0) hx hb dX3_init_29 (by decide) ?_
  refine va_put (D := (dC, dI)) (ci := 3) (v := .int 0) (ty := .int) (C := RX3) (T := TX3) (N := 4) hx hb hts hiX3 tyX3 tyX3_ok nmX3 hown hK hP hD hS 0 rfl rfl 3 (by decide) (hts (.fieldLink RX3 21 "LeftProfile$Route" "queued" "I") (List.mem_of_getElem? (i := 8) rfl)) (fun _ h9 => h9) rfl (by decide +kernel) rfl rfl (Nat.le_of_ble_eq_true rfl) dX3_init_30 (fun H locs hP hD hS => ?_)
  have hP : va_P (dC, dI) vwCl [(rt, .inr (3, [.ref q_1, .ref q_2, .ref q_3, .int 0])), (q_1, .inl (cI, 80, .inl (fun _ => 0))), (q_2, .inl (cI, 80, .inl (fun _ => 0))), (q_3, .inl (cI, 80, .inl (fun _ => 0)))] H := hP
  have hD : va_D A [(rt, .inr (3, [.ref q_1, .ref q_2, .ref q_3, .int 0])), (q_1, .inl (cI, 80, .inl (fun _ => 0))), (q_2, .inl (cI, 80, .inl (fun _ => 0))), (q_3, .inl (cI, 80, .inl (fun _ => 0)))] := hD
  refine W.widen (k := 3) (n := 240) (Nat.le_of_ble_eq_true rfl) (Nat.le_of_ble_eq_true rfl) ?_
  have hP9 := hP.sub (ws' := [(rt, .inr (3, [.ref q_1, .ref q_2, .ref q_3, .int 0])), (q_1, .inl (cI, 80, .inl (fun _ => 0))), (q_2, .inl (cI, 80, .inl (fun _ => 0))), (q_3, .inl (cI, 80, .inl (fun _ => 0)))]) [0, 1, 2, 3] rfl
  have hD9 := hD.sub (ws' := [(rt, .inr (3, [.ref q_1, .ref q_2, .ref q_3, .int 0])), (q_1, .inl (cI, 80, .inl (fun _ => 0))), (q_2, .inl (cI, 80, .inl (fun _ => 0))), (q_3, .inl (cI, 80, .inl (fun _ => 0)))]) [0, 1, 2, 3] (by decide) rfl
  exact W.vret hx hb hr (fun t ht hW => ⟨⟨(), rfl, trivial, ⟨q_1, q_2, q_3, by rw [ht]; exact hP9, hD9⟩⟩, hS.F ht⟩) hS.2.2 dX3_init_33

set_option maxHeartbeats 4000000 in
set_option maxRecDepth 100000 in
theorem c_X7_init (l : Launch) (dC : Nat → ClassId) (dI : Nat → Nat → Nat) (cI cB : ClassId) (h0 : Nat) (sz : Nat) : Met l yX7_init wsX7_init ({ frames := 1, cells := 13, slots := 241, locals := 12 }) (cz_Pm dC dI cI cB [.ref h0] [(h0, .inr (7, [.int 0, .int 0, .int 0, .int 0, .int 0, .int 0, .int 0, .null, .null, .null, .null, .null, .int 0, .null, .int 0, .int 0, .null, .null, .null, .long 0, .int 0, .int 0, .int 0, .int 0, .int 0, .int 0, .null, .null, .null, .null, .long 0]))] sz) (va_Qv (fun _ : Unit => True) (fun _ t => ∃ (m1 : Nat) (m2 : Nat) (m3 : Nat) (m4 : Nat) (m5 : Nat) (pg : Nat) (m6 : Nat) (m7 : Nat) (m8 : Nat) (m9 : Nat) (m10 : Nat) (m11 : Nat) (m12 : Nat), va_P (dC, dI) vwCl [(h0, .inr (7, [.int 0, .int 0, .int 0, .int (-1), .int (-1), .int 0, .int 0, .ref m1, .ref m2, .ref m3, .ref m4, .ref m5, .int 0, .ref pg, .int 0, .int 0, .ref m6, .ref m7, .ref m8, .long 0, .int 0, .int 0, .int 0, .int 0, .int 0, .int 0, .ref m9, .ref m10, .ref m11, .ref m12, .long 0])), (m1, .inl (cI, 6, .inl (fun _ => 0))), (m2, .inl (cI, 6, .inl (fun _ => 0))), (m3, .inl (cI, 6, .inl (fun _ => 0))), (m4, .inl (cI, 6, .inl (fun _ => 0))), (m5, .inl (cI, 6, .inl (fun _ => 0))), (pg, .inl (cB, 24, .inl (fun _ => 0))), (m6, .inl (cI, 3, .inl (fun _ => 0))), (m7, .inl (cI, 80, .inl (fun _ => 0))), (m8, .inl (cI, 80, .inl (fun _ => 0))), (m9, .inl (cI, 6, .inl (fun _ => 0))), (m10, .inl (cI, 6, .inl (fun _ => 0))), (m11, .inl (cI, 6, .inl (fun _ => 0))), (m12, .inl (cI, 6, .inl (fun _ => 0)))] t.heap ∧ va_D (va_A [(h0, .inr (7, [.int 0, .int 0, .int 0, .int 0, .int 0, .int 0, .int 0, .null, .null, .null, .null, .null, .int 0, .null, .int 0, .int 0, .null, .null, .null, .long 0, .int 0, .int 0, .int 0, .int 0, .int 0, .int 0, .null, .null, .null, .null, .long 0]))] sz) [(h0, .inr (7, [.int 0, .int 0, .int 0, .int (-1), .int (-1), .int 0, .int 0, .ref m1, .ref m2, .ref m3, .ref m4, .ref m5, .int 0, .ref pg, .int 0, .int 0, .ref m6, .ref m7, .ref m8, .long 0, .int 0, .int 0, .int 0, .int 0, .int 0, .int 0, .ref m9, .ref m10, .ref m11, .ref m12, .long 0])), (m1, .inl (cI, 6, .inl (fun _ => 0))), (m2, .inl (cI, 6, .inl (fun _ => 0))), (m3, .inl (cI, 6, .inl (fun _ => 0))), (m4, .inl (cI, 6, .inl (fun _ => 0))), (m5, .inl (cI, 6, .inl (fun _ => 0))), (pg, .inl (cB, 24, .inl (fun _ => 0))), (m6, .inl (cI, 3, .inl (fun _ => 0))), (m7, .inl (cI, 80, .inl (fun _ => 0))), (m8, .inl (cI, 80, .inl (fun _ => 0))), (m9, .inl (cI, 6, .inl (fun _ => 0))), (m10, .inl (cI, 6, .inl (fun _ => 0))), (m11, .inl (cI, 6, .inl (fun _ => 0))), (m12, .inl (cI, 6, .inl (fun _ => 0)))]) (va_A [(h0, .inr (7, [.int 0, .int 0, .int 0, .int 0, .int 0, .int 0, .int 0, .null, .null, .null, .null, .null, .int 0, .null, .int 0, .int 0, .null, .null, .null, .long 0, .int 0, .int 0, .int 0, .int 0, .int 0, .int 0, .null, .null, .null, .null, .long 0]))] sz)) 13 241 (va_A [(h0, .inr (7, [.int 0, .int 0, .int 0, .int 0, .int 0, .int 0, .int 0, .null, .null, .null, .null, .null, .int 0, .null, .int 0, .int 0, .null, .null, .null, .long 0, .int 0, .int 0, .int 0, .int 0, .int 0, .int 0, .null, .null, .null, .null, .long 0]))] sz) := by
  refine Met.ofW (cc := cX7_init) (maxL := 1) (ret := none) (by decide) rfl ?_
  intro p e s m args below meth c s₁ B hml hv
  obtain ⟨rfl, hsz, hP, hN, hD0⟩ := hv
  have hx := B.exec
  have hb := B.bytes
  have hr := B.returns
  have hts := atoms_spec (ws := wsX7_init) B.pre
  have hown : s.vm.findClass RX7 = some m.cls := findClass_of_methodNamed B.named
  have hlocks := B.notSynchronized
  have hK := hN.1
  have hin : meth.name = "<init>" := (name_of_methodNamed B.named B.method).1
  have hiX7 : ∀ w ∈ wsX70, w ∈ wsX7_init := (fun _ h => List.mem_cons_of_mem _ (List.mem_append_right _ h))
  subst hsz
  have hD := hD0.self (sz := s.heap.size)
  generalize hAe : va_A [(h0, .inr (7, [.int 0, .int 0, .int 0, .int 0, .int 0, .int 0, .int 0, .null, .null, .null, .null, .null, .int 0, .null, .int 0, .int 0, .null, .null, .null, .long 0, .int 0, .int 0, .int 0, .int 0, .int 0, .int 0, .null, .null, .null, .null, .long 0]))] s.heap.size = A at hD ⊢
  have hA : ∀ q : Nat, s.heap.size ≤ q → A q := fun q h => by rw [← hAe]; exact Or.inr h
  have hS : va_S A s.heap s.heap [] := va_S.rf
  obtain ⟨H, eH⟩ : ∃ H, H = s.heap := ⟨_, rfl⟩
  have hP : va_P (dC, dI) vwCl [(h0, .inr (7, [.int 0, .int 0, .int 0, .int 0, .int 0, .int 0, .int 0, .null, .null, .null, .null, .null, .int 0, .null, .int 0, .int 0, .null, .null, .null, .long 0, .int 0, .int 0, .int 0, .int 0, .int 0, .int 0, .null, .null, .null, .null, .long 0]))] s.heap := hP
  have hl := lv_entry ([.ref h0]) (n := 1) (Nat.le_of_ble_eq_true rfl)
  rw [lg_entry_eq]
  generalize (lg_sl ([.ref h0]) ++ List.replicate (1 - (lg_sl ([.ref h0])).length) Slot.unset).toArray = ls at hl ⊢
  have hl : lv_has ls 1 [(0, .ref h0)] := hl
  refine lv_aload_n hx hb dX7_init_0 rfl (lv_at hl 0 rfl) ?_
  refine W.objInit hx hb hown (hts (.methodLink RX7 1 objectInit) (List.mem_of_getElem? (i := 1) rfl)) (hts (.instanceMethod objectInit) (List.mem_of_getElem? (i := 2) rfl)) (hts (.code objectInit ⟨#[0xb1]⟩ 1 none) (List.mem_of_getElem? (i := 3) rfl)) rfl (by rw [hml]; exact hl.1) rfl dX7_init_1 (Nat.le_of_ble_eq_true rfl) (Nat.le_of_ble_eq_true rfl) ?_
  refine W.eq (g2 := F0 m 4 ls []) rfl ?_
  refine lv_aload_n hx hb dX7_init_4 rfl (lv_at hl 0 rfl) ?_
  refine lv_iconst (v := (-1)) hx hb dX7_init_5 (by decide) ?_
  refine va_put (D := (dC, dI)) (ci := 7) (v := .int (-1)) (ty := .int) (C := RX7) (T := TX7) (N := 31) hx hb hts hiX7 tyX7 tyX7_ok nmX7 hown hK hP hD hS 0 rfl rfl 3 (by decide) (hts (.fieldLink RX7 7 "LeftProfileModel" "dukeAt" "I") (List.mem_of_getElem? (i := 4) rfl)) (fun _ h9 => h9) rfl (by decide +kernel) rfl rfl (Nat.le_of_ble_eq_true rfl) dX7_init_6 (fun H locs hP hD hS => ?_)
  have hP : va_P (dC, dI) vwCl [(h0, .inr (7, [.int 0, .int 0, .int 0, .int (-1), .int 0, .int 0, .int 0, .null, .null, .null, .null, .null, .int 0, .null, .int 0, .int 0, .null, .null, .null, .long 0, .int 0, .int 0, .int 0, .int 0, .int 0, .int 0, .null, .null, .null, .null, .long 0]))] H := hP
  have hD : va_D A [(h0, .inr (7, [.int 0, .int 0, .int 0, .int (-1), .int 0, .int 0, .int 0, .null, .null, .null, .null, .null, .int 0, .null, .int 0, .int 0, .null, .null, .null, .long 0, .int 0, .int 0, .int 0, .int 0, .int 0, .int 0, .null, .null, .null, .null, .long 0]))] := hD
  refine lv_aload_n hx hb dX7_init_9 rfl (lv_at hl 0 rfl) ?_
  refine lv_iconst (v := (-1)) hx hb dX7_init_10 (by decide) ?_
  refine va_put (D := (dC, dI)) (ci := 7) (v := .int (-1)) (ty := .int) (C := RX7) (T := TX7) (N := 31) hx hb hts hiX7 tyX7 tyX7_ok nmX7 hown hK hP hD hS 0 rfl rfl 4 (by decide) (hts (.fieldLink RX7 13 "LeftProfileModel" "dukeSide" "I") (List.mem_of_getElem? (i := 5) rfl)) (fun _ h9 => h9) rfl (by decide +kernel) rfl rfl (Nat.le_of_ble_eq_true rfl) dX7_init_11 (fun H locs hP hD hS => ?_)
  have hP : va_P (dC, dI) vwCl [(h0, .inr (7, [.int 0, .int 0, .int 0, .int (-1), .int (-1), .int 0, .int 0, .null, .null, .null, .null, .null, .int 0, .null, .int 0, .int 0, .null, .null, .null, .long 0, .int 0, .int 0, .int 0, .int 0, .int 0, .int 0, .null, .null, .null, .null, .long 0]))] H := hP
  have hD : va_D A [(h0, .inr (7, [.int 0, .int 0, .int 0, .int (-1), .int (-1), .int 0, .int 0, .null, .null, .null, .null, .null, .int 0, .null, .int 0, .int 0, .null, .null, .null, .long 0, .int 0, .int 0, .int 0, .int 0, .int 0, .int 0, .null, .null, .null, .null, .long 0]))] := hD
  refine lv_aload_n hx hb dX7_init_14 rfl (lv_at hl 0 rfl) ?_
  refine lv_bipush (v := 6) hx hb dX7_init_15 (by decide) ?_
  refine va_newa (N' := 6) (a0 := (6, .inl (fun _ => 0))) hx hb (atype := .int) (hts (.arrayClass .int) (List.mem_of_getElem? (i := 6) rfl)) rfl hK hP hD hS hA (fun _ => rfl) (by decide) (by decide) (by decide) (Nat.le_of_ble_eq_true rfl) (Nat.le_of_ble_eq_true rfl) dX7_init_17 (fun q_1 cA H hK9 hP hD hS => ?_)
  rw [cz_cI hK9] at hP hD
  have hP : va_P (dC, dI) vwCl [(h0, .inr (7, [.int 0, .int 0, .int 0, .int (-1), .int (-1), .int 0, .int 0, .null, .null, .null, .null, .null, .int 0, .null, .int 0, .int 0, .null, .null, .null, .long 0, .int 0, .int 0, .int 0, .int 0, .int 0, .int 0, .null, .null, .null, .null, .long 0])), (q_1, .inl (cI, 6, .inl (fun _ => 0)))] H := hP
  have hD : va_D A [(h0, .inr (7, [.int 0, .int 0, .int 0, .int (-1), .int (-1), .int 0, .int 0, .null, .null, .null, .null, .null, .int 0, .null, .int 0, .int 0, .null, .null, .null, .long 0, .int 0, .int 0, .int 0, .int 0, .int 0, .int 0, .null, .null, .null, .null, .long 0])), (q_1, .inl (cI, 6, .inl (fun _ => 0)))] := hD
  refine W.widen (k := 1) (n := 6) (Nat.le_of_ble_eq_true rfl) (Nat.le_of_ble_eq_true rfl) ?_
  refine va_putF (D := (dC, dI)) (ci := 7) (v := .ref q_1) (ty := .array .int) (C := RX7) (T := TX7) (N := 31) hx hb hts hiX7 tyX7 tyX7_ok nmX7 hown hK hP hD hS 0 rfl rfl 7 (by decide) (hts (.fieldLink RX7 16 "LeftProfileModel" "kindOf" "[I") (List.mem_of_getElem? (i := 7) rfl)) (fun _ h9 => h9) rfl hin rfl (by decide +kernel) rfl rfl (Nat.le_of_ble_eq_true rfl) dX7_init_19 (fun H locs hP hD hS => ?_)
  have hP : va_P (dC, dI) vwCl [(h0, .inr (7, [.int 0, .int 0, .int 0, .int (-1), .int (-1), .int 0, .int 0, .ref q_1, .null, .null, .null, .null, .int 0, .null, .int 0, .int 0, .null, .null, .null, .long 0, .int 0, .int 0, .int 0, .int 0, .int 0, .int 0, .null, .null, .null, .null, .long 0])), (q_1, .inl (cI, 6, .inl (fun _ => 0)))] H := hP
  have hD : va_D A [(h0, .inr (7, [.int 0, .int 0, .int 0, .int (-1), .int (-1), .int 0, .int 0, .ref q_1, .null, .null, .null, .null, .int 0, .null, .int 0, .int 0, .null, .null, .null, .long 0, .int 0, .int 0, .int 0, .int 0, .int 0, .int 0, .null, .null, .null, .null, .long 0])), (q_1, .inl (cI, 6, .inl (fun _ => 0)))] := hD
  refine lv_aload_n hx hb dX7_init_22 rfl (lv_at hl 0 rfl) ?_
  refine lv_bipush (v := 6) hx hb dX7_init_23 (by decide) ?_
  refine va_newa (N' := 6) (a0 := (6, .inl (fun _ => 0))) hx hb (atype := .int) (hts (.arrayClass .int) (List.mem_of_getElem? (i := 6) rfl)) rfl hK hP hD hS hA (fun _ => rfl) (by decide) (by decide) (by decide) (Nat.le_of_ble_eq_true rfl) (Nat.le_of_ble_eq_true rfl) dX7_init_25 (fun q_2 cA H hK9 hP hD hS => ?_)
  rw [cz_cI hK9] at hP hD
  have hP : va_P (dC, dI) vwCl [(h0, .inr (7, [.int 0, .int 0, .int 0, .int (-1), .int (-1), .int 0, .int 0, .ref q_1, .null, .null, .null, .null, .int 0, .null, .int 0, .int 0, .null, .null, .null, .long 0, .int 0, .int 0, .int 0, .int 0, .int 0, .int 0, .null, .null, .null, .null, .long 0])), (q_1, .inl (cI, 6, .inl (fun _ => 0))), (q_2, .inl (cI, 6, .inl (fun _ => 0)))] H := hP
  have hD : va_D A [(h0, .inr (7, [.int 0, .int 0, .int 0, .int (-1), .int (-1), .int 0, .int 0, .ref q_1, .null, .null, .null, .null, .int 0, .null, .int 0, .int 0, .null, .null, .null, .long 0, .int 0, .int 0, .int 0, .int 0, .int 0, .int 0, .null, .null, .null, .null, .long 0])), (q_1, .inl (cI, 6, .inl (fun _ => 0))), (q_2, .inl (cI, 6, .inl (fun _ => 0)))] := hD
  refine W.widen (k := 2) (n := 12) (Nat.le_of_ble_eq_true rfl) (Nat.le_of_ble_eq_true rfl) ?_
  refine va_putF (D := (dC, dI)) (ci := 7) (v := .ref q_2) (ty := .array .int) (C := RX7) (T := TX7) (N := 31) hx hb hts hiX7 tyX7 tyX7_ok nmX7 hown hK hP hD hS 0 rfl rfl 8 (by decide) (hts (.fieldLink RX7 20 "LeftProfileModel" "placeOf" "[I") (List.mem_of_getElem? (i := 8) rfl)) (fun _ h9 => h9) rfl hin rfl (by decide +kernel) rfl rfl (Nat.le_of_ble_eq_true rfl) dX7_init_27 (fun H locs hP hD hS => ?_)
  have hP : va_P (dC, dI) vwCl [(h0, .inr (7, [.int 0, .int 0, .int 0, .int (-1), .int (-1), .int 0, .int 0, .ref q_1, .ref q_2, .null, .null, .null, .int 0, .null, .int 0, .int 0, .null, .null, .null, .long 0, .int 0, .int 0, .int 0, .int 0, .int 0, .int 0, .null, .null, .null, .null, .long 0])), (q_1, .inl (cI, 6, .inl (fun _ => 0))), (q_2, .inl (cI, 6, .inl (fun _ => 0)))] H := hP
  have hD : va_D A [(h0, .inr (7, [.int 0, .int 0, .int 0, .int (-1), .int (-1), .int 0, .int 0, .ref q_1, .ref q_2, .null, .null, .null, .int 0, .null, .int 0, .int 0, .null, .null, .null, .long 0, .int 0, .int 0, .int 0, .int 0, .int 0, .int 0, .null, .null, .null, .null, .long 0])), (q_1, .inl (cI, 6, .inl (fun _ => 0))), (q_2, .inl (cI, 6, .inl (fun _ => 0)))] := hD
  refine lv_aload_n hx hb dX7_init_30 rfl (lv_at hl 0 rfl) ?_
  refine lv_bipush (v := 6) hx hb dX7_init_31 (by decide) ?_
  refine va_newa (N' := 6) (a0 := (6, .inl (fun _ => 0))) hx hb (atype := .int) (hts (.arrayClass .int) (List.mem_of_getElem? (i := 6) rfl)) rfl hK hP hD hS hA (fun _ => rfl) (by decide) (by decide) (by decide) (Nat.le_of_ble_eq_true rfl) (Nat.le_of_ble_eq_true rfl) dX7_init_33 (fun q_3 cA H hK9 hP hD hS => ?_)
  rw [cz_cI hK9] at hP hD
  have hP : va_P (dC, dI) vwCl [(h0, .inr (7, [.int 0, .int 0, .int 0, .int (-1), .int (-1), .int 0, .int 0, .ref q_1, .ref q_2, .null, .null, .null, .int 0, .null, .int 0, .int 0, .null, .null, .null, .long 0, .int 0, .int 0, .int 0, .int 0, .int 0, .int 0, .null, .null, .null, .null, .long 0])), (q_1, .inl (cI, 6, .inl (fun _ => 0))), (q_2, .inl (cI, 6, .inl (fun _ => 0))), (q_3, .inl (cI, 6, .inl (fun _ => 0)))] H := hP
  have hD : va_D A [(h0, .inr (7, [.int 0, .int 0, .int 0, .int (-1), .int (-1), .int 0, .int 0, .ref q_1, .ref q_2, .null, .null, .null, .int 0, .null, .int 0, .int 0, .null, .null, .null, .long 0, .int 0, .int 0, .int 0, .int 0, .int 0, .int 0, .null, .null, .null, .null, .long 0])), (q_1, .inl (cI, 6, .inl (fun _ => 0))), (q_2, .inl (cI, 6, .inl (fun _ => 0))), (q_3, .inl (cI, 6, .inl (fun _ => 0)))] := hD
  refine W.widen (k := 3) (n := 18) (Nat.le_of_ble_eq_true rfl) (Nat.le_of_ble_eq_true rfl) ?_
  refine va_putF (D := (dC, dI)) (ci := 7) (v := .ref q_3) (ty := .array .int) (C := RX7) (T := TX7) (N := 31) hx hb hts hiX7 tyX7 tyX7_ok nmX7 hown hK hP hD hS 0 rfl rfl 9 (by decide) (hts (.fieldLink RX7 23 "LeftProfileModel" "sawLeft" "[I") (List.mem_of_getElem? (i := 9) rfl)) (fun _ h9 => h9) rfl hin rfl (by decide +kernel) rfl rfl (Nat.le_of_ble_eq_true rfl) dX7_init_35 (fun H locs hP hD hS => ?_)
  have hP : va_P (dC, dI) vwCl [(h0, .inr (7, [.int 0, .int 0, .int 0, .int (-1), .int (-1), .int 0, .int 0, .ref q_1, .ref q_2, .ref q_3, .null, .null, .int 0, .null, .int 0, .int 0, .null, .null, .null, .long 0, .int 0, .int 0, .int 0, .int 0, .int 0, .int 0, .null, .null, .null, .null, .long 0])), (q_1, .inl (cI, 6, .inl (fun _ => 0))), (q_2, .inl (cI, 6, .inl (fun _ => 0))), (q_3, .inl (cI, 6, .inl (fun _ => 0)))] H := hP
  have hD : va_D A [(h0, .inr (7, [.int 0, .int 0, .int 0, .int (-1), .int (-1), .int 0, .int 0, .ref q_1, .ref q_2, .ref q_3, .null, .null, .int 0, .null, .int 0, .int 0, .null, .null, .null, .long 0, .int 0, .int 0, .int 0, .int 0, .int 0, .int 0, .null, .null, .null, .null, .long 0])), (q_1, .inl (cI, 6, .inl (fun _ => 0))), (q_2, .inl (cI, 6, .inl (fun _ => 0))), (q_3, .inl (cI, 6, .inl (fun _ => 0)))] := hD
  refine lv_aload_n hx hb dX7_init_38 rfl (lv_at hl 0 rfl) ?_
  refine lv_bipush (v := 6) hx hb dX7_init_39 (by decide) ?_
  refine va_newa (N' := 6) (a0 := (6, .inl (fun _ => 0))) hx hb (atype := .int) (hts (.arrayClass .int) (List.mem_of_getElem? (i := 6) rfl)) rfl hK hP hD hS hA (fun _ => rfl) (by decide) (by decide) (by decide) (Nat.le_of_ble_eq_true rfl) (Nat.le_of_ble_eq_true rfl) dX7_init_41 (fun q_4 cA H hK9 hP hD hS => ?_)
  rw [cz_cI hK9] at hP hD
  have hP : va_P (dC, dI) vwCl [(h0, .inr (7, [.int 0, .int 0, .int 0, .int (-1), .int (-1), .int 0, .int 0, .ref q_1, .ref q_2, .ref q_3, .null, .null, .int 0, .null, .int 0, .int 0, .null, .null, .null, .long 0, .int 0, .int 0, .int 0, .int 0, .int 0, .int 0, .null, .null, .null, .null, .long 0])), (q_1, .inl (cI, 6, .inl (fun _ => 0))), (q_2, .inl (cI, 6, .inl (fun _ => 0))), (q_3, .inl (cI, 6, .inl (fun _ => 0))), (q_4, .inl (cI, 6, .inl (fun _ => 0)))] H := hP
  have hD : va_D A [(h0, .inr (7, [.int 0, .int 0, .int 0, .int (-1), .int (-1), .int 0, .int 0, .ref q_1, .ref q_2, .ref q_3, .null, .null, .int 0, .null, .int 0, .int 0, .null, .null, .null, .long 0, .int 0, .int 0, .int 0, .int 0, .int 0, .int 0, .null, .null, .null, .null, .long 0])), (q_1, .inl (cI, 6, .inl (fun _ => 0))), (q_2, .inl (cI, 6, .inl (fun _ => 0))), (q_3, .inl (cI, 6, .inl (fun _ => 0))), (q_4, .inl (cI, 6, .inl (fun _ => 0)))] := hD
  refine W.widen (k := 4) (n := 24) (Nat.le_of_ble_eq_true rfl) (Nat.le_of_ble_eq_true rfl) ?_
  refine va_putF (D := (dC, dI)) (ci := 7) (v := .ref q_4) (ty := .array .int) (C := RX7) (T := TX7) (N := 31) hx hb hts hiX7 tyX7 tyX7_ok nmX7 hown hK hP hD hS 0 rfl rfl 10 (by decide) (hts (.fieldLink RX7 26 "LeftProfileModel" "sawRight" "[I") (List.mem_of_getElem? (i := 10) rfl)) (fun _ h9 => h9) rfl hin rfl (by decide +kernel) rfl rfl (Nat.le_of_ble_eq_true rfl) dX7_init_43 (fun H locs hP hD hS => ?_)
  have hP : va_P (dC, dI) vwCl [(h0, .inr (7, [.int 0, .int 0, .int 0, .int (-1), .int (-1), .int 0, .int 0, .ref q_1, .ref q_2, .ref q_3, .ref q_4, .null, .int 0, .null, .int 0, .int 0, .null, .null, .null, .long 0, .int 0, .int 0, .int 0, .int 0, .int 0, .int 0, .null, .null, .null, .null, .long 0])), (q_1, .inl (cI, 6, .inl (fun _ => 0))), (q_2, .inl (cI, 6, .inl (fun _ => 0))), (q_3, .inl (cI, 6, .inl (fun _ => 0))), (q_4, .inl (cI, 6, .inl (fun _ => 0)))] H := hP
  have hD : va_D A [(h0, .inr (7, [.int 0, .int 0, .int 0, .int (-1), .int (-1), .int 0, .int 0, .ref q_1, .ref q_2, .ref q_3, .ref q_4, .null, .int 0, .null, .int 0, .int 0, .null, .null, .null, .long 0, .int 0, .int 0, .int 0, .int 0, .int 0, .int 0, .null, .null, .null, .null, .long 0])), (q_1, .inl (cI, 6, .inl (fun _ => 0))), (q_2, .inl (cI, 6, .inl (fun _ => 0))), (q_3, .inl (cI, 6, .inl (fun _ => 0))), (q_4, .inl (cI, 6, .inl (fun _ => 0)))] := hD
  refine lv_aload_n hx hb dX7_init_46 rfl (lv_at hl 0 rfl) ?_
  refine lv_bipush (v := 6) hx hb dX7_init_47 (by decide) ?_
  refine va_newa (N' := 6) (a0 := (6, .inl (fun _ => 0))) hx hb (atype := .int) (hts (.arrayClass .int) (List.mem_of_getElem? (i := 6) rfl)) rfl hK hP hD hS hA (fun _ => rfl) (by decide) (by decide) (by decide) (Nat.le_of_ble_eq_true rfl) (Nat.le_of_ble_eq_true rfl) dX7_init_49 (fun q_5 cA H hK9 hP hD hS => ?_)
  rw [cz_cI hK9] at hP hD
  have hP : va_P (dC, dI) vwCl [(h0, .inr (7, [.int 0, .int 0, .int 0, .int (-1), .int (-1), .int 0, .int 0, .ref q_1, .ref q_2, .ref q_3, .ref q_4, .null, .int 0, .null, .int 0, .int 0, .null, .null, .null, .long 0, .int 0, .int 0, .int 0, .int 0, .int 0, .int 0, .null, .null, .null, .null, .long 0])), (q_1, .inl (cI, 6, .inl (fun _ => 0))), (q_2, .inl (cI, 6, .inl (fun _ => 0))), (q_3, .inl (cI, 6, .inl (fun _ => 0))), (q_4, .inl (cI, 6, .inl (fun _ => 0))), (q_5, .inl (cI, 6, .inl (fun _ => 0)))] H := hP
  have hD : va_D A [(h0, .inr (7, [.int 0, .int 0, .int 0, .int (-1), .int (-1), .int 0, .int 0, .ref q_1, .ref q_2, .ref q_3, .ref q_4, .null, .int 0, .null, .int 0, .int 0, .null, .null, .null, .long 0, .int 0, .int 0, .int 0, .int 0, .int 0, .int 0, .null, .null, .null, .null, .long 0])), (q_1, .inl (cI, 6, .inl (fun _ => 0))), (q_2, .inl (cI, 6, .inl (fun _ => 0))), (q_3, .inl (cI, 6, .inl (fun _ => 0))), (q_4, .inl (cI, 6, .inl (fun _ => 0))), (q_5, .inl (cI, 6, .inl (fun _ => 0)))] := hD
  refine W.widen (k := 5) (n := 30) (Nat.le_of_ble_eq_true rfl) (Nat.le_of_ble_eq_true rfl) ?_
  refine va_putF (D := (dC, dI)) (ci := 7) (v := .ref q_5) (ty := .array .int) (C := RX7) (T := TX7) (N := 31) hx hb hts hiX7 tyX7 tyX7_ok nmX7 hown hK hP hD hS 0 rfl rfl 11 (by decide) (hts (.fieldLink RX7 29 "LeftProfileModel" "toldOf" "[I") (List.mem_of_getElem? (i := 11) rfl)) (fun _ h9 => h9) rfl hin rfl (by decide +kernel) rfl rfl (Nat.le_of_ble_eq_true rfl) dX7_init_51 (fun H locs hP hD hS => ?_)
  have hP : va_P (dC, dI) vwCl [(h0, .inr (7, [.int 0, .int 0, .int 0, .int (-1), .int (-1), .int 0, .int 0, .ref q_1, .ref q_2, .ref q_3, .ref q_4, .ref q_5, .int 0, .null, .int 0, .int 0, .null, .null, .null, .long 0, .int 0, .int 0, .int 0, .int 0, .int 0, .int 0, .null, .null, .null, .null, .long 0])), (q_1, .inl (cI, 6, .inl (fun _ => 0))), (q_2, .inl (cI, 6, .inl (fun _ => 0))), (q_3, .inl (cI, 6, .inl (fun _ => 0))), (q_4, .inl (cI, 6, .inl (fun _ => 0))), (q_5, .inl (cI, 6, .inl (fun _ => 0)))] H := hP
  have hD : va_D A [(h0, .inr (7, [.int 0, .int 0, .int 0, .int (-1), .int (-1), .int 0, .int 0, .ref q_1, .ref q_2, .ref q_3, .ref q_4, .ref q_5, .int 0, .null, .int 0, .int 0, .null, .null, .null, .long 0, .int 0, .int 0, .int 0, .int 0, .int 0, .int 0, .null, .null, .null, .null, .long 0])), (q_1, .inl (cI, 6, .inl (fun _ => 0))), (q_2, .inl (cI, 6, .inl (fun _ => 0))), (q_3, .inl (cI, 6, .inl (fun _ => 0))), (q_4, .inl (cI, 6, .inl (fun _ => 0))), (q_5, .inl (cI, 6, .inl (fun _ => 0)))] := hD
  refine lv_aload_n hx hb dX7_init_54 rfl (lv_at hl 0 rfl) ?_
  refine lv_bipush (v := 24) hx hb dX7_init_55 (by decide) ?_
  refine va_newa (N' := 24) (a0 := (24, .inl (fun _ => 0))) hx hb (atype := .byte) (hts (.arrayClass .byte) (List.mem_of_getElem? (i := 12) rfl)) rfl hK hP hD hS hA (fun _ => rfl) (by decide) (by decide) (by decide) (Nat.le_of_ble_eq_true rfl) (Nat.le_of_ble_eq_true rfl) dX7_init_57 (fun q_6 cA H hK9 hP hD hS => ?_)
  rw [cz_cB hK9] at hP hD
  have hP : va_P (dC, dI) vwCl [(h0, .inr (7, [.int 0, .int 0, .int 0, .int (-1), .int (-1), .int 0, .int 0, .ref q_1, .ref q_2, .ref q_3, .ref q_4, .ref q_5, .int 0, .null, .int 0, .int 0, .null, .null, .null, .long 0, .int 0, .int 0, .int 0, .int 0, .int 0, .int 0, .null, .null, .null, .null, .long 0])), (q_1, .inl (cI, 6, .inl (fun _ => 0))), (q_2, .inl (cI, 6, .inl (fun _ => 0))), (q_3, .inl (cI, 6, .inl (fun _ => 0))), (q_4, .inl (cI, 6, .inl (fun _ => 0))), (q_5, .inl (cI, 6, .inl (fun _ => 0))), (q_6, .inl (cB, 24, .inl (fun _ => 0)))] H := hP
  have hD : va_D A [(h0, .inr (7, [.int 0, .int 0, .int 0, .int (-1), .int (-1), .int 0, .int 0, .ref q_1, .ref q_2, .ref q_3, .ref q_4, .ref q_5, .int 0, .null, .int 0, .int 0, .null, .null, .null, .long 0, .int 0, .int 0, .int 0, .int 0, .int 0, .int 0, .null, .null, .null, .null, .long 0])), (q_1, .inl (cI, 6, .inl (fun _ => 0))), (q_2, .inl (cI, 6, .inl (fun _ => 0))), (q_3, .inl (cI, 6, .inl (fun _ => 0))), (q_4, .inl (cI, 6, .inl (fun _ => 0))), (q_5, .inl (cI, 6, .inl (fun _ => 0))), (q_6, .inl (cB, 24, .inl (fun _ => 0)))] := hD
  refine W.widen (k := 6) (n := 54) (Nat.le_of_ble_eq_true rfl) (Nat.le_of_ble_eq_true rfl) ?_
  refine va_putF (D := (dC, dI)) (ci := 7) (v := .ref q_6) (ty := .array .byte) (C := RX7) (T := TX7) (N := 31) hx hb hts hiX7 tyX7 tyX7_ok nmX7 hown hK hP hD hS 0 rfl rfl 13 (by decide) (hts (.fieldLink RX7 32 "LeftProfileModel" "page" "[B") (List.mem_of_getElem? (i := 13) rfl)) (fun _ h9 => h9) rfl hin rfl (by decide +kernel) rfl rfl (Nat.le_of_ble_eq_true rfl) dX7_init_59 (fun H locs hP hD hS => ?_)
  have hP : va_P (dC, dI) vwCl [(h0, .inr (7, [.int 0, .int 0, .int 0, .int (-1), .int (-1), .int 0, .int 0, .ref q_1, .ref q_2, .ref q_3, .ref q_4, .ref q_5, .int 0, .ref q_6, .int 0, .int 0, .null, .null, .null, .long 0, .int 0, .int 0, .int 0, .int 0, .int 0, .int 0, .null, .null, .null, .null, .long 0])), (q_1, .inl (cI, 6, .inl (fun _ => 0))), (q_2, .inl (cI, 6, .inl (fun _ => 0))), (q_3, .inl (cI, 6, .inl (fun _ => 0))), (q_4, .inl (cI, 6, .inl (fun _ => 0))), (q_5, .inl (cI, 6, .inl (fun _ => 0))), (q_6, .inl (cB, 24, .inl (fun _ => 0)))] H := hP
  have hD : va_D A [(h0, .inr (7, [.int 0, .int 0, .int 0, .int (-1), .int (-1), .int 0, .int 0, .ref q_1, .ref q_2, .ref q_3, .ref q_4, .ref q_5, .int 0, .ref q_6, .int 0, .int 0, .null, .null, .null, .long 0, .int 0, .int 0, .int 0, .int 0, .int 0, .int 0, .null, .null, .null, .null, .long 0])), (q_1, .inl (cI, 6, .inl (fun _ => 0))), (q_2, .inl (cI, 6, .inl (fun _ => 0))), (q_3, .inl (cI, 6, .inl (fun _ => 0))), (q_4, .inl (cI, 6, .inl (fun _ => 0))), (q_5, .inl (cI, 6, .inl (fun _ => 0))), (q_6, .inl (cB, 24, .inl (fun _ => 0)))] := hD
  refine lv_aload_n hx hb dX7_init_62 rfl (lv_at hl 0 rfl) ?_
  refine lv_iconst (v := 3) hx hb dX7_init_63 (by decide) ?_
  refine va_newa (N' := 3) (a0 := (3, .inl (fun _ => 0))) hx hb (atype := .int) (hts (.arrayClass .int) (List.mem_of_getElem? (i := 6) rfl)) rfl hK hP hD hS hA (fun _ => rfl) (by decide) (by decide) (by decide) (Nat.le_of_ble_eq_true rfl) (Nat.le_of_ble_eq_true rfl) dX7_init_64 (fun q_7 cA H hK9 hP hD hS => ?_)
  rw [cz_cI hK9] at hP hD
  have hP : va_P (dC, dI) vwCl [(h0, .inr (7, [.int 0, .int 0, .int 0, .int (-1), .int (-1), .int 0, .int 0, .ref q_1, .ref q_2, .ref q_3, .ref q_4, .ref q_5, .int 0, .ref q_6, .int 0, .int 0, .null, .null, .null, .long 0, .int 0, .int 0, .int 0, .int 0, .int 0, .int 0, .null, .null, .null, .null, .long 0])), (q_1, .inl (cI, 6, .inl (fun _ => 0))), (q_2, .inl (cI, 6, .inl (fun _ => 0))), (q_3, .inl (cI, 6, .inl (fun _ => 0))), (q_4, .inl (cI, 6, .inl (fun _ => 0))), (q_5, .inl (cI, 6, .inl (fun _ => 0))), (q_6, .inl (cB, 24, .inl (fun _ => 0))), (q_7, .inl (cI, 3, .inl (fun _ => 0)))] H := hP
  have hD : va_D A [(h0, .inr (7, [.int 0, .int 0, .int 0, .int (-1), .int (-1), .int 0, .int 0, .ref q_1, .ref q_2, .ref q_3, .ref q_4, .ref q_5, .int 0, .ref q_6, .int 0, .int 0, .null, .null, .null, .long 0, .int 0, .int 0, .int 0, .int 0, .int 0, .int 0, .null, .null, .null, .null, .long 0])), (q_1, .inl (cI, 6, .inl (fun _ => 0))), (q_2, .inl (cI, 6, .inl (fun _ => 0))), (q_3, .inl (cI, 6, .inl (fun _ => 0))), (q_4, .inl (cI, 6, .inl (fun _ => 0))), (q_5, .inl (cI, 6, .inl (fun _ => 0))), (q_6, .inl (cB, 24, .inl (fun _ => 0))), (q_7, .inl (cI, 3, .inl (fun _ => 0)))] := hD
  refine W.widen (k := 7) (n := 57) (Nat.le_of_ble_eq_true rfl) (Nat.le_of_ble_eq_true rfl) ?_
  refine va_putF (D := (dC, dI)) (ci := 7) (v := .ref q_7) (ty := .array .int) (C := RX7) (T := TX7) (N := 31) hx hb hts hiX7 tyX7 tyX7_ok nmX7 hown hK hP hD hS 0 rfl rfl 16 (by decide) (hts (.fieldLink RX7 36 "LeftProfileModel" "roomAt" "[I") (List.mem_of_getElem? (i := 14) rfl)) (fun _ h9 => h9) rfl hin rfl (by decide +kernel) rfl rfl (Nat.le_of_ble_eq_true rfl) dX7_init_66 (fun H locs hP hD hS => ?_)
  have hP : va_P (dC, dI) vwCl [(h0, .inr (7, [.int 0, .int 0, .int 0, .int (-1), .int (-1), .int 0, .int 0, .ref q_1, .ref q_2, .ref q_3, .ref q_4, .ref q_5, .int 0, .ref q_6, .int 0, .int 0, .ref q_7, .null, .null, .long 0, .int 0, .int 0, .int 0, .int 0, .int 0, .int 0, .null, .null, .null, .null, .long 0])), (q_1, .inl (cI, 6, .inl (fun _ => 0))), (q_2, .inl (cI, 6, .inl (fun _ => 0))), (q_3, .inl (cI, 6, .inl (fun _ => 0))), (q_4, .inl (cI, 6, .inl (fun _ => 0))), (q_5, .inl (cI, 6, .inl (fun _ => 0))), (q_6, .inl (cB, 24, .inl (fun _ => 0))), (q_7, .inl (cI, 3, .inl (fun _ => 0)))] H := hP
  have hD : va_D A [(h0, .inr (7, [.int 0, .int 0, .int 0, .int (-1), .int (-1), .int 0, .int 0, .ref q_1, .ref q_2, .ref q_3, .ref q_4, .ref q_5, .int 0, .ref q_6, .int 0, .int 0, .ref q_7, .null, .null, .long 0, .int 0, .int 0, .int 0, .int 0, .int 0, .int 0, .null, .null, .null, .null, .long 0])), (q_1, .inl (cI, 6, .inl (fun _ => 0))), (q_2, .inl (cI, 6, .inl (fun _ => 0))), (q_3, .inl (cI, 6, .inl (fun _ => 0))), (q_4, .inl (cI, 6, .inl (fun _ => 0))), (q_5, .inl (cI, 6, .inl (fun _ => 0))), (q_6, .inl (cB, 24, .inl (fun _ => 0))), (q_7, .inl (cI, 3, .inl (fun _ => 0)))] := hD
  refine lv_aload_n hx hb dX7_init_69 rfl (lv_at hl 0 rfl) ?_
  refine lv_bipush (v := 80) hx hb dX7_init_70 (by decide) ?_
  refine va_newa (N' := 80) (a0 := (80, .inl (fun _ => 0))) hx hb (atype := .int) (hts (.arrayClass .int) (List.mem_of_getElem? (i := 6) rfl)) rfl hK hP hD hS hA (fun _ => rfl) (by decide) (by decide) (by decide) (Nat.le_of_ble_eq_true rfl) (Nat.le_of_ble_eq_true rfl) dX7_init_72 (fun q_8 cA H hK9 hP hD hS => ?_)
  rw [cz_cI hK9] at hP hD
  have hP : va_P (dC, dI) vwCl [(h0, .inr (7, [.int 0, .int 0, .int 0, .int (-1), .int (-1), .int 0, .int 0, .ref q_1, .ref q_2, .ref q_3, .ref q_4, .ref q_5, .int 0, .ref q_6, .int 0, .int 0, .ref q_7, .null, .null, .long 0, .int 0, .int 0, .int 0, .int 0, .int 0, .int 0, .null, .null, .null, .null, .long 0])), (q_1, .inl (cI, 6, .inl (fun _ => 0))), (q_2, .inl (cI, 6, .inl (fun _ => 0))), (q_3, .inl (cI, 6, .inl (fun _ => 0))), (q_4, .inl (cI, 6, .inl (fun _ => 0))), (q_5, .inl (cI, 6, .inl (fun _ => 0))), (q_6, .inl (cB, 24, .inl (fun _ => 0))), (q_7, .inl (cI, 3, .inl (fun _ => 0))), (q_8, .inl (cI, 80, .inl (fun _ => 0)))] H := hP
  have hD : va_D A [(h0, .inr (7, [.int 0, .int 0, .int 0, .int (-1), .int (-1), .int 0, .int 0, .ref q_1, .ref q_2, .ref q_3, .ref q_4, .ref q_5, .int 0, .ref q_6, .int 0, .int 0, .ref q_7, .null, .null, .long 0, .int 0, .int 0, .int 0, .int 0, .int 0, .int 0, .null, .null, .null, .null, .long 0])), (q_1, .inl (cI, 6, .inl (fun _ => 0))), (q_2, .inl (cI, 6, .inl (fun _ => 0))), (q_3, .inl (cI, 6, .inl (fun _ => 0))), (q_4, .inl (cI, 6, .inl (fun _ => 0))), (q_5, .inl (cI, 6, .inl (fun _ => 0))), (q_6, .inl (cB, 24, .inl (fun _ => 0))), (q_7, .inl (cI, 3, .inl (fun _ => 0))), (q_8, .inl (cI, 80, .inl (fun _ => 0)))] := hD
  refine W.widen (k := 8) (n := 137) (Nat.le_of_ble_eq_true rfl) (Nat.le_of_ble_eq_true rfl) ?_
  refine va_putF (D := (dC, dI)) (ci := 7) (v := .ref q_8) (ty := .array .int) (C := RX7) (T := TX7) (N := 31) hx hb hts hiX7 tyX7 tyX7_ok nmX7 hown hK hP hD hS 0 rfl rfl 17 (by decide) (hts (.fieldLink RX7 39 "LeftProfileModel" "firstOf" "[I") (List.mem_of_getElem? (i := 15) rfl)) (fun _ h9 => h9) rfl hin rfl (by decide +kernel) rfl rfl (Nat.le_of_ble_eq_true rfl) dX7_init_74 (fun H locs hP hD hS => ?_)
  have hP : va_P (dC, dI) vwCl [(h0, .inr (7, [.int 0, .int 0, .int 0, .int (-1), .int (-1), .int 0, .int 0, .ref q_1, .ref q_2, .ref q_3, .ref q_4, .ref q_5, .int 0, .ref q_6, .int 0, .int 0, .ref q_7, .ref q_8, .null, .long 0, .int 0, .int 0, .int 0, .int 0, .int 0, .int 0, .null, .null, .null, .null, .long 0])), (q_1, .inl (cI, 6, .inl (fun _ => 0))), (q_2, .inl (cI, 6, .inl (fun _ => 0))), (q_3, .inl (cI, 6, .inl (fun _ => 0))), (q_4, .inl (cI, 6, .inl (fun _ => 0))), (q_5, .inl (cI, 6, .inl (fun _ => 0))), (q_6, .inl (cB, 24, .inl (fun _ => 0))), (q_7, .inl (cI, 3, .inl (fun _ => 0))), (q_8, .inl (cI, 80, .inl (fun _ => 0)))] H := hP
  have hD : va_D A [(h0, .inr (7, [.int 0, .int 0, .int 0, .int (-1), .int (-1), .int 0, .int 0, .ref q_1, .ref q_2, .ref q_3, .ref q_4, .ref q_5, .int 0, .ref q_6, .int 0, .int 0, .ref q_7, .ref q_8, .null, .long 0, .int 0, .int 0, .int 0, .int 0, .int 0, .int 0, .null, .null, .null, .null, .long 0])), (q_1, .inl (cI, 6, .inl (fun _ => 0))), (q_2, .inl (cI, 6, .inl (fun _ => 0))), (q_3, .inl (cI, 6, .inl (fun _ => 0))), (q_4, .inl (cI, 6, .inl (fun _ => 0))), (q_5, .inl (cI, 6, .inl (fun _ => 0))), (q_6, .inl (cB, 24, .inl (fun _ => 0))), (q_7, .inl (cI, 3, .inl (fun _ => 0))), (q_8, .inl (cI, 80, .inl (fun _ => 0)))] := hD
  refine lv_aload_n hx hb dX7_init_77 rfl (lv_at hl 0 rfl) ?_
  refine lv_bipush (v := 80) hx hb dX7_init_78 (by decide) ?_
  refine va_newa (N' := 80) (a0 := (80, .inl (fun _ => 0))) hx hb (atype := .int) (hts (.arrayClass .int) (List.mem_of_getElem? (i := 6) rfl)) rfl hK hP hD hS hA (fun _ => rfl) (by decide) (by decide) (by decide) (Nat.le_of_ble_eq_true rfl) (Nat.le_of_ble_eq_true rfl) dX7_init_80 (fun q_9 cA H hK9 hP hD hS => ?_)
  rw [cz_cI hK9] at hP hD
  have hP : va_P (dC, dI) vwCl [(h0, .inr (7, [.int 0, .int 0, .int 0, .int (-1), .int (-1), .int 0, .int 0, .ref q_1, .ref q_2, .ref q_3, .ref q_4, .ref q_5, .int 0, .ref q_6, .int 0, .int 0, .ref q_7, .ref q_8, .null, .long 0, .int 0, .int 0, .int 0, .int 0, .int 0, .int 0, .null, .null, .null, .null, .long 0])), (q_1, .inl (cI, 6, .inl (fun _ => 0))), (q_2, .inl (cI, 6, .inl (fun _ => 0))), (q_3, .inl (cI, 6, .inl (fun _ => 0))), (q_4, .inl (cI, 6, .inl (fun _ => 0))), (q_5, .inl (cI, 6, .inl (fun _ => 0))), (q_6, .inl (cB, 24, .inl (fun _ => 0))), (q_7, .inl (cI, 3, .inl (fun _ => 0))), (q_8, .inl (cI, 80, .inl (fun _ => 0))), (q_9, .inl (cI, 80, .inl (fun _ => 0)))] H := hP
  have hD : va_D A [(h0, .inr (7, [.int 0, .int 0, .int 0, .int (-1), .int (-1), .int 0, .int 0, .ref q_1, .ref q_2, .ref q_3, .ref q_4, .ref q_5, .int 0, .ref q_6, .int 0, .int 0, .ref q_7, .ref q_8, .null, .long 0, .int 0, .int 0, .int 0, .int 0, .int 0, .int 0, .null, .null, .null, .null, .long 0])), (q_1, .inl (cI, 6, .inl (fun _ => 0))), (q_2, .inl (cI, 6, .inl (fun _ => 0))), (q_3, .inl (cI, 6, .inl (fun _ => 0))), (q_4, .inl (cI, 6, .inl (fun _ => 0))), (q_5, .inl (cI, 6, .inl (fun _ => 0))), (q_6, .inl (cB, 24, .inl (fun _ => 0))), (q_7, .inl (cI, 3, .inl (fun _ => 0))), (q_8, .inl (cI, 80, .inl (fun _ => 0))), (q_9, .inl (cI, 80, .inl (fun _ => 0)))] := hD
  refine W.widen (k := 9) (n := 217) (Nat.le_of_ble_eq_true rfl) (Nat.le_of_ble_eq_true rfl) ?_
  refine va_putF (D := (dC, dI)) (ci := 7) (v := .ref q_9) (ty := .array .int) (C := RX7) (T := TX7) (N := 31) hx hb hts hiX7 tyX7 tyX7_ok nmX7 hown hK hP hD hS 0 rfl rfl 18 (by decide) (hts (.fieldLink RX7 42 "LeftProfileModel" "queue" "[I") (List.mem_of_getElem? (i := 16) rfl)) (fun _ h9 => h9) rfl hin rfl (by decide +kernel) rfl rfl (Nat.le_of_ble_eq_true rfl) dX7_init_82 (fun H locs hP hD hS => ?_)
  have hP : va_P (dC, dI) vwCl [(h0, .inr (7, [.int 0, .int 0, .int 0, .int (-1), .int (-1), .int 0, .int 0, .ref q_1, .ref q_2, .ref q_3, .ref q_4, .ref q_5, .int 0, .ref q_6, .int 0, .int 0, .ref q_7, .ref q_8, .ref q_9, .long 0, .int 0, .int 0, .int 0, .int 0, .int 0, .int 0, .null, .null, .null, .null, .long 0])), (q_1, .inl (cI, 6, .inl (fun _ => 0))), (q_2, .inl (cI, 6, .inl (fun _ => 0))), (q_3, .inl (cI, 6, .inl (fun _ => 0))), (q_4, .inl (cI, 6, .inl (fun _ => 0))), (q_5, .inl (cI, 6, .inl (fun _ => 0))), (q_6, .inl (cB, 24, .inl (fun _ => 0))), (q_7, .inl (cI, 3, .inl (fun _ => 0))), (q_8, .inl (cI, 80, .inl (fun _ => 0))), (q_9, .inl (cI, 80, .inl (fun _ => 0)))] H := hP
  have hD : va_D A [(h0, .inr (7, [.int 0, .int 0, .int 0, .int (-1), .int (-1), .int 0, .int 0, .ref q_1, .ref q_2, .ref q_3, .ref q_4, .ref q_5, .int 0, .ref q_6, .int 0, .int 0, .ref q_7, .ref q_8, .ref q_9, .long 0, .int 0, .int 0, .int 0, .int 0, .int 0, .int 0, .null, .null, .null, .null, .long 0])), (q_1, .inl (cI, 6, .inl (fun _ => 0))), (q_2, .inl (cI, 6, .inl (fun _ => 0))), (q_3, .inl (cI, 6, .inl (fun _ => 0))), (q_4, .inl (cI, 6, .inl (fun _ => 0))), (q_5, .inl (cI, 6, .inl (fun _ => 0))), (q_6, .inl (cB, 24, .inl (fun _ => 0))), (q_7, .inl (cI, 3, .inl (fun _ => 0))), (q_8, .inl (cI, 80, .inl (fun _ => 0))), (q_9, .inl (cI, 80, .inl (fun _ => 0)))] := hD
  refine lv_aload_n hx hb dX7_init_85 rfl (lv_at hl 0 rfl) ?_
  refine lv_bipush (v := 6) hx hb dX7_init_86 (by decide) ?_
  refine va_newa (N' := 6) (a0 := (6, .inl (fun _ => 0))) hx hb (atype := .int) (hts (.arrayClass .int) (List.mem_of_getElem? (i := 6) rfl)) rfl hK hP hD hS hA (fun _ => rfl) (by decide) (by decide) (by decide) (Nat.le_of_ble_eq_true rfl) (Nat.le_of_ble_eq_true rfl) dX7_init_88 (fun q_10 cA H hK9 hP hD hS => ?_)
  rw [cz_cI hK9] at hP hD
  have hP : va_P (dC, dI) vwCl [(h0, .inr (7, [.int 0, .int 0, .int 0, .int (-1), .int (-1), .int 0, .int 0, .ref q_1, .ref q_2, .ref q_3, .ref q_4, .ref q_5, .int 0, .ref q_6, .int 0, .int 0, .ref q_7, .ref q_8, .ref q_9, .long 0, .int 0, .int 0, .int 0, .int 0, .int 0, .int 0, .null, .null, .null, .null, .long 0])), (q_1, .inl (cI, 6, .inl (fun _ => 0))), (q_2, .inl (cI, 6, .inl (fun _ => 0))), (q_3, .inl (cI, 6, .inl (fun _ => 0))), (q_4, .inl (cI, 6, .inl (fun _ => 0))), (q_5, .inl (cI, 6, .inl (fun _ => 0))), (q_6, .inl (cB, 24, .inl (fun _ => 0))), (q_7, .inl (cI, 3, .inl (fun _ => 0))), (q_8, .inl (cI, 80, .inl (fun _ => 0))), (q_9, .inl (cI, 80, .inl (fun _ => 0))), (q_10, .inl (cI, 6, .inl (fun _ => 0)))] H := hP
  have hD : va_D A [(h0, .inr (7, [.int 0, .int 0, .int 0, .int (-1), .int (-1), .int 0, .int 0, .ref q_1, .ref q_2, .ref q_3, .ref q_4, .ref q_5, .int 0, .ref q_6, .int 0, .int 0, .ref q_7, .ref q_8, .ref q_9, .long 0, .int 0, .int 0, .int 0, .int 0, .int 0, .int 0, .null, .null, .null, .null, .long 0])), (q_1, .inl (cI, 6, .inl (fun _ => 0))), (q_2, .inl (cI, 6, .inl (fun _ => 0))), (q_3, .inl (cI, 6, .inl (fun _ => 0))), (q_4, .inl (cI, 6, .inl (fun _ => 0))), (q_5, .inl (cI, 6, .inl (fun _ => 0))), (q_6, .inl (cB, 24, .inl (fun _ => 0))), (q_7, .inl (cI, 3, .inl (fun _ => 0))), (q_8, .inl (cI, 80, .inl (fun _ => 0))), (q_9, .inl (cI, 80, .inl (fun _ => 0))), (q_10, .inl (cI, 6, .inl (fun _ => 0)))] := hD
  refine W.widen (k := 10) (n := 223) (Nat.le_of_ble_eq_true rfl) (Nat.le_of_ble_eq_true rfl) ?_
  refine va_putF (D := (dC, dI)) (ci := 7) (v := .ref q_10) (ty := .array .int) (C := RX7) (T := TX7) (N := 31) hx hb hts hiX7 tyX7 tyX7_ok nmX7 hown hK hP hD hS 0 rfl rfl 26 (by decide) (hts (.fieldLink RX7 45 "LeftProfileModel" "keptPlace" "[I") (List.mem_of_getElem? (i := 17) rfl)) (fun _ h9 => h9) rfl hin rfl (by decide +kernel) rfl rfl (Nat.le_of_ble_eq_true rfl) dX7_init_90 (fun H locs hP hD hS => ?_)
  have hP : va_P (dC, dI) vwCl [(h0, .inr (7, [.int 0, .int 0, .int 0, .int (-1), .int (-1), .int 0, .int 0, .ref q_1, .ref q_2, .ref q_3, .ref q_4, .ref q_5, .int 0, .ref q_6, .int 0, .int 0, .ref q_7, .ref q_8, .ref q_9, .long 0, .int 0, .int 0, .int 0, .int 0, .int 0, .int 0, .ref q_10, .null, .null, .null, .long 0])), (q_1, .inl (cI, 6, .inl (fun _ => 0))), (q_2, .inl (cI, 6, .inl (fun _ => 0))), (q_3, .inl (cI, 6, .inl (fun _ => 0))), (q_4, .inl (cI, 6, .inl (fun _ => 0))), (q_5, .inl (cI, 6, .inl (fun _ => 0))), (q_6, .inl (cB, 24, .inl (fun _ => 0))), (q_7, .inl (cI, 3, .inl (fun _ => 0))), (q_8, .inl (cI, 80, .inl (fun _ => 0))), (q_9, .inl (cI, 80, .inl (fun _ => 0))), (q_10, .inl (cI, 6, .inl (fun _ => 0)))] H := hP
  have hD : va_D A [(h0, .inr (7, [.int 0, .int 0, .int 0, .int (-1), .int (-1), .int 0, .int 0, .ref q_1, .ref q_2, .ref q_3, .ref q_4, .ref q_5, .int 0, .ref q_6, .int 0, .int 0, .ref q_7, .ref q_8, .ref q_9, .long 0, .int 0, .int 0, .int 0, .int 0, .int 0, .int 0, .ref q_10, .null, .null, .null, .long 0])), (q_1, .inl (cI, 6, .inl (fun _ => 0))), (q_2, .inl (cI, 6, .inl (fun _ => 0))), (q_3, .inl (cI, 6, .inl (fun _ => 0))), (q_4, .inl (cI, 6, .inl (fun _ => 0))), (q_5, .inl (cI, 6, .inl (fun _ => 0))), (q_6, .inl (cB, 24, .inl (fun _ => 0))), (q_7, .inl (cI, 3, .inl (fun _ => 0))), (q_8, .inl (cI, 80, .inl (fun _ => 0))), (q_9, .inl (cI, 80, .inl (fun _ => 0))), (q_10, .inl (cI, 6, .inl (fun _ => 0)))] := hD
  refine lv_aload_n hx hb dX7_init_93 rfl (lv_at hl 0 rfl) ?_
  refine lv_bipush (v := 6) hx hb dX7_init_94 (by decide) ?_
  refine va_newa (N' := 6) (a0 := (6, .inl (fun _ => 0))) hx hb (atype := .int) (hts (.arrayClass .int) (List.mem_of_getElem? (i := 6) rfl)) rfl hK hP hD hS hA (fun _ => rfl) (by decide) (by decide) (by decide) (Nat.le_of_ble_eq_true rfl) (Nat.le_of_ble_eq_true rfl) dX7_init_96 (fun q_11 cA H hK9 hP hD hS => ?_)
  rw [cz_cI hK9] at hP hD
  have hP : va_P (dC, dI) vwCl [(h0, .inr (7, [.int 0, .int 0, .int 0, .int (-1), .int (-1), .int 0, .int 0, .ref q_1, .ref q_2, .ref q_3, .ref q_4, .ref q_5, .int 0, .ref q_6, .int 0, .int 0, .ref q_7, .ref q_8, .ref q_9, .long 0, .int 0, .int 0, .int 0, .int 0, .int 0, .int 0, .ref q_10, .null, .null, .null, .long 0])), (q_1, .inl (cI, 6, .inl (fun _ => 0))), (q_2, .inl (cI, 6, .inl (fun _ => 0))), (q_3, .inl (cI, 6, .inl (fun _ => 0))), (q_4, .inl (cI, 6, .inl (fun _ => 0))), (q_5, .inl (cI, 6, .inl (fun _ => 0))), (q_6, .inl (cB, 24, .inl (fun _ => 0))), (q_7, .inl (cI, 3, .inl (fun _ => 0))), (q_8, .inl (cI, 80, .inl (fun _ => 0))), (q_9, .inl (cI, 80, .inl (fun _ => 0))), (q_10, .inl (cI, 6, .inl (fun _ => 0))), (q_11, .inl (cI, 6, .inl (fun _ => 0)))] H := hP
  have hD : va_D A [(h0, .inr (7, [.int 0, .int 0, .int 0, .int (-1), .int (-1), .int 0, .int 0, .ref q_1, .ref q_2, .ref q_3, .ref q_4, .ref q_5, .int 0, .ref q_6, .int 0, .int 0, .ref q_7, .ref q_8, .ref q_9, .long 0, .int 0, .int 0, .int 0, .int 0, .int 0, .int 0, .ref q_10, .null, .null, .null, .long 0])), (q_1, .inl (cI, 6, .inl (fun _ => 0))), (q_2, .inl (cI, 6, .inl (fun _ => 0))), (q_3, .inl (cI, 6, .inl (fun _ => 0))), (q_4, .inl (cI, 6, .inl (fun _ => 0))), (q_5, .inl (cI, 6, .inl (fun _ => 0))), (q_6, .inl (cB, 24, .inl (fun _ => 0))), (q_7, .inl (cI, 3, .inl (fun _ => 0))), (q_8, .inl (cI, 80, .inl (fun _ => 0))), (q_9, .inl (cI, 80, .inl (fun _ => 0))), (q_10, .inl (cI, 6, .inl (fun _ => 0))), (q_11, .inl (cI, 6, .inl (fun _ => 0)))] := hD
  refine W.widen (k := 11) (n := 229) (Nat.le_of_ble_eq_true rfl) (Nat.le_of_ble_eq_true rfl) ?_
  refine va_putF (D := (dC, dI)) (ci := 7) (v := .ref q_11) (ty := .array .int) (C := RX7) (T := TX7) (N := 31) hx hb hts hiX7 tyX7 tyX7_ok nmX7 hown hK hP hD hS 0 rfl rfl 27 (by decide) (hts (.fieldLink RX7 48 "LeftProfileModel" "keptLeft" "[I") (List.mem_of_getElem? (i := 18) rfl)) (fun _ h9 => h9) rfl hin rfl (by decide +kernel) rfl rfl (Nat.le_of_ble_eq_true rfl) dX7_init_98 (fun H locs hP hD hS => ?_)
  have hP : va_P (dC, dI) vwCl [(h0, .inr (7, [.int 0, .int 0, .int 0, .int (-1), .int (-1), .int 0, .int 0, .ref q_1, .ref q_2, .ref q_3, .ref q_4, .ref q_5, .int 0, .ref q_6, .int 0, .int 0, .ref q_7, .ref q_8, .ref q_9, .long 0, .int 0, .int 0, .int 0, .int 0, .int 0, .int 0, .ref q_10, .ref q_11, .null, .null, .long 0])), (q_1, .inl (cI, 6, .inl (fun _ => 0))), (q_2, .inl (cI, 6, .inl (fun _ => 0))), (q_3, .inl (cI, 6, .inl (fun _ => 0))), (q_4, .inl (cI, 6, .inl (fun _ => 0))), (q_5, .inl (cI, 6, .inl (fun _ => 0))), (q_6, .inl (cB, 24, .inl (fun _ => 0))), (q_7, .inl (cI, 3, .inl (fun _ => 0))), (q_8, .inl (cI, 80, .inl (fun _ => 0))), (q_9, .inl (cI, 80, .inl (fun _ => 0))), (q_10, .inl (cI, 6, .inl (fun _ => 0))), (q_11, .inl (cI, 6, .inl (fun _ => 0)))] H := hP
  have hD : va_D A [(h0, .inr (7, [.int 0, .int 0, .int 0, .int (-1), .int (-1), .int 0, .int 0, .ref q_1, .ref q_2, .ref q_3, .ref q_4, .ref q_5, .int 0, .ref q_6, .int 0, .int 0, .ref q_7, .ref q_8, .ref q_9, .long 0, .int 0, .int 0, .int 0, .int 0, .int 0, .int 0, .ref q_10, .ref q_11, .null, .null, .long 0])), (q_1, .inl (cI, 6, .inl (fun _ => 0))), (q_2, .inl (cI, 6, .inl (fun _ => 0))), (q_3, .inl (cI, 6, .inl (fun _ => 0))), (q_4, .inl (cI, 6, .inl (fun _ => 0))), (q_5, .inl (cI, 6, .inl (fun _ => 0))), (q_6, .inl (cB, 24, .inl (fun _ => 0))), (q_7, .inl (cI, 3, .inl (fun _ => 0))), (q_8, .inl (cI, 80, .inl (fun _ => 0))), (q_9, .inl (cI, 80, .inl (fun _ => 0))), (q_10, .inl (cI, 6, .inl (fun _ => 0))), (q_11, .inl (cI, 6, .inl (fun _ => 0)))] := hD
  refine lv_aload_n hx hb dX7_init_101 rfl (lv_at hl 0 rfl) ?_
  refine lv_bipush (v := 6) hx hb dX7_init_102 (by decide) ?_
  refine va_newa (N' := 6) (a0 := (6, .inl (fun _ => 0))) hx hb (atype := .int) (hts (.arrayClass .int) (List.mem_of_getElem? (i := 6) rfl)) rfl hK hP hD hS hA (fun _ => rfl) (by decide) (by decide) (by decide) (Nat.le_of_ble_eq_true rfl) (Nat.le_of_ble_eq_true rfl) dX7_init_104 (fun q_12 cA H hK9 hP hD hS => ?_)
  rw [cz_cI hK9] at hP hD
  have hP : va_P (dC, dI) vwCl [(h0, .inr (7, [.int 0, .int 0, .int 0, .int (-1), .int (-1), .int 0, .int 0, .ref q_1, .ref q_2, .ref q_3, .ref q_4, .ref q_5, .int 0, .ref q_6, .int 0, .int 0, .ref q_7, .ref q_8, .ref q_9, .long 0, .int 0, .int 0, .int 0, .int 0, .int 0, .int 0, .ref q_10, .ref q_11, .null, .null, .long 0])), (q_1, .inl (cI, 6, .inl (fun _ => 0))), (q_2, .inl (cI, 6, .inl (fun _ => 0))), (q_3, .inl (cI, 6, .inl (fun _ => 0))), (q_4, .inl (cI, 6, .inl (fun _ => 0))), (q_5, .inl (cI, 6, .inl (fun _ => 0))), (q_6, .inl (cB, 24, .inl (fun _ => 0))), (q_7, .inl (cI, 3, .inl (fun _ => 0))), (q_8, .inl (cI, 80, .inl (fun _ => 0))), (q_9, .inl (cI, 80, .inl (fun _ => 0))), (q_10, .inl (cI, 6, .inl (fun _ => 0))), (q_11, .inl (cI, 6, .inl (fun _ => 0))), (q_12, .inl (cI, 6, .inl (fun _ => 0)))] H := hP
  have hD : va_D A [(h0, .inr (7, [.int 0, .int 0, .int 0, .int (-1), .int (-1), .int 0, .int 0, .ref q_1, .ref q_2, .ref q_3, .ref q_4, .ref q_5, .int 0, .ref q_6, .int 0, .int 0, .ref q_7, .ref q_8, .ref q_9, .long 0, .int 0, .int 0, .int 0, .int 0, .int 0, .int 0, .ref q_10, .ref q_11, .null, .null, .long 0])), (q_1, .inl (cI, 6, .inl (fun _ => 0))), (q_2, .inl (cI, 6, .inl (fun _ => 0))), (q_3, .inl (cI, 6, .inl (fun _ => 0))), (q_4, .inl (cI, 6, .inl (fun _ => 0))), (q_5, .inl (cI, 6, .inl (fun _ => 0))), (q_6, .inl (cB, 24, .inl (fun _ => 0))), (q_7, .inl (cI, 3, .inl (fun _ => 0))), (q_8, .inl (cI, 80, .inl (fun _ => 0))), (q_9, .inl (cI, 80, .inl (fun _ => 0))), (q_10, .inl (cI, 6, .inl (fun _ => 0))), (q_11, .inl (cI, 6, .inl (fun _ => 0))), (q_12, .inl (cI, 6, .inl (fun _ => 0)))] := hD
  refine W.widen (k := 12) (n := 235) (Nat.le_of_ble_eq_true rfl) (Nat.le_of_ble_eq_true rfl) ?_
  refine va_putF (D := (dC, dI)) (ci := 7) (v := .ref q_12) (ty := .array .int) (C := RX7) (T := TX7) (N := 31) hx hb hts hiX7 tyX7 tyX7_ok nmX7 hown hK hP hD hS 0 rfl rfl 28 (by decide) (hts (.fieldLink RX7 51 "LeftProfileModel" "keptRight" "[I") (List.mem_of_getElem? (i := 19) rfl)) (fun _ h9 => h9) rfl hin rfl (by decide +kernel) rfl rfl (Nat.le_of_ble_eq_true rfl) dX7_init_106 (fun H locs hP hD hS => ?_)
  have hP : va_P (dC, dI) vwCl [(h0, .inr (7, [.int 0, .int 0, .int 0, .int (-1), .int (-1), .int 0, .int 0, .ref q_1, .ref q_2, .ref q_3, .ref q_4, .ref q_5, .int 0, .ref q_6, .int 0, .int 0, .ref q_7, .ref q_8, .ref q_9, .long 0, .int 0, .int 0, .int 0, .int 0, .int 0, .int 0, .ref q_10, .ref q_11, .ref q_12, .null, .long 0])), (q_1, .inl (cI, 6, .inl (fun _ => 0))), (q_2, .inl (cI, 6, .inl (fun _ => 0))), (q_3, .inl (cI, 6, .inl (fun _ => 0))), (q_4, .inl (cI, 6, .inl (fun _ => 0))), (q_5, .inl (cI, 6, .inl (fun _ => 0))), (q_6, .inl (cB, 24, .inl (fun _ => 0))), (q_7, .inl (cI, 3, .inl (fun _ => 0))), (q_8, .inl (cI, 80, .inl (fun _ => 0))), (q_9, .inl (cI, 80, .inl (fun _ => 0))), (q_10, .inl (cI, 6, .inl (fun _ => 0))), (q_11, .inl (cI, 6, .inl (fun _ => 0))), (q_12, .inl (cI, 6, .inl (fun _ => 0)))] H := hP
  have hD : va_D A [(h0, .inr (7, [.int 0, .int 0, .int 0, .int (-1), .int (-1), .int 0, .int 0, .ref q_1, .ref q_2, .ref q_3, .ref q_4, .ref q_5, .int 0, .ref q_6, .int 0, .int 0, .ref q_7, .ref q_8, .ref q_9, .long 0, .int 0, .int 0, .int 0, .int 0, .int 0, .int 0, .ref q_10, .ref q_11, .ref q_12, .null, .long 0])), (q_1, .inl (cI, 6, .inl (fun _ => 0))), (q_2, .inl (cI, 6, .inl (fun _ => 0))), (q_3, .inl (cI, 6, .inl (fun _ => 0))), (q_4, .inl (cI, 6, .inl (fun _ => 0))), (q_5, .inl (cI, 6, .inl (fun _ => 0))), (q_6, .inl (cB, 24, .inl (fun _ => 0))), (q_7, .inl (cI, 3, .inl (fun _ => 0))), (q_8, .inl (cI, 80, .inl (fun _ => 0))), (q_9, .inl (cI, 80, .inl (fun _ => 0))), (q_10, .inl (cI, 6, .inl (fun _ => 0))), (q_11, .inl (cI, 6, .inl (fun _ => 0))), (q_12, .inl (cI, 6, .inl (fun _ => 0)))] := hD
  refine lv_aload_n hx hb dX7_init_109 rfl (lv_at hl 0 rfl) ?_
  refine lv_bipush (v := 6) hx hb dX7_init_110 (by decide) ?_
  refine va_newa (N' := 6) (a0 := (6, .inl (fun _ => 0))) hx hb (atype := .int) (hts (.arrayClass .int) (List.mem_of_getElem? (i := 6) rfl)) rfl hK hP hD hS hA (fun _ => rfl) (by decide) (by decide) (by decide) (Nat.le_of_ble_eq_true rfl) (Nat.le_of_ble_eq_true rfl) dX7_init_112 (fun q_13 cA H hK9 hP hD hS => ?_)
  rw [cz_cI hK9] at hP hD
  have hP : va_P (dC, dI) vwCl [(h0, .inr (7, [.int 0, .int 0, .int 0, .int (-1), .int (-1), .int 0, .int 0, .ref q_1, .ref q_2, .ref q_3, .ref q_4, .ref q_5, .int 0, .ref q_6, .int 0, .int 0, .ref q_7, .ref q_8, .ref q_9, .long 0, .int 0, .int 0, .int 0, .int 0, .int 0, .int 0, .ref q_10, .ref q_11, .ref q_12, .null, .long 0])), (q_1, .inl (cI, 6, .inl (fun _ => 0))), (q_2, .inl (cI, 6, .inl (fun _ => 0))), (q_3, .inl (cI, 6, .inl (fun _ => 0))), (q_4, .inl (cI, 6, .inl (fun _ => 0))), (q_5, .inl (cI, 6, .inl (fun _ => 0))), (q_6, .inl (cB, 24, .inl (fun _ => 0))), (q_7, .inl (cI, 3, .inl (fun _ => 0))), (q_8, .inl (cI, 80, .inl (fun _ => 0))), (q_9, .inl (cI, 80, .inl (fun _ => 0))), (q_10, .inl (cI, 6, .inl (fun _ => 0))), (q_11, .inl (cI, 6, .inl (fun _ => 0))), (q_12, .inl (cI, 6, .inl (fun _ => 0))), (q_13, .inl (cI, 6, .inl (fun _ => 0)))] H := hP
  have hD : va_D A [(h0, .inr (7, [.int 0, .int 0, .int 0, .int (-1), .int (-1), .int 0, .int 0, .ref q_1, .ref q_2, .ref q_3, .ref q_4, .ref q_5, .int 0, .ref q_6, .int 0, .int 0, .ref q_7, .ref q_8, .ref q_9, .long 0, .int 0, .int 0, .int 0, .int 0, .int 0, .int 0, .ref q_10, .ref q_11, .ref q_12, .null, .long 0])), (q_1, .inl (cI, 6, .inl (fun _ => 0))), (q_2, .inl (cI, 6, .inl (fun _ => 0))), (q_3, .inl (cI, 6, .inl (fun _ => 0))), (q_4, .inl (cI, 6, .inl (fun _ => 0))), (q_5, .inl (cI, 6, .inl (fun _ => 0))), (q_6, .inl (cB, 24, .inl (fun _ => 0))), (q_7, .inl (cI, 3, .inl (fun _ => 0))), (q_8, .inl (cI, 80, .inl (fun _ => 0))), (q_9, .inl (cI, 80, .inl (fun _ => 0))), (q_10, .inl (cI, 6, .inl (fun _ => 0))), (q_11, .inl (cI, 6, .inl (fun _ => 0))), (q_12, .inl (cI, 6, .inl (fun _ => 0))), (q_13, .inl (cI, 6, .inl (fun _ => 0)))] := hD
  refine W.widen (k := 13) (n := 241) (Nat.le_of_ble_eq_true rfl) (Nat.le_of_ble_eq_true rfl) ?_
  refine va_putF (D := (dC, dI)) (ci := 7) (v := .ref q_13) (ty := .array .int) (C := RX7) (T := TX7) (N := 31) hx hb hts hiX7 tyX7 tyX7_ok nmX7 hown hK hP hD hS 0 rfl rfl 29 (by decide) (hts (.fieldLink RX7 54 "LeftProfileModel" "keptTold" "[I") (List.mem_of_getElem? (i := 20) rfl)) (fun _ h9 => h9) rfl hin rfl (by decide +kernel) rfl rfl (Nat.le_of_ble_eq_true rfl) dX7_init_114 (fun H locs hP hD hS => ?_)
  have hP : va_P (dC, dI) vwCl [(h0, .inr (7, [.int 0, .int 0, .int 0, .int (-1), .int (-1), .int 0, .int 0, .ref q_1, .ref q_2, .ref q_3, .ref q_4, .ref q_5, .int 0, .ref q_6, .int 0, .int 0, .ref q_7, .ref q_8, .ref q_9, .long 0, .int 0, .int 0, .int 0, .int 0, .int 0, .int 0, .ref q_10, .ref q_11, .ref q_12, .ref q_13, .long 0])), (q_1, .inl (cI, 6, .inl (fun _ => 0))), (q_2, .inl (cI, 6, .inl (fun _ => 0))), (q_3, .inl (cI, 6, .inl (fun _ => 0))), (q_4, .inl (cI, 6, .inl (fun _ => 0))), (q_5, .inl (cI, 6, .inl (fun _ => 0))), (q_6, .inl (cB, 24, .inl (fun _ => 0))), (q_7, .inl (cI, 3, .inl (fun _ => 0))), (q_8, .inl (cI, 80, .inl (fun _ => 0))), (q_9, .inl (cI, 80, .inl (fun _ => 0))), (q_10, .inl (cI, 6, .inl (fun _ => 0))), (q_11, .inl (cI, 6, .inl (fun _ => 0))), (q_12, .inl (cI, 6, .inl (fun _ => 0))), (q_13, .inl (cI, 6, .inl (fun _ => 0)))] H := hP
  have hD : va_D A [(h0, .inr (7, [.int 0, .int 0, .int 0, .int (-1), .int (-1), .int 0, .int 0, .ref q_1, .ref q_2, .ref q_3, .ref q_4, .ref q_5, .int 0, .ref q_6, .int 0, .int 0, .ref q_7, .ref q_8, .ref q_9, .long 0, .int 0, .int 0, .int 0, .int 0, .int 0, .int 0, .ref q_10, .ref q_11, .ref q_12, .ref q_13, .long 0])), (q_1, .inl (cI, 6, .inl (fun _ => 0))), (q_2, .inl (cI, 6, .inl (fun _ => 0))), (q_3, .inl (cI, 6, .inl (fun _ => 0))), (q_4, .inl (cI, 6, .inl (fun _ => 0))), (q_5, .inl (cI, 6, .inl (fun _ => 0))), (q_6, .inl (cB, 24, .inl (fun _ => 0))), (q_7, .inl (cI, 3, .inl (fun _ => 0))), (q_8, .inl (cI, 80, .inl (fun _ => 0))), (q_9, .inl (cI, 80, .inl (fun _ => 0))), (q_10, .inl (cI, 6, .inl (fun _ => 0))), (q_11, .inl (cI, 6, .inl (fun _ => 0))), (q_12, .inl (cI, 6, .inl (fun _ => 0))), (q_13, .inl (cI, 6, .inl (fun _ => 0)))] := hD
  refine W.widen (k := 13) (n := 241) (Nat.le_of_ble_eq_true rfl) (Nat.le_of_ble_eq_true rfl) ?_
  have hP9 := hP.sub (ws' := [(h0, .inr (7, [.int 0, .int 0, .int 0, .int (-1), .int (-1), .int 0, .int 0, .ref q_1, .ref q_2, .ref q_3, .ref q_4, .ref q_5, .int 0, .ref q_6, .int 0, .int 0, .ref q_7, .ref q_8, .ref q_9, .long 0, .int 0, .int 0, .int 0, .int 0, .int 0, .int 0, .ref q_10, .ref q_11, .ref q_12, .ref q_13, .long 0])), (q_1, .inl (cI, 6, .inl (fun _ => 0))), (q_2, .inl (cI, 6, .inl (fun _ => 0))), (q_3, .inl (cI, 6, .inl (fun _ => 0))), (q_4, .inl (cI, 6, .inl (fun _ => 0))), (q_5, .inl (cI, 6, .inl (fun _ => 0))), (q_6, .inl (cB, 24, .inl (fun _ => 0))), (q_7, .inl (cI, 3, .inl (fun _ => 0))), (q_8, .inl (cI, 80, .inl (fun _ => 0))), (q_9, .inl (cI, 80, .inl (fun _ => 0))), (q_10, .inl (cI, 6, .inl (fun _ => 0))), (q_11, .inl (cI, 6, .inl (fun _ => 0))), (q_12, .inl (cI, 6, .inl (fun _ => 0))), (q_13, .inl (cI, 6, .inl (fun _ => 0)))]) [0, 1, 2, 3, 4, 5, 6, 7, 8, 9, 10, 11, 12, 13] rfl
  have hD9 := hD.sub (ws' := [(h0, .inr (7, [.int 0, .int 0, .int 0, .int (-1), .int (-1), .int 0, .int 0, .ref q_1, .ref q_2, .ref q_3, .ref q_4, .ref q_5, .int 0, .ref q_6, .int 0, .int 0, .ref q_7, .ref q_8, .ref q_9, .long 0, .int 0, .int 0, .int 0, .int 0, .int 0, .int 0, .ref q_10, .ref q_11, .ref q_12, .ref q_13, .long 0])), (q_1, .inl (cI, 6, .inl (fun _ => 0))), (q_2, .inl (cI, 6, .inl (fun _ => 0))), (q_3, .inl (cI, 6, .inl (fun _ => 0))), (q_4, .inl (cI, 6, .inl (fun _ => 0))), (q_5, .inl (cI, 6, .inl (fun _ => 0))), (q_6, .inl (cB, 24, .inl (fun _ => 0))), (q_7, .inl (cI, 3, .inl (fun _ => 0))), (q_8, .inl (cI, 80, .inl (fun _ => 0))), (q_9, .inl (cI, 80, .inl (fun _ => 0))), (q_10, .inl (cI, 6, .inl (fun _ => 0))), (q_11, .inl (cI, 6, .inl (fun _ => 0))), (q_12, .inl (cI, 6, .inl (fun _ => 0))), (q_13, .inl (cI, 6, .inl (fun _ => 0)))]) [0, 1, 2, 3, 4, 5, 6, 7, 8, 9, 10, 11, 12, 13] (by decide) rfl
  exact W.vret hx hb hr (fun t ht hW => ⟨⟨(), rfl, trivial, ⟨q_1, q_2, q_3, q_4, q_5, q_6, q_7, q_8, q_9, q_10, q_11, q_12, q_13, by rw [ht]; exact hP9, hD9⟩⟩, hS.F ht⟩) hS.2.2 dX7_init_117

theorem c_X6_neighbour_a1 (p0 : Int32) (p1 : Int32) (x_4 : Int32) (hr_1 : cz_in 0 p0 19) (c_2 : ¬ p1 < 0) (c_3 : p1 < 8) (ex_4 : x_4 = p0 / 5) : vp_in p1 8 := by rw [vp_in_iff]; (try simp only [cz_in, cz_lt, cz_le, cz_eq, cz_l] at *) <;> (first | omega | (simp_all; done))
theorem c_X6_neighbour_a2 (p0 : Int32) (p1 : Int32) (x_4 : Int32) (x_5 : Int32) (x_6 : Int32) (x_7 : Int32) (hr_1 : cz_in 0 p0 19) (c_2 : ¬ p1 < 0) (c_3 : p1 < 8) (ex_4 : x_4 = p0 / 5) (ex_5 : x_5 = cz_fR p1.toNatClampNeg) (ex_6 : x_6 = x_4 + x_5) (ex_7 : x_7 = p0 - p0 / 5 * 5) : vp_in p1 8 := by rw [vp_in_iff]; (try simp only [cz_in, cz_lt, cz_le, cz_eq, cz_l] at *) <;> (first | omega | (simp_all; done))
set_option maxHeartbeats 4000000 in
set_option maxRecDepth 100000 in
theorem c_X6_neighbour (l : Launch) (dC : Nat → ClassId) (dI : Nat → Nat → Nat) (cI cB : ClassId) (tR tC : Nat) (p0 : Int32) (p1 : Int32) : Met l yX6_neighbour wsX6_neighbour ({ frames := 1, cells := 0, slots := 0, locals := 20 }) (cz_PpT dC dI cI cB tR tC [.int p0, .int p1] []) (vp_Si (fun r : Int32 => True)) 0 0 (fun _ => False) := by
  refine Met.ofW (cc := cX6_neighbour) (maxL := 4) (ret := (some .int)) (by decide) rfl ?_
  intro p e s m args below meth c s₁ B hml hv
  obtain ⟨rfl, hP, hN, hSt⟩ := hv
  have hx := B.exec
  have hb := B.bytes
  have hr := B.returns
  have hts := atoms_spec (ws := wsX6_neighbour) B.pre
  have hown : s.vm.findClass RX6 = some m.cls := findClass_of_methodNamed B.named
  have hlocks := B.notSynchronized
  have hK := hN.1
  have hl := lv_entry ([.int p0, .int p1]) (n := 4) (Nat.le_of_ble_eq_true rfl)
  rw [lg_entry_eq]
  generalize (lg_sl ([.int p0, .int p1]) ++ List.replicate (4 - (lg_sl ([.int p0, .int p1])).length) Slot.unset).toArray = ls at hl ⊢
  have hl : lv_has ls 4 [(0, .int p0), (1, .int p1)] := hl
  refine lv_iload_n hx hb dX6_neighbour_0 rfl (lv_at hl 0 rfl) ?_
  refine vp_callSi (cz_run (va_runS (As := [.int p0]) (rest := []) ⟨hx, hb, hml, hown, hts⟩ (c_X6_isPlace l dC dI cI cB p0 ) (va_cwS 1 hts gX6_neighbour_X6_isPlace rfl rfl rfl (by decide +kernel) ⟨Nat.le_of_ble_eq_true rfl, Nat.le_of_ble_eq_true rfl⟩) (cz_pS hP hN) rfl rfl hl.1 rfl (lv_room (Nat.le_of_ble_eq_true rfl)) dX6_neighbour_1 ⟨Nat.le_of_ble_eq_true rfl, Nat.le_of_ble_eq_true rfl⟩)) (fun r_1 hr_1 => ?_)
  rcases hr_1 with ⟨rfl, hr_1⟩ | ⟨rfl, hr_1⟩
  · refine lv_if_eq (tgt := 17) hx hb dX6_neighbour_4 (by decide) (fun _ => ?_) (fun c => absurd (by decide) c)
    refine lv_iconst (v := (-1)) hx hb dX6_neighbour_17 (by decide) ?_
    exact W.iret (v := (-1)) hx hb hr (fun t ht hW => ⟨(-1), rfl, trivial, ht⟩) (fun _ h => absurd h List.not_mem_nil) dX6_neighbour_18
  · refine lv_if_eq (tgt := 17) hx hb dX6_neighbour_4 (by decide) (fun c => absurd c (by decide)) (fun _ => ?_)
    refine lv_iload_n hx hb dX6_neighbour_7 rfl (lv_at hl 1 rfl) ?_
    refine lv_if_lt (tgt := 17) hx hb dX6_neighbour_8 (by decide) (fun c_2 => ?_) (fun c_2 => ?_)
    · refine lv_iconst (v := (-1)) hx hb dX6_neighbour_17 (by decide) ?_
      exact W.iret (v := (-1)) hx hb hr (fun t ht hW => ⟨(-1), rfl, trivial, ht⟩) (fun _ h => absurd h List.not_mem_nil) dX6_neighbour_18
    · refine lv_iload_n hx hb dX6_neighbour_11 rfl (lv_at hl 1 rfl) ?_
      refine lv_bipush (v := 8) hx hb dX6_neighbour_12 (by decide) ?_
      refine lv_icmp_lt (tgt := 19) hx hb dX6_neighbour_14 (by decide) (fun c_3 => ?_) (fun c_3 => ?_)
      · refine lv_iload_n hx hb dX6_neighbour_19 rfl (lv_at hl 0 rfl) ?_
        refine lv_iconst (v := 5) hx hb dX6_neighbour_20 (by decide) ?_
        refine lv_idiv hx hb dX6_neighbour_21 (by decide) ?_
        refine lv_topi (fun x_4 ex_4 => ?_)
        refine va_gets hx hb hSt.1 va_S.rf hown (hts (.fieldLink RX6 240 "LeftProfile" "ROWS_ON" "[I") (List.mem_of_getElem? (i := 1) rfl)) (fun _ h9 => h9) dX6_neighbour_22 ?_
        refine lv_iload_n hx hb dX6_neighbour_25 rfl (lv_at hl 1 rfl) ?_
        refine va_ti hx hb hSt.2.1 va_S.rf (c_X6_neighbour_a1 p0 p1 x_4 hr_1 c_2 c_3 ex_4) (v := .int (cz_fR p1.toNatClampNeg)) rfl dX6_neighbour_26 ?_
        refine lv_topi (fun x_5 ex_5 => ?_)
        refine lv_iadd hx hb dX6_neighbour_27 ?_
        refine lv_topi (fun x_6 ex_6 => ?_)
        refine lv_istore_n (lv' := [(2, .int x_6), (0, .int p0), (1, .int p1)]) hx hb dX6_neighbour_28 rfl hl (by decide) rfl (fun ls hl => ?_)
        refine lv_iload_n hx hb dX6_neighbour_29 rfl (lv_at hl 1 rfl) ?_
        refine lv_iconst (v := 5) hx hb dX6_neighbour_30 (by decide) ?_
        refine lv_irem hx hb dX6_neighbour_31 (by decide) ?_
        refine lv_topi (fun x_7 ex_7 => ?_)
        refine va_gets hx hb hSt.2.2.1 va_S.rf hown (hts (.fieldLink RX6 243 "LeftProfile" "COLUMNS_ON" "[I") (List.mem_of_getElem? (i := 2) rfl)) (fun _ h9 => h9) dX6_neighbour_32 ?_
        refine lv_iload_n hx hb dX6_neighbour_35 rfl (lv_at hl 2 rfl) ?_
        refine va_ti hx hb hSt.2.2.2 va_S.rf (c_X6_neighbour_a2 p0 p1 x_4 x_5 x_6 x_7 hr_1 c_2 c_3 ex_4 ex_5 ex_6 ex_7) (v := .int (cz_fC p1.toNatClampNeg)) rfl dX6_neighbour_36 ?_
        refine lv_topi (fun x_8 ex_8 => ?_)
        refine lv_iadd hx hb dX6_neighbour_37 ?_
        refine lv_topi (fun x_9 ex_9 => ?_)
        refine lv_istore_n (lv' := [(3, .int x_9), (2, .int x_6), (0, .int p0), (1, .int p1)]) hx hb dX6_neighbour_38 rfl hl (by decide) rfl (fun ls hl => ?_)
        refine lv_iload_n hx hb dX6_neighbour_39 rfl (lv_at hl 1 rfl) ?_
        refine lv_if_lt (tgt := 57) hx hb dX6_neighbour_40 (by decide) (fun c_10 => ?_) (fun c_10 => ?_)
        · refine lv_iconst (v := (-1)) hx hb dX6_neighbour_57 (by decide) ?_
          exact W.iret (v := (-1)) hx hb hr (fun t ht hW => ⟨(-1), rfl, trivial, ht⟩) (fun _ h => absurd h List.not_mem_nil) dX6_neighbour_58
        · refine lv_iload_n hx hb dX6_neighbour_43 rfl (lv_at hl 1 rfl) ?_
          refine lv_iconst (v := 4) hx hb dX6_neighbour_44 (by decide) ?_
          refine lv_icmp_ge (tgt := 57) hx hb dX6_neighbour_45 (by decide) (fun c_11 => ?_) (fun c_11 => ?_)
          · refine lv_iconst (v := (-1)) hx hb dX6_neighbour_57 (by decide) ?_
            exact W.iret (v := (-1)) hx hb hr (fun t ht hW => ⟨(-1), rfl, trivial, ht⟩) (fun _ h => absurd h List.not_mem_nil) dX6_neighbour_58
          · refine lv_iload_n hx hb dX6_neighbour_48 rfl (lv_at hl 0 rfl) ?_
            refine lv_if_lt (tgt := 57) hx hb dX6_neighbour_49 (by decide) (fun c_12 => ?_) (fun c_12 => ?_)
            · refine lv_iconst (v := (-1)) hx hb dX6_neighbour_57 (by decide) ?_
              exact W.iret (v := (-1)) hx hb hr (fun t ht hW => ⟨(-1), rfl, trivial, ht⟩) (fun _ h => absurd h List.not_mem_nil) dX6_neighbour_58
            · refine lv_iload_n hx hb dX6_neighbour_52 rfl (lv_at hl 0 rfl) ?_
              refine lv_iconst (v := 5) hx hb dX6_neighbour_53 (by decide) ?_
              refine lv_icmp_lt (tgt := 59) hx hb dX6_neighbour_54 (by decide) (fun c_13 => ?_) (fun c_13 => ?_)
              · refine lv_iload_n hx hb dX6_neighbour_59 rfl (lv_at hl 1 rfl) ?_
                refine lv_iconst (v := 5) hx hb dX6_neighbour_60 (by decide) ?_
                refine lv_imul hx hb dX6_neighbour_61 ?_
                refine lv_topi (fun x_14 ex_14 => ?_)
                refine lv_iload_n hx hb dX6_neighbour_62 rfl (lv_at hl 0 rfl) ?_
                refine lv_iadd hx hb dX6_neighbour_63 ?_
                refine lv_topi (fun x_15 ex_15 => ?_)
                exact W.iret (v := x_15) hx hb hr (fun t ht hW => ⟨x_15, rfl, trivial, ht⟩) (fun _ h => absurd h List.not_mem_nil) dX6_neighbour_64
              · refine lv_iconst (v := (-1)) hx hb dX6_neighbour_57 (by decide) ?_
                exact W.iret (v := (-1)) hx hb hr (fun t ht hW => ⟨(-1), rfl, trivial, ht⟩) (fun _ h => absurd h List.not_mem_nil) dX6_neighbour_58
      · refine lv_iconst (v := (-1)) hx hb dX6_neighbour_17 (by decide) ?_
        exact W.iret (v := (-1)) hx hb hr (fun t ht hW => ⟨(-1), rfl, trivial, ht⟩) (fun _ h => absurd h List.not_mem_nil) dX6_neighbour_18

set_option maxHeartbeats 4000000 in
set_option maxRecDepth 100000 in
theorem lp_fill {p : Program} {l : Launch} {e : Env} {s : State} {m : MethodId} {args : Array Value} {below : List Frame} {meth : Method} {c : Code} {Q : State → Prop} {A : Nat → Prop} {dC : Nat → ClassId} {dI : Nat → Nat → Nat} {cI cB : ClassId} (hx : p.tables.exec = Jvm.exec) (hb : c.code = cJ7_fill_53178) (hml : c.maxLocals = 4) (hown : s.vm.findClass RJ7 = some m.cls) (hts : ∀ w ∈ wsJ7_fill_53178, w.before args s = true) (hN : cz_N dC dI cI cB s) (hA : ∀ q : Nat, s.heap.size ≤ q → A q) (a : Nat) (N : Nat) (p0 : Int32) (hb_ : N < 2 ^ 31) (hex_20 : ∀ (f : Nat → Int32) (H : Heap) (locs : List Loc) (ls : Array Slot), va_P (dC, dI) vwCl [(a, .inl (cI, N, .inl f))] H → va_D A [(a, .inl (cI, N, .inl f))] → va_S A s.heap H locs → lv_has ls 4 [(0, .ref a)] → W p l e ({ frames := 0, cells := 0, slots := 0, locals := 0 } : Room) s m args below meth c H locs 0 0 Q (F0 m 20 ls [])) : ∀ (n : Nat) (i : Nat) (f : Nat → Int32) (H : Heap) (locs : List Loc) (ls : Array Slot), i + n = N → va_P (dC, dI) vwCl [(a, .inl (cI, N, .inl f))] H → va_D A [(a, .inl (cI, N, .inl f))] → va_S A s.heap H locs → lv_has ls 4 [(0, .ref a), (1, .int p0), (2, .int (nI i)), (3, .int (nI N))] → W p l e ({ frames := 0, cells := 0, slots := 0, locals := 0 } : Room) s m args below meth c H locs 0 0 Q (F0 m 5 ls []) := by
  have hK := hN.1
  intro n
  induction n with
  | zero =>
    intro i f H locs ls hi hP hD hS hl
    refine lv_iload_n hx hb dJ7_fill_53178_5 rfl (lv_at hl 2 rfl) ?_
    refine lv_iload_n hx hb dJ7_fill_53178_6 rfl (lv_at hl 3 rfl) ?_
    refine lv_icmp_ge (tgt := 20) hx hb dJ7_fill_53178_7 (by decide) (fun c_1 => ?_) (fun c_1 => ?_)
    · exact hex_20 f H locs ls hP hD hS (lv_sub hl [0] rfl)
    · exact absurd (nI_le (by omega) (by omega)) c_1
  | succ n ih =>
    intro i f H locs ls hi hP hD hS hl
    refine lv_iload_n hx hb dJ7_fill_53178_5 rfl (lv_at hl 2 rfl) ?_
    refine lv_iload_n hx hb dJ7_fill_53178_6 rfl (lv_at hl 3 rfl) ?_
    refine lv_icmp_ge (tgt := 20) hx hb dJ7_fill_53178_7 (by decide) (fun c_1 => ?_) (fun c_1 => ?_)
    · exact hex_20 f H locs ls hP hD hS (lv_sub hl [0] rfl)
    · refine lv_aload_n hx hb dJ7_fill_53178_10 rfl (lv_at hl 0 rfl) ?_
      refine lv_iload_n hx hb dJ7_fill_53178_11 rfl (lv_at hl 2 rfl) ?_
      refine lv_iload_n hx hb dJ7_fill_53178_12 rfl (lv_at hl 1 rfl) ?_
      refine va_iast hx hb hK hP hD hS 0 0 rfl rfl (vp_in_nI (by omega) hb_) dJ7_fill_53178_13 (fun H locs hP hD hS => ?_)
      have hP : va_P (dC, dI) vwCl [(a, .inl (cI, N, .inl (upd f (nI i).toNatClampNeg p0)))] H := hP
      have hD : va_D A [(a, .inl (cI, N, .inl (upd f (nI i).toNatClampNeg p0)))] := hD
      obtain ⟨x_2, ex_2⟩ : ∃ y : Int32, y = (nI i) + 1 := ⟨_, rfl⟩
      refine lv_iinc (v := x_2) (lv' := [(2, .int x_2), (0, .ref a), (1, .int p0), (3, .int (nI N))]) hx hb dJ7_fill_53178_14 hl (k := 2) rfl (by rw [ex_2]; rfl) (by decide) rfl (fun ls hl => ?_)
      refine lv_goto (tgt := 5) hx hb dJ7_fill_53178_17 (by decide) ?_
      obtain rfl : x_2 = nI (i + 1) := ex_2.trans (nI_1 i)
      exact ih (i + 1) (upd f (nI i).toNatClampNeg p0) H locs ls (by omega) hP hD hS (lv_sub hl [1, 2, 0, 3] rfl)

set_option maxHeartbeats 4000000 in
set_option maxRecDepth 100000 in
theorem c_fill400 (l : Launch) (dC : Nat → ClassId) (dI : Nat → Nat → Nat) (cI cB : ClassId) (a : Nat) (p0 : Int32) (f : Nat → Int32) (sz : Nat) : Met l yJ7_fill_53178 wsJ7_fill_53178 ({ frames := 0, cells := 0, slots := 0, locals := 0 }) (cz_Pm dC dI cI cB [.ref a, .int p0] [(a, .inl (cI, 400, .inl f))] sz) (va_Qv (fun _ : Unit => True) (fun _ t => ∃ (f2 : Nat → Int32), va_P (dC, dI) vwCl [(a, .inl (cI, 400, .inl f2))] t.heap ∧ va_D (va_A [(a, .inl (cI, 400, .inl f))] sz) [(a, .inl (cI, 400, .inl f2))]) (va_A [(a, .inl (cI, 400, .inl f))] sz)) 0 0 (va_A [(a, .inl (cI, 400, .inl f))] sz) := by
  refine Met.ofW (cc := cJ7_fill_53178) (maxL := 4) (ret := none) (by decide) rfl ?_
  intro p e s m args below meth c s₁ B hml hv
  obtain ⟨rfl, hsz, hP, hN, hD0⟩ := hv
  have hx := B.exec
  have hb := B.bytes
  have hr := B.returns
  have hts := atoms_spec (ws := wsJ7_fill_53178) B.pre
  have hown : s.vm.findClass RJ7 = some m.cls := findClass_of_methodNamed B.named
  have hlocks := B.notSynchronized
  have hK := hN.1
  subst hsz
  have hD := hD0.self (sz := s.heap.size)
  generalize hAe : va_A [(a, .inl (cI, 400, .inl f))] s.heap.size = A at hD ⊢
  have hA : ∀ q : Nat, s.heap.size ≤ q → A q := fun q h => by rw [← hAe]; exact Or.inr h
  have hS : va_S A s.heap s.heap [] := va_S.rf
  obtain ⟨H, eH⟩ : ∃ H, H = s.heap := ⟨_, rfl⟩
  have hP : va_P (dC, dI) vwCl [(a, .inl (cI, 400, .inl f))] s.heap := hP
  have hl := lv_entry ([.ref a, .int p0]) (n := 4) (Nat.le_of_ble_eq_true rfl)
  rw [lg_entry_eq]
  generalize (lg_sl ([.ref a, .int p0]) ++ List.replicate (4 - (lg_sl ([.ref a, .int p0])).length) Slot.unset).toArray = ls at hl ⊢
  have hl : lv_has ls 4 [(0, .ref a), (1, .int p0)] := hl
  refine lv_iconst (v := 0) hx hb dJ7_fill_53178_0 (by decide) ?_
  refine lv_istore_n (lv' := [(2, .int 0), (0, .ref a), (1, .int p0)]) hx hb dJ7_fill_53178_1 rfl hl (by decide) rfl (fun ls hl => ?_)
  refine lv_aload_n hx hb dJ7_fill_53178_2 rfl (lv_at hl 1 rfl) ?_
  refine va_alen (v := 400) hx hb hK hP 0 0 rfl rfl rfl dJ7_fill_53178_3 ?_
  refine lv_istore_n (lv' := [(3, .int 400), (2, .int 0), (0, .ref a), (1, .int p0)]) hx hb dJ7_fill_53178_4 rfl hl (by decide) rfl (fun ls hl => ?_)
  refine lp_fill hx hb hml hown hts hN hA a 400 p0 (by decide) (fun f H locs ls hP hD hS hl => ?_) 400 0 f s.heap [] ls (by omega) hP hD hS (lv_sub hl [2, 3, 1, 0] rfl)
  refine W.widen (k := 0) (n := 0) (Nat.le_of_ble_eq_true rfl) (Nat.le_of_ble_eq_true rfl) ?_
  have hP9 := hP.sub (ws' := [(a, .inl (cI, 400, .inl f))]) [0] rfl
  have hD9 := hD.sub (ws' := [(a, .inl (cI, 400, .inl f))]) [0] (by decide) rfl
  exact W.vret hx hb hr (fun t ht hW => ⟨⟨(), rfl, trivial, ⟨f, by rw [ht]; exact hP9, hD9⟩⟩, hS.F ht⟩) hS.2.2 dJ7_fill_53178_20

set_option maxHeartbeats 4000000 in
set_option maxRecDepth 100000 in
theorem lp_follow {p : Program} {l : Launch} {e : Env} {s : State} {m : MethodId} {args : Array Value} {below : List Frame} {meth : Method} {c : Code} {Q : State → Prop} {A : Nat → Prop} {dC : Nat → ClassId} {dI : Nat → Nat → Nat} {cI cB : ClassId} {tR tC : Nat} (hx : p.tables.exec = Jvm.exec) (hb : c.code = cX5_follow) (hml : c.maxLocals = 6) (hown : s.vm.findClass RX5 = some m.cls) (hts : ∀ w ∈ wsX5_follow, w.before args s = true) (hN : cz_N dC dI cI cB s) (hSt : cz_St tR tC A s s.heap) (hA : ∀ q : Nat, s.heap.size ≤ q → A q) (si : Nat) (tw : Nat) (tb : Nat) (p0 : Int32) (p1 : Int32) (hp0 : cz_in 0 p0 19) (hex_74 : ∀ (f : Nat → Int32) (g : Nat → Int32) (H : Heap) (locs : List Loc) (ls : Array Slot), va_P (dC, dI) vwCl [(si, .inr (5, [.ref tw, .ref tb])), (tw, .inl (cI, 400, .inl f)), (tb, .inl (cI, 400, .inl g))] H → va_D A [(si, .inr (5, [.ref tw, .ref tb])), (tw, .inl (cI, 400, .inl f)), (tb, .inl (cI, 400, .inl g))] → va_S A s.heap H locs → lv_has ls 6 [(0, .ref si)] → W p l e ({ frames := 2, cells := 0, slots := 0, locals := 43 } : Room) s m args below meth c H locs 0 0 Q (F0 m 74 ls [])) : ∀ (n : Nat) (d : Nat) (f : Nat → Int32) (g : Nat → Int32) (x3 : Int32) (x4 : Int32) (H : Heap) (locs : List Loc) (ls : Array Slot), d + n = 5 → va_P (dC, dI) vwCl [(si, .inr (5, [.ref tw, .ref tb])), (tw, .inl (cI, 400, .inl f)), (tb, .inl (cI, 400, .inl g))] H → va_D A [(si, .inr (5, [.ref tw, .ref tb])), (tw, .inl (cI, 400, .inl f)), (tb, .inl (cI, 400, .inl g))] → va_S A s.heap H locs → lv_has ls 6 [(0, .ref si), (1, .int p0), (2, .int p1), (3, .int x3), (4, .int x4), (5, .int (nI d))] → W p l e ({ frames := 2, cells := 0, slots := 0, locals := 43 } : Room) s m args below meth c H locs 0 0 Q (F0 m 12 ls []) := by
  have hK := hN.1
  have hiX5 : ∀ w ∈ wsX50, w ∈ wsX5_follow := (fun _ h => List.mem_cons_of_mem _ (List.mem_append_right _ h))
  intro n
  induction n with
  | zero =>
    intro d f g x3 x4 H locs ls hd hP hD hS hl
    refine lv_iload hx hb dX5_follow_12 (lv_at hl 5 rfl) ?_
    refine lv_iconst (v := 5) hx hb dX5_follow_14 (by decide) ?_
    refine lv_icmp_ge (tgt := 74) hx hb dX5_follow_15 (by decide) (fun c_1 => ?_) (fun c_1 => ?_)
    · exact hex_74 f g H locs ls hP hD hS (lv_sub hl [0] rfl)
    · exact absurd (by rw [show d = 5 by omega]; decide) c_1
  | succ n ih =>
    intro d f g x3 x4 H locs ls hd hP hD hS hl
    refine lv_iload hx hb dX5_follow_12 (lv_at hl 5 rfl) ?_
    refine lv_iconst (v := 5) hx hb dX5_follow_14 (by decide) ?_
    refine lv_icmp_ge (tgt := 74) hx hb dX5_follow_15 (by decide) (fun c_1 => ?_) (fun c_1 => ?_)
    · exact hex_74 f g H locs ls hP hD hS (lv_sub hl [0] rfl)
    · refine lv_iload hx hb dX5_follow_18 (lv_at hl 4 rfl) ?_
      refine vp_callSi (cz_run (va_runSN (As := [.int x4]) (rest := []) ⟨hx, hb, hml, hown, hts⟩ (c_X6_isPlace l dC dI cI cB x4 ) ⟨(va_cnB 1 hts gX5_follow_X6_isPlace_n32 rfl rfl rfl (hN.2 (RX5, 32, yX6_isPlace) (by decide)) (hts (.initialized RX6) (List.mem_of_getElem? (i := 4) rfl)) (by decide +kernel) ⟨Nat.le_of_ble_eq_true rfl, Nat.le_of_ble_eq_true rfl⟩), hts (.static yX6_isPlace) (List.mem_of_getElem? (i := 9) rfl), trivial⟩ (cz_pS (hP.sub (ws' := []) [] rfl) hN) rfl rfl hl.1 rfl (lv_room (Nat.le_of_ble_eq_true rfl)) dX5_follow_20 ⟨Nat.le_of_ble_eq_true rfl, Nat.le_of_ble_eq_true rfl⟩)) (fun r_2 hr_2 => ?_)
      rcases hr_2 with ⟨rfl, hr_2⟩ | ⟨rfl, hr_2⟩
      · refine lv_if_eq (tgt := 74) hx hb dX5_follow_23 (by decide) (fun _ => ?_) (fun c => absurd (by decide) c)
        exact hex_74 f g H locs ls hP hD hS (lv_sub hl [0] rfl)
      · refine lv_if_eq (tgt := 74) hx hb dX5_follow_23 (by decide) (fun c => absurd c (by decide)) (fun _ => ?_)
        refine lv_aload_n hx hb dX5_follow_26 rfl (lv_at hl 0 rfl) ?_
        refine va_get (D := (dC, dI)) (ci := 5) (v := .ref tw) (C := RX5) (T := TX5) (N := 2) hx hb hts hiX5 hown hK hP 0 rfl rfl 0 (by decide) (hts (.fieldLink RX5 9 "LeftProfile$Sight" "ways" "[I") (List.mem_of_getElem? (i := 1) rfl)) (fun _ h9 => h9) rfl dX5_follow_27 ?_
        refine lv_iload_n hx hb dX5_follow_30 rfl (lv_at hl 1 rfl) ?_
        refine lv_bipush (v := 20) hx hb dX5_follow_31 (by decide) ?_
        refine lv_imul hx hb dX5_follow_33 ?_
        refine lv_topi (fun x_3 ex_3 => ?_)
        refine lv_iload hx hb dX5_follow_34 (lv_at hl 4 rfl) ?_
        refine lv_iadd hx hb dX5_follow_36 ?_
        refine lv_topi (fun x_4 ex_4 => ?_)
        refine lv_iload_n hx hb dX5_follow_37 rfl (lv_at hl 2 rfl) ?_
        refine va_iast hx hb hK hP hD hS 1 0 rfl rfl (cz_ix hp0 hr_2 ex_3 ex_4) dX5_follow_38 (fun H locs hP hD hS => ?_)
        have hP : va_P (dC, dI) vwCl [(si, .inr (5, [.ref tw, .ref tb])), (tw, .inl (cI, 400, .inl (upd f x_4.toNatClampNeg p1))), (tb, .inl (cI, 400, .inl g))] H := hP
        have hD : va_D A [(si, .inr (5, [.ref tw, .ref tb])), (tw, .inl (cI, 400, .inl (upd f x_4.toNatClampNeg p1))), (tb, .inl (cI, 400, .inl g))] := hD
        refine lv_aload_n hx hb dX5_follow_39 rfl (lv_at hl 0 rfl) ?_
        refine va_get (D := (dC, dI)) (ci := 5) (v := .ref tb) (C := RX5) (T := TX5) (N := 2) hx hb hts hiX5 hown hK hP 0 rfl rfl 1 (by decide) (hts (.fieldLink RX5 15 "LeftProfile$Sight" "between" "[I") (List.mem_of_getElem? (i := 2) rfl)) (fun _ h9 => h9) rfl dX5_follow_40 ?_
        refine lv_iload_n hx hb dX5_follow_43 rfl (lv_at hl 1 rfl) ?_
        refine lv_bipush (v := 20) hx hb dX5_follow_44 (by decide) ?_
        refine lv_imul hx hb dX5_follow_46 ?_
        refine lv_topi (fun x_5 ex_5 => ?_)
        refine lv_iload hx hb dX5_follow_47 (lv_at hl 4 rfl) ?_
        refine lv_iadd hx hb dX5_follow_49 ?_
        refine lv_topi (fun x_6 ex_6 => ?_)
        refine lv_iload_n hx hb dX5_follow_50 rfl (lv_at hl 3 rfl) ?_
        refine va_iast hx hb hK hP hD hS 2 0 rfl rfl (cz_ix hp0 hr_2 ex_5 ex_6) dX5_follow_51 (fun H locs hP hD hS => ?_)
        have hP : va_P (dC, dI) vwCl [(si, .inr (5, [.ref tw, .ref tb])), (tw, .inl (cI, 400, .inl (upd f x_4.toNatClampNeg p1))), (tb, .inl (cI, 400, .inl (upd g x_6.toNatClampNeg x3)))] H := hP
        have hD : va_D A [(si, .inr (5, [.ref tw, .ref tb])), (tw, .inl (cI, 400, .inl (upd f x_4.toNatClampNeg p1))), (tb, .inl (cI, 400, .inl (upd g x_6.toNatClampNeg x3)))] := hD
        refine lv_iload_n hx hb dX5_follow_52 rfl (lv_at hl 3 rfl) ?_
        refine lv_iload hx hb dX5_follow_53 (lv_at hl 4 rfl) ?_
        refine vp_callSi (cz_run (va_runSN (As := [.int x4]) (rest := [.int x3]) ⟨hx, hb, hml, hown, hts⟩ (c_X6_bit l dC dI cI cB x4 ) ⟨(va_cnB 1 hts gX5_follow_X6_bit_n36 rfl rfl rfl (hN.2 (RX5, 36, yX6_bit) (by decide)) (hts (.initialized RX6) (List.mem_of_getElem? (i := 4) rfl)) (by decide +kernel) ⟨Nat.le_of_ble_eq_true rfl, Nat.le_of_ble_eq_true rfl⟩), hts (.static yX6_bit) (List.mem_of_getElem? (i := 11) rfl), trivial⟩ (cz_pS (hP.sub (ws' := []) [] rfl) hN) rfl rfl hl.1 rfl (lv_room (Nat.le_of_ble_eq_true rfl)) dX5_follow_55 ⟨Nat.le_of_ble_eq_true rfl, Nat.le_of_ble_eq_true rfl⟩)) (fun r_7 hr_7 => ?_)
        refine lv_ior hx hb dX5_follow_58 ?_
        refine lv_topi (fun x_8 ex_8 => ?_)
        refine lv_istore_n (lv' := [(3, .int x_8), (0, .ref si), (1, .int p0), (2, .int p1), (4, .int x4), (5, .int (nI d))]) hx hb dX5_follow_59 rfl hl (by decide) rfl (fun ls hl => ?_)
        refine lv_iload hx hb dX5_follow_60 (lv_at hl 4 rfl) ?_
        refine lv_iload_n hx hb dX5_follow_62 rfl (lv_at hl 3 rfl) ?_
        refine vp_callSi (cz_run (va_runSN (As := [.int x4, .int p1]) (rest := []) ⟨hx, hb, hml, hown, hts⟩ (c_X6_neighbour l dC dI cI cB tR tC x4 p1 ) ⟨(va_cnB 2 hts gX5_follow_X6_neighbour_n28 rfl rfl rfl (hN.2 (RX5, 28, yX6_neighbour) (by decide)) (hts (.initialized RX6) (List.mem_of_getElem? (i := 4) rfl)) (by decide +kernel) ⟨Nat.le_of_ble_eq_true rfl, Nat.le_of_ble_eq_true rfl⟩), hts (.static yX6_neighbour) (List.mem_of_getElem? (i := 3) rfl), trivial⟩ (cz_pT (hP.sub (ws' := []) [] rfl) hN (hSt.pass hS)) rfl rfl hl.1 rfl (lv_room (Nat.le_of_ble_eq_true rfl)) dX5_follow_63 ⟨Nat.le_of_ble_eq_true rfl, Nat.le_of_ble_eq_true rfl⟩)) (fun r_9 hr_9 => ?_)
        refine lv_istore (lv' := [(4, .int r_9), (3, .int x_8), (0, .ref si), (1, .int p0), (2, .int p1), (5, .int (nI d))]) hx hb dX5_follow_66 hl (by decide) rfl (fun ls hl => ?_)
        obtain ⟨x_10, ex_10⟩ : ∃ y : Int32, y = (nI d) + 1 := ⟨_, rfl⟩
        refine lv_iinc (v := x_10) (lv' := [(5, .int x_10), (4, .int r_9), (3, .int x_8), (0, .ref si), (1, .int p0), (2, .int p1)]) hx hb dX5_follow_68 hl (k := 5) rfl (by rw [ex_10]; rfl) (by decide) rfl (fun ls hl => ?_)
        refine lv_goto (tgt := 12) hx hb dX5_follow_71 (by decide) ?_
        obtain rfl : x_10 = nI (d + 1) := ex_10.trans (nI_1 d)
        exact ih (d + 1) (upd f x_4.toNatClampNeg p1) (upd g x_6.toNatClampNeg x3) x_8 r_9 H locs ls (by omega) hP hD hS (lv_sub hl [3, 4, 5, 2, 1, 0] rfl)

set_option maxHeartbeats 4000000 in
set_option maxRecDepth 100000 in
theorem c_X5_follow (l : Launch) (dC : Nat → ClassId) (dI : Nat → Nat → Nat) (cI cB : ClassId) (tR tC : Nat) (si : Nat) (p0 : Int32) (p1 : Int32) (tw : Nat) (tb : Nat) (f : Nat → Int32) (g : Nat → Int32) (sz : Nat) (hp0 : cz_in 0 p0 19) : Met l yX5_follow wsX5_follow ({ frames := 2, cells := 0, slots := 0, locals := 43 }) (cz_PmT dC dI cI cB tR tC [.ref si, .int p0, .int p1] [(si, .inr (5, [.ref tw, .ref tb])), (tw, .inl (cI, 400, .inl f)), (tb, .inl (cI, 400, .inl g))] sz) (va_Qv (fun _ : Unit => True) (fun _ t => ∃ (f2 : Nat → Int32) (g2 : Nat → Int32), va_P (dC, dI) vwCl [(si, .inr (5, [.ref tw, .ref tb])), (tw, .inl (cI, 400, .inl f2)), (tb, .inl (cI, 400, .inl g2))] t.heap ∧ va_D (va_A [(si, .inr (5, [.ref tw, .ref tb])), (tw, .inl (cI, 400, .inl f)), (tb, .inl (cI, 400, .inl g))] sz) [(si, .inr (5, [.ref tw, .ref tb])), (tw, .inl (cI, 400, .inl f2)), (tb, .inl (cI, 400, .inl g2))]) (va_A [(si, .inr (5, [.ref tw, .ref tb])), (tw, .inl (cI, 400, .inl f)), (tb, .inl (cI, 400, .inl g))] sz)) 0 0 (va_A [(si, .inr (5, [.ref tw, .ref tb])), (tw, .inl (cI, 400, .inl f)), (tb, .inl (cI, 400, .inl g))] sz) := by
  refine Met.ofW (cc := cX5_follow) (maxL := 6) (ret := none) (by decide) rfl ?_
  intro p e s m args below meth c s₁ B hml hv
  obtain ⟨rfl, hsz, hP, hN, hD0, hSt⟩ := hv
  have hx := B.exec
  have hb := B.bytes
  have hr := B.returns
  have hts := atoms_spec (ws := wsX5_follow) B.pre
  have hown : s.vm.findClass RX5 = some m.cls := findClass_of_methodNamed B.named
  have hlocks := B.notSynchronized
  have hK := hN.1
  subst hsz
  have hD := hD0.self (sz := s.heap.size)
  generalize hAe : va_A [(si, .inr (5, [.ref tw, .ref tb])), (tw, .inl (cI, 400, .inl f)), (tb, .inl (cI, 400, .inl g))] s.heap.size = A at hD hSt ⊢
  have hA : ∀ q : Nat, s.heap.size ≤ q → A q := fun q h => by rw [← hAe]; exact Or.inr h
  have hS : va_S A s.heap s.heap [] := va_S.rf
  obtain ⟨H, eH⟩ : ∃ H, H = s.heap := ⟨_, rfl⟩
  have hP : va_P (dC, dI) vwCl [(si, .inr (5, [.ref tw, .ref tb])), (tw, .inl (cI, 400, .inl f)), (tb, .inl (cI, 400, .inl g))] s.heap := hP
  have hl := lv_entry ([.ref si, .int p0, .int p1]) (n := 6) (Nat.le_of_ble_eq_true rfl)
  rw [lg_entry_eq]
  generalize (lg_sl ([.ref si, .int p0, .int p1]) ++ List.replicate (6 - (lg_sl ([.ref si, .int p0, .int p1])).length) Slot.unset).toArray = ls at hl ⊢
  have hl : lv_has ls 6 [(0, .ref si), (1, .int p0), (2, .int p1)] := hl
  refine lv_iconst (v := 0) hx hb dX5_follow_0 (by decide) ?_
  refine lv_istore_n (lv' := [(3, .int 0), (0, .ref si), (1, .int p0), (2, .int p1)]) hx hb dX5_follow_1 rfl hl (by decide) rfl (fun ls hl => ?_)
  refine lv_iload_n hx hb dX5_follow_2 rfl (lv_at hl 2 rfl) ?_
  refine lv_iload_n hx hb dX5_follow_3 rfl (lv_at hl 3 rfl) ?_
  refine vp_callSi (cz_run (va_runSN (As := [.int p0, .int p1]) (rest := []) ⟨hx, hb, hml, hown, hts⟩ (c_X6_neighbour l dC dI cI cB tR tC p0 p1 ) ⟨(va_cnB 2 hts gX5_follow_X6_neighbour_n28 rfl rfl rfl (hN.2 (RX5, 28, yX6_neighbour) (by decide)) (hts (.initialized RX6) (List.mem_of_getElem? (i := 4) rfl)) (by decide +kernel) ⟨Nat.le_of_ble_eq_true rfl, Nat.le_of_ble_eq_true rfl⟩), hts (.static yX6_neighbour) (List.mem_of_getElem? (i := 3) rfl), trivial⟩ (cz_pT (hP.sub (ws' := []) [] rfl) hN (hSt.pass hS)) rfl rfl hl.1 rfl (lv_room (Nat.le_of_ble_eq_true rfl)) dX5_follow_4 ⟨Nat.le_of_ble_eq_true rfl, Nat.le_of_ble_eq_true rfl⟩)) (fun r_1 hr_1 => ?_)
  refine lv_istore (lv' := [(4, .int r_1), (3, .int 0), (0, .ref si), (1, .int p0), (2, .int p1)]) hx hb dX5_follow_7 hl (by decide) rfl (fun ls hl => ?_)
  refine lv_iconst (v := 1) hx hb dX5_follow_9 (by decide) ?_
  refine lv_istore (lv' := [(5, .int 1), (4, .int r_1), (3, .int 0), (0, .ref si), (1, .int p0), (2, .int p1)]) hx hb dX5_follow_10 hl (by decide) rfl (fun ls hl => ?_)
  refine lp_follow hx hb hml hown hts hN hSt hA si tw tb p0 p1 hp0 (fun f g H locs ls hP hD hS hl => ?_) 4 1 f g 0 r_1 s.heap [] ls (by omega) hP hD hS (lv_sub hl [3, 4, 5, 2, 1, 0] rfl)
  refine W.widen (k := 0) (n := 0) (Nat.le_of_ble_eq_true rfl) (Nat.le_of_ble_eq_true rfl) ?_
  have hP9 := hP.sub (ws' := [(si, .inr (5, [.ref tw, .ref tb])), (tw, .inl (cI, 400, .inl f)), (tb, .inl (cI, 400, .inl g))]) [0, 1, 2] rfl
  have hD9 := hD.sub (ws' := [(si, .inr (5, [.ref tw, .ref tb])), (tw, .inl (cI, 400, .inl f)), (tb, .inl (cI, 400, .inl g))]) [0, 1, 2] (by decide) rfl
  exact W.vret hx hb hr (fun t ht hW => ⟨⟨(), rfl, trivial, ⟨f, g, by rw [ht]; exact hP9, hD9⟩⟩, hS.F ht⟩) hS.2.2 dX5_follow_74


set_option maxHeartbeats 4000000 in
set_option maxRecDepth 100000 in
theorem lp_sight1 {p : Program} {l : Launch} {e : Env} {s : State} {m : MethodId} {args : Array Value} {below : List Frame} {meth : Method} {c : Code} {Q : State → Prop} {A : Nat → Prop} {dC : Nat → ClassId} {dI : Nat → Nat → Nat} {cI cB : ClassId} {tR tC : Nat} (hx : p.tables.exec = Jvm.exec) (hb : c.code = cX5_init) (hml : c.maxLocals = 3) (hown : s.vm.findClass RX5 = some m.cls) (hts : ∀ w ∈ wsX5_init, w.before args s = true) (hN : cz_N dC dI cI cB s) (hSt : cz_St tR tC A s s.heap) (hA : ∀ q : Nat, s.heap.size ≤ q → A q) (si : Nat) (tw : Nat) (tb : Nat) (i : Nat) (hi : i < 20) (hex_58 : ∀ (f : Nat → Int32) (g : Nat → Int32) (H : Heap) (locs : List Loc) (ls : Array Slot), va_P (dC, dI) vwCl [(si, .inr (5, [.ref tw, .ref tb])), (tw, .inl (cI, 400, .inl f)), (tb, .inl (cI, 400, .inl g))] H → va_D A [(si, .inr (5, [.ref tw, .ref tb])), (tw, .inl (cI, 400, .inl f)), (tb, .inl (cI, 400, .inl g))] → va_S A s.heap H locs → lv_has ls 3 [(0, .ref si), (1, .int (nI i))] → W p l e ({ frames := 3, cells := 2, slots := 800, locals := 68 } : Room) s m args below meth c H locs 2 800 Q (F0 m 58 ls [])) : ∀ (n : Nat) (k : Nat) (f : Nat → Int32) (g : Nat → Int32) (H : Heap) (locs : List Loc) (ls : Array Slot), k + n = 8 → va_P (dC, dI) vwCl [(si, .inr (5, [.ref tw, .ref tb])), (tw, .inl (cI, 400, .inl f)), (tb, .inl (cI, 400, .inl g))] H → va_D A [(si, .inr (5, [.ref tw, .ref tb])), (tw, .inl (cI, 400, .inl f)), (tb, .inl (cI, 400, .inl g))] → va_S A s.heap H locs → lv_has ls 3 [(0, .ref si), (1, .int (nI i)), (2, .int (nI k))] → W p l e ({ frames := 3, cells := 2, slots := 800, locals := 68 } : Room) s m args below meth c H locs 2 800 Q (F0 m 40 ls []) := by
  have hK := hN.1
  intro n
  induction n with
  | zero =>
    intro k f g H locs ls hk hP hD hS hl
    refine lv_iload_n hx hb dX5_init_40 rfl (lv_at hl 2 rfl) ?_
    refine lv_bipush (v := 8) hx hb dX5_init_41 (by decide) ?_
    refine lv_icmp_ge (tgt := 58) hx hb dX5_init_43 (by decide) (fun c_1 => ?_) (fun c_1 => ?_)
    · exact hex_58 f g H locs ls hP hD hS (lv_sub hl [0, 1] rfl)
    · exact absurd (by rw [show k = 8 by omega]; decide) c_1
  | succ n ih =>
    intro k f g H locs ls hk hP hD hS hl
    refine lv_iload_n hx hb dX5_init_40 rfl (lv_at hl 2 rfl) ?_
    refine lv_bipush (v := 8) hx hb dX5_init_41 (by decide) ?_
    refine lv_icmp_ge (tgt := 58) hx hb dX5_init_43 (by decide) (fun c_1 => ?_) (fun c_1 => ?_)
    · exact hex_58 f g H locs ls hP hD hS (lv_sub hl [0, 1] rfl)
    · refine lv_aload_n hx hb dX5_init_46 rfl (lv_at hl 0 rfl) ?_
      refine lv_iload_n hx hb dX5_init_47 rfl (lv_at hl 1 rfl) ?_
      refine lv_iload_n hx hb dX5_init_48 rfl (lv_at hl 2 rfl) ?_
      have hPc := hP.sub (ws' := [(si, .inr (5, [.ref tw, .ref tb])), (tw, .inl (cI, 400, .inl f)), (tb, .inl (cI, 400, .inl g))]) [0, 1, 2] rfl
      have hDc := hD.sub (ws' := [(si, .inr (5, [.ref tw, .ref tb])), (tw, .inl (cI, 400, .inl f)), (tb, .inl (cI, 400, .inl g))]) [0, 1, 2] (by decide) rfl
      have hFc := va_free (wc := [(si, .inr (5, [.ref tw, .ref tb])), (tw, .inl (cI, 400, .inl f)), (tb, .inl (cI, 400, .inl g))]) hD hS hA [0, 1, 2] rfl
      refine va_callv (va_runV (As := [.int (nI i), .int (nI k)]) (rest := []) ⟨hx, hb, hml, hown, hts⟩ (c_X5_follow l dC dI cI cB tR tC si (nI i) (nI k) tw tb f g H.size (cz_in_nI hi)) (cwV 2 hts gX5_init_X5_follow rfl rfl rfl (by decide +kernel) ⟨Nat.le_of_ble_eq_true rfl, Nat.le_of_ble_eq_true rfl⟩) (cz_mVT hPc hN hDc (hSt.give hS hFc) (va_recv hK hPc (ci := 5) (q0 := 0) rfl rfl)) rfl rfl hl.1 rfl (lv_room (Nat.le_of_ble_eq_true rfl)) dX5_init_49 ⟨Nat.le_of_ble_eq_true rfl, Nat.le_of_ble_eq_true rfl⟩) hS (fun q _ h => hFc q h) hFc (fun u t H1 locs ht hvm hr_2 hB hz1 hk1 hS => ?_)
      obtain ⟨f_3, f_4, hP1, hD1⟩ := hB
      rw [ht] at hP1
      obtain ⟨hP, hD⟩ := va_join (wr := []) (w1 := [(si, .inr (5, [.ref tw, .ref tb])), (tw, .inl (cI, 400, .inl f_3)), (tb, .inl (cI, 400, .inl f_4))]) hP hD [0, 1, 2] [] rfl rfl (by decide) (by decide) hk1 hFc hP1 hD1
      generalize H1 = H at hP hS ⊢
      have hP : va_P (dC, dI) vwCl [(si, .inr (5, [.ref tw, .ref tb])), (tw, .inl (cI, 400, .inl f_3)), (tb, .inl (cI, 400, .inl f_4))] H := hP
      have hD : va_D A [(si, .inr (5, [.ref tw, .ref tb])), (tw, .inl (cI, 400, .inl f_3)), (tb, .inl (cI, 400, .inl f_4))] := hD
      obtain ⟨x_5, ex_5⟩ : ∃ y : Int32, y = (nI k) + 1 := ⟨_, rfl⟩
      refine lv_iinc (v := x_5) (lv' := [(2, .int x_5), (0, .ref si), (1, .int (nI i))]) hx hb dX5_init_52 hl (k := 2) rfl (by rw [ex_5]; rfl) (by decide) rfl (fun ls hl => ?_)
      refine lv_goto (tgt := 40) hx hb dX5_init_55 (by decide) ?_
      obtain rfl : x_5 = nI (k + 1) := ex_5.trans (nI_1 k)
      exact ih (k + 1) f_3 f_4 H locs ls (by omega) hP hD hS (lv_sub hl [1, 2, 0] rfl)

set_option maxHeartbeats 4000000 in
set_option maxRecDepth 100000 in
theorem lp_sight2 {p : Program} {l : Launch} {e : Env} {s : State} {m : MethodId} {args : Array Value} {below : List Frame} {meth : Method} {c : Code} {Q : State → Prop} {A : Nat → Prop} {dC : Nat → ClassId} {dI : Nat → Nat → Nat} {cI cB : ClassId} {tR tC : Nat} (hx : p.tables.exec = Jvm.exec) (hb : c.code = cX5_init) (hml : c.maxLocals = 3) (hown : s.vm.findClass RX5 = some m.cls) (hts : ∀ w ∈ wsX5_init, w.before args s = true) (hN : cz_N dC dI cI cB s) (hSt : cz_St tR tC A s s.heap) (hA : ∀ q : Nat, s.heap.size ≤ q → A q) (si : Nat) (tw : Nat) (tb : Nat) (hex_64 : ∀ (f : Nat → Int32) (g : Nat → Int32) (H : Heap) (locs : List Loc) (ls : Array Slot), va_P (dC, dI) vwCl [(si, .inr (5, [.ref tw, .ref tb])), (tw, .inl (cI, 400, .inl f)), (tb, .inl (cI, 400, .inl g))] H → va_D A [(si, .inr (5, [.ref tw, .ref tb])), (tw, .inl (cI, 400, .inl f)), (tb, .inl (cI, 400, .inl g))] → va_S A s.heap H locs → lv_has ls 3 [(0, .ref si)] → W p l e ({ frames := 3, cells := 2, slots := 800, locals := 68 } : Room) s m args below meth c H locs 2 800 Q (F0 m 64 ls [])) : ∀ (n : Nat) (i : Nat) (f : Nat → Int32) (g : Nat → Int32) (H : Heap) (locs : List Loc) (ls : Array Slot), i + n = 20 → va_P (dC, dI) vwCl [(si, .inr (5, [.ref tw, .ref tb])), (tw, .inl (cI, 400, .inl f)), (tb, .inl (cI, 400, .inl g))] H → va_D A [(si, .inr (5, [.ref tw, .ref tb])), (tw, .inl (cI, 400, .inl f)), (tb, .inl (cI, 400, .inl g))] → va_S A s.heap H locs → lv_has ls 3 [(0, .ref si), (1, .int (nI i))] → W p l e ({ frames := 3, cells := 2, slots := 800, locals := 68 } : Room) s m args below meth c H locs 2 800 Q (F0 m 32 ls []) := by
  have hK := hN.1
  intro n
  induction n with
  | zero =>
    intro i f g H locs ls hi hP hD hS hl
    refine lv_iload_n hx hb dX5_init_32 rfl (lv_at hl 1 rfl) ?_
    refine lv_bipush (v := 20) hx hb dX5_init_33 (by decide) ?_
    refine lv_icmp_ge (tgt := 64) hx hb dX5_init_35 (by decide) (fun c_1 => ?_) (fun c_1 => ?_)
    · exact hex_64 f g H locs ls hP hD hS (lv_sub hl [0] rfl)
    · exact absurd (by rw [show i = 20 by omega]; decide) c_1
  | succ n ih =>
    intro i f g H locs ls hi hP hD hS hl
    refine lv_iload_n hx hb dX5_init_32 rfl (lv_at hl 1 rfl) ?_
    refine lv_bipush (v := 20) hx hb dX5_init_33 (by decide) ?_
    refine lv_icmp_ge (tgt := 64) hx hb dX5_init_35 (by decide) (fun c_1 => ?_) (fun c_1 => ?_)
    · exact hex_64 f g H locs ls hP hD hS (lv_sub hl [0] rfl)
    · refine lv_iconst (v := 0) hx hb dX5_init_38 (by decide) ?_
      refine lv_istore_n (lv' := [(2, .int 0), (0, .ref si), (1, .int (nI i))]) hx hb dX5_init_39 rfl hl (by decide) rfl (fun ls hl => ?_)
      refine lp_sight1 hx hb hml hown hts hN hSt hA si tw tb i (by omega) (fun f g H locs ls hP hD hS hl => ?_) 8 0 f g H locs ls (by omega) hP hD hS (lv_sub hl [1, 2, 0] rfl)
      obtain ⟨x_2, ex_2⟩ : ∃ y : Int32, y = (nI i) + 1 := ⟨_, rfl⟩
      refine lv_iinc (v := x_2) (lv' := [(1, .int x_2), (0, .ref si)]) hx hb dX5_init_58 hl (k := 1) rfl (by rw [ex_2]; rfl) (by decide) rfl (fun ls hl => ?_)
      refine lv_goto (tgt := 32) hx hb dX5_init_61 (by decide) ?_
      obtain rfl : x_2 = nI (i + 1) := ex_2.trans (nI_1 i)
      exact ih (i + 1) f g H locs ls (by omega) hP hD hS (lv_sub hl [1, 0] rfl)

set_option maxHeartbeats 4000000 in
set_option maxRecDepth 100000 in
theorem c_X5_init (l : Launch) (dC : Nat → ClassId) (dI : Nat → Nat → Nat) (cI cB : ClassId) (tR tC : Nat) (si : Nat) (sz : Nat) : Met l yX5_init wsX5_init ({ frames := 3, cells := 2, slots := 800, locals := 68 }) (cz_PmT dC dI cI cB tR tC [.ref si] [(si, .inr (5, [.null, .null]))] sz) (va_Qv (fun _ : Unit => True) (fun _ t => ∃ (tw : Nat) (tb : Nat) (f2 : Nat → Int32) (g2 : Nat → Int32), va_P (dC, dI) vwCl [(si, .inr (5, [.ref tw, .ref tb])), (tw, .inl (cI, 400, .inl f2)), (tb, .inl (cI, 400, .inl g2))] t.heap ∧ va_D (va_A [(si, .inr (5, [.null, .null]))] sz) [(si, .inr (5, [.ref tw, .ref tb])), (tw, .inl (cI, 400, .inl f2)), (tb, .inl (cI, 400, .inl g2))]) (va_A [(si, .inr (5, [.null, .null]))] sz)) 2 800 (va_A [(si, .inr (5, [.null, .null]))] sz) := by
  refine Met.ofW (cc := cX5_init) (maxL := 3) (ret := none) (by decide) rfl ?_
  intro p e s m args below meth c s₁ B hml hv
  obtain ⟨rfl, hsz, hP, hN, hD0, hSt⟩ := hv
  have hx := B.exec
  have hb := B.bytes
  have hr := B.returns
  have hts := atoms_spec (ws := wsX5_init) B.pre
  have hown : s.vm.findClass RX5 = some m.cls := findClass_of_methodNamed B.named
  have hlocks := B.notSynchronized
  have hK := hN.1
  have hin : meth.name = "<init>" := (name_of_methodNamed B.named B.method).1
  have hiX5 : ∀ w ∈ wsX50, w ∈ wsX5_init := (fun _ h => List.mem_cons_of_mem _ (List.mem_append_right _ h))
  subst hsz
  have hD := hD0.self (sz := s.heap.size)
  generalize hAe : va_A [(si, .inr (5, [.null, .null]))] s.heap.size = A at hD hSt ⊢
  have hA : ∀ q : Nat, s.heap.size ≤ q → A q := fun q h => by rw [← hAe]; exact Or.inr h
  have hS : va_S A s.heap s.heap [] := va_S.rf
  obtain ⟨H, eH⟩ : ∃ H, H = s.heap := ⟨_, rfl⟩
  have hP : va_P (dC, dI) vwCl [(si, .inr (5, [.null, .null]))] s.heap := hP
  have hl := lv_entry ([.ref si]) (n := 3) (Nat.le_of_ble_eq_true rfl)
  rw [lg_entry_eq]
  generalize (lg_sl ([.ref si]) ++ List.replicate (3 - (lg_sl ([.ref si])).length) Slot.unset).toArray = ls at hl ⊢
  have hl : lv_has ls 3 [(0, .ref si)] := hl
  refine lv_aload_n hx hb dX5_init_0 rfl (lv_at hl 0 rfl) ?_
  refine W.objInit hx hb hown (hts (.methodLink RX5 3 objectInit) (List.mem_of_getElem? (i := 1) rfl)) (hts (.instanceMethod objectInit) (List.mem_of_getElem? (i := 2) rfl)) (hts (.code objectInit ⟨#[0xb1]⟩ 1 none) (List.mem_of_getElem? (i := 3) rfl)) rfl (by rw [hml]; exact hl.1) rfl dX5_init_1 (Nat.le_of_ble_eq_true rfl) (Nat.le_of_ble_eq_true rfl) ?_
  refine W.eq (g2 := F0 m 4 ls []) rfl ?_
  refine lv_aload_n hx hb dX5_init_4 rfl (lv_at hl 0 rfl) ?_
  refine lv_sipush (v := 400) hx hb dX5_init_5 (by decide) ?_
  refine va_newa (N' := 400) (a0 := (400, .inl (fun _ => 0))) hx hb (atype := .int) (hts (.arrayClass .int) (List.mem_of_getElem? (i := 4) rfl)) rfl hK hP hD hS hA (fun _ => rfl) (by decide) (by decide) (by decide) (Nat.le_of_ble_eq_true rfl) (Nat.le_of_ble_eq_true rfl) dX5_init_8 (fun q_1 cA H hK9 hP hD hS => ?_)
  rw [cz_cI hK9] at hP hD
  have hP : va_P (dC, dI) vwCl [(si, .inr (5, [.null, .null])), (q_1, .inl (cI, 400, .inl (fun _ => 0)))] H := hP
  have hD : va_D A [(si, .inr (5, [.null, .null])), (q_1, .inl (cI, 400, .inl (fun _ => 0)))] := hD
  refine W.widen (k := 1) (n := 400) (Nat.le_of_ble_eq_true rfl) (Nat.le_of_ble_eq_true rfl) ?_
  refine va_putF (D := (dC, dI)) (ci := 5) (v := .ref q_1) (ty := .array .int) (C := RX5) (T := TX5) (N := 2) hx hb hts hiX5 tyX5 tyX5_ok nmX5 hown hK hP hD hS 0 rfl rfl 0 (by decide) (hts (.fieldLink RX5 9 "LeftProfile$Sight" "ways" "[I") (List.mem_of_getElem? (i := 5) rfl)) (fun _ h9 => h9) rfl hin rfl (by decide +kernel) rfl rfl (Nat.le_of_ble_eq_true rfl) dX5_init_10 (fun H locs hP hD hS => ?_)
  have hP : va_P (dC, dI) vwCl [(si, .inr (5, [.ref q_1, .null])), (q_1, .inl (cI, 400, .inl (fun _ => 0)))] H := hP
  have hD : va_D A [(si, .inr (5, [.ref q_1, .null])), (q_1, .inl (cI, 400, .inl (fun _ => 0)))] := hD
  refine lv_aload_n hx hb dX5_init_13 rfl (lv_at hl 0 rfl) ?_
  refine lv_sipush (v := 400) hx hb dX5_init_14 (by decide) ?_
  refine va_newa (N' := 400) (a0 := (400, .inl (fun _ => 0))) hx hb (atype := .int) (hts (.arrayClass .int) (List.mem_of_getElem? (i := 4) rfl)) rfl hK hP hD hS hA (fun _ => rfl) (by decide) (by decide) (by decide) (Nat.le_of_ble_eq_true rfl) (Nat.le_of_ble_eq_true rfl) dX5_init_17 (fun q_2 cA H hK9 hP hD hS => ?_)
  rw [cz_cI hK9] at hP hD
  have hP : va_P (dC, dI) vwCl [(si, .inr (5, [.ref q_1, .null])), (q_1, .inl (cI, 400, .inl (fun _ => 0))), (q_2, .inl (cI, 400, .inl (fun _ => 0)))] H := hP
  have hD : va_D A [(si, .inr (5, [.ref q_1, .null])), (q_1, .inl (cI, 400, .inl (fun _ => 0))), (q_2, .inl (cI, 400, .inl (fun _ => 0)))] := hD
  refine W.widen (k := 2) (n := 800) (Nat.le_of_ble_eq_true rfl) (Nat.le_of_ble_eq_true rfl) ?_
  refine va_putF (D := (dC, dI)) (ci := 5) (v := .ref q_2) (ty := .array .int) (C := RX5) (T := TX5) (N := 2) hx hb hts hiX5 tyX5 tyX5_ok nmX5 hown hK hP hD hS 0 rfl rfl 1 (by decide) (hts (.fieldLink RX5 15 "LeftProfile$Sight" "between" "[I") (List.mem_of_getElem? (i := 6) rfl)) (fun _ h9 => h9) rfl hin rfl (by decide +kernel) rfl rfl (Nat.le_of_ble_eq_true rfl) dX5_init_19 (fun H locs hP hD hS => ?_)
  have hP : va_P (dC, dI) vwCl [(si, .inr (5, [.ref q_1, .ref q_2])), (q_1, .inl (cI, 400, .inl (fun _ => 0))), (q_2, .inl (cI, 400, .inl (fun _ => 0)))] H := hP
  have hD : va_D A [(si, .inr (5, [.ref q_1, .ref q_2])), (q_1, .inl (cI, 400, .inl (fun _ => 0))), (q_2, .inl (cI, 400, .inl (fun _ => 0)))] := hD
  refine lv_aload_n hx hb dX5_init_22 rfl (lv_at hl 0 rfl) ?_
  refine va_get (D := (dC, dI)) (ci := 5) (v := .ref q_1) (C := RX5) (T := TX5) (N := 2) hx hb hts hiX5 hown hK hP 0 rfl rfl 0 (by decide) (hts (.fieldLink RX5 9 "LeftProfile$Sight" "ways" "[I") (List.mem_of_getElem? (i := 5) rfl)) (fun _ h9 => h9) rfl dX5_init_23 ?_
  refine lv_iconst (v := (-1)) hx hb dX5_init_26 (by decide) ?_
  have hPc := hP.sub (ws' := [(q_1, .inl (cI, 400, .inl (fun _ => 0)))]) [1] rfl
  have hDc := hD.sub (ws' := [(q_1, .inl (cI, 400, .inl (fun _ => 0)))]) [1] (by decide) rfl
  have hFc := va_free (wc := [(q_1, .inl (cI, 400, .inl (fun _ => 0)))]) hD hS hA [1] rfl
  refine va_callv (va_runS (As := [.ref q_1, .int (-1)]) (rest := []) ⟨hx, hb, hml, hown, hts⟩ (c_fill400 l dC dI cI cB q_1 (-1) (fun _ => 0) H.size ) (va_cwS 2 hts gX5_init_J7_fill_53178 rfl rfl rfl (by decide +kernel) ⟨Nat.le_of_ble_eq_true rfl, Nat.le_of_ble_eq_true rfl⟩) (cz_mS hPc hN hDc) rfl rfl hl.1 rfl (lv_room (Nat.le_of_ble_eq_true rfl)) dX5_init_27 ⟨Nat.le_of_ble_eq_true rfl, Nat.le_of_ble_eq_true rfl⟩) hS (fun q _ h => hFc q h) hFc (fun u t H1 locs ht hvm hr_3 hB hz1 hk1 hS => ?_)
  obtain ⟨f_4, hP1, hD1⟩ := hB
  rw [ht] at hP1
  obtain ⟨hP, hD⟩ := va_join (wr := [(si, .inr (5, [.ref q_1, .ref q_2])), (q_2, .inl (cI, 400, .inl (fun _ => 0)))]) (w1 := [(q_1, .inl (cI, 400, .inl f_4))]) hP hD [1] [0, 2] rfl rfl (by decide) (by decide) hk1 hFc hP1 hD1
  generalize H1 = H at hP hS ⊢
  have hP : va_P (dC, dI) vwCl [(si, .inr (5, [.ref q_1, .ref q_2])), (q_2, .inl (cI, 400, .inl (fun _ => 0))), (q_1, .inl (cI, 400, .inl f_4))] H := hP
  have hD : va_D A [(si, .inr (5, [.ref q_1, .ref q_2])), (q_2, .inl (cI, 400, .inl (fun _ => 0))), (q_1, .inl (cI, 400, .inl f_4))] := hD
  refine lv_iconst (v := 0) hx hb dX5_init_30 (by decide) ?_
  refine lv_istore_n (lv' := [(1, .int 0), (0, .ref si)]) hx hb dX5_init_31 rfl hl (by decide) rfl (fun ls hl => ?_)
  have hP := hP.sub (ws' := [(si, .inr (5, [.ref q_1, .ref q_2])), (q_1, .inl (cI, 400, .inl f_4)), (q_2, .inl (cI, 400, .inl (fun _ => 0)))]) [0, 2, 1] rfl
  have hD := hD.sub (ws' := [(si, .inr (5, [.ref q_1, .ref q_2])), (q_1, .inl (cI, 400, .inl f_4)), (q_2, .inl (cI, 400, .inl (fun _ => 0)))]) [0, 2, 1] (by decide) rfl
  refine lp_sight2 hx hb hml hown hts hN hSt hA si q_1 q_2 (fun f g H locs ls hP hD hS hl => ?_) 20 0 f_4 (fun _ => 0) H locs ls (by omega) hP hD hS (lv_sub hl [1, 0] rfl)
  refine W.widen (k := 2) (n := 800) (Nat.le_of_ble_eq_true rfl) (Nat.le_of_ble_eq_true rfl) ?_
  have hP9 := hP.sub (ws' := [(si, .inr (5, [.ref q_1, .ref q_2])), (q_1, .inl (cI, 400, .inl f)), (q_2, .inl (cI, 400, .inl g))]) [0, 1, 2] rfl
  have hD9 := hD.sub (ws' := [(si, .inr (5, [.ref q_1, .ref q_2])), (q_1, .inl (cI, 400, .inl f)), (q_2, .inl (cI, 400, .inl g))]) [0, 1, 2] (by decide) rfl
  exact W.vret hx hb hr (fun t ht hW => ⟨⟨(), rfl, trivial, ⟨q_1, q_2, f, g, by rw [ht]; exact hP9, hD9⟩⟩, hS.F ht⟩) hS.2.2 dX5_init_64
