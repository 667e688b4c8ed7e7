
theorem c_X6_isPlace_a1 (p0 : Int32) (c_1 : p0 < 0) : ¬ cz_in 0 p0 19 := by first | (subst_vars; rfl) | assumption | ((try subst_vars) <;> (repeat' split) <;> (first | rfl | contradiction | ((try simp only [cz_in, cz_du, cz_lt, cz_le, cz_eq, cz_l] at *) <;> (first | omega | (simp_all; done))))) | ((try subst_vars); simp only [cz_in, *, and_self, and_true, true_and, if_true, if_false])
theorem c_X6_isPlace_a2 (p0 : Int32) (c_1 : ¬ p0 < 0) (c_2 : 20 ≤ p0) : ¬ cz_in 0 p0 19 := by first | (subst_vars; rfl) | assumption | ((try subst_vars) <;> (repeat' split) <;> (first | rfl | contradiction | ((try simp only [cz_in, cz_du, cz_lt, cz_le, cz_eq, cz_l] at *) <;> (first | omega | (simp_all; done))))) | ((try subst_vars); simp only [cz_in, *, and_self, and_true, true_and, if_true, if_false])
theorem c_X6_isPlace_a3 (p0 : Int32) (c_1 : ¬ p0 < 0) (c_2 : ¬ 20 ≤ p0) : cz_in 0 p0 19 := by first | (subst_vars; rfl) | assumption | ((try subst_vars) <;> (repeat' split) <;> (first | rfl | contradiction | ((try simp only [cz_in, cz_du, cz_lt, cz_le, cz_eq, cz_l] at *) <;> (first | omega | (simp_all; done))))) | ((try subst_vars); simp only [cz_in, *, and_self, and_true, true_and, if_true, if_false])
set_option maxHeartbeats 4000000 in
set_option maxRecDepth 100000 in
theorem c_X6_isPlace (l : Launch) (dC : Nat → ClassId) (dI : Nat → Nat → Nat) (cI cB : ClassId) (p0 : Int32) : Met l yX6_isPlace wsX6_isPlace ({ frames := 0, cells := 0, slots := 0, locals := 0 }) (cz_Pp dC dI cI cB [.int p0] []) (vp_Si (fun r : Int32 => (r = 0 ∧ ¬ cz_in 0 p0 19) ∨ (r = 1 ∧ cz_in 0 p0 19))) 0 0 (fun _ => False) := by
  refine cz_of (cc := cX6_isPlace) (maxL := 1) (ret := (some .boolean)) (by decide) rfl ?_
  intro p e s m args below meth c s₁ Q B hml hv hQ
  obtain ⟨rfl, hP, hN⟩ := hv
  have hx := B.exec
  have hb := B.bytes
  have hr := B.returns
  have hts := atoms_spec (ws := wsX6_isPlace) B.pre
  have hown : s.vm.findClass RX6 = some m.cls := findClass_of_methodNamed B.named
  have hlocks := B.notSynchronized
  have hK := hN.1
  have hl := lv_entry ([.int p0]) (n := 1) (Nat.le_of_ble_eq_true rfl)
  rw [lg_entry_eq]
  generalize (lg_sl ([.int p0]) ++ List.replicate (1 - (lg_sl ([.int p0])).length) Slot.unset).toArray = ls at hl ⊢
  have hl : lv_has ls 1 [(0, .int p0)] := hl
  refine lv_iload_n hx hb dX6_isPlace_0 rfl (lv_at hl 0 rfl) ?_
  refine lv_if_lt (tgt := 14) hx hb dX6_isPlace_1 (by decide) (fun c_1 => ?_) (fun c_1 => ?_)
  · refine lv_iconst (v := 0) hx hb dX6_isPlace_14 (by decide) ?_
    rw [hQ]; exact W.zret (v := 0) hx hb hr (by decide) (fun t ht hW => ⟨0, rfl, (Or.inl ⟨rfl, (c_X6_isPlace_a1 p0 c_1)⟩), ht⟩) (fun _ h => absurd h List.not_mem_nil) dX6_isPlace_15
  · refine lv_iload_n hx hb dX6_isPlace_4 rfl (lv_at hl 0 rfl) ?_
    refine lv_bipush (v := 20) hx hb dX6_isPlace_5 (by decide) ?_
    refine lv_icmp_ge (tgt := 14) hx hb dX6_isPlace_7 (by decide) (fun c_2 => ?_) (fun c_2 => ?_)
    · refine lv_iconst (v := 0) hx hb dX6_isPlace_14 (by decide) ?_
      rw [hQ]; exact W.zret (v := 0) hx hb hr (by decide) (fun t ht hW => ⟨0, rfl, (Or.inl ⟨rfl, (c_X6_isPlace_a2 p0 c_1 c_2)⟩), ht⟩) (fun _ h => absurd h List.not_mem_nil) dX6_isPlace_15
    · refine lv_iconst (v := 1) hx hb dX6_isPlace_10 (by decide) ?_
      refine lv_goto (tgt := 15) hx hb dX6_isPlace_11 (by decide) ?_
      rw [hQ]; exact W.zret (v := 1) hx hb hr (by decide) (fun t ht hW => ⟨1, rfl, (Or.inr (⟨rfl, (c_X6_isPlace_a3 p0 c_1 c_2)⟩)), ht⟩) (fun _ h => absurd h List.not_mem_nil) dX6_isPlace_15

theorem c_X6_isKind_a1 (p0 : Int32) (c_1 : p0 < 0) : ¬ cz_in 0 p0 4 := by first | (subst_vars; rfl) | assumption | ((try subst_vars) <;> (repeat' split) <;> (first | rfl | contradiction | ((try simp only [cz_in, cz_du, cz_lt, cz_le, cz_eq, cz_l] at *) <;> (first | omega | (simp_all; done))))) | ((try subst_vars); simp only [cz_in, *, and_self, and_true, true_and, if_true, if_false])
theorem c_X6_isKind_a2 (p0 : Int32) (c_1 : ¬ p0 < 0) (c_2 : 4 < p0) : ¬ cz_in 0 p0 4 := by first | (subst_vars; rfl) | assumption | ((try subst_vars) <;> (repeat' split) <;> (first | rfl | contradiction | ((try simp only [cz_in, cz_du, cz_lt, cz_le, cz_eq, cz_l] at *) <;> (first | omega | (simp_all; done))))) | ((try subst_vars); simp only [cz_in, *, and_self, and_true, true_and, if_true, if_false])
theorem c_X6_isKind_a3 (p0 : Int32) (c_1 : ¬ p0 < 0) (c_2 : ¬ 4 < p0) : cz_in 0 p0 4 := by first | (subst_vars; rfl) | assumption | ((try subst_vars) <;> (repeat' split) <;> (first | rfl | contradiction | ((try simp only [cz_in, cz_du, cz_lt, cz_le, cz_eq, cz_l] at *) <;> (first | omega | (simp_all; done))))) | ((try subst_vars); simp only [cz_in, *, and_self, and_true, true_and, if_true, if_false])
set_option maxHeartbeats 4000000 in
set_option maxRecDepth 100000 in
theorem c_X6_isKind (l : Launch) (dC : Nat → ClassId) (dI : Nat → Nat → Nat) (cI cB : ClassId) (p0 : Int32) : Met l yX6_isKind wsX6_isKind ({ frames := 0, cells := 0, slots := 0, locals := 0 }) (cz_Pp dC dI cI cB [.int p0] []) (vp_Si (fun r : Int32 => (r = 0 ∧ ¬ cz_in 0 p0 4) ∨ (r = 1 ∧ cz_in 0 p0 4))) 0 0 (fun _ => False) := by
  refine cz_of (cc := cX6_isKind) (maxL := 1) (ret := (some .boolean)) (by decide) rfl ?_
  intro p e s m args below meth c s₁ Q B hml hv hQ
  obtain ⟨rfl, hP, hN⟩ := hv
  have hx := B.exec
  have hb := B.bytes
  have hr := B.returns
  have hts := atoms_spec (ws := wsX6_isKind) B.pre
  have hown : s.vm.findClass RX6 = some m.cls := findClass_of_methodNamed B.named
  have hlocks := B.notSynchronized
  have hK := hN.1
  have hl := lv_entry ([.int p0]) (n := 1) (Nat.le_of_ble_eq_true rfl)
  rw [lg_entry_eq]
  generalize (lg_sl ([.int p0]) ++ List.replicate (1 - (lg_sl ([.int p0])).length) Slot.unset).toArray = ls at hl ⊢
  have hl : lv_has ls 1 [(0, .int p0)] := hl
  refine lv_iload_n hx hb dX6_isKind_0 rfl (lv_at hl 0 rfl) ?_
  refine lv_if_lt (tgt := 13) hx hb dX6_isKind_1 (by decide) (fun c_1 => ?_) (fun c_1 => ?_)
  · refine lv_iconst (v := 0) hx hb dX6_isKind_13 (by decide) ?_
    rw [hQ]; exact W.zret (v := 0) hx hb hr (by decide) (fun t ht hW => ⟨0, rfl, (Or.inl ⟨rfl, (c_X6_isKind_a1 p0 c_1)⟩), ht⟩) (fun _ h => absurd h List.not_mem_nil) dX6_isKind_14
  · refine lv_iload_n hx hb dX6_isKind_4 rfl (lv_at hl 0 rfl) ?_
    refine lv_iconst (v := 4) hx hb dX6_isKind_5 (by decide) ?_
    refine lv_icmp_gt (tgt := 13) hx hb dX6_isKind_6 (by decide) (fun c_2 => ?_) (fun c_2 => ?_)
    · refine lv_iconst (v := 0) hx hb dX6_isKind_13 (by decide) ?_
      rw [hQ]; exact W.zret (v := 0) hx hb hr (by decide) (fun t ht hW => ⟨0, rfl, (Or.inl ⟨rfl, (c_X6_isKind_a2 p0 c_1 c_2)⟩), ht⟩) (fun _ h => absurd h List.not_mem_nil) dX6_isKind_14
    · refine lv_iconst (v := 1) hx hb dX6_isKind_9 (by decide) ?_
      refine lv_goto (tgt := 14) hx hb dX6_isKind_10 (by decide) ?_
      rw [hQ]; exact W.zret (v := 1) hx hb hr (by decide) (fun t ht hW => ⟨1, rfl, (Or.inr (⟨rfl, (c_X6_isKind_a3 p0 c_1 c_2)⟩)), ht⟩) (fun _ h => absurd h List.not_mem_nil) dX6_isKind_14

set_option maxHeartbeats 4000000 in
set_option maxRecDepth 100000 in
theorem c_X6_bit (l : Launch) (dC : Nat → ClassId) (dI : Nat → Nat → Nat) (cI cB : ClassId) (p0 : Int32) : Met l yX6_bit wsX6_bit ({ frames := 0, cells := 0, slots := 0, locals := 0 }) (cz_Pp dC dI cI cB [.int p0] []) (vp_Si (fun r : Int32 => r = 1 <<< (p0 &&& 31))) 0 0 (fun _ => False) := by
  refine cz_of (cc := cX6_bit) (maxL := 1) (ret := (some .int)) (by decide) rfl ?_
  intro p e s m args below meth c s₁ Q B hml hv hQ
  obtain ⟨rfl, hP, hN⟩ := hv
  have hx := B.exec
  have hb := B.bytes
  have hr := B.returns
  have hts := atoms_spec (ws := wsX6_bit) B.pre
  have hown : s.vm.findClass RX6 = some m.cls := findClass_of_methodNamed B.named
  have hlocks := B.notSynchronized
  have hK := hN.1
  have hl := lv_entry ([.int p0]) (n := 1) (Nat.le_of_ble_eq_true rfl)
  rw [lg_entry_eq]
  generalize (lg_sl ([.int p0]) ++ List.replicate (1 - (lg_sl ([.int p0])).length) Slot.unset).toArray = ls at hl ⊢
  have hl : lv_has ls 1 [(0, .int p0)] := hl
  refine lv_iconst (v := 1) hx hb dX6_bit_0 (by decide) ?_
  refine lv_iload_n hx hb dX6_bit_1 rfl (lv_at hl 0 rfl) ?_
  refine lv_ishl hx hb dX6_bit_2 ?_
  refine lv_topi (fun x_1 ex_1 => ?_)
  rw [hQ]; exact W.iret (v := x_1) hx hb hr (fun t ht hW => ⟨x_1, rfl, ex_1, ht⟩) (fun _ h => absurd h List.not_mem_nil) dX6_bit_3

theorem c_X6_placeOf_a1 (p0 : Int32) (x_2 : Int32) (c_1 : 0 ≤ p0) (ex_2 : x_2 = p0 / 4) : (x_2 : Int32) = cz_plc p0 := by first | (subst_vars; rfl) | assumption | ((try subst_vars) <;> (try simp only [cz_plc]) <;> (repeat' split) <;> (first | rfl | contradiction | ((try simp only [cz_in, cz_du, cz_lt, cz_le, cz_eq, cz_l] at *) <;> (first | omega | (simp_all; done))))) | ((try subst_vars); simp only [cz_plc, cz_in, *, and_self, and_true, true_and, if_true, if_false])
theorem c_X6_placeOf_a2 (p0 : Int32) (c_1 : ¬ 0 ≤ p0) : ((-1) : Int32) = cz_plc p0 := by first | (subst_vars; rfl) | assumption | ((try subst_vars) <;> (try simp only [cz_plc]) <;> (repeat' split) <;> (first | rfl | contradiction | ((try simp only [cz_in, cz_du, cz_lt, cz_le, cz_eq, cz_l] at *) <;> (first | omega | (simp_all; done))))) | ((try subst_vars); simp only [cz_plc, cz_in, *, and_self, and_true, true_and, if_true, if_false])
set_option maxHeartbeats 4000000 in
set_option maxRecDepth 100000 in
theorem c_X6_placeOf (l : Launch) (dC : Nat → ClassId) (dI : Nat → Nat → Nat) (cI cB : ClassId) (p0 : Int32) : Met l yX6_placeOf wsX6_placeOf ({ frames := 0, cells := 0, slots := 0, locals := 0 }) (cz_Pp dC dI cI cB [.int p0] []) (vp_Si (fun r : Int32 => r = cz_plc p0)) 0 0 (fun _ => False) := by
  refine cz_of (cc := cX6_placeOf) (maxL := 1) (ret := (some .int)) (by decide) rfl ?_
  intro p e s m args below meth c s₁ Q B hml hv hQ
  obtain ⟨rfl, hP, hN⟩ := hv
  have hx := B.exec
  have hb := B.bytes
  have hr := B.returns
  have hts := atoms_spec (ws := wsX6_placeOf) B.pre
  have hown : s.vm.findClass RX6 = some m.cls := findClass_of_methodNamed B.named
  have hlocks := B.notSynchronized
  have hK := hN.1
  have hl := lv_entry ([.int p0]) (n := 1) (Nat.le_of_ble_eq_true rfl)
  rw [lg_entry_eq]
  generalize (lg_sl ([.int p0]) ++ List.replicate (1 - (lg_sl ([.int p0])).length) Slot.unset).toArray = ls at hl ⊢
  have hl : lv_has ls 1 [(0, .int p0)] := hl
  refine lv_iload_n hx hb dX6_placeOf_0 rfl (lv_at hl 0 rfl) ?_
  refine lv_if_ge (tgt := 8) hx hb dX6_placeOf_1 (by decide) (fun c_1 => ?_) (fun c_1 => ?_)
  · refine lv_iload_n hx hb dX6_placeOf_8 rfl (lv_at hl 0 rfl) ?_
    refine lv_iconst (v := 4) hx hb dX6_placeOf_9 (by decide) ?_
    refine lv_idiv hx hb dX6_placeOf_10 (by decide) ?_
    refine lv_topi (fun x_2 ex_2 => ?_)
    rw [hQ]; exact W.iret (v := x_2) hx hb hr (fun t ht hW => ⟨x_2, rfl, (c_X6_placeOf_a1 p0 x_2 c_1 ex_2), ht⟩) (fun _ h => absurd h List.not_mem_nil) dX6_placeOf_11
  · refine lv_iconst (v := (-1)) hx hb dX6_placeOf_4 (by decide) ?_
    refine lv_goto (tgt := 11) hx hb dX6_placeOf_5 (by decide) ?_
    rw [hQ]; exact W.iret (v := (-1)) hx hb hr (fun t ht hW => ⟨(-1), rfl, (c_X6_placeOf_a2 p0 c_1), ht⟩) (fun _ h => absurd h List.not_mem_nil) dX6_placeOf_11

theorem c_X6_sideOf_a1 (p0 : Int32) (x_2 : Int32) (c_1 : 0 ≤ p0) (ex_2 : x_2 = p0 - p0 / 4 * 4) : (x_2 : Int32) = cz_sid p0 := by first | (subst_vars; rfl) | assumption | ((try subst_vars) <;> (try simp only [cz_sid]) <;> (repeat' split) <;> (first | rfl | contradiction | ((try simp only [cz_in, cz_du, cz_lt, cz_le, cz_eq, cz_l] at *) <;> (first | omega | (simp_all; done))))) | ((try subst_vars); simp only [cz_sid, cz_in, *, and_self, and_true, true_and, if_true, if_false])
theorem c_X6_sideOf_a2 (p0 : Int32) (c_1 : ¬ 0 ≤ p0) : ((-1) : Int32) = cz_sid p0 := by first | (subst_vars; rfl) | assumption | ((try subst_vars) <;> (try simp only [cz_sid]) <;> (repeat' split) <;> (first | rfl | contradiction | ((try simp only [cz_in, cz_du, cz_lt, cz_le, cz_eq, cz_l] at *) <;> (first | omega | (simp_all; done))))) | ((try subst_vars); simp only [cz_sid, cz_in, *, and_self, and_true, true_and, if_true, if_false])
set_option maxHeartbeats 4000000 in
set_option maxRecDepth 100000 in
theorem c_X6_sideOf (l : Launch) (dC : Nat → ClassId) (dI : Nat → Nat → Nat) (cI cB : ClassId) (p0 : Int32) : Met l yX6_sideOf wsX6_sideOf ({ frames := 0, cells := 0, slots := 0, locals := 0 }) (cz_Pp dC dI cI cB [.int p0] []) (vp_Si (fun r : Int32 => r = cz_sid p0)) 0 0 (fun _ => False) := by
  refine cz_of (cc := cX6_sideOf) (maxL := 1) (ret := (some .int)) (by decide) rfl ?_
  intro p e s m args below meth c s₁ Q B hml hv hQ
  obtain ⟨rfl, hP, hN⟩ := hv
  have hx := B.exec
  have hb := B.bytes
  have hr := B.returns
  have hts := atoms_spec (ws := wsX6_sideOf) B.pre
  have hown : s.vm.findClass RX6 = some m.cls := findClass_of_methodNamed B.named
  have hlocks := B.notSynchronized
  have hK := hN.1
  have hl := lv_entry ([.int p0]) (n := 1) (Nat.le_of_ble_eq_true rfl)
  rw [lg_entry_eq]
  generalize (lg_sl ([.int p0]) ++ List.replicate (1 - (lg_sl ([.int p0])).length) Slot.unset).toArray = ls at hl ⊢
  have hl : lv_has ls 1 [(0, .int p0)] := hl
  refine lv_iload_n hx hb dX6_sideOf_0 rfl (lv_at hl 0 rfl) ?_
  refine lv_if_ge (tgt := 8) hx hb dX6_sideOf_1 (by decide) (fun c_1 => ?_) (fun c_1 => ?_)
  · refine lv_iload_n hx hb dX6_sideOf_8 rfl (lv_at hl 0 rfl) ?_
    refine lv_iconst (v := 4) hx hb dX6_sideOf_9 (by decide) ?_
    refine lv_irem hx hb dX6_sideOf_10 (by decide) ?_
    refine lv_topi (fun x_2 ex_2 => ?_)
    rw [hQ]; exact W.iret (v := x_2) hx hb hr (fun t ht hW => ⟨x_2, rfl, (c_X6_sideOf_a1 p0 x_2 c_1 ex_2), ht⟩) (fun _ h => absurd h List.not_mem_nil) dX6_sideOf_11
  · refine lv_iconst (v := (-1)) hx hb dX6_sideOf_4 (by decide) ?_
    refine lv_goto (tgt := 11) hx hb dX6_sideOf_5 (by decide) ?_
    rw [hQ]; exact W.iret (v := (-1)) hx hb hr (fun t ht hW => ⟨(-1), rfl, (c_X6_sideOf_a2 p0 c_1), ht⟩) (fun _ h => absurd h List.not_mem_nil) dX6_sideOf_11

set_option maxHeartbeats 4000000 in
set_option maxRecDepth 100000 in
theorem c_X6_mixed (l : Launch) (dC : Nat → ClassId) (dI : Nat → Nat → Nat) (cI cB : ClassId) (p0 : Int64) (p1 : Int32) : Met l yX6_mixed wsX6_mixed ({ frames := 0, cells := 0, slots := 0, locals := 0 }) (cz_Pp dC dI cI cB [.long p0, .int p1] []) (vp_Sl (fun r : Int64 => True)) 0 0 (fun _ => False) := by
  refine cz_of (cc := cX6_mixed) (maxL := 3) (ret := (some .long)) (by decide) rfl ?_
  intro p e s m args below meth c s₁ Q B hml hv hQ
  obtain ⟨rfl, hP, hN⟩ := hv
  have hx := B.exec
  have hb := B.bytes
  have hr := B.returns
  have hts := atoms_spec (ws := wsX6_mixed) B.pre
  have hown : s.vm.findClass RX6 = some m.cls := findClass_of_methodNamed B.named
  have hlocks := B.notSynchronized
  have hK := hN.1
  have hl := lv_entry ([.long p0, .int p1]) (n := 3) (Nat.le_of_ble_eq_true rfl)
  rw [lg_entry_eq]
  generalize (lg_sl ([.long p0, .int p1]) ++ List.replicate (3 - (lg_sl ([.long p0, .int p1])).length) Slot.unset).toArray = ls at hl ⊢
  have hl : lv_has ls 3 [(0, .long p0), (2, .int p1)] := hl
  refine lv_ldc2 (v := 31) hx hb hown (hts (.constantLong RX6 238 (31)) (List.mem_of_getElem? (i := 1) rfl)) dX6_mixed_0 ?_
  refine lv_lload_n hx hb dX6_mixed_3 rfl (lv_at hl 0 rfl) ?_
  refine lv_lmul hx hb dX6_mixed_4 ?_
  refine lv_topl (fun x_1 ex_1 => ?_)
  refine lv_iload_n hx hb dX6_mixed_5 rfl (lv_at hl 1 rfl) ?_
  refine lv_i2l hx hb dX6_mixed_6 rfl ?_
  refine lv_topl (fun x_2 ex_2 => ?_)
  refine lv_ladd hx hb dX6_mixed_7 ?_
  refine lv_topl (fun x_3 ex_3 => ?_)
  rw [hQ]; exact W.lret (v := x_3) hx hb hr (fun t ht hW => ⟨x_3, rfl, trivial, ht⟩) (fun _ h => absurd h List.not_mem_nil) dX6_mixed_8

theorem c_J6_bitCount_0f7a4_a1 (p0 : Int32) (x_1 : Int32) (x_2 : Int32) (x_3 : Int32) (x_4 : Int32) (x_5 : Int32) (x_6 : Int32) (x_7 : Int32) (x_8 : Int32) (x_9 : Int32) (x_10 : Int32) (x_11 : Int32) (x_12 : Int32) (x_13 : Int32) (x_14 : Int32) (x_15 : Int32) (ex_1 : x_1 = ((p0 : Int32).toUInt32 >>> ((1 : Int32).toUInt32 &&& Int32.toUInt32 31)).toInt32) (ex_2 : x_2 = x_1 &&& 1431655765) (ex_3 : x_3 = p0 - x_2) (ex_4 : x_4 = x_3 &&& 858993459) (ex_5 : x_5 = ((x_3 : Int32).toUInt32 >>> ((2 : Int32).toUInt32 &&& Int32.toUInt32 31)).toInt32) (ex_6 : x_6 = x_5 &&& 858993459) (ex_7 : x_7 = x_4 + x_6) (ex_8 : x_8 = ((x_7 : Int32).toUInt32 >>> ((4 : Int32).toUInt32 &&& Int32.toUInt32 31)).toInt32) (ex_9 : x_9 = x_7 + x_8) (ex_10 : x_10 = x_9 &&& 252645135) (ex_11 : x_11 = ((x_10 : Int32).toUInt32 >>> ((8 : Int32).toUInt32 &&& Int32.toUInt32 31)).toInt32) (ex_12 : x_12 = x_10 + x_11) (ex_13 : x_13 = ((x_12 : Int32).toUInt32 >>> ((16 : Int32).toUInt32 &&& Int32.toUInt32 31)).toInt32) (ex_14 : x_14 = x_12 + x_13) (ex_15 : x_15 = x_14 &&& 63) : (x_15 : Int32) = cz_bc p0 := by first | (subst_vars; rfl) | assumption | ((try subst_vars) <;> (try simp only [cz_bc, cz_bc1, cz_bc2, cz_bc3, cz_bc4, cz_bc5]) <;> (repeat' split) <;> (first | rfl | contradiction | ((try simp only [cz_in, cz_du, cz_lt, cz_le, cz_eq, cz_l] at *) <;> (first | omega | (simp_all; done))))) | ((try subst_vars); simp only [cz_bc, cz_bc1, cz_bc2, cz_bc3, cz_bc4, cz_bc5, cz_in, *, and_self, and_true, true_and, if_true, if_false])
set_option maxHeartbeats 4000000 in
set_option maxRecDepth 100000 in
theorem c_J6_bitCount_0f7a4 (l : Launch) (dC : Nat → ClassId) (dI : Nat → Nat → Nat) (cI cB : ClassId) (p0 : Int32) : Met l yJ6_bitCount_0f7a4 wsJ6_bitCount_0f7a4 ({ frames := 0, cells := 0, slots := 0, locals := 0 }) (cz_Pp dC dI cI cB [.int p0] []) (vp_Si (fun r : Int32 => r = cz_bc p0)) 0 0 (fun _ => False) := by
  refine cz_of (cc := cJ6_bitCount_0f7a4) (maxL := 1) (ret := (some .int)) (by decide) rfl ?_
  intro p e s m args below meth c s₁ Q B hml hv hQ
  obtain ⟨rfl, hP, hN⟩ := hv
  have hx := B.exec
  have hb := B.bytes
  have hr := B.returns
  have hts := atoms_spec (ws := wsJ6_bitCount_0f7a4) B.pre
  have hown : s.vm.findClass RJ6 = some m.cls := findClass_of_methodNamed B.named
  have hlocks := B.notSynchronized
  have hK := hN.1
  have hl := lv_entry ([.int p0]) (n := 1) (Nat.le_of_ble_eq_true rfl)
  rw [lg_entry_eq]
  generalize (lg_sl ([.int p0]) ++ List.replicate (1 - (lg_sl ([.int p0])).length) Slot.unset).toArray = ls at hl ⊢
  have hl : lv_has ls 1 [(0, .int p0)] := hl
  refine lv_iload_n hx hb dJ6_bitCount_0f7a4_0 rfl (lv_at hl 0 rfl) ?_
  refine lv_iload_n hx hb dJ6_bitCount_0f7a4_1 rfl (lv_at hl 0 rfl) ?_
  refine lv_iconst (v := 1) hx hb dJ6_bitCount_0f7a4_2 (by decide) ?_
  refine lv_iushr hx hb dJ6_bitCount_0f7a4_3 rfl ?_
  refine lv_topi (fun x_1 ex_1 => ?_)
  refine lv_ldcw (v := 1431655765) hx hb hown (hts (.constant RJ6 265 (1431655765)) (List.mem_of_getElem? (i := 1) rfl)) dJ6_bitCount_0f7a4_4 ?_
  refine lv_iand hx hb dJ6_bitCount_0f7a4_7 ?_
  refine lv_topi (fun x_2 ex_2 => ?_)
  refine lv_isub hx hb dJ6_bitCount_0f7a4_8 ?_
  refine lv_topi (fun x_3 ex_3 => ?_)
  refine lv_istore_n (lv' := [(0, .int x_3)]) hx hb dJ6_bitCount_0f7a4_9 rfl hl (by decide) rfl (fun ls hl => ?_)
  refine lv_iload_n hx hb dJ6_bitCount_0f7a4_10 rfl (lv_at hl 0 rfl) ?_
  refine lv_ldcw (v := 858993459) hx hb hown (hts (.constant RJ6 266 (858993459)) (List.mem_of_getElem? (i := 2) rfl)) dJ6_bitCount_0f7a4_11 ?_
  refine lv_iand hx hb dJ6_bitCount_0f7a4_14 ?_
  refine lv_topi (fun x_4 ex_4 => ?_)
  refine lv_iload_n hx hb dJ6_bitCount_0f7a4_15 rfl (lv_at hl 0 rfl) ?_
  refine lv_iconst (v := 2) hx hb dJ6_bitCount_0f7a4_16 (by decide) ?_
  refine lv_iushr hx hb dJ6_bitCount_0f7a4_17 rfl ?_
  refine lv_topi (fun x_5 ex_5 => ?_)
  refine lv_ldcw (v := 858993459) hx hb hown (hts (.constant RJ6 266 (858993459)) (List.mem_of_getElem? (i := 2) rfl)) dJ6_bitCount_0f7a4_18 ?_
  refine lv_iand hx hb dJ6_bitCount_0f7a4_21 ?_
  refine lv_topi (fun x_6 ex_6 => ?_)
  refine lv_iadd hx hb dJ6_bitCount_0f7a4_22 ?_
  refine lv_topi (fun x_7 ex_7 => ?_)
  refine lv_istore_n (lv' := [(0, .int x_7)]) hx hb dJ6_bitCount_0f7a4_23 rfl hl (by decide) rfl (fun ls hl => ?_)
  refine lv_iload_n hx hb dJ6_bitCount_0f7a4_24 rfl (lv_at hl 0 rfl) ?_
  refine lv_iload_n hx hb dJ6_bitCount_0f7a4_25 rfl (lv_at hl 0 rfl) ?_
  refine lv_iconst (v := 4) hx hb dJ6_bitCount_0f7a4_26 (by decide) ?_
  refine lv_iushr hx hb dJ6_bitCount_0f7a4_27 rfl ?_
  refine lv_topi (fun x_8 ex_8 => ?_)
  refine lv_iadd hx hb dJ6_bitCount_0f7a4_28 ?_
  refine lv_topi (fun x_9 ex_9 => ?_)
  refine lv_ldcw (v := 252645135) hx hb hown (hts (.constant RJ6 267 (252645135)) (List.mem_of_getElem? (i := 3) rfl)) dJ6_bitCount_0f7a4_29 ?_
  refine lv_iand hx hb dJ6_bitCount_0f7a4_32 ?_
  refine lv_topi (fun x_10 ex_10 => ?_)
  refine lv_istore_n (lv' := [(0, .int x_10)]) hx hb dJ6_bitCount_0f7a4_33 rfl hl (by decide) rfl (fun ls hl => ?_)
  refine lv_iload_n hx hb dJ6_bitCount_0f7a4_34 rfl (lv_at hl 0 rfl) ?_
  refine lv_iload_n hx hb dJ6_bitCount_0f7a4_35 rfl (lv_at hl 0 rfl) ?_
  refine lv_bipush (v := 8) hx hb dJ6_bitCount_0f7a4_36 (by decide) ?_
  refine lv_iushr hx hb dJ6_bitCount_0f7a4_38 rfl ?_
  refine lv_topi (fun x_11 ex_11 => ?_)
  refine lv_iadd hx hb dJ6_bitCount_0f7a4_39 ?_
  refine lv_topi (fun x_12 ex_12 => ?_)
  refine lv_istore_n (lv' := [(0, .int x_12)]) hx hb dJ6_bitCount_0f7a4_40 rfl hl (by decide) rfl (fun ls hl => ?_)
  refine lv_iload_n hx hb dJ6_bitCount_0f7a4_41 rfl (lv_at hl 0 rfl) ?_
  refine lv_iload_n hx hb dJ6_bitCount_0f7a4_42 rfl (lv_at hl 0 rfl) ?_
  refine lv_bipush (v := 16) hx hb dJ6_bitCount_0f7a4_43 (by decide) ?_
  refine lv_iushr hx hb dJ6_bitCount_0f7a4_45 rfl ?_
  refine lv_topi (fun x_13 ex_13 => ?_)
  refine lv_iadd hx hb dJ6_bitCount_0f7a4_46 ?_
  refine lv_topi (fun x_14 ex_14 => ?_)
  refine lv_istore_n (lv' := [(0, .int x_14)]) hx hb dJ6_bitCount_0f7a4_47 rfl hl (by decide) rfl (fun ls hl => ?_)
  refine lv_iload_n hx hb dJ6_bitCount_0f7a4_48 rfl (lv_at hl 0 rfl) ?_
  refine lv_bipush (v := 63) hx hb dJ6_bitCount_0f7a4_49 (by decide) ?_
  refine lv_iand hx hb dJ6_bitCount_0f7a4_51 ?_
  refine lv_topi (fun x_15 ex_15 => ?_)
  rw [hQ]; exact W.iret (v := x_15) hx hb hr (fun t ht hW => ⟨x_15, rfl, (c_J6_bitCount_0f7a4_a1 p0 x_1 x_2 x_3 x_4 x_5 x_6 x_7 x_8 x_9 x_10 x_11 x_12 x_13 x_14 x_15 ex_1 ex_2 ex_3 ex_4 ex_5 ex_6 ex_7 ex_8 ex_9 ex_10 ex_11 ex_12 ex_13 ex_14 ex_15), ht⟩) (fun _ h => absurd h List.not_mem_nil) dJ6_bitCount_0f7a4_52

theorem c_J9_floorMod_7cf53_a1 (p0 : Int32) (x_1 : Int32) (x_2 : Int32) (ex_1 : x_1 = p0 - p0 / 8 * 8) (ex_2 : x_2 = p0 ^^^ 8) (c_3 : 0 ≤ x_2) : (x_1 : Int32) = cz_fm p0 := by first | (subst_vars; rfl) | assumption | ((try subst_vars) <;> (try simp only [cz_fm]) <;> (repeat' split) <;> (first | rfl | contradiction | ((try simp only [cz_in, cz_du, cz_lt, cz_le, cz_eq, cz_l] at *) <;> (first | omega | (simp_all; done))))) | ((try subst_vars); simp only [cz_fm, cz_in, *, and_self, and_true, true_and, if_true, if_false])
theorem c_J9_floorMod_7cf53_a2 (p0 : Int32) (x_1 : Int32) (x_2 : Int32) (ex_1 : x_1 = p0 - p0 / 8 * 8) (ex_2 : x_2 = p0 ^^^ 8) (c_3 : ¬ 0 ≤ x_2) (c_4 : x_1 = 0) : (x_1 : Int32) = cz_fm p0 := by first | (subst_vars; rfl) | assumption | ((try subst_vars) <;> (try simp only [cz_fm]) <;> (repeat' split) <;> (first | rfl | contradiction | ((try simp only [cz_in, cz_du, cz_lt, cz_le, cz_eq, cz_l] at *) <;> (first | omega | (simp_all; done))))) | ((try subst_vars); simp only [cz_fm, cz_in, *, and_self, and_true, true_and, if_true, if_false])
theorem c_J9_floorMod_7cf53_a3 (p0 : Int32) (x_1 : Int32) (x_2 : Int32) (x_5 : Int32) (ex_1 : x_1 = p0 - p0 / 8 * 8) (ex_2 : x_2 = p0 ^^^ 8) (c_3 : ¬ 0 ≤ x_2) (c_4 : ¬ x_1 = 0) (ex_5 : x_5 = x_1 + 8) : (x_5 : Int32) = cz_fm p0 := by first | (subst_vars; rfl) | assumption | ((try subst_vars) <;> (try simp only [cz_fm]) <;> (repeat' split) <;> (first | rfl | contradiction | ((try simp only [cz_in, cz_du, cz_lt, cz_le, cz_eq, cz_l] at *) <;> (first | omega | (simp_all; done))))) | ((try subst_vars); simp only [cz_fm, cz_in, *, and_self, and_true, true_and, if_true, if_false])
set_option maxHeartbeats 4000000 in
set_option maxRecDepth 100000 in
theorem c_J9_floorMod_7cf53 (l : Launch) (dC : Nat → ClassId) (dI : Nat → Nat → Nat) (cI cB : ClassId) (p0 : Int32) : Met l yJ9_floorMod_7cf53 wsJ9_floorMod_7cf53 ({ frames := 0, cells := 0, slots := 0, locals := 0 }) (cz_Pp dC dI cI cB [.int p0, .int 8] []) (vp_Si (fun r : Int32 => r = cz_fm p0)) 0 0 (fun _ => False) := by
  refine cz_ofF (cc := cJ9_floorMod_7cf53) (maxL := 3) (ret := (some .int)) (by decide +kernel) rfl ?_
  intro p e s m args below meth c s₁ Q B hml hv hQ
  obtain ⟨rfl, hP, hN⟩ := hv
  have hx := B.exec
  have hb := B.bytes
  have hr := B.returns
  have hts := atoms_spec (ws := wsJ9_floorMod_7cf53) B.pre
  have hown : s.vm.findClass RJ9 = some m.cls := findClass_of_methodNamed B.named
  have hlocks := B.notSynchronized
  have hK := hN.1
  have hl := lv_entry ([.int p0, .int 8]) (n := 3) (Nat.le_of_ble_eq_true rfl)
  rw [lg_entry_eq]
  generalize (lg_sl ([.int p0, .int 8]) ++ List.replicate (3 - (lg_sl ([.int p0, .int 8])).length) Slot.unset).toArray = ls at hl ⊢
  have hl : lv_has ls 3 [(0, .int p0), (1, .int 8)] := hl
  refine lv_iload_n hx hb dJ9_floorMod_7cf53_0 rfl (lv_at hl 0 rfl) ?_
  refine lv_iload_n hx hb dJ9_floorMod_7cf53_1 rfl (lv_at hl 1 rfl) ?_
  refine lv_irem hx hb dJ9_floorMod_7cf53_2 (by decide) ?_
  refine lv_topi (fun x_1 ex_1 => ?_)
  refine lv_istore_n (lv' := [(2, .int x_1), (0, .int p0), (1, .int 8)]) hx hb dJ9_floorMod_7cf53_3 rfl hl (by decide) rfl (fun ls hl => ?_)
  refine lv_iload_n hx hb dJ9_floorMod_7cf53_4 rfl (lv_at hl 1 rfl) ?_
  refine lv_iload_n hx hb dJ9_floorMod_7cf53_5 rfl (lv_at hl 2 rfl) ?_
  refine lv_ixor hx hb dJ9_floorMod_7cf53_6 ?_
  refine lv_topi (fun x_2 ex_2 => ?_)
  refine lv_if_ge (tgt := 18) hx hb dJ9_floorMod_7cf53_7 (by decide) (fun c_3 => ?_) (fun c_3 => ?_)
  · refine lv_iload_n hx hb dJ9_floorMod_7cf53_18 rfl (lv_at hl 0 rfl) ?_
    rw [hQ]; exact W.iret (v := x_1) hx hb hr (fun t ht hW => ⟨x_1, rfl, (c_J9_floorMod_7cf53_a1 p0 x_1 x_2 ex_1 ex_2 c_3), ht⟩) (fun _ h => absurd h List.not_mem_nil) dJ9_floorMod_7cf53_19
  · refine lv_iload_n hx hb dJ9_floorMod_7cf53_10 rfl (lv_at hl 0 rfl) ?_
    refine lv_if_eq (tgt := 18) hx hb dJ9_floorMod_7cf53_11 (by decide) (fun c_4 => ?_) (fun c_4 => ?_)
    · refine lv_iload_n hx hb dJ9_floorMod_7cf53_18 rfl (lv_at hl 0 rfl) ?_
      rw [hQ]; exact W.iret (v := x_1) hx hb hr (fun t ht hW => ⟨x_1, rfl, (c_J9_floorMod_7cf53_a2 p0 x_1 x_2 ex_1 ex_2 c_3 c_4), ht⟩) (fun _ h => absurd h List.not_mem_nil) dJ9_floorMod_7cf53_19
    · refine lv_iload_n hx hb dJ9_floorMod_7cf53_14 rfl (lv_at hl 0 rfl) ?_
      refine lv_iload_n hx hb dJ9_floorMod_7cf53_15 rfl (lv_at hl 2 rfl) ?_
      refine lv_iadd hx hb dJ9_floorMod_7cf53_16 ?_
      refine lv_topi (fun x_5 ex_5 => ?_)
      rw [hQ]; exact W.iret (v := x_5) hx hb hr (fun t ht hW => ⟨x_5, rfl, (c_J9_floorMod_7cf53_a3 p0 x_1 x_2 x_5 ex_1 ex_2 c_3 c_4 ex_5), ht⟩) (fun _ h => absurd h List.not_mem_nil) dJ9_floorMod_7cf53_17

theorem c_X6_isOfKind_a1 (p0 : Int32) (p1 : Int32) (c_1 : p1 = p0) : cz_kd p0 p1 := by first | (subst_vars; rfl) | assumption | ((try subst_vars) <;> (try simp only [cz_kd]) <;> (repeat' split) <;> (first | rfl | contradiction | ((try simp only [cz_in, cz_du, cz_lt, cz_le, cz_eq, cz_l] at *) <;> (first | omega | (simp_all; done))))) | ((try subst_vars); simp only [cz_kd, cz_in, *, and_self, and_true, true_and, if_true, if_false])
theorem c_X6_isOfKind_a2 (p0 : Int32) (p1 : Int32) (c_1 : ¬ p1 = p0) (c_2 : p1 = 0) : cz_kd p0 p1 := by first | (subst_vars; rfl) | assumption | ((try subst_vars) <;> (try simp only [cz_kd]) <;> (repeat' split) <;> (first | rfl | contradiction | ((try simp only [cz_in, cz_du, cz_lt, cz_le, cz_eq, cz_l] at *) <;> (first | omega | (simp_all; done))))) | ((try subst_vars); simp only [cz_kd, cz_in, *, and_self, and_true, true_and, if_true, if_false])
theorem c_X6_isOfKind_a3 (p0 : Int32) (p1 : Int32) (c_1 : ¬ p1 = p0) (c_2 : ¬ p1 = 0) (c_3 : ¬ p1 = 3) : ¬ cz_kd p0 p1 := by first | (subst_vars; rfl) | assumption | ((try subst_vars) <;> (try simp only [cz_kd]) <;> (repeat' split) <;> (first | rfl | contradiction | ((try simp only [cz_in, cz_du, cz_lt, cz_le, cz_eq, cz_l] at *) <;> (first | omega | (simp_all; done))))) | ((try subst_vars); simp only [cz_kd, cz_in, *, and_self, and_true, true_and, if_true, if_false])
theorem c_X6_isOfKind_a4 (p0 : Int32) (p1 : Int32) (c_1 : ¬ p1 = p0) (c_2 : ¬ p1 = 0) (c_3 : p1 = 3) (c_4 : ¬ p0 = 4) : ¬ cz_kd p0 p1 := by first | (subst_vars; rfl) | assumption | ((try subst_vars) <;> (try simp only [cz_kd]) <;> (repeat' split) <;> (first | rfl | contradiction | ((try simp only [cz_in, cz_du, cz_lt, cz_le, cz_eq, cz_l] at *) <;> (first | omega | (simp_all; done))))) | ((try subst_vars); simp only [cz_kd, cz_in, *, and_self, and_true, true_and, if_true, if_false])
theorem c_X6_isOfKind_a5 (p0 : Int32) (p1 : Int32) (c_1 : ¬ p1 = p0) (c_2 : ¬ p1 = 0) (c_3 : p1 = 3) (c_4 : p0 = 4) : cz_kd p0 p1 := by first | (subst_vars; rfl) | assumption | ((try subst_vars) <;> (try simp only [cz_kd]) <;> (repeat' split) <;> (first | rfl | contradiction | ((try simp only [cz_in, cz_du, cz_lt, cz_le, cz_eq, cz_l] at *) <;> (first | omega | (simp_all; done))))) | ((try subst_vars); simp only [cz_kd, cz_in, *, and_self, and_true, true_and, if_true, if_false])
set_option maxHeartbeats 4000000 in
set_option maxRecDepth 100000 in
theorem c_X6_isOfKind (l : Launch) (dC : Nat → ClassId) (dI : Nat → Nat → Nat) (cI cB : ClassId) (p0 : Int32) (p1 : Int32) : Met l yX6_isOfKind wsX6_isOfKind ({ frames := 0, cells := 0, slots := 0, locals := 0 }) (cz_Pp dC dI cI cB [.int p0, .int p1] []) (vp_Si (fun r : Int32 => (r = 0 ∧ ¬ cz_kd p0 p1) ∨ (r = 1 ∧ cz_kd p0 p1))) 0 0 (fun _ => False) := by
  refine cz_of (cc := cX6_isOfKind) (maxL := 2) (ret := (some .boolean)) (by decide) rfl ?_
  intro p e s m args below meth c s₁ Q B hml hv hQ
  obtain ⟨rfl, hP, hN⟩ := hv
  have hx := B.exec
  have hb := B.bytes
  have hr := B.returns
  have hts := atoms_spec (ws := wsX6_isOfKind) B.pre
  have hown : s.vm.findClass RX6 = some m.cls := findClass_of_methodNamed B.named
  have hlocks := B.notSynchronized
  have hK := hN.1
  have hl := lv_entry ([.int p0, .int p1]) (n := 2) (Nat.le_of_ble_eq_true rfl)
  rw [lg_entry_eq]
  generalize (lg_sl ([.int p0, .int p1]) ++ List.replicate (2 - (lg_sl ([.int p0, .int p1])).length) Slot.unset).toArray = ls at hl ⊢
  have hl : lv_has ls 2 [(0, .int p0), (1, .int p1)] := hl
  refine lv_iload_n hx hb dX6_isOfKind_0 rfl (lv_at hl 1 rfl) ?_
  refine lv_iload_n hx hb dX6_isOfKind_1 rfl (lv_at hl 0 rfl) ?_
  refine lv_icmp_eq (tgt := 19) hx hb dX6_isOfKind_2 (by decide) (fun c_1 => ?_) (fun c_1 => ?_)
  · refine lv_iconst (v := 1) hx hb dX6_isOfKind_19 (by decide) ?_
    refine lv_goto (tgt := 24) hx hb dX6_isOfKind_20 (by decide) ?_
    rw [hQ]; exact W.zret (v := 1) hx hb hr (by decide) (fun t ht hW => ⟨1, rfl, (Or.inr (⟨rfl, (c_X6_isOfKind_a1 p0 p1 c_1)⟩)), ht⟩) (fun _ h => absurd h List.not_mem_nil) dX6_isOfKind_24
  · refine lv_iload_n hx hb dX6_isOfKind_5 rfl (lv_at hl 1 rfl) ?_
    refine lv_if_eq (tgt := 19) hx hb dX6_isOfKind_6 (by decide) (fun c_2 => ?_) (fun c_2 => ?_)
    · refine lv_iconst (v := 1) hx hb dX6_isOfKind_19 (by decide) ?_
      refine lv_goto (tgt := 24) hx hb dX6_isOfKind_20 (by decide) ?_
      rw [hQ]; exact W.zret (v := 1) hx hb hr (by decide) (fun t ht hW => ⟨1, rfl, (Or.inr (⟨rfl, (c_X6_isOfKind_a2 p0 p1 c_1 c_2)⟩)), ht⟩) (fun _ h => absurd h List.not_mem_nil) dX6_isOfKind_24
    · refine lv_iload_n hx hb dX6_isOfKind_9 rfl (lv_at hl 1 rfl) ?_
      refine lv_iconst (v := 3) hx hb dX6_isOfKind_10 (by decide) ?_
      refine lv_icmp_ne (tgt := 23) hx hb dX6_isOfKind_11 (by decide) (fun c_3 => ?_) (fun c_3 => ?_)
      · refine lv_iconst (v := 0) hx hb dX6_isOfKind_23 (by decide) ?_
        rw [hQ]; exact W.zret (v := 0) hx hb hr (by decide) (fun t ht hW => ⟨0, rfl, (Or.inl ⟨rfl, (c_X6_isOfKind_a3 p0 p1 c_1 c_2 c_3)⟩), ht⟩) (fun _ h => absurd h List.not_mem_nil) dX6_isOfKind_24
      · refine lv_iload_n hx hb dX6_isOfKind_14 rfl (lv_at hl 0 rfl) ?_
        refine lv_iconst (v := 4) hx hb dX6_isOfKind_15 (by decide) ?_
        refine lv_icmp_ne (tgt := 23) hx hb dX6_isOfKind_16 (by decide) (fun c_4 => ?_) (fun c_4 => ?_)
        · refine lv_iconst (v := 0) hx hb dX6_isOfKind_23 (by decide) ?_
          rw [hQ]; exact W.zret (v := 0) hx hb hr (by decide) (fun t ht hW => ⟨0, rfl, (Or.inl ⟨rfl, (c_X6_isOfKind_a4 p0 p1 c_1 c_2 c_3 c_4)⟩), ht⟩) (fun _ h => absurd h List.not_mem_nil) dX6_isOfKind_24
        · refine lv_iconst (v := 1) hx hb dX6_isOfKind_19 (by decide) ?_
          refine lv_goto (tgt := 24) hx hb dX6_isOfKind_20 (by decide) ?_
          rw [hQ]; exact W.zret (v := 1) hx hb hr (by decide) (fun t ht hW => ⟨1, rfl, (Or.inr (⟨rfl, (c_X6_isOfKind_a5 p0 p1 c_1 c_2 c_3 c_4)⟩)), ht⟩) (fun _ h => absurd h List.not_mem_nil) dX6_isOfKind_24

theorem c_X6_isOpen_a1 (p0 : Int32) (p1 : Int32) (hr_1 : ¬ cz_in 0 p0 19) : ¬ cz_op p0 p1 := by first | (subst_vars; rfl) | assumption | ((try subst_vars) <;> (try simp only [cz_op]) <;> (repeat' split) <;> (first | rfl | contradiction | ((try simp only [cz_in, cz_du, cz_lt, cz_le, cz_eq, cz_l] at *) <;> (first | omega | (simp_all; done))))) | ((try subst_vars); simp only [cz_op, cz_in, *, and_self, and_true, true_and, if_true, if_false])
theorem c_X6_isOpen_a2 (p0 : Int32) (p1 : Int32) (r_2 : Int32) (x_3 : Int32) (hr_1 : cz_in 0 p0 19) (hr_2 : r_2 = 1 <<< (p0 &&& 31)) (ex_3 : x_3 = p1 &&& r_2) (c_4 : ¬ x_3 = 0) : ¬ cz_op p0 p1 := by first | (subst_vars; rfl) | assumption | ((try subst_vars) <;> (try simp only [cz_op]) <;> (repeat' split) <;> (first | rfl | contradiction | ((try simp only [cz_in, cz_du, cz_lt, cz_le, cz_eq, cz_l] at *) <;> (first | omega | (simp_all; done))))) | ((try subst_vars); simp only [cz_op, cz_in, *, and_self, and_true, true_and, if_true, if_false])
theorem c_X6_isOpen_a3 (p0 : Int32) (p1 : Int32) (r_2 : Int32) (x_3 : Int32) (hr_1 : cz_in 0 p0 19) (hr_2 : r_2 = 1 <<< (p0 &&& 31)) (ex_3 : x_3 = p1 &&& r_2) (c_4 : x_3 = 0) : cz_op p0 p1 := by first | (subst_vars; rfl) | assumption | ((try subst_vars) <;> (try simp only [cz_op]) <;> (repeat' split) <;> (first | rfl | contradiction | ((try simp only [cz_in, cz_du, cz_lt, cz_le, cz_eq, cz_l] at *) <;> (first | omega | (simp_all; done))))) | ((try subst_vars); simp only [cz_op, cz_in, *, and_self, and_true, true_and, if_true, if_false])
set_option maxHeartbeats 4000000 in
set_option maxRecDepth 100000 in
theorem c_X6_isOpen (l : Launch) (dC : Nat → ClassId) (dI : Nat → Nat → Nat) (cI cB : ClassId) (p0 : Int32) (p1 : Int32) : Met l yX6_isOpen wsX6_isOpen ({ frames := 1, cells := 0, slots := 0, locals := 20 }) (cz_Pp dC dI cI cB [.int p0, .int p1] []) (vp_Si (fun r : Int32 => (r = 0 ∧ ¬ cz_op p0 p1) ∨ (r = 1 ∧ cz_op p0 p1))) 0 0 (fun _ => False) := by
  refine cz_of (cc := cX6_isOpen) (maxL := 2) (ret := (some .boolean)) (by decide) rfl ?_
  intro p e s m args below meth c s₁ Q B hml hv hQ
  obtain ⟨rfl, hP, hN⟩ := hv
  have hx := B.exec
  have hb := B.bytes
  have hr := B.returns
  have hts := atoms_spec (ws := wsX6_isOpen) B.pre
  have hown : s.vm.findClass RX6 = some m.cls := findClass_of_methodNamed B.named
  have hlocks := B.notSynchronized
  have hK := hN.1
  have hl := lv_entry ([.int p0, .int p1]) (n := 2) (Nat.le_of_ble_eq_true rfl)
  rw [lg_entry_eq]
  generalize (lg_sl ([.int p0, .int p1]) ++ List.replicate (2 - (lg_sl ([.int p0, .int p1])).length) Slot.unset).toArray = ls at hl ⊢
  have hl : lv_has ls 2 [(0, .int p0), (1, .int p1)] := hl
  refine lv_iload_n hx hb dX6_isOpen_0 rfl (lv_at hl 0 rfl) ?_
  refine vp_callSi (cz_run (va_runS (As := [.int p0]) (rest := []) ⟨hx, hb, hml, hown, hts⟩ (c_X6_isPlace l dC dI cI cB p0 ) (va_cwS 1 hts gX6_isOpen_X6_isPlace rfl rfl rfl (by decide +kernel) ⟨Nat.le_of_ble_eq_true rfl, Nat.le_of_ble_eq_true rfl⟩) (cz_pS hP hN) rfl rfl hl.1 rfl (lv_room (Nat.le_of_ble_eq_true rfl)) dX6_isOpen_1 ⟨Nat.le_of_ble_eq_true rfl, Nat.le_of_ble_eq_true rfl⟩)) (fun r_1 hr_1 => ?_)
  rcases hr_1 with ⟨rfl, hr_1⟩ | ⟨rfl, hr_1⟩
  · refine lv_if_eq (tgt := 20) hx hb dX6_isOpen_4 (by decide) (fun _ => ?_) (fun c => absurd (by decide) c)
    refine lv_iconst (v := 0) hx hb dX6_isOpen_20 (by decide) ?_
    rw [hQ]; exact W.zret (v := 0) hx hb hr (by decide) (fun t ht hW => ⟨0, rfl, (Or.inl ⟨rfl, (c_X6_isOpen_a1 p0 p1 hr_1)⟩), ht⟩) (fun _ h => absurd h List.not_mem_nil) dX6_isOpen_21
  · refine lv_if_eq (tgt := 20) hx hb dX6_isOpen_4 (by decide) (fun c => absurd c (by decide)) (fun _ => ?_)
    refine lv_iload_n hx hb dX6_isOpen_7 rfl (lv_at hl 1 rfl) ?_
    refine lv_iload_n hx hb dX6_isOpen_8 rfl (lv_at hl 0 rfl) ?_
    refine vp_callSi (cz_run (va_runS (As := [.int p0]) (rest := [.int p1]) ⟨hx, hb, hml, hown, hts⟩ (c_X6_bit l dC dI cI cB p0 ) (va_cwS 1 hts gX6_isOpen_X6_bit rfl rfl rfl (by decide +kernel) ⟨Nat.le_of_ble_eq_true rfl, Nat.le_of_ble_eq_true rfl⟩) (cz_pS hP hN) rfl rfl hl.1 rfl (lv_room (Nat.le_of_ble_eq_true rfl)) dX6_isOpen_9 ⟨Nat.le_of_ble_eq_true rfl, Nat.le_of_ble_eq_true rfl⟩)) (fun r_2 hr_2 => ?_)
    refine lv_iand hx hb dX6_isOpen_12 ?_
    refine lv_topi (fun x_3 ex_3 => ?_)
    refine lv_if_ne (tgt := 20) hx hb dX6_isOpen_13 (by decide) (fun c_4 => ?_) (fun c_4 => ?_)
    · refine lv_iconst (v := 0) hx hb dX6_isOpen_20 (by decide) ?_
      rw [hQ]; exact W.zret (v := 0) hx hb hr (by decide) (fun t ht hW => ⟨0, rfl, (Or.inl ⟨rfl, (c_X6_isOpen_a2 p0 p1 r_2 x_3 hr_1 hr_2 ex_3 c_4)⟩), ht⟩) (fun _ h => absurd h List.not_mem_nil) dX6_isOpen_21
    · refine lv_iconst (v := 1) hx hb dX6_isOpen_16 (by decide) ?_
      refine lv_goto (tgt := 21) hx hb dX6_isOpen_17 (by decide) ?_
      rw [hQ]; exact W.zret (v := 1) hx hb hr (by decide) (fun t ht hW => ⟨1, rfl, (Or.inr (⟨rfl, (c_X6_isOpen_a3 p0 p1 r_2 x_3 hr_1 hr_2 ex_3 c_4)⟩)), ht⟩) (fun _ h => absurd h List.not_mem_nil) dX6_isOpen_21

theorem c_X6_stanceOf_a1 (p0 : Int32) (p1 : Int32) (x_1 : Int32) (x_2 : Int32) (ex_1 : x_1 = p0 * 4) (ex_2 : x_2 = x_1 + p1) : (x_2 : Int32) = p0 * 4 + p1 := by first | (subst_vars; rfl) | assumption | ((try subst_vars) <;> (repeat' split) <;> (first | rfl | contradiction | ((try simp only [cz_in, cz_du, cz_lt, cz_le, cz_eq, cz_l] at *) <;> (first | omega | (simp_all; done))))) | ((try subst_vars); simp only [cz_in, *, and_self, and_true, true_and, if_true, if_false])
set_option maxHeartbeats 4000000 in
set_option maxRecDepth 100000 in
theorem c_X6_stanceOf (l : Launch) (dC : Nat → ClassId) (dI : Nat → Nat → Nat) (cI cB : ClassId) (p0 : Int32) (p1 : Int32) : Met l yX6_stanceOf wsX6_stanceOf ({ frames := 0, cells := 0, slots := 0, locals := 0 }) (cz_Pp dC dI cI cB [.int p0, .int p1] []) (vp_Si (fun r : Int32 => r = p0 * 4 + p1)) 0 0 (fun _ => False) := by
  refine cz_of (cc := cX6_stanceOf) (maxL := 2) (ret := (some .int)) (by decide) rfl ?_
  intro p e s m args below meth c s₁ Q B hml hv hQ
  obtain ⟨rfl, hP, hN⟩ := hv
  have hx := B.exec
  have hb := B.bytes
  have hr := B.returns
  have hts := atoms_spec (ws := wsX6_stanceOf) B.pre
  have hown : s.vm.findClass RX6 = some m.cls := findClass_of_methodNamed B.named
  have hlocks := B.notSynchronized
  have hK := hN.1
  have hl := lv_entry ([.int p0, .int p1]) (n := 2) (Nat.le_of_ble_eq_true rfl)
  rw [lg_entry_eq]
  generalize (lg_sl ([.int p0, .int p1]) ++ List.replicate (2 - (lg_sl ([.int p0, .int p1])).length) Slot.unset).toArray = ls at hl ⊢
  have hl : lv_has ls 2 [(0, .int p0), (1, .int p1)] := hl
  refine lv_iload_n hx hb dX6_stanceOf_0 rfl (lv_at hl 0 rfl) ?_
  refine lv_iconst (v := 4) hx hb dX6_stanceOf_1 (by decide) ?_
  refine lv_imul hx hb dX6_stanceOf_2 ?_
  refine lv_topi (fun x_1 ex_1 => ?_)
  refine lv_iload_n hx hb dX6_stanceOf_3 rfl (lv_at hl 1 rfl) ?_
  refine lv_iadd hx hb dX6_stanceOf_4 ?_
  refine lv_topi (fun x_2 ex_2 => ?_)
  rw [hQ]; exact W.iret (v := x_2) hx hb hr (fun t ht hW => ⟨x_2, rfl, (c_X6_stanceOf_a1 p0 p1 x_1 x_2 ex_1 ex_2), ht⟩) (fun _ h => absurd h List.not_mem_nil) dX6_stanceOf_5

theorem c_X6_neighbour_a1 (p0 : Int32) (p1 : Int32) (hr_1 : ¬ cz_in 0 p0 19) : ((-1) : Int32) = cz_nb p0 p1 := by first | (subst_vars; rfl) | assumption | ((try subst_vars) <;> (try simp only [cz_nb, cz_row, cz_col]) <;> (repeat' split) <;> (first | rfl | contradiction | ((try simp only [cz_in, cz_du, cz_lt, cz_le, cz_eq, cz_l] at *) <;> (first | omega | (simp_all; done))))) | ((try subst_vars); simp only [cz_nb, cz_row, cz_col, cz_in, *, and_self, and_true, true_and, if_true, if_false])
theorem c_X6_neighbour_a2 (p0 : Int32) (p1 : Int32) (hr_1 : cz_in 0 p0 19) (c_2 : p1 < 0) : ((-1) : Int32) = cz_nb p0 p1 := by first | (subst_vars; rfl) | assumption | ((try subst_vars) <;> (try simp only [cz_nb, cz_row, cz_col]) <;> (repeat' split) <;> (first | rfl | contradiction | ((try simp only [cz_in, cz_du, cz_lt, cz_le, cz_eq, cz_l] at *) <;> (first | omega | (simp_all; done))))) | ((try subst_vars); simp only [cz_nb, cz_row, cz_col, cz_in, *, and_self, and_true, true_and, if_true, if_false])
theorem c_X6_neighbour_a3 (p0 : Int32) (p1 : Int32) (x_4 : Int32) (hr_1 : cz_in 0 p0 19) (c_2 : ¬ p1 < 0) (c_3 : p1 < 8) (ex_4 : x_4 = p0 / 5) : vp_in p1 8 := by rw [vp_in_iff]; (try simp only [cz_in, cz_du, cz_lt, cz_le, cz_eq, cz_l] at *) <;> (first | omega | (simp_all; done))
theorem c_X6_neighbour_a4 (p0 : Int32) (p1 : Int32) (x_4 : Int32) (x_5 : Int32) (x_6 : Int32) (x_7 : Int32) (hr_1 : cz_in 0 p0 19) (c_2 : ¬ p1 < 0) (c_3 : p1 < 8) (ex_4 : x_4 = p0 / 5) (ex_5 : x_5 = cz_fR p1.toNatClampNeg) (ex_6 : x_6 = x_4 + x_5) (ex_7 : x_7 = p0 - p0 / 5 * 5) : vp_in p1 8 := by rw [vp_in_iff]; (try simp only [cz_in, cz_du, cz_lt, cz_le, cz_eq, cz_l] at *) <;> (first | omega | (simp_all; done))
theorem c_X6_neighbour_a5 (p0 : Int32) (p1 : Int32) (x_4 : Int32) (x_5 : Int32) (x_6 : Int32) (x_7 : Int32) (x_8 : Int32) (x_9 : Int32) (hr_1 : cz_in 0 p0 19) (c_2 : ¬ p1 < 0) (c_3 : p1 < 8) (ex_4 : x_4 = p0 / 5) (ex_5 : x_5 = cz_fR p1.toNatClampNeg) (ex_6 : x_6 = x_4 + x_5) (ex_7 : x_7 = p0 - p0 / 5 * 5) (ex_8 : x_8 = cz_fC p1.toNatClampNeg) (ex_9 : x_9 = x_7 + x_8) (c_10 : x_6 < 0) : ((-1) : Int32) = cz_nb p0 p1 := by first | (subst_vars; rfl) | assumption | ((try subst_vars) <;> (try simp only [cz_nb, cz_row, cz_col]) <;> (repeat' split) <;> (first | rfl | contradiction | ((try simp only [cz_in, cz_du, cz_lt, cz_le, cz_eq, cz_l] at *) <;> (first | omega | (simp_all; done))))) | ((try subst_vars); simp only [cz_nb, cz_row, cz_col, cz_in, *, and_self, and_true, true_and, if_true, if_false])
theorem c_X6_neighbour_a6 (p0 : Int32) (p1 : Int32) (x_4 : Int32) (x_5 : Int32) (x_6 : Int32) (x_7 : Int32) (x_8 : Int32) (x_9 : Int32) (hr_1 : cz_in 0 p0 19) (c_2 : ¬ p1 < 0) (c_3 : p1 < 8) (ex_4 : x_4 = p0 / 5) (ex_5 : x_5 = cz_fR p1.toNatClampNeg) (ex_6 : x_6 = x_4 + x_5) (ex_7 : x_7 = p0 - p0 / 5 * 5) (ex_8 : x_8 = cz_fC p1.toNatClampNeg) (ex_9 : x_9 = x_7 + x_8) (c_10 : ¬ x_6 < 0) (c_11 : 4 ≤ x_6) : ((-1) : Int32) = cz_nb p0 p1 := by first | (subst_vars; rfl) | assumption | ((try subst_vars) <;> (try simp only [cz_nb, cz_row, cz_col]) <;> (repeat' split) <;> (first | rfl | contradiction | ((try simp only [cz_in, cz_du, cz_lt, cz_le, cz_eq, cz_l] at *) <;> (first | omega | (simp_all; done))))) | ((try subst_vars); simp only [cz_nb, cz_row, cz_col, cz_in, *, and_self, and_true, true_and, if_true, if_false])
theorem c_X6_neighbour_a7 (p0 : Int32) (p1 : Int32) (x_4 : Int32) (x_5 : Int32) (x_6 : Int32) (x_7 : Int32) (x_8 : Int32) (x_9 : Int32) (hr_1 : cz_in 0 p0 19) (c_2 : ¬ p1 < 0) (c_3 : p1 < 8) (ex_4 : x_4 = p0 / 5) (ex_5 : x_5 = cz_fR p1.toNatClampNeg) (ex_6 : x_6 = x_4 + x_5) (ex_7 : x_7 = p0 - p0 / 5 * 5) (ex_8 : x_8 = cz_fC p1.toNatClampNeg) (ex_9 : x_9 = x_7 + x_8) (c_10 : ¬ x_6 < 0) (c_11 : ¬ 4 ≤ x_6) (c_12 : x_9 < 0) : ((-1) : Int32) = cz_nb p0 p1 := by first | (subst_vars; rfl) | assumption | ((try subst_vars) <;> (try simp only [cz_nb, cz_row, cz_col]) <;> (repeat' split) <;> (first | rfl | contradiction | ((try simp only [cz_in, cz_du, cz_lt, cz_le, cz_eq, cz_l] at *) <;> (first | omega | (simp_all; done))))) | ((try subst_vars); simp only [cz_nb, cz_row, cz_col, cz_in, *, and_self, and_true, true_and, if_true, if_false])
theorem c_X6_neighbour_a8 (p0 : Int32) (p1 : Int32) (x_4 : Int32) (x_5 : Int32) (x_6 : Int32) (x_7 : Int32) (x_8 : Int32) (x_9 : Int32) (x_14 : Int32) (x_15 : Int32) (hr_1 : cz_in 0 p0 19) (c_2 : ¬ p1 < 0) (c_3 : p1 < 8) (ex_4 : x_4 = p0 / 5) (ex_5 : x_5 = cz_fR p1.toNatClampNeg) (ex_6 : x_6 = x_4 + x_5) (ex_7 : x_7 = p0 - p0 / 5 * 5) (ex_8 : x_8 = cz_fC p1.toNatClampNeg) (ex_9 : x_9 = x_7 + x_8) (c_10 : ¬ x_6 < 0) (c_11 : ¬ 4 ≤ x_6) (c_12 : ¬ x_9 < 0) (c_13 : x_9 < 5) (ex_14 : x_14 = x_6 * 5) (ex_15 : x_15 = x_14 + x_9) : (x_15 : Int32) = cz_nb p0 p1 := by first | (subst_vars; rfl) | assumption | ((try subst_vars) <;> (try simp only [cz_nb, cz_row, cz_col]) <;> (repeat' split) <;> (first | rfl | contradiction | ((try simp only [cz_in, cz_du, cz_lt, cz_le, cz_eq, cz_l] at *) <;> (first | omega | (simp_all; done))))) | ((try subst_vars); simp only [cz_nb, cz_row, cz_col, cz_in, *, and_self, and_true, true_and, if_true, if_false])
theorem c_X6_neighbour_a9 (p0 : Int32) (p1 : Int32) (x_4 : Int32) (x_5 : Int32) (x_6 : Int32) (x_7 : Int32) (x_8 : Int32) (x_9 : Int32) (hr_1 : cz_in 0 p0 19) (c_2 : ¬ p1 < 0) (c_3 : p1 < 8) (ex_4 : x_4 = p0 / 5) (ex_5 : x_5 = cz_fR p1.toNatClampNeg) (ex_6 : x_6 = x_4 + x_5) (ex_7 : x_7 = p0 - p0 / 5 * 5) (ex_8 : x_8 = cz_fC p1.toNatClampNeg) (ex_9 : x_9 = x_7 + x_8) (c_10 : ¬ x_6 < 0) (c_11 : ¬ 4 ≤ x_6) (c_12 : ¬ x_9 < 0) (c_13 : ¬ x_9 < 5) : ((-1) : Int32) = cz_nb p0 p1 := by first | (subst_vars; rfl) | assumption | ((try subst_vars) <;> (try simp only [cz_nb, cz_row, cz_col]) <;> (repeat' split) <;> (first | rfl | contradiction | ((try simp only [cz_in, cz_du, cz_lt, cz_le, cz_eq, cz_l] at *) <;> (first | omega | (simp_all; done))))) | ((try subst_vars); simp only [cz_nb, cz_row, cz_col, cz_in, *, and_self, and_true, true_and, if_true, if_false])
theorem c_X6_neighbour_a10 (p0 : Int32) (p1 : Int32) (hr_1 : cz_in 0 p0 19) (c_2 : ¬ p1 < 0) (c_3 : ¬ p1 < 8) : ((-1) : Int32) = cz_nb p0 p1 := by first | (subst_vars; rfl) | assumption | ((try subst_vars) <;> (try simp only [cz_nb, cz_row, cz_col]) <;> (repeat' split) <;> (first | rfl | contradiction | ((try simp only [cz_in, cz_du, cz_lt, cz_le, cz_eq, cz_l] at *) <;> (first | omega | (simp_all; done))))) | ((try subst_vars); simp only [cz_nb, cz_row, cz_col, cz_in, *, and_self, and_true, true_and, if_true, if_false])
set_option maxHeartbeats 4000000 in
set_option maxRecDepth 100000 in
theorem c_X6_neighbour (l : Launch) (dC : Nat → ClassId) (dI : Nat → Nat → Nat) (cI cB : ClassId) (tR tC : Nat) (p0 : Int32) (p1 : Int32) : Met l yX6_neighbour wsX6_neighbour ({ frames := 1, cells := 0, slots := 0, locals := 20 }) (cz_PpT dC dI cI cB tR tC [.int p0, .int p1] []) (vp_Si (fun r : Int32 => r = cz_nb p0 p1)) 0 0 (fun _ => False) := by
  refine cz_of (cc := cX6_neighbour) (maxL := 4) (ret := (some .int)) (by decide) rfl ?_
  intro p e s m args below meth c s₁ Q B hml hv hQ
  obtain ⟨rfl, hP, hN, hSt⟩ := hv
  have hx := B.exec
  have hb := B.bytes
  have hr := B.returns
  have hts := atoms_spec (ws := wsX6_neighbour) B.pre
  have hown : s.vm.findClass RX6 = some m.cls := findClass_of_methodNamed B.named
  have hlocks := B.notSynchronized
  have hK := hN.1
  have hl := lv_entry ([.int p0, .int p1]) (n := 4) (Nat.le_of_ble_eq_true rfl)
  rw [lg_entry_eq]
  generalize (lg_sl ([.int p0, .int p1]) ++ List.replicate (4 - (lg_sl ([.int p0, .int p1])).length) Slot.unset).toArray = ls at hl ⊢
  have hl : lv_has ls 4 [(0, .int p0), (1, .int p1)] := hl
  refine lv_iload_n hx hb dX6_neighbour_0 rfl (lv_at hl 0 rfl) ?_
  refine vp_callSi (cz_run (va_runS (As := [.int p0]) (rest := []) ⟨hx, hb, hml, hown, hts⟩ (c_X6_isPlace l dC dI cI cB p0 ) (va_cwS 1 hts gX6_neighbour_X6_isPlace rfl rfl rfl (by decide +kernel) ⟨Nat.le_of_ble_eq_true rfl, Nat.le_of_ble_eq_true rfl⟩) (cz_pS hP hN) rfl rfl hl.1 rfl (lv_room (Nat.le_of_ble_eq_true rfl)) dX6_neighbour_1 ⟨Nat.le_of_ble_eq_true rfl, Nat.le_of_ble_eq_true rfl⟩)) (fun r_1 hr_1 => ?_)
  rcases hr_1 with ⟨rfl, hr_1⟩ | ⟨rfl, hr_1⟩
  · refine lv_if_eq (tgt := 17) hx hb dX6_neighbour_4 (by decide) (fun _ => ?_) (fun c => absurd (by decide) c)
    refine lv_iconst (v := (-1)) hx hb dX6_neighbour_17 (by decide) ?_
    rw [hQ]; exact W.iret (v := (-1)) hx hb hr (fun t ht hW => ⟨(-1), rfl, (c_X6_neighbour_a1 p0 p1 hr_1), ht⟩) (fun _ h => absurd h List.not_mem_nil) dX6_neighbour_18
  · refine lv_if_eq (tgt := 17) hx hb dX6_neighbour_4 (by decide) (fun c => absurd c (by decide)) (fun _ => ?_)
    refine lv_iload_n hx hb dX6_neighbour_7 rfl (lv_at hl 1 rfl) ?_
    refine lv_if_lt (tgt := 17) hx hb dX6_neighbour_8 (by decide) (fun c_2 => ?_) (fun c_2 => ?_)
    · refine lv_iconst (v := (-1)) hx hb dX6_neighbour_17 (by decide) ?_
      rw [hQ]; exact W.iret (v := (-1)) hx hb hr (fun t ht hW => ⟨(-1), rfl, (c_X6_neighbour_a2 p0 p1 hr_1 c_2), ht⟩) (fun _ h => absurd h List.not_mem_nil) dX6_neighbour_18
    · refine lv_iload_n hx hb dX6_neighbour_11 rfl (lv_at hl 1 rfl) ?_
      refine lv_bipush (v := 8) hx hb dX6_neighbour_12 (by decide) ?_
      refine lv_icmp_lt (tgt := 19) hx hb dX6_neighbour_14 (by decide) (fun c_3 => ?_) (fun c_3 => ?_)
      · refine lv_iload_n hx hb dX6_neighbour_19 rfl (lv_at hl 0 rfl) ?_
        refine lv_iconst (v := 5) hx hb dX6_neighbour_20 (by decide) ?_
        refine lv_idiv hx hb dX6_neighbour_21 (by decide) ?_
        refine lv_topi (fun x_4 ex_4 => ?_)
        refine va_gets hx hb hSt.1 va_S.rf hown (hts (.fieldLink RX6 240 "LeftProfile" "ROWS_ON" "[I") (List.mem_of_getElem? (i := 1) rfl)) (fun _ h9 => h9) dX6_neighbour_22 ?_
        refine lv_iload_n hx hb dX6_neighbour_25 rfl (lv_at hl 1 rfl) ?_
        refine va_ti hx hb hSt.2.1 va_S.rf (c_X6_neighbour_a3 p0 p1 x_4 hr_1 c_2 c_3 ex_4) (v := .int (cz_fR p1.toNatClampNeg)) rfl dX6_neighbour_26 ?_
        refine lv_topi (fun x_5 ex_5 => ?_)
        refine lv_iadd hx hb dX6_neighbour_27 ?_
        refine lv_topi (fun x_6 ex_6 => ?_)
        refine lv_istore_n (lv' := [(2, .int x_6), (0, .int p0), (1, .int p1)]) hx hb dX6_neighbour_28 rfl hl (by decide) rfl (fun ls hl => ?_)
        refine lv_iload_n hx hb dX6_neighbour_29 rfl (lv_at hl 1 rfl) ?_
        refine lv_iconst (v := 5) hx hb dX6_neighbour_30 (by decide) ?_
        refine lv_irem hx hb dX6_neighbour_31 (by decide) ?_
        refine lv_topi (fun x_7 ex_7 => ?_)
        refine va_gets hx hb hSt.2.2.1 va_S.rf hown (hts (.fieldLink RX6 243 "LeftProfile" "COLUMNS_ON" "[I") (List.mem_of_getElem? (i := 2) rfl)) (fun _ h9 => h9) dX6_neighbour_32 ?_
        refine lv_iload_n hx hb dX6_neighbour_35 rfl (lv_at hl 2 rfl) ?_
        refine va_ti hx hb hSt.2.2.2 va_S.rf (c_X6_neighbour_a4 p0 p1 x_4 x_5 x_6 x_7 hr_1 c_2 c_3 ex_4 ex_5 ex_6 ex_7) (v := .int (cz_fC p1.toNatClampNeg)) rfl dX6_neighbour_36 ?_
        refine lv_topi (fun x_8 ex_8 => ?_)
        refine lv_iadd hx hb dX6_neighbour_37 ?_
        refine lv_topi (fun x_9 ex_9 => ?_)
        refine lv_istore_n (lv' := [(3, .int x_9), (2, .int x_6), (0, .int p0), (1, .int p1)]) hx hb dX6_neighbour_38 rfl hl (by decide) rfl (fun ls hl => ?_)
        refine lv_iload_n hx hb dX6_neighbour_39 rfl (lv_at hl 1 rfl) ?_
        refine lv_if_lt (tgt := 57) hx hb dX6_neighbour_40 (by decide) (fun c_10 => ?_) (fun c_10 => ?_)
        · refine lv_iconst (v := (-1)) hx hb dX6_neighbour_57 (by decide) ?_
          rw [hQ]; exact W.iret (v := (-1)) hx hb hr (fun t ht hW => ⟨(-1), rfl, (c_X6_neighbour_a5 p0 p1 x_4 x_5 x_6 x_7 x_8 x_9 hr_1 c_2 c_3 ex_4 ex_5 ex_6 ex_7 ex_8 ex_9 c_10), ht⟩) (fun _ h => absurd h List.not_mem_nil) dX6_neighbour_58
        · refine lv_iload_n hx hb dX6_neighbour_43 rfl (lv_at hl 1 rfl) ?_
          refine lv_iconst (v := 4) hx hb dX6_neighbour_44 (by decide) ?_
          refine lv_icmp_ge (tgt := 57) hx hb dX6_neighbour_45 (by decide) (fun c_11 => ?_) (fun c_11 => ?_)
          · refine lv_iconst (v := (-1)) hx hb dX6_neighbour_57 (by decide) ?_
            rw [hQ]; exact W.iret (v := (-1)) hx hb hr (fun t ht hW => ⟨(-1), rfl, (c_X6_neighbour_a6 p0 p1 x_4 x_5 x_6 x_7 x_8 x_9 hr_1 c_2 c_3 ex_4 ex_5 ex_6 ex_7 ex_8 ex_9 c_10 c_11), ht⟩) (fun _ h => absurd h List.not_mem_nil) dX6_neighbour_58
          · refine lv_iload_n hx hb dX6_neighbour_48 rfl (lv_at hl 0 rfl) ?_
            refine lv_if_lt (tgt := 57) hx hb dX6_neighbour_49 (by decide) (fun c_12 => ?_) (fun c_12 => ?_)
            · refine lv_iconst (v := (-1)) hx hb dX6_neighbour_57 (by decide) ?_
              rw [hQ]; exact W.iret (v := (-1)) hx hb hr (fun t ht hW => ⟨(-1), rfl, (c_X6_neighbour_a7 p0 p1 x_4 x_5 x_6 x_7 x_8 x_9 hr_1 c_2 c_3 ex_4 ex_5 ex_6 ex_7 ex_8 ex_9 c_10 c_11 c_12), ht⟩) (fun _ h => absurd h List.not_mem_nil) dX6_neighbour_58
            · refine lv_iload_n hx hb dX6_neighbour_52 rfl (lv_at hl 0 rfl) ?_
              refine lv_iconst (v := 5) hx hb dX6_neighbour_53 (by decide) ?_
              refine lv_icmp_lt (tgt := 59) hx hb dX6_neighbour_54 (by decide) (fun c_13 => ?_) (fun c_13 => ?_)
              · refine lv_iload_n hx hb dX6_neighbour_59 rfl (lv_at hl 1 rfl) ?_
                refine lv_iconst (v := 5) hx hb dX6_neighbour_60 (by decide) ?_
                refine lv_imul hx hb dX6_neighbour_61 ?_
                refine lv_topi (fun x_14 ex_14 => ?_)
                refine lv_iload_n hx hb dX6_neighbour_62 rfl (lv_at hl 0 rfl) ?_
                refine lv_iadd hx hb dX6_neighbour_63 ?_
                refine lv_topi (fun x_15 ex_15 => ?_)
                rw [hQ]; exact W.iret (v := x_15) hx hb hr (fun t ht hW => ⟨x_15, rfl, (c_X6_neighbour_a8 p0 p1 x_4 x_5 x_6 x_7 x_8 x_9 x_14 x_15 hr_1 c_2 c_3 ex_4 ex_5 ex_6 ex_7 ex_8 ex_9 c_10 c_11 c_12 c_13 ex_14 ex_15), ht⟩) (fun _ h => absurd h List.not_mem_nil) dX6_neighbour_64
              · refine lv_iconst (v := (-1)) hx hb dX6_neighbour_57 (by decide) ?_
                rw [hQ]; exact W.iret (v := (-1)) hx hb hr (fun t ht hW => ⟨(-1), rfl, (c_X6_neighbour_a9 p0 p1 x_4 x_5 x_6 x_7 x_8 x_9 hr_1 c_2 c_3 ex_4 ex_5 ex_6 ex_7 ex_8 ex_9 c_10 c_11 c_12 c_13), ht⟩) (fun _ h => absurd h List.not_mem_nil) dX6_neighbour_58
      · refine lv_iconst (v := (-1)) hx hb dX6_neighbour_17 (by decide) ?_
        rw [hQ]; exact W.iret (v := (-1)) hx hb hr (fun t ht hW => ⟨(-1), rfl, (c_X6_neighbour_a10 p0 p1 hr_1 c_2 c_3), ht⟩) (fun _ h => absurd h List.not_mem_nil) dX6_neighbour_18

set_option maxHeartbeats 4000000 in
set_option maxRecDepth 100000 in
theorem c_X6_placeInSet (l : Launch) (dC : Nat → ClassId) (dI : Nat → Nat → Nat) (cI cB : ClassId) (p0 : Int32) (x0 : Nat) (hx0 : x0 ≤ 2) : Met l yX6_placeInSet wsX6_placeInSet ({ frames := 1, cells := 0, slots := 0, locals := 20 }) (cz_Pp dC dI cI cB [.int p0, .int (nI x0)] []) (vp_Si (fun r : Int32 => cm_ps p0 x0 r)) 0 0 (fun _ => False) := by
  refine cz_of (cc := cX6_placeInSet) (maxL := 4) (ret := (some .int)) (by decide) rfl ?_
  intro p e s m args below meth c s₁ Q B hml hv hQ
  obtain ⟨rfl, hP, hN⟩ := hv
  have hx := B.exec
  have hb := B.bytes
  have hr := B.returns
  have hts := atoms_spec (ws := wsX6_placeInSet) B.pre
  have hown : s.vm.findClass RX6 = some m.cls := findClass_of_methodNamed B.named
  have hlocks := B.notSynchronized
  have hK := hN.1
  have hl := lv_entry ([.int p0, .int (nI x0)]) (n := 4) (Nat.le_of_ble_eq_true rfl)
  rw [lg_entry_eq]
  generalize (lg_sl ([.int p0, .int (nI x0)]) ++ List.replicate (4 - (lg_sl ([.int p0, .int (nI x0)])).length) Slot.unset).toArray = ls at hl ⊢
  have hl : lv_has ls 4 [(0, .int p0), (1, .int (nI x0))] := hl
  refine lv_iload_n hx hb dX6_placeInSet_0 rfl (lv_at hl 1 rfl) ?_
  refine lv_istore_n (lv' := [(2, .int (nI x0)), (0, .int p0), (1, .int (nI x0))]) hx hb dX6_placeInSet_1 rfl hl (by decide) rfl (fun ls hl => ?_)
  refine lv_iconst (v := 0) hx hb dX6_placeInSet_2 (by decide) ?_
  refine lv_istore_n (lv' := [(3, .int 0), (2, .int (nI x0)), (0, .int p0), (1, .int (nI x0))]) hx hb dX6_placeInSet_3 rfl hl (by decide) rfl (fun ls hl => ?_)
  have lp4 : ∀ (n4 : Nat) (i4 : Nat) (y2 : Int32) (ls : Array Slot), i4 + n4 = 20 → (y2 = nI (x0 - cm_ct (cm_bB p0) i4) ∧ cm_ct (cm_bB p0) i4 ≤ x0) → lv_has ls 4 [(0, .int p0), (1, .int (nI x0)), (2, .int y2), (3, .int (nI i4))] → W p l e ({ frames := 1, cells := 0, slots := 0, locals := 20 } : Room) s m #[Value.int p0, Value.int (nI x0)] below meth c s.heap [] 0 0 Q (F0 m 4 ls []) := by
    intro n4
    induction n4 with
    | zero =>
      intro i4 y2 ls hi4 hB hl
      obtain rfl : i4 = 20 := by omega
      have hl : lv_has ls 4 [(0, .int p0), (1, .int (nI x0)), (2, .int y2), (3, .int 20)] := hl
      refine lv_iload_n hx hb dX6_placeInSet_4 rfl (lv_at hl 3 rfl) ?_
      refine lv_bipush (v := 20) hx hb dX6_placeInSet_5 (by decide) ?_
      refine lv_icmp_ge (tgt := 34) hx hb dX6_placeInSet_7 (by decide) (fun _ => ?_) (fun c => absurd (by decide) c)
      refine lv_iconst (v := (-1)) hx hb dX6_placeInSet_34 (by decide) ?_
      rw [hQ]; exact W.iret (v := (-1)) hx hb hr (fun t ht hW => ⟨(-1), rfl, (cm_ps_e hB.2), ht⟩) (fun _ h => absurd h List.not_mem_nil) dX6_placeInSet_35
    | succ n4 ih4 =>
      intro i4 y2 ls hi4 hB hl
      refine lv_iload_n hx hb dX6_placeInSet_4 rfl (lv_at hl 3 rfl) ?_
      refine lv_bipush (v := 20) hx hb dX6_placeInSet_5 (by decide) ?_
      refine lv_icmp_ge (tgt := 34) hx hb dX6_placeInSet_7 (by decide) (fun c_1 => ?_) (fun c_1 => ?_)
      · exact absurd c_1 (show ¬ (20 : Int32) ≤ nI i4 from nI_ge (a := i4) (b := 20) (by omega) (by omega))
      · refine lv_iload_n hx hb dX6_placeInSet_10 rfl (lv_at hl 0 rfl) ?_
        refine lv_iload_n hx hb dX6_placeInSet_11 rfl (lv_at hl 3 rfl) ?_
        refine vp_callSi (cz_run (va_runS (As := [.int (nI i4)]) (rest := [.int p0]) ⟨hx, hb, hml, hown, hts⟩ (c_X6_bit l dC dI cI cB (nI i4) ) (va_cwS 1 hts gX6_placeInSet_X6_bit rfl rfl rfl (by decide +kernel) ⟨Nat.le_of_ble_eq_true rfl, Nat.le_of_ble_eq_true rfl⟩) (cz_pS hP hN) rfl rfl hl.1 rfl (lv_room (Nat.le_of_ble_eq_true rfl)) dX6_placeInSet_12 ⟨Nat.le_of_ble_eq_true rfl, Nat.le_of_ble_eq_true rfl⟩)) (fun r_2 hr_2 => ?_)
        refine lv_iand hx hb dX6_placeInSet_15 ?_
        refine lv_topi (fun x_3 ex_3 => ?_)
        refine lv_if_eq (tgt := 28) hx hb dX6_placeInSet_16 (by decide) (fun c_4 => ?_) (fun c_4 => ?_)
        · refine lv_iinc (v := (nI (i4 + 1))) (lv' := [(3, .int (nI (i4 + 1))), (0, .int p0), (1, .int (nI x0)), (2, .int y2)]) hx hb dX6_placeInSet_28 hl (k := 3) rfl (nI_add i4 1) (by decide) rfl (fun ls hl => ?_)
          refine lv_goto (tgt := 4) hx hb dX6_placeInSet_31 (by decide) ?_
          exact ih4 (i4 + 1) y2 ls (by omega) (by rw [cm_ct0 ((cm_bB_y hr_2 ex_3).1 c_4)]; exact hB) (lv_sub hl [1, 2, 3, 0] rfl)
        · refine lv_iload_n hx hb dX6_placeInSet_19 rfl (lv_at hl 2 rfl) ?_
          refine lv_if_ne (tgt := 25) hx hb dX6_placeInSet_20 (by decide) (fun c_5 => ?_) (fun c_5 => ?_)
          · obtain ⟨x_6, ex_6⟩ : ∃ y : Int32, y = y2 + (-1) := ⟨_, rfl⟩
            refine lv_iinc (v := x_6) (lv' := [(2, .int x_6), (0, .int p0), (1, .int (nI x0)), (3, .int (nI i4))]) hx hb dX6_placeInSet_25 hl (k := 2) rfl (by rw [ex_6]; rfl) (by decide) rfl (fun ls hl => ?_)
            refine lv_iinc (v := (nI (i4 + 1))) (lv' := [(3, .int (nI (i4 + 1))), (2, .int x_6), (0, .int p0), (1, .int (nI x0))]) hx hb dX6_placeInSet_28 hl (k := 3) rfl (nI_add i4 1) (by decide) rfl (fun ls hl => ?_)
            refine lv_goto (tgt := 4) hx hb dX6_placeInSet_31 (by decide) ?_
            exact ih4 (i4 + 1) x_6 ls (by omega) (by rw [cm_ct1 ((cm_bB_y hr_2 ex_3).2 c_4), ex_6]; exact (cm_p1 (by omega) hB).2 c_5) (lv_sub hl [2, 3, 1, 0] rfl)
          · refine lv_iload_n hx hb dX6_placeInSet_23 rfl (lv_at hl 3 rfl) ?_
            rw [hQ]; exact W.iret (v := (nI i4)) hx hb hr (fun t ht hW => ⟨(nI i4), rfl, (Or.inl ⟨i4, by omega, (cm_bB_y hr_2 ex_3).2 c_4, (cm_p1 (by omega) hB).1 c_5, rfl⟩), ht⟩) (fun _ h => absurd h List.not_mem_nil) dX6_placeInSet_24
  exact lp4 20 0 (nI x0) ls (by omega) ⟨rfl, Nat.zero_le _⟩ (lv_sub hl [2, 3, 1, 0] rfl)

theorem c_X3_isStance_a1 (p0 : Int32) (c_1 : p0 < 0) : ¬ cz_in 0 p0 79 := by first | (subst_vars; rfl) | assumption | ((try subst_vars) <;> (repeat' split) <;> (first | rfl | contradiction | ((try simp only [cz_in, cz_du, cz_lt, cz_le, cz_eq, cz_l] at *) <;> (first | omega | (simp_all; done))))) | ((try subst_vars); simp only [cz_in, *, and_self, and_true, true_and, if_true, if_false])
theorem c_X3_isStance_a2 (p0 : Int32) (c_1 : ¬ p0 < 0) (c_2 : 80 ≤ p0) : ¬ cz_in 0 p0 79 := by first | (subst_vars; rfl) | assumption | ((try subst_vars) <;> (repeat' split) <;> (first | rfl | contradiction | ((try simp only [cz_in, cz_du, cz_lt, cz_le, cz_eq, cz_l] at *) <;> (first | omega | (simp_all; done))))) | ((try subst_vars); simp only [cz_in, *, and_self, and_true, true_and, if_true, if_false])
theorem c_X3_isStance_a3 (p0 : Int32) (c_1 : ¬ p0 < 0) (c_2 : ¬ 80 ≤ p0) : cz_in 0 p0 79 := by first | (subst_vars; rfl) | assumption | ((try subst_vars) <;> (repeat' split) <;> (first | rfl | contradiction | ((try simp only [cz_in, cz_du, cz_lt, cz_le, cz_eq, cz_l] at *) <;> (first | omega | (simp_all; done))))) | ((try subst_vars); simp only [cz_in, *, and_self, and_true, true_and, if_true, if_false])
set_option maxHeartbeats 4000000 in
set_option maxRecDepth 100000 in
theorem c_X3_isStance (l : Launch) (dC : Nat → ClassId) (dI : Nat → Nat → Nat) (cI cB : ClassId) (p0 : Int32) : Met l yX3_isStance wsX3_isStance ({ frames := 0, cells := 0, slots := 0, locals := 0 }) (cz_Pp dC dI cI cB [.int p0] []) (vp_Si (fun r : Int32 => (r = 0 ∧ ¬ cz_in 0 p0 79) ∨ (r = 1 ∧ cz_in 0 p0 79))) 0 0 (fun _ => False) := by
  refine cz_of (cc := cX3_isStance) (maxL := 1) (ret := (some .boolean)) (by decide) rfl ?_
  intro p e s m args below meth c s₁ Q B hml hv hQ
  obtain ⟨rfl, hP, hN⟩ := hv
  have hx := B.exec
  have hb := B.bytes
  have hr := B.returns
  have hts := atoms_spec (ws := wsX3_isStance) B.pre
  have hown : s.vm.findClass RX3 = some m.cls := findClass_of_methodNamed B.named
  have hlocks := B.notSynchronized
  have hK := hN.1
  have hl := lv_entry ([.int p0]) (n := 1) (Nat.le_of_ble_eq_true rfl)
  rw [lg_entry_eq]
  generalize (lg_sl ([.int p0]) ++ List.replicate (1 - (lg_sl ([.int p0])).length) Slot.unset).toArray = ls at hl ⊢
  have hl : lv_has ls 1 [(0, .int p0)] := hl
  refine lv_iload_n hx hb dX3_isStance_0 rfl (lv_at hl 0 rfl) ?_
  refine lv_if_lt (tgt := 14) hx hb dX3_isStance_1 (by decide) (fun c_1 => ?_) (fun c_1 => ?_)
  · refine lv_iconst (v := 0) hx hb dX3_isStance_14 (by decide) ?_
    rw [hQ]; exact W.zret (v := 0) hx hb hr (by decide) (fun t ht hW => ⟨0, rfl, (Or.inl ⟨rfl, (c_X3_isStance_a1 p0 c_1)⟩), ht⟩) (fun _ h => absurd h List.not_mem_nil) dX3_isStance_15
  · refine lv_iload_n hx hb dX3_isStance_4 rfl (lv_at hl 0 rfl) ?_
    refine lv_bipush (v := 80) hx hb dX3_isStance_5 (by decide) ?_
    refine lv_icmp_ge (tgt := 14) hx hb dX3_isStance_7 (by decide) (fun c_2 => ?_) (fun c_2 => ?_)
    · refine lv_iconst (v := 0) hx hb dX3_isStance_14 (by decide) ?_
      rw [hQ]; exact W.zret (v := 0) hx hb hr (by decide) (fun t ht hW => ⟨0, rfl, (Or.inl ⟨rfl, (c_X3_isStance_a2 p0 c_1 c_2)⟩), ht⟩) (fun _ h => absurd h List.not_mem_nil) dX3_isStance_15
    · refine lv_iconst (v := 1) hx hb dX3_isStance_10 (by decide) ?_
      refine lv_goto (tgt := 15) hx hb dX3_isStance_11 (by decide) ?_
      rw [hQ]; exact W.zret (v := 1) hx hb hr (by decide) (fun t ht hW => ⟨1, rfl, (Or.inr (⟨rfl, (c_X3_isStance_a3 p0 c_1 c_2)⟩)), ht⟩) (fun _ h => absurd h List.not_mem_nil) dX3_isStance_15

theorem c_X5_isBarred_a1 (p0 : Int32) (p1 : Int32) (p2 : Int32) (p3 : Int32) (x_1 : Int32) (x_5 : Int32) (ex_1 : x_1 = p1 &&& p2) (c_2 : x_1 = 0) (c_3 : ¬ p0 = 2) (hr_4 : ¬ cz_kd p0 3) (ex_5 : x_5 = p1 &&& p3) (c_6 : x_5 = 0) : ¬ cz_bar p0 p1 p2 p3 := by first | (subst_vars; rfl) | assumption | ((try subst_vars) <;> (try simp only [cz_bar]) <;> (repeat' split) <;> (first | rfl | contradiction | ((try simp only [cz_in, cz_du, cz_lt, cz_le, cz_eq, cz_l] at *) <;> (first | omega | (simp_all; done))))) | ((try subst_vars); simp only [cz_bar, cz_in, *, and_self, and_true, true_and, if_true, if_false])
theorem c_X5_isBarred_a2 (p0 : Int32) (p1 : Int32) (p2 : Int32) (p3 : Int32) (x_1 : Int32) (x_5 : Int32) (ex_1 : x_1 = p1 &&& p2) (c_2 : x_1 = 0) (c_3 : ¬ p0 = 2) (hr_4 : ¬ cz_kd p0 3) (ex_5 : x_5 = p1 &&& p3) (c_6 : ¬ x_5 = 0) : cz_bar p0 p1 p2 p3 := by first | (subst_vars; rfl) | assumption | ((try subst_vars) <;> (try simp only [cz_bar]) <;> (repeat' split) <;> (first | rfl | contradiction | ((try simp only [cz_in, cz_du, cz_lt, cz_le, cz_eq, cz_l] at *) <;> (first | omega | (simp_all; done))))) | ((try subst_vars); simp only [cz_bar, cz_in, *, and_self, and_true, true_and, if_true, if_false])
theorem c_X5_isBarred_a3 (p0 : Int32) (p1 : Int32) (p2 : Int32) (p3 : Int32) (x_1 : Int32) (ex_1 : x_1 = p1 &&& p2) (c_2 : x_1 = 0) (c_3 : ¬ p0 = 2) (hr_4 : cz_kd p0 3) : ¬ cz_bar p0 p1 p2 p3 := by first | (subst_vars; rfl) | assumption | ((try subst_vars) <;> (try simp only [cz_bar]) <;> (repeat' split) <;> (first | rfl | contradiction | ((try simp only [cz_in, cz_du, cz_lt, cz_le, cz_eq, cz_l] at *) <;> (first | omega | (simp_all; done))))) | ((try subst_vars); simp only [cz_bar, cz_in, *, and_self, and_true, true_and, if_true, if_false])
theorem c_X5_isBarred_a4 (p0 : Int32) (p1 : Int32) (p2 : Int32) (p3 : Int32) (x_1 : Int32) (r_7 : Int32) (x_10 : Int32) (ex_1 : x_1 = p1 &&& p2) (c_2 : x_1 = 0) (c_3 : p0 = 2) (hr_7 : r_7 = cz_bc p1) (c_8 : r_7 < 2) (hr_9 : ¬ cz_kd p0 3) (ex_10 : x_10 = p1 &&& p3) (c_11 : x_10 = 0) : ¬ cz_bar p0 p1 p2 p3 := by first | (subst_vars; rfl) | assumption | ((try subst_vars) <;> (try simp only [cz_bar]) <;> (repeat' split) <;> (first | rfl | contradiction | ((try simp only [cz_in, cz_du, cz_lt, cz_le, cz_eq, cz_l] at *) <;> (first | omega | (simp_all; done))))) | ((try subst_vars); simp only [cz_bar, cz_in, *, and_self, and_true, true_and, if_true, if_false])
theorem c_X5_isBarred_a5 (p0 : Int32) (p1 : Int32) (p2 : Int32) (p3 : Int32) (x_1 : Int32) (r_7 : Int32) (x_10 : Int32) (ex_1 : x_1 = p1 &&& p2) (c_2 : x_1 = 0) (c_3 : p0 = 2) (hr_7 : r_7 = cz_bc p1) (c_8 : r_7 < 2) (hr_9 : ¬ cz_kd p0 3) (ex_10 : x_10 = p1 &&& p3) (c_11 : ¬ x_10 = 0) : cz_bar p0 p1 p2 p3 := by first | (subst_vars; rfl) | assumption | ((try subst_vars) <;> (try simp only [cz_bar]) <;> (repeat' split) <;> (first | rfl | contradiction | ((try simp only [cz_in, cz_du, cz_lt, cz_le, cz_eq, cz_l] at *) <;> (first | omega | (simp_all; done))))) | ((try subst_vars); simp only [cz_bar, cz_in, *, and_self, and_true, true_and, if_true, if_false])
theorem c_X5_isBarred_a6 (p0 : Int32) (p1 : Int32) (p2 : Int32) (p3 : Int32) (x_1 : Int32) (r_7 : Int32) (ex_1 : x_1 = p1 &&& p2) (c_2 : x_1 = 0) (c_3 : p0 = 2) (hr_7 : r_7 = cz_bc p1) (c_8 : r_7 < 2) (hr_9 : cz_kd p0 3) : ¬ cz_bar p0 p1 p2 p3 := by first | (subst_vars; rfl) | assumption | ((try subst_vars) <;> (try simp only [cz_bar]) <;> (repeat' split) <;> (first | rfl | contradiction | ((try simp only [cz_in, cz_du, cz_lt, cz_le, cz_eq, cz_l] at *) <;> (first | omega | (simp_all; done))))) | ((try subst_vars); simp only [cz_bar, cz_in, *, and_self, and_true, true_and, if_true, if_false])
theorem c_X5_isBarred_a7 (p0 : Int32) (p1 : Int32) (p2 : Int32) (p3 : Int32) (x_1 : Int32) (r_7 : Int32) (ex_1 : x_1 = p1 &&& p2) (c_2 : x_1 = 0) (c_3 : p0 = 2) (hr_7 : r_7 = cz_bc p1) (c_8 : ¬ r_7 < 2) : cz_bar p0 p1 p2 p3 := by first | (subst_vars; rfl) | assumption | ((try subst_vars) <;> (try simp only [cz_bar]) <;> (repeat' split) <;> (first | rfl | contradiction | ((try simp only [cz_in, cz_du, cz_lt, cz_le, cz_eq, cz_l] at *) <;> (first | omega | (simp_all; done))))) | ((try subst_vars); simp only [cz_bar, cz_in, *, and_self, and_true, true_and, if_true, if_false])
theorem c_X5_isBarred_a8 (p0 : Int32) (p1 : Int32) (p2 : Int32) (p3 : Int32) (x_1 : Int32) (ex_1 : x_1 = p1 &&& p2) (c_2 : ¬ x_1 = 0) : cz_bar p0 p1 p2 p3 := by first | (subst_vars; rfl) | assumption | ((try subst_vars) <;> (try simp only [cz_bar]) <;> (repeat' split) <;> (first | rfl | contradiction | ((try simp only [cz_in, cz_du, cz_lt, cz_le, cz_eq, cz_l] at *) <;> (first | omega | (simp_all; done))))) | ((try subst_vars); simp only [cz_bar, cz_in, *, and_self, and_true, true_and, if_true, if_false])
set_option maxHeartbeats 4000000 in
set_option maxRecDepth 100000 in
theorem c_X5_isBarred (l : Launch) (dC : Nat → ClassId) (dI : Nat → Nat → Nat) (cI cB : ClassId) (p0 : Int32) (p1 : Int32) (p2 : Int32) (p3 : Int32) : Met l yX5_isBarred wsX5_isBarred ({ frames := 1, cells := 0, slots := 0, locals := 21 }) (cz_Pp dC dI cI cB [.int p0, .int p1, .int p2, .int p3] []) (vp_Si (fun r : Int32 => (r = 0 ∧ ¬ cz_bar p0 p1 p2 p3) ∨ (r = 1 ∧ cz_bar p0 p1 p2 p3))) 0 0 (fun _ => False) := by
  refine cz_of (cc := cX5_isBarred) (maxL := 4) (ret := (some .boolean)) (by decide) rfl ?_
  intro p e s m args below meth c s₁ Q B hml hv hQ
  obtain ⟨rfl, hP, hN⟩ := hv
  have hx := B.exec
  have hb := B.bytes
  have hr := B.returns
  have hts := atoms_spec (ws := wsX5_isBarred) B.pre
  have hown : s.vm.findClass RX5 = some m.cls := findClass_of_methodNamed B.named
  have hlocks := B.notSynchronized
  have hK := hN.1
  have hl := lv_entry ([.int p0, .int p1, .int p2, .int p3]) (n := 4) (Nat.le_of_ble_eq_true rfl)
  rw [lg_entry_eq]
  generalize (lg_sl ([.int p0, .int p1, .int p2, .int p3]) ++ List.replicate (4 - (lg_sl ([.int p0, .int p1, .int p2, .int p3])).length) Slot.unset).toArray = ls at hl ⊢
  have hl : lv_has ls 4 [(0, .int p0), (1, .int p1), (2, .int p2), (3, .int p3)] := hl
  refine lv_iload_n hx hb dX5_isBarred_0 rfl (lv_at hl 1 rfl) ?_
  refine lv_iload_n hx hb dX5_isBarred_1 rfl (lv_at hl 2 rfl) ?_
  refine lv_iand hx hb dX5_isBarred_2 ?_
  refine lv_topi (fun x_1 ex_1 => ?_)
  refine lv_if_eq (tgt := 8) hx hb dX5_isBarred_3 (by decide) (fun c_2 => ?_) (fun c_2 => ?_)
  · refine lv_iload_n hx hb dX5_isBarred_8 rfl (lv_at hl 0 rfl) ?_
    refine lv_iconst (v := 2) hx hb dX5_isBarred_9 (by decide) ?_
    refine lv_icmp_ne (tgt := 23) hx hb dX5_isBarred_10 (by decide) (fun c_3 => ?_) (fun c_3 => ?_)
    · refine lv_iload_n hx hb dX5_isBarred_23 rfl (lv_at hl 0 rfl) ?_
      refine lv_iconst (v := 3) hx hb dX5_isBarred_24 (by decide) ?_
      refine vp_callSi (cz_run (va_runSN (As := [.int p0, .int 3]) (rest := []) ⟨hx, hb, hml, hown, hts⟩ (c_X6_isOfKind l dC dI cI cB p0 3 ) ⟨(va_cnB 2 hts gX5_isBarred_X6_isOfKind_n67 rfl rfl rfl (hN.2 (RX5, 67, yX6_isOfKind) (by decide)) (hts (.initialized RX6) (List.mem_of_getElem? (i := 9) rfl)) (by decide +kernel) ⟨Nat.le_of_ble_eq_true rfl, Nat.le_of_ble_eq_true rfl⟩), hts (.static yX6_isOfKind) (List.mem_of_getElem? (i := 8) rfl), trivial⟩ (cz_pS hP hN) rfl rfl hl.1 rfl (lv_room (Nat.le_of_ble_eq_true rfl)) dX5_isBarred_25 ⟨Nat.le_of_ble_eq_true rfl, Nat.le_of_ble_eq_true rfl⟩)) (fun r_4 hr_4 => ?_)
      rcases hr_4 with ⟨rfl, hr_4⟩ | ⟨rfl, hr_4⟩
      · refine lv_if_ne (tgt := 41) hx hb dX5_isBarred_28 (by decide) (fun c => absurd (by decide) c) (fun _ => ?_)
        refine lv_iload_n hx hb dX5_isBarred_31 rfl (lv_at hl 1 rfl) ?_
        refine lv_iload_n hx hb dX5_isBarred_32 rfl (lv_at hl 3 rfl) ?_
        refine lv_iand hx hb dX5_isBarred_33 ?_
        refine lv_topi (fun x_5 ex_5 => ?_)
        refine lv_if_eq (tgt := 41) hx hb dX5_isBarred_34 (by decide) (fun c_6 => ?_) (fun c_6 => ?_)
        · refine lv_iconst (v := 0) hx hb dX5_isBarred_41 (by decide) ?_
          rw [hQ]; exact W.zret (v := 0) hx hb hr (by decide) (fun t ht hW => ⟨0, rfl, (Or.inl ⟨rfl, (c_X5_isBarred_a1 p0 p1 p2 p3 x_1 x_5 ex_1 c_2 c_3 hr_4 ex_5 c_6)⟩), ht⟩) (fun _ h => absurd h List.not_mem_nil) dX5_isBarred_42
        · refine lv_iconst (v := 1) hx hb dX5_isBarred_37 (by decide) ?_
          refine lv_goto (tgt := 42) hx hb dX5_isBarred_38 (by decide) ?_
          rw [hQ]; exact W.zret (v := 1) hx hb hr (by decide) (fun t ht hW => ⟨1, rfl, (Or.inr (⟨rfl, (c_X5_isBarred_a2 p0 p1 p2 p3 x_1 x_5 ex_1 c_2 c_3 hr_4 ex_5 c_6)⟩)), ht⟩) (fun _ h => absurd h List.not_mem_nil) dX5_isBarred_42
      · refine lv_if_ne (tgt := 41) hx hb dX5_isBarred_28 (by decide) (fun _ => ?_) (fun c => absurd c (by decide))
        refine lv_iconst (v := 0) hx hb dX5_isBarred_41 (by decide) ?_
        rw [hQ]; exact W.zret (v := 0) hx hb hr (by decide) (fun t ht hW => ⟨0, rfl, (Or.inl ⟨rfl, (c_X5_isBarred_a3 p0 p1 p2 p3 x_1 ex_1 c_2 c_3 hr_4)⟩), ht⟩) (fun _ h => absurd h List.not_mem_nil) dX5_isBarred_42
    · refine lv_iload_n hx hb dX5_isBarred_13 rfl (lv_at hl 1 rfl) ?_
      refine vp_callSi (cz_run (va_runS (As := [.int p1]) (rest := []) ⟨hx, hb, hml, hown, hts⟩ (c_J6_bitCount_0f7a4 l dC dI cI cB p1 ) (va_cwS 1 hts gX5_isBarred_J6_bitCount_0f7a4 rfl rfl rfl (by decide +kernel) ⟨Nat.le_of_ble_eq_true rfl, Nat.le_of_ble_eq_true rfl⟩) (cz_pS hP hN) rfl rfl hl.1 rfl (lv_room (Nat.le_of_ble_eq_true rfl)) dX5_isBarred_14 ⟨Nat.le_of_ble_eq_true rfl, Nat.le_of_ble_eq_true rfl⟩)) (fun r_7 hr_7 => ?_)
      refine lv_iconst (v := 2) hx hb dX5_isBarred_17 (by decide) ?_
      refine lv_icmp_lt (tgt := 23) hx hb dX5_isBarred_18 (by decide) (fun c_8 => ?_) (fun c_8 => ?_)
      · refine lv_iload_n hx hb dX5_isBarred_23 rfl (lv_at hl 0 rfl) ?_
        refine lv_iconst (v := 3) hx hb dX5_isBarred_24 (by decide) ?_
        refine vp_callSi (cz_run (va_runSN (As := [.int p0, .int 3]) (rest := []) ⟨hx, hb, hml, hown, hts⟩ (c_X6_isOfKind l dC dI cI cB p0 3 ) ⟨(va_cnB 2 hts gX5_isBarred_X6_isOfKind_n67 rfl rfl rfl (hN.2 (RX5, 67, yX6_isOfKind) (by decide)) (hts (.initialized RX6) (List.mem_of_getElem? (i := 9) rfl)) (by decide +kernel) ⟨Nat.le_of_ble_eq_true rfl, Nat.le_of_ble_eq_true rfl⟩), hts (.static yX6_isOfKind) (List.mem_of_getElem? (i := 8) rfl), trivial⟩ (cz_pS hP hN) rfl rfl hl.1 rfl (lv_room (Nat.le_of_ble_eq_true rfl)) dX5_isBarred_25 ⟨Nat.le_of_ble_eq_true rfl, Nat.le_of_ble_eq_true rfl⟩)) (fun r_9 hr_9 => ?_)
        rcases hr_9 with ⟨rfl, hr_9⟩ | ⟨rfl, hr_9⟩
        · refine lv_if_ne (tgt := 41) hx hb dX5_isBarred_28 (by decide) (fun c => absurd (by decide) c) (fun _ => ?_)
          refine lv_iload_n hx hb dX5_isBarred_31 rfl (lv_at hl 1 rfl) ?_
          refine lv_iload_n hx hb dX5_isBarred_32 rfl (lv_at hl 3 rfl) ?_
          refine lv_iand hx hb dX5_isBarred_33 ?_
          refine lv_topi (fun x_10 ex_10 => ?_)
          refine lv_if_eq (tgt := 41) hx hb dX5_isBarred_34 (by decide) (fun c_11 => ?_) (fun c_11 => ?_)
          · refine lv_iconst (v := 0) hx hb dX5_isBarred_41 (by decide) ?_
            rw [hQ]; exact W.zret (v := 0) hx hb hr (by decide) (fun t ht hW => ⟨0, rfl, (Or.inl ⟨rfl, (c_X5_isBarred_a4 p0 p1 p2 p3 x_1 r_7 x_10 ex_1 c_2 c_3 hr_7 c_8 hr_9 ex_10 c_11)⟩), ht⟩) (fun _ h => absurd h List.not_mem_nil) dX5_isBarred_42
          · refine lv_iconst (v := 1) hx hb dX5_isBarred_37 (by decide) ?_
            refine lv_goto (tgt := 42) hx hb dX5_isBarred_38 (by decide) ?_
            rw [hQ]; exact W.zret (v := 1) hx hb hr (by decide) (fun t ht hW => ⟨1, rfl, (Or.inr (⟨rfl, (c_X5_isBarred_a5 p0 p1 p2 p3 x_1 r_7 x_10 ex_1 c_2 c_3 hr_7 c_8 hr_9 ex_10 c_11)⟩)), ht⟩) (fun _ h => absurd h List.not_mem_nil) dX5_isBarred_42
        · refine lv_if_ne (tgt := 41) hx hb dX5_isBarred_28 (by decide) (fun _ => ?_) (fun c => absurd c (by decide))
          refine lv_iconst (v := 0) hx hb dX5_isBarred_41 (by decide) ?_
          rw [hQ]; exact W.zret (v := 0) hx hb hr (by decide) (fun t ht hW => ⟨0, rfl, (Or.inl ⟨rfl, (c_X5_isBarred_a6 p0 p1 p2 p3 x_1 r_7 ex_1 c_2 c_3 hr_7 c_8 hr_9)⟩), ht⟩) (fun _ h => absurd h List.not_mem_nil) dX5_isBarred_42
      · refine lv_iconst (v := 1) hx hb dX5_isBarred_21 (by decide) ?_
        rw [hQ]; exact W.zret (v := 1) hx hb hr (by decide) (fun t ht hW => ⟨1, rfl, (Or.inr (⟨rfl, (c_X5_isBarred_a7 p0 p1 p2 p3 x_1 r_7 ex_1 c_2 c_3 hr_7 c_8)⟩)), ht⟩) (fun _ h => absurd h List.not_mem_nil) dX5_isBarred_22
  · refine lv_iconst (v := 1) hx hb dX5_isBarred_6 (by decide) ?_
    rw [hQ]; exact W.zret (v := 1) hx hb hr (by decide) (fun t ht hW => ⟨1, rfl, (Or.inr (⟨rfl, (c_X5_isBarred_a8 p0 p1 p2 p3 x_1 ex_1 c_2)⟩)), ht⟩) (fun _ h => absurd h List.not_mem_nil) dX5_isBarred_7

theorem c_X5_cheekFrom_a1 (p0 : Int32) (c_1 : ¬ p0 = 0) (c_2 : ¬ p0 = 4) (c_3 : 4 ≤ p0) : (1 : Int32) = cz_chk p0 := by first | (subst_vars; rfl) | assumption | ((try subst_vars) <;> (try simp only [cz_chk]) <;> (repeat' split) <;> (first | rfl | contradiction | ((try simp only [cz_in, cz_du, cz_lt, cz_le, cz_eq, cz_l] at *) <;> (first | omega | (simp_all; done))))) | ((try subst_vars); simp only [cz_chk, cz_in, *, and_self, and_true, true_and, if_true, if_false])
theorem c_X5_cheekFrom_a2 (p0 : Int32) (c_1 : ¬ p0 = 0) (c_2 : ¬ p0 = 4) (c_3 : ¬ 4 ≤ p0) : (2 : Int32) = cz_chk p0 := by first | (subst_vars; rfl) | assumption | ((try subst_vars) <;> (try simp only [cz_chk]) <;> (repeat' split) <;> (first | rfl | contradiction | ((try simp only [cz_in, cz_du, cz_lt, cz_le, cz_eq, cz_l] at *) <;> (first | omega | (simp_all; done))))) | ((try subst_vars); simp only [cz_chk, cz_in, *, and_self, and_true, true_and, if_true, if_false])
theorem c_X5_cheekFrom_a3 (p0 : Int32) (c_1 : ¬ p0 = 0) (c_2 : p0 = 4) : (4 : Int32) = cz_chk p0 := by first | (subst_vars; rfl) | assumption | ((try subst_vars) <;> (try simp only [cz_chk]) <;> (repeat' split) <;> (first | rfl | contradiction | ((try simp only [cz_in, cz_du, cz_lt, cz_le, cz_eq, cz_l] at *) <;> (first | omega | (simp_all; done))))) | ((try subst_vars); simp only [cz_chk, cz_in, *, and_self, and_true, true_and, if_true, if_false])
theorem c_X5_cheekFrom_a4 (p0 : Int32) (c_1 : p0 = 0) : (3 : Int32) = cz_chk p0 := by first | (subst_vars; rfl) | assumption | ((try subst_vars) <;> (try simp only [cz_chk]) <;> (repeat' split) <;> (first | rfl | contradiction | ((try simp only [cz_in, cz_du, cz_lt, cz_le, cz_eq, cz_l] at *) <;> (first | omega | (simp_all; done))))) | ((try subst_vars); simp only [cz_chk, cz_in, *, and_self, and_true, true_and, if_true, if_false])
set_option maxHeartbeats 4000000 in
set_option maxRecDepth 100000 in
theorem c_X5_cheekFrom (l : Launch) (dC : Nat → ClassId) (dI : Nat → Nat → Nat) (cI cB : ClassId) (p0 : Int32) : Met l yX5_cheekFrom wsX5_cheekFrom ({ frames := 0, cells := 0, slots := 0, locals := 0 }) (cz_Pp dC dI cI cB [.int p0] []) (vp_Si (fun r : Int32 => r = cz_chk p0)) 0 0 (fun _ => False) := by
  refine cz_of (cc := cX5_cheekFrom) (maxL := 1) (ret := (some .int)) (by decide) rfl ?_
  intro p e s m args below meth c s₁ Q B hml hv hQ
  obtain ⟨rfl, hP, hN⟩ := hv
  have hx := B.exec
  have hb := B.bytes
  have hr := B.returns
  have hts := atoms_spec (ws := wsX5_cheekFrom) B.pre
  have hown : s.vm.findClass RX5 = some m.cls := findClass_of_methodNamed B.named
  have hlocks := B.notSynchronized
  have hK := hN.1
  have hl := lv_entry ([.int p0]) (n := 1) (Nat.le_of_ble_eq_true rfl)
  rw [lg_entry_eq]
  generalize (lg_sl ([.int p0]) ++ List.replicate (1 - (lg_sl ([.int p0])).length) Slot.unset).toArray = ls at hl ⊢
  have hl : lv_has ls 1 [(0, .int p0)] := hl
  refine lv_iload_n hx hb dX5_cheekFrom_0 rfl (lv_at hl 0 rfl) ?_
  refine lv_if_ne (tgt := 6) hx hb dX5_cheekFrom_1 (by decide) (fun c_1 => ?_) (fun c_1 => ?_)
  · refine lv_iload_n hx hb dX5_cheekFrom_6 rfl (lv_at hl 0 rfl) ?_
    refine lv_iconst (v := 4) hx hb dX5_cheekFrom_7 (by decide) ?_
    refine lv_icmp_ne (tgt := 13) hx hb dX5_cheekFrom_8 (by decide) (fun c_2 => ?_) (fun c_2 => ?_)
    · refine lv_iload_n hx hb dX5_cheekFrom_13 rfl (lv_at hl 0 rfl) ?_
      refine lv_iconst (v := 4) hx hb dX5_cheekFrom_14 (by decide) ?_
      refine lv_icmp_ge (tgt := 22) hx hb dX5_cheekFrom_15 (by decide) (fun c_3 => ?_) (fun c_3 => ?_)
      · refine lv_iconst (v := 1) hx hb dX5_cheekFrom_22 (by decide) ?_
        rw [hQ]; exact W.iret (v := 1) hx hb hr (fun t ht hW => ⟨1, rfl, (c_X5_cheekFrom_a1 p0 c_1 c_2 c_3), ht⟩) (fun _ h => absurd h List.not_mem_nil) dX5_cheekFrom_23
      · refine lv_iconst (v := 2) hx hb dX5_cheekFrom_18 (by decide) ?_
        refine lv_goto (tgt := 23) hx hb dX5_cheekFrom_19 (by decide) ?_
        rw [hQ]; exact W.iret (v := 2) hx hb hr (fun t ht hW => ⟨2, rfl, (c_X5_cheekFrom_a2 p0 c_1 c_2 c_3), ht⟩) (fun _ h => absurd h List.not_mem_nil) dX5_cheekFrom_23
    · refine lv_iconst (v := 4) hx hb dX5_cheekFrom_11 (by decide) ?_
      rw [hQ]; exact W.iret (v := 4) hx hb hr (fun t ht hW => ⟨4, rfl, (c_X5_cheekFrom_a3 p0 c_1 c_2), ht⟩) (fun _ h => absurd h List.not_mem_nil) dX5_cheekFrom_12
  · refine lv_iconst (v := 3) hx hb dX5_cheekFrom_4 (by decide) ?_
    rw [hQ]; exact W.iret (v := 3) hx hb hr (fun t ht hW => ⟨3, rfl, (c_X5_cheekFrom_a4 p0 c_1), ht⟩) (fun _ h => absurd h List.not_mem_nil) dX5_cheekFrom_5

theorem c_X4_nextSeed_a1 (p0 : Int32) (x_1 : Int64) (x_2 : Int64) (x_3 : Int64) (x_4 : Int64) (x_5 : Int32) (ex_1 : x_1 = p0.toInt64) (ex_2 : x_2 = 1103515245 * x_1) (ex_3 : x_3 = x_2 + 12345) (ex_4 : x_4 = x_3 - x_3 / 2147483648 * 2147483648) (ex_5 : x_5 = x_4.toInt32) : (x_5 : Int32) = cz_ns p0 := by first | (subst_vars; rfl) | assumption | ((try subst_vars) <;> (try simp only [cz_ns]) <;> (repeat' split) <;> (first | rfl | contradiction | ((try simp only [cz_in, cz_du, cz_lt, cz_le, cz_eq, cz_l] at *) <;> (first | omega | (simp_all; done))))) | ((try subst_vars); simp only [cz_ns, cz_in, *, and_self, and_true, true_and, if_true, if_false])
set_option maxHeartbeats 4000000 in
set_option maxRecDepth 100000 in
theorem c_X4_nextSeed (l : Launch) (dC : Nat → ClassId) (dI : Nat → Nat → Nat) (cI cB : ClassId) (p0 : Int32) : Met l yX4_nextSeed wsX4_nextSeed ({ frames := 0, cells := 0, slots := 0, locals := 0 }) (cz_Pp dC dI cI cB [.int p0] []) (vp_Si (fun r : Int32 => r = cz_ns p0)) 0 0 (fun _ => False) := by
  refine cz_of (cc := cX4_nextSeed) (maxL := 1) (ret := (some .int)) (by decide) rfl ?_
  intro p e s m args below meth c s₁ Q B hml hv hQ
  obtain ⟨rfl, hP, hN⟩ := hv
  have hx := B.exec
  have hb := B.bytes
  have hr := B.returns
  have hts := atoms_spec (ws := wsX4_nextSeed) B.pre
  have hown : s.vm.findClass RX4 = some m.cls := findClass_of_methodNamed B.named
  have hlocks := B.notSynchronized
  have hK := hN.1
  have hl := lv_entry ([.int p0]) (n := 1) (Nat.le_of_ble_eq_true rfl)
  rw [lg_entry_eq]
  generalize (lg_sl ([.int p0]) ++ List.replicate (1 - (lg_sl ([.int p0])).length) Slot.unset).toArray = ls at hl ⊢
  have hl : lv_has ls 1 [(0, .int p0)] := hl
  refine lv_ldc2 (v := 1103515245) hx hb hown (hts (.constantLong RX4 118 (1103515245)) (List.mem_of_getElem? (i := 1) rfl)) dX4_nextSeed_0 ?_
  refine lv_iload_n hx hb dX4_nextSeed_3 rfl (lv_at hl 0 rfl) ?_
  refine lv_i2l hx hb dX4_nextSeed_4 rfl ?_
  refine lv_topl (fun x_1 ex_1 => ?_)
  refine lv_lmul hx hb dX4_nextSeed_5 ?_
  refine lv_topl (fun x_2 ex_2 => ?_)
  refine lv_ldc2 (v := 12345) hx hb hown (hts (.constantLong RX4 120 (12345)) (List.mem_of_getElem? (i := 2) rfl)) dX4_nextSeed_6 ?_
  refine lv_ladd hx hb dX4_nextSeed_9 ?_
  refine lv_topl (fun x_3 ex_3 => ?_)
  refine lv_ldc2 (v := 2147483648) hx hb hown (hts (.constantLong RX4 122 (2147483648)) (List.mem_of_getElem? (i := 3) rfl)) dX4_nextSeed_10 ?_
  refine lv_lrem hx hb dX4_nextSeed_13 (by decide) ?_
  refine lv_topl (fun x_4 ex_4 => ?_)
  refine lv_l2i hx hb dX4_nextSeed_14 rfl ?_
  refine lv_topi (fun x_5 ex_5 => ?_)
  rw [hQ]; exact W.iret (v := x_5) hx hb hr (fun t ht hW => ⟨x_5, rfl, (c_X4_nextSeed_a1 p0 x_1 x_2 x_3 x_4 x_5 ex_1 ex_2 ex_3 ex_4 ex_5), ht⟩) (fun _ h => absurd h List.not_mem_nil) dX4_nextSeed_15
