set_option maxHeartbeats 4000000 in
set_option maxRecDepth 100000 in
theorem c_X0_has (l : Launch) (dC : Nat → ClassId) (dI : Nat → Nat → Nat) (cI cB : ClassId) (hc : Nat) (p0 : Int32) (a0 : Int32) (a1 : Int32) (k0 : Nat) (k1 : Nat) (k2 : Nat) (k3 : Nat) (k4 : Nat) (k5 : Nat) (hk6 : k0 ≤ 6) : Met l yX0_has wsX0_has ({ frames := 0, cells := 0, slots := 0, locals := 0 }) (cz_Pp dC dI cI cB [.ref hc, .int p0] [(hc, .inr (0, [.int a0, .int a1, .int (nI k0), .ref k1, .ref k2, .ref k3, .ref k4, .ref k5]))]) (vp_Si (fun r : Int32 => (r = 0 ∧ ¬ cz_cr k0 p0) ∨ (r = 1 ∧ ∃ j : Nat, j < k0 ∧ p0 = nI j))) 0 0 (fun _ => False) := by
  refine cz_of (cc := cX0_has) (maxL := 2) (ret := (some .boolean)) (by decide) rfl ?_
  intro p e s m args below meth c s₁ Q B hml hv hQ
  obtain ⟨rfl, hP, hN⟩ := hv
  have hx := B.exec
  have hb := B.bytes
  have hr := B.returns
  have hts := atoms_spec (ws := wsX0_has) B.pre
  have hown : s.vm.findClass RX0 = some m.cls := findClass_of_methodNamed B.named
  have hlocks := B.notSynchronized
  have hK := hN.1
  have hiX0 : ∀ w ∈ wsX00, w ∈ wsX0_has := (fun _ h => List.mem_cons_of_mem _ (List.mem_append_right _ h))
  have hl := lv_entry ([.ref hc, .int p0]) (n := 2) (Nat.le_of_ble_eq_true rfl)
  rw [lg_entry_eq]
  generalize (lg_sl ([.ref hc, .int p0]) ++ List.replicate (2 - (lg_sl ([.ref hc, .int p0])).length) Slot.unset).toArray = ls at hl ⊢
  have hl : lv_has ls 2 [(0, .ref hc), (1, .int p0)] := hl
  refine lv_iload_n hx hb dX0_has_0 rfl (lv_at hl 1 rfl) ?_
  refine lv_if_lt (tgt := 22) hx hb dX0_has_1 (by decide) (fun c_1 => ?_) (fun c_1 => ?_)
  · refine lv_iconst (v := 0) hx hb dX0_has_22 (by decide) ?_
    rw [hQ]; exact W.zret (v := 0) hx hb hr (by decide) (fun t ht hW => ⟨0, rfl, (Or.inl ⟨rfl, (cz_cr_not hk6 (Or.inl c_1))⟩), ht⟩) (fun _ h => absurd h List.not_mem_nil) dX0_has_23
  · refine lv_iload_n hx hb dX0_has_4 rfl (lv_at hl 1 rfl) ?_
    refine lv_aload_n hx hb dX0_has_5 rfl (lv_at hl 0 rfl) ?_
    refine va_get (D := (dC, dI)) (ci := 0) (v := .int (nI k0)) (C := RX0) (T := TX0) (N := 8) hx hb hts hiX0 hown hK hP 0 rfl rfl 2 (by decide) (hts (.fieldLink RX0 18 "LeftProfile$Court" "size" "I") (List.mem_of_getElem? (i := 1) rfl)) (fun _ h9 => h9) rfl dX0_has_6 ?_
    refine lv_icmp_ge (tgt := 22) hx hb dX0_has_9 (by decide) (fun c_2 => ?_) (fun c_2 => ?_)
    · refine lv_iconst (v := 0) hx hb dX0_has_22 (by decide) ?_
      rw [hQ]; exact W.zret (v := 0) hx hb hr (by decide) (fun t ht hW => ⟨0, rfl, (Or.inl ⟨rfl, (cz_cr_not hk6 (Or.inr (Or.inl c_2)))⟩), ht⟩) (fun _ h => absurd h List.not_mem_nil) dX0_has_23
    · refine lv_iload_n hx hb dX0_has_12 rfl (lv_at hl 1 rfl) ?_
      refine lv_bipush (v := 6) hx hb dX0_has_13 (by decide) ?_
      refine lv_icmp_ge (tgt := 22) hx hb dX0_has_15 (by decide) (fun c_3 => ?_) (fun c_3 => ?_)
      · refine lv_iconst (v := 0) hx hb dX0_has_22 (by decide) ?_
        rw [hQ]; exact W.zret (v := 0) hx hb hr (by decide) (fun t ht hW => ⟨0, rfl, (Or.inl ⟨rfl, (cz_cr_not hk6 (Or.inr (Or.inr c_3)))⟩), ht⟩) (fun _ h => absurd h List.not_mem_nil) dX0_has_23
      · refine lv_iconst (v := 1) hx hb dX0_has_18 (by decide) ?_
        refine lv_goto (tgt := 23) hx hb dX0_has_19 (by decide) ?_
        rw [hQ]; exact W.zret (v := 1) hx hb hr (by decide) (fun t ht hW => ⟨1, rfl, (Or.inr (⟨rfl, cz_ex c_1 c_2 (by omega)⟩)), ht⟩) (fun _ h => absurd h List.not_mem_nil) dX0_has_23

set_option maxHeartbeats 4000000 in
set_option maxRecDepth 100000 in
theorem c_X0_leave (l : Launch) (dC : Nat → ClassId) (dI : Nat → Nat → Nat) (cI cB : ClassId) (hc : Nat) (a0 : Int32) (a1 : Int32) (k0 : Nat) (k1 : Nat) (k2 : Nat) (k3 : Nat) (k4 : Nat) (k5 : Nat) (sz : Nat) : Met l yX0_leave wsX0_leave ({ frames := 0, cells := 0, slots := 0, locals := 0 }) (cz_Pm dC dI cI cB [.ref hc] [(hc, .inr (0, [.int a0, .int a1, .int (nI k0), .ref k1, .ref k2, .ref k3, .ref k4, .ref k5]))] sz) (va_Qv (fun _ : Unit => True) (fun _ t => va_P (dC, dI) vwCl [(hc, .inr (0, [.int (-1), .int a1, .int (nI 0), .ref k1, .ref k2, .ref k3, .ref k4, .ref k5]))] t.heap ∧ va_D (va_A [(hc, .inr (0, [.int a0, .int a1, .int (nI k0), .ref k1, .ref k2, .ref k3, .ref k4, .ref k5]))] sz) [(hc, .inr (0, [.int (-1), .int a1, .int (nI 0), .ref k1, .ref k2, .ref k3, .ref k4, .ref k5]))]) (va_A [(hc, .inr (0, [.int a0, .int a1, .int (nI k0), .ref k1, .ref k2, .ref k3, .ref k4, .ref k5]))] sz)) 0 0 (va_A [(hc, .inr (0, [.int a0, .int a1, .int (nI k0), .ref k1, .ref k2, .ref k3, .ref k4, .ref k5]))] sz) := by
  refine cz_of (cc := cX0_leave) (maxL := 1) (ret := none) (by decide) rfl ?_
  intro p e s m args below meth c s₁ Q B hml hv hQ
  obtain ⟨rfl, hsz, hP, hN, hD0⟩ := hv
  have hx := B.exec
  have hb := B.bytes
  have hr := B.returns
  have hts := atoms_spec (ws := wsX0_leave) B.pre
  have hown : s.vm.findClass RX0 = some m.cls := findClass_of_methodNamed B.named
  have hlocks := B.notSynchronized
  have hK := hN.1
  have hiX0 : ∀ w ∈ wsX00, w ∈ wsX0_leave := (fun _ h => List.mem_cons_of_mem _ (List.mem_append_right _ h))
  subst hsz
  have hD := hD0.self (sz := s.heap.size)
  generalize hAe : va_A [(hc, .inr (0, [.int a0, .int a1, .int (nI k0), .ref k1, .ref k2, .ref k3, .ref k4, .ref k5]))] s.heap.size = A at hD hQ ⊢
  have hA : ∀ q : Nat, s.heap.size ≤ q → A q := fun q h => by rw [← hAe]; exact Or.inr h
  have hS : va_S A s.heap s.heap [] := va_S.rf
  obtain ⟨H, eH⟩ : ∃ H, H = s.heap := ⟨_, rfl⟩
  have hP : va_P (dC, dI) vwCl [(hc, .inr (0, [.int a0, .int a1, .int (nI k0), .ref k1, .ref k2, .ref k3, .ref k4, .ref k5]))] s.heap := hP
  have hl := lv_entry ([.ref hc]) (n := 1) (Nat.le_of_ble_eq_true rfl)
  rw [lg_entry_eq]
  generalize (lg_sl ([.ref hc]) ++ List.replicate (1 - (lg_sl ([.ref hc])).length) Slot.unset).toArray = ls at hl ⊢
  have hl : lv_has ls 1 [(0, .ref hc)] := hl
  refine lv_aload_n hx hb dX0_leave_0 rfl (lv_at hl 0 rfl) ?_
  refine lv_iconst (v := (-1)) hx hb dX0_leave_1 (by decide) ?_
  refine va_put (D := (dC, dI)) (ci := 0) (v := .int (-1)) (ty := .int) (C := RX0) (T := TX0) (N := 8) hx hb hts hiX0 tyX0 tyX0_ok nmX0 hown hK hP hD hS 0 rfl rfl 0 (by decide) (hts (.fieldLink RX0 9 "LeftProfile$Court" "stance" "I") (List.mem_of_getElem? (i := 1) rfl)) (fun _ h9 => h9) rfl (by decide +kernel) rfl rfl (Nat.le_of_ble_eq_true rfl) dX0_leave_2 (fun H locs hP hD hS => ?_)
  have hP : va_P (dC, dI) vwCl [(hc, .inr (0, [.int (-1), .int a1, .int (nI k0), .ref k1, .ref k2, .ref k3, .ref k4, .ref k5]))] H := hP
  have hD : va_D A [(hc, .inr (0, [.int (-1), .int a1, .int (nI k0), .ref k1, .ref k2, .ref k3, .ref k4, .ref k5]))] := hD
  refine lv_aload_n hx hb dX0_leave_5 rfl (lv_at hl 0 rfl) ?_
  refine lv_iconst (v := 0) hx hb dX0_leave_6 (by decide) ?_
  refine va_put (D := (dC, dI)) (ci := 0) (v := .int 0) (ty := .int) (C := RX0) (T := TX0) (N := 8) hx hb hts hiX0 tyX0 tyX0_ok nmX0 hown hK hP hD hS 0 rfl rfl 2 (by decide) (hts (.fieldLink RX0 18 "LeftProfile$Court" "size" "I") (List.mem_of_getElem? (i := 2) rfl)) (fun _ h9 => h9) rfl (by decide +kernel) rfl rfl (Nat.le_of_ble_eq_true rfl) dX0_leave_7 (fun H locs hP hD hS => ?_)
  have hP : va_P (dC, dI) vwCl [(hc, .inr (0, [.int (-1), .int a1, .int 0, .ref k1, .ref k2, .ref k3, .ref k4, .ref k5]))] H := hP
  have hD : va_D A [(hc, .inr (0, [.int (-1), .int a1, .int 0, .ref k1, .ref k2, .ref k3, .ref k4, .ref k5]))] := hD
  refine W.widen (k := 0) (n := 0) (Nat.le_of_ble_eq_true rfl) (Nat.le_of_ble_eq_true rfl) ?_
  have hP9 := hP.sub (ws' := [(hc, .inr (0, [.int (-1), .int a1, .int 0, .ref k1, .ref k2, .ref k3, .ref k4, .ref k5]))]) [0] rfl
  have hD9 := hD.sub (ws' := [(hc, .inr (0, [.int (-1), .int a1, .int 0, .ref k1, .ref k2, .ref k3, .ref k4, .ref k5]))]) [0] (by decide) rfl
  rw [hQ]; exact W.vret hx hb hr (fun t ht hW => ⟨⟨(), rfl, trivial, ⟨by rw [ht]; exact hP9, hD9⟩⟩, hS.F ht⟩) hS.2.2 dX0_leave_10

theorem c_X0_people_a1 (k0 : Nat) (g2 : Nat → Int32) (i4 : Nat) (y1 : Int32) (n4 : Nat) (r_3 : Int32) (x_4 : Int32) (hk6 : k0 ≤ 6) (hi4 : i4 + (n4 + 1) = k0) (hm : y1 = cz_pp g2 i4) (hr_3 : r_3 = 1 <<< ((g2 i4) &&& 31)) (ex_4 : x_4 = y1 ||| r_3) : x_4 = cz_pp g2 (i4 + 1) := by first | (subst_vars; rfl) | assumption | ((try subst_vars) <;> (repeat' split) <;> (first | rfl | contradiction | ((try simp only [cz_in, cz_du, cz_lt, cz_le, cz_eq, cz_l] at *) <;> (first | omega | (simp_all; done))))) | ((try subst_vars); simp only [cz_in, *, and_self, and_true, true_and, if_true, if_false])
set_option maxHeartbeats 4000000 in
set_option maxRecDepth 100000 in
theorem c_X0_people (l : Launch) (dC : Nat → ClassId) (dI : Nat → Nat → Nat) (cI cB : ClassId) (hc : Nat) (a0 : Int32) (a1 : Int32) (k0 : Nat) (k1 : Nat) (k2 : Nat) (k3 : Nat) (k4 : Nat) (k5 : Nat) (g2 : Nat → Int32) (hk6 : k0 ≤ 6) : Met l yX0_people wsX0_people ({ frames := 1, cells := 0, slots := 0, locals := 20 }) (cz_Pp dC dI cI cB [.ref hc] [(hc, .inr (0, [.int a0, .int a1, .int (nI k0), .ref k1, .ref k2, .ref k3, .ref k4, .ref k5])), (k2, .inl (cI, 6, .inl g2))]) (vp_Si (fun r : Int32 => r = cz_pp g2 k0)) 0 0 (fun _ => False) := by
  refine cz_of (cc := cX0_people) (maxL := 3) (ret := (some .int)) (by decide) rfl ?_
  intro p e s m args below meth c s₁ Q B hml hv hQ
  obtain ⟨rfl, hP, hN⟩ := hv
  have hx := B.exec
  have hb := B.bytes
  have hr := B.returns
  have hts := atoms_spec (ws := wsX0_people) B.pre
  have hown : s.vm.findClass RX0 = some m.cls := findClass_of_methodNamed B.named
  have hlocks := B.notSynchronized
  have hK := hN.1
  have hiX0 : ∀ w ∈ wsX00, w ∈ wsX0_people := (fun _ h => List.mem_cons_of_mem _ (List.mem_append_right _ h))
  have hl := lv_entry ([.ref hc]) (n := 3) (Nat.le_of_ble_eq_true rfl)
  rw [lg_entry_eq]
  generalize (lg_sl ([.ref hc]) ++ List.replicate (3 - (lg_sl ([.ref hc])).length) Slot.unset).toArray = ls at hl ⊢
  have hl : lv_has ls 3 [(0, .ref hc)] := hl
  refine lv_iconst (v := 0) hx hb dX0_people_0 (by decide) ?_
  refine lv_istore_n (lv' := [(1, .int 0), (0, .ref hc)]) hx hb dX0_people_1 rfl hl (by decide) rfl (fun ls hl => ?_)
  refine lv_iconst (v := 0) hx hb dX0_people_2 (by decide) ?_
  refine lv_istore_n (lv' := [(2, .int 0), (1, .int 0), (0, .ref hc)]) hx hb dX0_people_3 rfl hl (by decide) rfl (fun ls hl => ?_)
  have lp4 : ∀ (n4 : Nat) (i4 : Nat) (y1 : Int32) (ls : Array Slot), i4 + n4 = k0 → y1 = cz_pp g2 i4 → lv_has ls 3 [(0, .ref hc), (1, .int y1), (2, .int (nI i4))] → W p l e ({ frames := 1, cells := 0, slots := 0, locals := 20 } : Room) s m #[Value.ref hc] below meth c s.heap [] 0 0 Q (F0 m 4 ls []) := by
    intro n4
    induction n4 with
    | zero =>
      intro i4 y1 ls hi4 hm hl
      obtain rfl : k0 = i4 := by omega
      refine lv_iload_n hx hb dX0_people_4 rfl (lv_at hl 2 rfl) ?_
      refine lv_aload_n hx hb dX0_people_5 rfl (lv_at hl 0 rfl) ?_
      refine va_get (D := (dC, dI)) (ci := 0) (v := .int (nI k0)) (C := RX0) (T := TX0) (N := 8) hx hb hts hiX0 hown hK hP 0 rfl rfl 2 (by decide) (hts (.fieldLink RX0 18 "LeftProfile$Court" "size" "I") (List.mem_of_getElem? (i := 1) rfl)) (fun _ h9 => h9) rfl dX0_people_6 ?_
      refine lv_icmp_ge (tgt := 30) hx hb dX0_people_9 (by decide) (fun c_1 => ?_) (fun c_1 => ?_)
      · refine lv_iload_n hx hb dX0_people_30 rfl (lv_at hl 1 rfl) ?_
        rw [hQ]; exact W.iret (v := y1) hx hb hr (fun t ht hW => ⟨y1, rfl, hm, ht⟩) (fun _ h => absurd h List.not_mem_nil) dX0_people_31
      · exact absurd (show nI k0 ≤ nI k0 from nI_le (a := k0) (b := k0) (by omega) (by omega)) c_1
    | succ n4 ih4 =>
      intro i4 y1 ls hi4 hm hl
      refine lv_iload_n hx hb dX0_people_4 rfl (lv_at hl 2 rfl) ?_
      refine lv_aload_n hx hb dX0_people_5 rfl (lv_at hl 0 rfl) ?_
      refine va_get (D := (dC, dI)) (ci := 0) (v := .int (nI k0)) (C := RX0) (T := TX0) (N := 8) hx hb hts hiX0 hown hK hP 0 rfl rfl 2 (by decide) (hts (.fieldLink RX0 18 "LeftProfile$Court" "size" "I") (List.mem_of_getElem? (i := 1) rfl)) (fun _ h9 => h9) rfl dX0_people_6 ?_
      refine lv_icmp_ge (tgt := 30) hx hb dX0_people_9 (by decide) (fun c_2 => ?_) (fun c_2 => ?_)
      · exact absurd c_2 (show ¬ nI k0 ≤ nI i4 from nI_ge (a := i4) (b := k0) (by omega) (by omega))
      · refine lv_iload_n hx hb dX0_people_12 rfl (lv_at hl 1 rfl) ?_
        refine lv_aload_n hx hb dX0_people_13 rfl (lv_at hl 0 rfl) ?_
        refine va_get (D := (dC, dI)) (ci := 0) (v := .ref k2) (C := RX0) (T := TX0) (N := 8) hx hb hts hiX0 hown hK hP 0 rfl rfl 4 (by decide) (hts (.fieldLink RX0 25 "LeftProfile$Court" "places" "[I") (List.mem_of_getElem? (i := 2) rfl)) (fun _ h9 => h9) rfl dX0_people_14 ?_
        refine lv_iload_n hx hb dX0_people_17 rfl (lv_at hl 2 rfl) ?_
        refine va_iald hx hb hK hP 1 0 rfl rfl (vp_in_nI (n := i4) (by omega) (by omega)) dX0_people_18 ?_
        refine cz_i (y := (g2 i4)) (congrArg g2 (nI_clamp (n := i4) (by omega))) ?_
        refine vp_callSi (cz_run (va_runSN (As := [.int (g2 i4)]) (rest := [.int y1]) ⟨hx, hb, hml, hown, hts⟩ (c_X6_bit l dC dI cI cB (g2 i4) ) ⟨(va_cnB 1 hts gX0_people_X6_bit_n43 rfl rfl rfl (hN.2 (RX0, 43, yX6_bit) (by decide)) (hts (.initialized RX6) (List.mem_of_getElem? (i := 4) rfl)) (by decide +kernel) ⟨Nat.le_of_ble_eq_true rfl, Nat.le_of_ble_eq_true rfl⟩), hts (.static yX6_bit) (List.mem_of_getElem? (i := 3) rfl), trivial⟩ (cz_pS (hP.sub (ws' := []) [] rfl) hN) rfl rfl hl.1 rfl (lv_room (Nat.le_of_ble_eq_true rfl)) dX0_people_19 ⟨Nat.le_of_ble_eq_true rfl, Nat.le_of_ble_eq_true rfl⟩)) (fun r_3 hr_3 => ?_)
        refine lv_ior hx hb dX0_people_22 ?_
        refine lv_topi (fun x_4 ex_4 => ?_)
        refine lv_istore_n (lv' := [(1, .int x_4), (0, .ref hc), (2, .int (nI i4))]) hx hb dX0_people_23 rfl hl (by decide) rfl (fun ls hl => ?_)
        refine lv_iinc (v := (nI (i4 + 1))) (lv' := [(2, .int (nI (i4 + 1))), (1, .int x_4), (0, .ref hc)]) hx hb dX0_people_24 hl (k := 2) rfl (nI_add i4 1) (by decide) rfl (fun ls hl => ?_)
        refine lv_goto (tgt := 4) hx hb dX0_people_27 (by decide) ?_
        exact ih4 (i4 + 1) x_4 ls (by omega) (c_X0_people_a1 k0 g2 i4 y1 n4 r_3 x_4 hk6 hi4 hm hr_3 ex_4) (lv_sub hl [2, 1, 0] rfl)
  exact lp4 k0 0 0 ls (by omega) rfl (lv_sub hl [2, 1, 0] rfl)

set_option maxHeartbeats 4000000 in
set_option maxRecDepth 100000 in
theorem c_X0_whoIsOn (l : Launch) (dC : Nat → ClassId) (dI : Nat → Nat → Nat) (cI cB : ClassId) (hc : Nat) (p0 : Int32) (a0 : Int32) (a1 : Int32) (k0 : Nat) (k1 : Nat) (k2 : Nat) (k3 : Nat) (k4 : Nat) (k5 : Nat) (g2 : Nat → Int32) (hk6 : k0 ≤ 6) : Met l yX0_whoIsOn wsX0_whoIsOn ({ frames := 0, cells := 0, slots := 0, locals := 0 }) (cz_Pp dC dI cI cB [.ref hc, .int p0] [(hc, .inr (0, [.int a0, .int a1, .int (nI k0), .ref k1, .ref k2, .ref k3, .ref k4, .ref k5])), (k2, .inl (cI, 6, .inl g2))]) (vp_Si (fun r : Int32 => r = cz_wi p0 g2 0 k0)) 0 0 (fun _ => False) := by
  refine cz_of (cc := cX0_whoIsOn) (maxL := 3) (ret := (some .int)) (by decide) rfl ?_
  intro p e s m args below meth c s₁ Q B hml hv hQ
  obtain ⟨rfl, hP, hN⟩ := hv
  have hx := B.exec
  have hb := B.bytes
  have hr := B.returns
  have hts := atoms_spec (ws := wsX0_whoIsOn) B.pre
  have hown : s.vm.findClass RX0 = some m.cls := findClass_of_methodNamed B.named
  have hlocks := B.notSynchronized
  have hK := hN.1
  have hiX0 : ∀ w ∈ wsX00, w ∈ wsX0_whoIsOn := (fun _ h => List.mem_cons_of_mem _ (List.mem_append_right _ h))
  have hl := lv_entry ([.ref hc, .int p0]) (n := 3) (Nat.le_of_ble_eq_true rfl)
  rw [lg_entry_eq]
  generalize (lg_sl ([.ref hc, .int p0]) ++ List.replicate (3 - (lg_sl ([.ref hc, .int p0])).length) Slot.unset).toArray = ls at hl ⊢
  have hl : lv_has ls 3 [(0, .ref hc), (1, .int p0)] := hl
  refine lv_iconst (v := 0) hx hb dX0_whoIsOn_0 (by decide) ?_
  refine lv_istore_n (lv' := [(2, .int 0), (0, .ref hc), (1, .int p0)]) hx hb dX0_whoIsOn_1 rfl hl (by decide) rfl (fun ls hl => ?_)
  have lp2 : ∀ (n2 : Nat) (i2 : Nat) (ls : Array Slot), i2 + n2 = k0 → cz_wi p0 g2 i2 (k0 - i2) = cz_wi p0 g2 0 k0 → lv_has ls 3 [(0, .ref hc), (1, .int p0), (2, .int (nI i2))] → W p l e ({ frames := 0, cells := 0, slots := 0, locals := 0 } : Room) s m #[Value.ref hc, Value.int p0] below meth c s.heap [] 0 0 Q (F0 m 2 ls []) := by
    intro n2
    induction n2 with
    | zero =>
      intro i2 ls hi2 hm hl
      obtain rfl : k0 = i2 := by omega
      refine lv_iload_n hx hb dX0_whoIsOn_2 rfl (lv_at hl 2 rfl) ?_
      refine lv_aload_n hx hb dX0_whoIsOn_3 rfl (lv_at hl 0 rfl) ?_
      refine va_get (D := (dC, dI)) (ci := 0) (v := .int (nI k0)) (C := RX0) (T := TX0) (N := 8) hx hb hts hiX0 hown hK hP 0 rfl rfl 2 (by decide) (hts (.fieldLink RX0 18 "LeftProfile$Court" "size" "I") (List.mem_of_getElem? (i := 1) rfl)) (fun _ h9 => h9) rfl dX0_whoIsOn_4 ?_
      refine lv_icmp_ge (tgt := 28) hx hb dX0_whoIsOn_7 (by decide) (fun c_1 => ?_) (fun c_1 => ?_)
      · refine lv_iconst (v := (-1)) hx hb dX0_whoIsOn_28 (by decide) ?_
        rw [hQ]; exact W.iret (v := (-1)) hx hb hr (fun t ht hW => ⟨(-1), rfl, (cz_wi_end.symm.trans hm), ht⟩) (fun _ h => absurd h List.not_mem_nil) dX0_whoIsOn_29
      · exact absurd (show nI k0 ≤ nI k0 from nI_le (a := k0) (b := k0) (by omega) (by omega)) c_1
    | succ n2 ih2 =>
      intro i2 ls hi2 hm hl
      refine lv_iload_n hx hb dX0_whoIsOn_2 rfl (lv_at hl 2 rfl) ?_
      refine lv_aload_n hx hb dX0_whoIsOn_3 rfl (lv_at hl 0 rfl) ?_
      refine va_get (D := (dC, dI)) (ci := 0) (v := .int (nI k0)) (C := RX0) (T := TX0) (N := 8) hx hb hts hiX0 hown hK hP 0 rfl rfl 2 (by decide) (hts (.fieldLink RX0 18 "LeftProfile$Court" "size" "I") (List.mem_of_getElem? (i := 1) rfl)) (fun _ h9 => h9) rfl dX0_whoIsOn_4 ?_
      refine lv_icmp_ge (tgt := 28) hx hb dX0_whoIsOn_7 (by decide) (fun c_2 => ?_) (fun c_2 => ?_)
      · exact absurd c_2 (show ¬ nI k0 ≤ nI i2 from nI_ge (a := i2) (b := k0) (by omega) (by omega))
      · refine lv_aload_n hx hb dX0_whoIsOn_10 rfl (lv_at hl 0 rfl) ?_
        refine va_get (D := (dC, dI)) (ci := 0) (v := .ref k2) (C := RX0) (T := TX0) (N := 8) hx hb hts hiX0 hown hK hP 0 rfl rfl 4 (by decide) (hts (.fieldLink RX0 25 "LeftProfile$Court" "places" "[I") (List.mem_of_getElem? (i := 2) rfl)) (fun _ h9 => h9) rfl dX0_whoIsOn_11 ?_
        refine lv_iload_n hx hb dX0_whoIsOn_14 rfl (lv_at hl 2 rfl) ?_
        refine va_iald hx hb hK hP 1 0 rfl rfl (vp_in_nI (n := i2) (by omega) (by omega)) dX0_whoIsOn_15 ?_
        refine cz_i (y := (g2 i2)) (congrArg g2 (nI_clamp (n := i2) (by omega))) ?_
        refine lv_iload_n hx hb dX0_whoIsOn_16 rfl (lv_at hl 1 rfl) ?_
        refine lv_icmp_ne (tgt := 22) hx hb dX0_whoIsOn_17 (by decide) (fun c_3 => ?_) (fun c_3 => ?_)
        · refine lv_iinc (v := (nI (i2 + 1))) (lv' := [(2, .int (nI (i2 + 1))), (0, .ref hc), (1, .int p0)]) hx hb dX0_whoIsOn_22 hl (k := 2) rfl (nI_add i2 1) (by decide) rfl (fun ls hl => ?_)
          refine lv_goto (tgt := 2) hx hb dX0_whoIsOn_25 (by decide) ?_
          exact ih2 (i2 + 1) ls (by omega) ((cz_wi_st (by omega) c_3).trans hm) (lv_sub hl [1, 2, 0] rfl)
        · refine lv_iload_n hx hb dX0_whoIsOn_20 rfl (lv_at hl 2 rfl) ?_
          rw [hQ]; exact W.iret (v := (nI i2)) hx hb hr (fun t ht hW => ⟨(nI i2), rfl, ((cz_wi_hit (by omega) c_3).symm.trans hm), ht⟩) (fun _ h => absurd h List.not_mem_nil) dX0_whoIsOn_21
  exact lp2 k0 0 ls (by omega) rfl (lv_sub hl [1, 2, 0] rfl)

set_option maxHeartbeats 4000000 in
set_option maxRecDepth 100000 in
theorem c_X0_howManyTold (l : Launch) (dC : Nat → ClassId) (dI : Nat → Nat → Nat) (cI cB : ClassId) (hc : Nat) (a0 : Int32) (a1 : Int32) (k0 : Nat) (k1 : Nat) (k2 : Nat) (k3 : Nat) (k4 : Nat) (k5 : Nat) (g5 : Nat → Int32) (hk6 : k0 ≤ 6) : Met l yX0_howManyTold wsX0_howManyTold ({ frames := 0, cells := 0, slots := 0, locals := 0 }) (cz_Pp dC dI cI cB [.ref hc] [(hc, .inr (0, [.int a0, .int a1, .int (nI k0), .ref k1, .ref k2, .ref k3, .ref k4, .ref k5])), (k5, .inl (cI, 6, .inl g5))]) (vp_Si (fun r : Int32 => True)) 0 0 (fun _ => False) := by
  refine cz_of (cc := cX0_howManyTold) (maxL := 3) (ret := (some .int)) (by decide) rfl ?_
  intro p e s m args below meth c s₁ Q B hml hv hQ
  obtain ⟨rfl, hP, hN⟩ := hv
  have hx := B.exec
  have hb := B.bytes
  have hr := B.returns
  have hts := atoms_spec (ws := wsX0_howManyTold) B.pre
  have hown : s.vm.findClass RX0 = some m.cls := findClass_of_methodNamed B.named
  have hlocks := B.notSynchronized
  have hK := hN.1
  have hiX0 : ∀ w ∈ wsX00, w ∈ wsX0_howManyTold := (fun _ h => List.mem_cons_of_mem _ (List.mem_append_right _ h))
  have hl := lv_entry ([.ref hc]) (n := 3) (Nat.le_of_ble_eq_true rfl)
  rw [lg_entry_eq]
  generalize (lg_sl ([.ref hc]) ++ List.replicate (3 - (lg_sl ([.ref hc])).length) Slot.unset).toArray = ls at hl ⊢
  have hl : lv_has ls 3 [(0, .ref hc)] := hl
  refine lv_iconst (v := 0) hx hb dX0_howManyTold_0 (by decide) ?_
  refine lv_istore_n (lv' := [(1, .int 0), (0, .ref hc)]) hx hb dX0_howManyTold_1 rfl hl (by decide) rfl (fun ls hl => ?_)
  refine lv_iconst (v := 0) hx hb dX0_howManyTold_2 (by decide) ?_
  refine lv_istore_n (lv' := [(2, .int 0), (1, .int 0), (0, .ref hc)]) hx hb dX0_howManyTold_3 rfl hl (by decide) rfl (fun ls hl => ?_)
  have lp4 : ∀ (n4 : Nat) (i4 : Nat) (y1 : Int32) (ls : Array Slot), i4 + n4 = k0 → lv_has ls 3 [(0, .ref hc), (1, .int y1), (2, .int (nI i4))] → W p l e ({ frames := 0, cells := 0, slots := 0, locals := 0 } : Room) s m #[Value.ref hc] below meth c s.heap [] 0 0 Q (F0 m 4 ls []) := by
    intro n4
    induction n4 with
    | zero =>
      intro i4 y1 ls hi4  hl
      obtain rfl : k0 = i4 := by omega
      refine lv_iload_n hx hb dX0_howManyTold_4 rfl (lv_at hl 2 rfl) ?_
      refine lv_aload_n hx hb dX0_howManyTold_5 rfl (lv_at hl 0 rfl) ?_
      refine va_get (D := (dC, dI)) (ci := 0) (v := .int (nI k0)) (C := RX0) (T := TX0) (N := 8) hx hb hts hiX0 hown hK hP 0 rfl rfl 2 (by decide) (hts (.fieldLink RX0 18 "LeftProfile$Court" "size" "I") (List.mem_of_getElem? (i := 1) rfl)) (fun _ h9 => h9) rfl dX0_howManyTold_6 ?_
      refine lv_icmp_ge (tgt := 31) hx hb dX0_howManyTold_9 (by decide) (fun c_1 => ?_) (fun c_1 => ?_)
      · refine lv_iload_n hx hb dX0_howManyTold_31 rfl (lv_at hl 1 rfl) ?_
        rw [hQ]; exact W.iret (v := y1) hx hb hr (fun t ht hW => ⟨y1, rfl, trivial, ht⟩) (fun _ h => absurd h List.not_mem_nil) dX0_howManyTold_32
      · exact absurd (show nI k0 ≤ nI k0 from nI_le (a := k0) (b := k0) (by omega) (by omega)) c_1
    | succ n4 ih4 =>
      intro i4 y1 ls hi4  hl
      refine lv_iload_n hx hb dX0_howManyTold_4 rfl (lv_at hl 2 rfl) ?_
      refine lv_aload_n hx hb dX0_howManyTold_5 rfl (lv_at hl 0 rfl) ?_
      refine va_get (D := (dC, dI)) (ci := 0) (v := .int (nI k0)) (C := RX0) (T := TX0) (N := 8) hx hb hts hiX0 hown hK hP 0 rfl rfl 2 (by decide) (hts (.fieldLink RX0 18 "LeftProfile$Court" "size" "I") (List.mem_of_getElem? (i := 1) rfl)) (fun _ h9 => h9) rfl dX0_howManyTold_6 ?_
      refine lv_icmp_ge (tgt := 31) hx hb dX0_howManyTold_9 (by decide) (fun c_2 => ?_) (fun c_2 => ?_)
      · exact absurd c_2 (show ¬ nI k0 ≤ nI i4 from nI_ge (a := i4) (b := k0) (by omega) (by omega))
      · refine lv_aload_n hx hb dX0_howManyTold_12 rfl (lv_at hl 0 rfl) ?_
        refine va_get (D := (dC, dI)) (ci := 0) (v := .ref k5) (C := RX0) (T := TX0) (N := 8) hx hb hts hiX0 hown hK hP 0 rfl rfl 7 (by decide) (hts (.fieldLink RX0 34 "LeftProfile$Court" "told" "[I") (List.mem_of_getElem? (i := 2) rfl)) (fun _ h9 => h9) rfl dX0_howManyTold_13 ?_
        refine lv_iload_n hx hb dX0_howManyTold_16 rfl (lv_at hl 2 rfl) ?_
        refine va_iald hx hb hK hP 1 0 rfl rfl (vp_in_nI (n := i4) (by omega) (by omega)) dX0_howManyTold_17 ?_
        refine cz_i (y := (g5 i4)) (congrArg g5 (nI_clamp (n := i4) (by omega))) ?_
        refine lv_iconst (v := (-1)) hx hb dX0_howManyTold_18 (by decide) ?_
        refine lv_icmp_eq (tgt := 25) hx hb dX0_howManyTold_19 (by decide) (fun c_3 => ?_) (fun c_3 => ?_)
        · refine lv_iinc (v := (nI (i4 + 1))) (lv' := [(2, .int (nI (i4 + 1))), (0, .ref hc), (1, .int y1)]) hx hb dX0_howManyTold_25 hl (k := 2) rfl (nI_add i4 1) (by decide) rfl (fun ls hl => ?_)
          refine lv_goto (tgt := 4) hx hb dX0_howManyTold_28 (by decide) ?_
          exact ih4 (i4 + 1) y1 ls (by omega)  (lv_sub hl [1, 2, 0] rfl)
        · obtain ⟨x_4, ex_4⟩ : ∃ y : Int32, y = y1 + 1 := ⟨_, rfl⟩
          refine lv_iinc (v := x_4) (lv' := [(1, .int x_4), (0, .ref hc), (2, .int (nI i4))]) hx hb dX0_howManyTold_22 hl (k := 1) rfl (by rw [ex_4]; rfl) (by decide) rfl (fun ls hl => ?_)
          refine lv_iinc (v := (nI (i4 + 1))) (lv' := [(2, .int (nI (i4 + 1))), (1, .int x_4), (0, .ref hc)]) hx hb dX0_howManyTold_25 hl (k := 2) rfl (nI_add i4 1) (by decide) rfl (fun ls hl => ?_)
          refine lv_goto (tgt := 4) hx hb dX0_howManyTold_28 (by decide) ?_
          exact ih4 (i4 + 1) x_4 ls (by omega)  (lv_sub hl [2, 1, 0] rfl)
  exact lp4 k0 0 0 ls (by omega)  (lv_sub hl [2, 1, 0] rfl)
