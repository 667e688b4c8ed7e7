set_option maxHeartbeats 4000000 in
set_option maxRecDepth 100000 in
theorem c_J7_fill_53178 (l : Launch) (dC : Nat → ClassId) (dI : Nat → Nat → Nat) (cI cB : ClassId) (a : Nat) (p0 : Int32) (nN : Nat) (ff : Nat → Int32) (sz : Nat) (hnN : nN < 2147483648) : Met l yJ7_fill_53178 wsJ7_fill_53178 ({ frames := 0, cells := 0, slots := 0, locals := 0 }) (cz_Pm dC dI cI cB [.ref a, .int p0] [(a, .inl (cI, nN, .inl ff))] sz) (va_Qv (fun _ : Unit => True) (fun _ t => ∃ (f2 : Nat → Int32), (f2 = cz_fil p0 ff nN) ∧ va_P (dC, dI) vwCl [(a, .inl (cI, nN, .inl f2))] t.heap ∧ va_D (va_A [(a, .inl (cI, nN, .inl ff))] sz) [(a, .inl (cI, nN, .inl f2))]) (va_A [(a, .inl (cI, nN, .inl ff))] sz)) 0 0 (va_A [(a, .inl (cI, nN, .inl ff))] sz) := by
  refine cz_of (cc := cJ7_fill_53178) (maxL := 4) (ret := none) (by decide) rfl ?_
  intro p e s m args below meth c s₁ Q B hml hv hQ
  obtain ⟨rfl, hsz, hP, hN, hD0⟩ := hv
  have hx := B.exec
  have hb := B.bytes
  have hr := B.returns
  have hts := atoms_spec (ws := wsJ7_fill_53178) B.pre
  have hown : s.vm.findClass RJ7 = some m.cls := findClass_of_methodNamed B.named
  have hlocks := B.notSynchronized
  have hK := hN.1
  subst hsz
  have hD := hD0.self (sz := s.heap.size)
  generalize hAe : va_A [(a, .inl (cI, nN, .inl ff))] s.heap.size = A at hD hQ ⊢
  have hA : ∀ q : Nat, s.heap.size ≤ q → A q := fun q h => by rw [← hAe]; exact Or.inr h
  have hS : va_S A s.heap s.heap [] := va_S.rf
  obtain ⟨H, eH⟩ : ∃ H, H = s.heap := ⟨_, rfl⟩
  have hP : va_P (dC, dI) vwCl [(a, .inl (cI, nN, .inl ff))] s.heap := hP
  have hl := lv_entry ([.ref a, .int p0]) (n := 4) (Nat.le_of_ble_eq_true rfl)
  rw [lg_entry_eq]
  generalize (lg_sl ([.ref a, .int p0]) ++ List.replicate (4 - (lg_sl ([.ref a, .int p0])).length) Slot.unset).toArray = ls at hl ⊢
  have hl : lv_has ls 4 [(0, .ref a), (1, .int p0)] := hl
  refine lv_iconst (v := 0) hx hb dJ7_fill_53178_0 (by decide) ?_
  refine lv_istore_n (lv' := [(2, .int 0), (0, .ref a), (1, .int p0)]) hx hb dJ7_fill_53178_1 rfl hl (by decide) rfl (fun ls hl => ?_)
  refine lv_aload_n hx hb dJ7_fill_53178_2 rfl (lv_at hl 1 rfl) ?_
  refine va_alen (v := nI nN) hx hb hK hP 0 0 rfl rfl rfl dJ7_fill_53178_3 ?_
  refine lv_istore_n (lv' := [(3, .int (nI nN)), (2, .int 0), (0, .ref a), (1, .int p0)]) hx hb dJ7_fill_53178_4 rfl hl (by decide) rfl (fun ls hl => ?_)
  have lp5 : ∀ (n5 : Nat) (i5 : Nat) (y0 : Nat → Int32) (H : Heap) (locs : List Loc) (ls : Array Slot), i5 + n5 = nN → y0 = cz_fil p0 ff i5 → va_P (dC, dI) vwCl [(a, .inl (cI, nN, .inl y0))] H → va_D A [(a, .inl (cI, nN, .inl y0))] → va_S A s.heap H locs → lv_has ls 4 [(0, .ref a), (1, .int p0), (2, .int (nI i5)), (3, .int (nI nN))] → W p l e ({ frames := 0, cells := 0, slots := 0, locals := 0 } : Room) s m #[Value.ref a, Value.int p0] below meth c H locs 0 0 Q (F0 m 5 ls []) := by
    intro n5
    induction n5 with
    | zero =>
      intro i5 y0 H locs ls hi5 hf hP hD hS hl
      obtain rfl : nN = i5 := by omega
      refine lv_iload_n hx hb dJ7_fill_53178_5 rfl (lv_at hl 2 rfl) ?_
      refine lv_iload_n hx hb dJ7_fill_53178_6 rfl (lv_at hl 3 rfl) ?_
      refine lv_icmp_ge (tgt := 20) hx hb dJ7_fill_53178_7 (by decide) (fun c_1 => ?_) (fun c_1 => ?_)
      · refine W.widen (k := 0) (n := 0) (Nat.le_of_ble_eq_true rfl) (Nat.le_of_ble_eq_true rfl) ?_
        have hP9 := hP.sub (ws' := [(a, .inl (cI, nN, .inl y0))]) [0] rfl
        have hD9 := hD.sub (ws' := [(a, .inl (cI, nN, .inl y0))]) [0] (by decide) rfl
        rw [hQ]; exact W.vret hx hb hr (fun t ht hW => ⟨⟨(), rfl, trivial, ⟨y0, hf, by rw [ht]; exact hP9, hD9⟩⟩, hS.F ht⟩) hS.2.2 dJ7_fill_53178_20
      · exact absurd (show nI nN ≤ nI nN from nI_le (a := nN) (b := nN) (by omega) (by omega)) c_1
    | succ n5 ih5 =>
      intro i5 y0 H locs ls hi5 hf hP hD hS hl
      refine lv_iload_n hx hb dJ7_fill_53178_5 rfl (lv_at hl 2 rfl) ?_
      refine lv_iload_n hx hb dJ7_fill_53178_6 rfl (lv_at hl 3 rfl) ?_
      refine lv_icmp_ge (tgt := 20) hx hb dJ7_fill_53178_7 (by decide) (fun c_2 => ?_) (fun c_2 => ?_)
      · exact absurd c_2 (show ¬ nI nN ≤ nI i5 from nI_ge (a := i5) (b := nN) (by omega) (by omega))
      · refine lv_aload_n hx hb dJ7_fill_53178_10 rfl (lv_at hl 0 rfl) ?_
        refine lv_iload_n hx hb dJ7_fill_53178_11 rfl (lv_at hl 2 rfl) ?_
        refine lv_iload_n hx hb dJ7_fill_53178_12 rfl (lv_at hl 1 rfl) ?_
        refine va_iast hx hb hK hP hD hS 0 0 rfl rfl (vp_in_nI (n := i5) (by omega) (by omega)) dJ7_fill_53178_13 (fun H locs hP hD hS => ?_)
        rw [show (nI i5).toNatClampNeg = i5 from nI_clamp (n := i5) (by omega)] at hP hD
        have hP : va_P (dC, dI) vwCl [(a, .inl (cI, nN, .inl (upd y0 i5 p0)))] H := hP
        have hD : va_D A [(a, .inl (cI, nN, .inl (upd y0 i5 p0)))] := hD
        refine lv_iinc (v := (nI (i5 + 1))) (lv' := [(2, .int (nI (i5 + 1))), (0, .ref a), (1, .int p0), (3, .int (nI nN))]) hx hb dJ7_fill_53178_14 hl (k := 2) rfl (nI_add i5 1) (by decide) rfl (fun ls hl => ?_)
        refine lv_goto (tgt := 5) hx hb dJ7_fill_53178_17 (by decide) ?_
        exact ih5 (i5 + 1) (upd y0 i5 p0) H locs ls (by omega) (by rw [hf]; exact cz_fil1) hP hD hS (lv_sub hl [1, 2, 0, 3] rfl)
  exact lp5 nN 0 ff s.heap [] ls (by omega) cz_fil0 hP hD hS (lv_sub hl [2, 3, 1, 0] rfl)

theorem c_X3_lengthTo_a1 (p0 : Int32) (v2 : Nat → Int32) (hr_1 : ¬ cz_in 0 p0 79) : ((-1) : Int32) = cw_at v2 p0 := by (try subst_vars); first | rfl | (simp only [cw_at, *, if_true, if_false]; done) | (simp only [cw_at, cz_in, *, and_self, and_true, true_and, and_false, false_and, if_true, if_false, not_true_eq_false, not_false_eq_true]; done) | ((try simp only [cw_at]); (repeat' split) <;> (first | rfl | contradiction | ((try simp only [cz_in, cz_du, cz_lt, cz_le, cz_eq, cz_l] at *) <;> (first | omega | (simp_all; done)))))
theorem c_X3_lengthTo_a2 (p0 : Int32) (hr_1 : cz_in 0 p0 79) : vp_in p0 80 := by rw [vp_in_iff]; (try simp only [cz_in, cz_du, cz_lt, cz_le, cz_eq, cz_l] at *) <;> (first | omega | (simp_all; done))
theorem c_X3_lengthTo_a3 (p0 : Int32) (v2 : Nat → Int32) (x_2 : Int32) (hr_1 : cz_in 0 p0 79) (ex_2 : x_2 = v2 p0.toNatClampNeg) : (x_2 : Int32) = cw_at v2 p0 := by (try subst_vars); first | rfl | (simp only [cw_at, *, if_true, if_false]; done) | (simp only [cw_at, cz_in, *, and_self, and_true, true_and, and_false, false_and, if_true, if_false, not_true_eq_false, not_false_eq_true]; done) | ((try simp only [cw_at]); (repeat' split) <;> (first | rfl | contradiction | ((try simp only [cz_in, cz_du, cz_lt, cz_le, cz_eq, cz_l] at *) <;> (first | omega | (simp_all; done)))))
set_option maxHeartbeats 4000000 in
set_option maxRecDepth 100000 in
theorem c_X3_lengthTo (l : Launch) (dC : Nat → ClassId) (dI : Nat → Nat → Nat) (cI cB : ClassId) (rt : Nat) (p0 : Int32) (q1 : Nat) (q2 : Nat) (q3 : Nat) (u0 : Nat) (v2 : Nat → Int32) : Met l yX3_lengthTo wsX3_lengthTo ({ frames := 1, cells := 0, slots := 0, locals := 20 }) (cz_Pp dC dI cI cB [.ref rt, .int p0] [(rt, .inr (3, [.ref q1, .ref q2, .ref q3, .int (nI u0)])), (q2, .inl (cI, 80, .inl v2))]) (vp_Si (fun r : Int32 => r = cw_at v2 p0)) 0 0 (fun _ => False) := by
  refine cz_of (cc := cX3_lengthTo) (maxL := 2) (ret := (some .int)) (by decide) rfl ?_
  intro p e s m args below meth c s₁ Q B hml hv hQ
  obtain ⟨rfl, hP, hN⟩ := hv
  have hx := B.exec
  have hb := B.bytes
  have hr := B.returns
  have hts := atoms_spec (ws := wsX3_lengthTo) B.pre
  have hown : s.vm.findClass RX3 = some m.cls := findClass_of_methodNamed B.named
  have hlocks := B.notSynchronized
  have hK := hN.1
  have hiX3 : ∀ w ∈ wsX30, w ∈ wsX3_lengthTo := (fun _ h => List.mem_cons_of_mem _ (List.mem_append_right _ h))
  have hl := lv_entry ([.ref rt, .int p0]) (n := 2) (Nat.le_of_ble_eq_true rfl)
  rw [lg_entry_eq]
  generalize (lg_sl ([.ref rt, .int p0]) ++ List.replicate (2 - (lg_sl ([.ref rt, .int p0])).length) Slot.unset).toArray = ls at hl ⊢
  have hl : lv_has ls 2 [(0, .ref rt), (1, .int p0)] := hl
  refine lv_iload_n hx hb dX3_lengthTo_0 rfl (lv_at hl 1 rfl) ?_
  refine vp_callSi (cz_run (va_runS (As := [.int p0]) (rest := []) ⟨hx, hb, hml, hown, hts⟩ (c_X3_isStance l dC dI cI cB p0 ) (va_cwS 1 hts gX3_lengthTo_X3_isStance rfl rfl rfl (by decide +kernel) ⟨Nat.le_of_ble_eq_true rfl, Nat.le_of_ble_eq_true rfl⟩) (cz_pS (hP.sub (ws' := []) [] rfl) hN) rfl rfl hl.1 rfl (lv_room (Nat.le_of_ble_eq_true rfl)) dX3_lengthTo_1 ⟨Nat.le_of_ble_eq_true rfl, Nat.le_of_ble_eq_true rfl⟩)) (fun r_1 hr_1 => ?_)
  rcases hr_1 with ⟨rfl, hr_1⟩ | ⟨rfl, hr_1⟩
  · refine lv_if_eq (tgt := 16) hx hb dX3_lengthTo_4 (by decide) (fun _ => ?_) (fun c => absurd (by decide) c)
    refine lv_iconst (v := (-1)) hx hb dX3_lengthTo_16 (by decide) ?_
    rw [hQ]; exact W.iret (v := (-1)) hx hb hr (fun t ht hW => ⟨(-1), rfl, (c_X3_lengthTo_a1 p0 v2 hr_1), ht⟩) (fun _ h => absurd h List.not_mem_nil) dX3_lengthTo_17
  · refine lv_if_eq (tgt := 16) hx hb dX3_lengthTo_4 (by decide) (fun c => absurd c (by decide)) (fun _ => ?_)
    refine lv_aload_n hx hb dX3_lengthTo_7 rfl (lv_at hl 0 rfl) ?_
    refine va_get (D := (dC, dI)) (ci := 3) (v := .ref q2) (C := RX3) (T := TX3) (N := 4) hx hb hts hiX3 hown hK hP 0 rfl rfl 1 (by decide) (hts (.fieldLink RX3 15 "LeftProfile$Route" "lengths" "[I") (List.mem_of_getElem? (i := 1) rfl)) (fun _ h9 => h9) rfl dX3_lengthTo_8 ?_
    refine lv_iload_n hx hb dX3_lengthTo_11 rfl (lv_at hl 1 rfl) ?_
    refine va_iald hx hb hK hP 1 0 rfl rfl (c_X3_lengthTo_a2 p0 hr_1) dX3_lengthTo_12 ?_
    refine lv_topi (fun x_2 ex_2 => ?_)
    refine lv_goto (tgt := 17) hx hb dX3_lengthTo_13 (by decide) ?_
    rw [hQ]; exact W.iret (v := x_2) hx hb hr (fun t ht hW => ⟨x_2, rfl, (c_X3_lengthTo_a3 p0 v2 x_2 hr_1 ex_2), ht⟩) (fun _ h => absurd h List.not_mem_nil) dX3_lengthTo_17

theorem c_X3_firstTo_a1 (p0 : Int32) (v3 : Nat → Int32) (hr_1 : ¬ cz_in 0 p0 79) : ((-1) : Int32) = cw_at v3 p0 := by (try subst_vars); first | rfl | (simp only [cw_at, *, if_true, if_false]; done) | (simp only [cw_at, cz_in, *, and_self, and_true, true_and, and_false, false_and, if_true, if_false, not_true_eq_false, not_false_eq_true]; done) | ((try simp only [cw_at]); (repeat' split) <;> (first | rfl | contradiction | ((try simp only [cz_in, cz_du, cz_lt, cz_le, cz_eq, cz_l] at *) <;> (first | omega | (simp_all; done)))))
theorem c_X3_firstTo_a2 (p0 : Int32) (hr_1 : cz_in 0 p0 79) : vp_in p0 80 := by rw [vp_in_iff]; (try simp only [cz_in, cz_du, cz_lt, cz_le, cz_eq, cz_l] at *) <;> (first | omega | (simp_all; done))
theorem c_X3_firstTo_a3 (p0 : Int32) (v3 : Nat → Int32) (x_2 : Int32) (hr_1 : cz_in 0 p0 79) (ex_2 : x_2 = v3 p0.toNatClampNeg) : (x_2 : Int32) = cw_at v3 p0 := by (try subst_vars); first | rfl | (simp only [cw_at, *, if_true, if_false]; done) | (simp only [cw_at, cz_in, *, and_self, and_true, true_and, and_false, false_and, if_true, if_false, not_true_eq_false, not_false_eq_true]; done) | ((try simp only [cw_at]); (repeat' split) <;> (first | rfl | contradiction | ((try simp only [cz_in, cz_du, cz_lt, cz_le, cz_eq, cz_l] at *) <;> (first | omega | (simp_all; done)))))
set_option maxHeartbeats 4000000 in
set_option maxRecDepth 100000 in
theorem c_X3_firstTo (l : Launch) (dC : Nat → ClassId) (dI : Nat → Nat → Nat) (cI cB : ClassId) (rt : Nat) (p0 : Int32) (q1 : Nat) (q2 : Nat) (q3 : Nat) (u0 : Nat) (v3 : Nat → Int32) : Met l yX3_firstTo wsX3_firstTo ({ frames := 1, cells := 0, slots := 0, locals := 20 }) (cz_Pp dC dI cI cB [.ref rt, .int p0] [(rt, .inr (3, [.ref q1, .ref q2, .ref q3, .int (nI u0)])), (q3, .inl (cI, 80, .inl v3))]) (vp_Si (fun r : Int32 => r = cw_at v3 p0)) 0 0 (fun _ => False) := by
  refine cz_of (cc := cX3_firstTo) (maxL := 2) (ret := (some .int)) (by decide) rfl ?_
  intro p e s m args below meth c s₁ Q B hml hv hQ
  obtain ⟨rfl, hP, hN⟩ := hv
  have hx := B.exec
  have hb := B.bytes
  have hr := B.returns
  have hts := atoms_spec (ws := wsX3_firstTo) B.pre
  have hown : s.vm.findClass RX3 = some m.cls := findClass_of_methodNamed B.named
  have hlocks := B.notSynchronized
  have hK := hN.1
  have hiX3 : ∀ w ∈ wsX30, w ∈ wsX3_firstTo := (fun _ h => List.mem_cons_of_mem _ (List.mem_append_right _ h))
  have hl := lv_entry ([.ref rt, .int p0]) (n := 2) (Nat.le_of_ble_eq_true rfl)
  rw [lg_entry_eq]
  generalize (lg_sl ([.ref rt, .int p0]) ++ List.replicate (2 - (lg_sl ([.ref rt, .int p0])).length) Slot.unset).toArray = ls at hl ⊢
  have hl : lv_has ls 2 [(0, .ref rt), (1, .int p0)] := hl
  refine lv_iload_n hx hb dX3_firstTo_0 rfl (lv_at hl 1 rfl) ?_
  refine vp_callSi (cz_run (va_runS (As := [.int p0]) (rest := []) ⟨hx, hb, hml, hown, hts⟩ (c_X3_isStance l dC dI cI cB p0 ) (va_cwS 1 hts gX3_firstTo_X3_isStance rfl rfl rfl (by decide +kernel) ⟨Nat.le_of_ble_eq_true rfl, Nat.le_of_ble_eq_true rfl⟩) (cz_pS (hP.sub (ws' := []) [] rfl) hN) rfl rfl hl.1 rfl (lv_room (Nat.le_of_ble_eq_true rfl)) dX3_firstTo_1 ⟨Nat.le_of_ble_eq_true rfl, Nat.le_of_ble_eq_true rfl⟩)) (fun r_1 hr_1 => ?_)
  rcases hr_1 with ⟨rfl, hr_1⟩ | ⟨rfl, hr_1⟩
  · refine lv_if_eq (tgt := 16) hx hb dX3_firstTo_4 (by decide) (fun _ => ?_) (fun c => absurd (by decide) c)
    refine lv_iconst (v := (-1)) hx hb dX3_firstTo_16 (by decide) ?_
    rw [hQ]; exact W.iret (v := (-1)) hx hb hr (fun t ht hW => ⟨(-1), rfl, (c_X3_firstTo_a1 p0 v3 hr_1), ht⟩) (fun _ h => absurd h List.not_mem_nil) dX3_firstTo_17
  · refine lv_if_eq (tgt := 16) hx hb dX3_firstTo_4 (by decide) (fun c => absurd c (by decide)) (fun _ => ?_)
    refine lv_aload_n hx hb dX3_firstTo_7 rfl (lv_at hl 0 rfl) ?_
    refine va_get (D := (dC, dI)) (ci := 3) (v := .ref q3) (C := RX3) (T := TX3) (N := 4) hx hb hts hiX3 hown hK hP 0 rfl rfl 2 (by decide) (hts (.fieldLink RX3 18 "LeftProfile$Route" "firsts" "[I") (List.mem_of_getElem? (i := 1) rfl)) (fun _ h9 => h9) rfl dX3_firstTo_8 ?_
    refine lv_iload_n hx hb dX3_firstTo_11 rfl (lv_at hl 1 rfl) ?_
    refine va_iald hx hb hK hP 1 0 rfl rfl (c_X3_firstTo_a2 p0 hr_1) dX3_firstTo_12 ?_
    refine lv_topi (fun x_2 ex_2 => ?_)
    refine lv_goto (tgt := 17) hx hb dX3_firstTo_13 (by decide) ?_
    rw [hQ]; exact W.iret (v := x_2) hx hb hr (fun t ht hW => ⟨x_2, rfl, (c_X3_firstTo_a3 p0 v3 x_2 hr_1 ex_2), ht⟩) (fun _ h => absurd h List.not_mem_nil) dX3_firstTo_17

set_option maxHeartbeats 4000000 in
set_option maxRecDepth 100000 in
theorem c_X3_reach (l : Launch) (dC : Nat → ClassId) (dI : Nat → Nat → Nat) (cI cB : ClassId) (rt : Nat) (n0 : Nat) (p1 : Int32) (p2 : Int32) (q1 : Nat) (q2 : Nat) (q3 : Nat) (u0 : Nat) (v1 : Nat → Int32) (v2 : Nat → Int32) (v3 : Nat → Int32) (sz : Nat) (hu8 : u0 < 80) (hn8 : n0 < 80) : Met l yX3_reach wsX3_reach ({ frames := 1, cells := 0, slots := 0, locals := 20 }) (cz_Pm dC dI cI cB [.ref rt, .int (nI n0), .int p1, .int p2] [(rt, .inr (3, [.ref q1, .ref q2, .ref q3, .int (nI u0)])), (q1, .inl (cI, 80, .inl v1)), (q2, .inl (cI, 80, .inl v2)), (q3, .inl (cI, 80, .inl v3))] sz) (va_Qv (fun _ : Unit => True) (fun _ t => va_P (dC, dI) vwCl [(rt, .inr (3, [.ref q1, .ref q2, .ref q3, .int (nI (u0 + 1))])), (q1, .inl (cI, 80, .inl (upd v1 u0 (nI n0)))), (q2, .inl (cI, 80, .inl (upd v2 n0 p1))), (q3, .inl (cI, 80, .inl (upd v3 n0 p2)))] t.heap ∧ va_D (va_A [(rt, .inr (3, [.ref q1, .ref q2, .ref q3, .int (nI u0)])), (q1, .inl (cI, 80, .inl v1)), (q2, .inl (cI, 80, .inl v2)), (q3, .inl (cI, 80, .inl v3))] sz) [(rt, .inr (3, [.ref q1, .ref q2, .ref q3, .int (nI (u0 + 1))])), (q1, .inl (cI, 80, .inl (upd v1 u0 (nI n0)))), (q2, .inl (cI, 80, .inl (upd v2 n0 p1))), (q3, .inl (cI, 80, .inl (upd v3 n0 p2)))]) (va_A [(rt, .inr (3, [.ref q1, .ref q2, .ref q3, .int (nI u0)])), (q1, .inl (cI, 80, .inl v1)), (q2, .inl (cI, 80, .inl v2)), (q3, .inl (cI, 80, .inl v3))] sz)) 0 0 (va_A [(rt, .inr (3, [.ref q1, .ref q2, .ref q3, .int (nI u0)])), (q1, .inl (cI, 80, .inl v1)), (q2, .inl (cI, 80, .inl v2)), (q3, .inl (cI, 80, .inl v3))] sz) := by
  refine cz_of (cc := cX3_reach) (maxL := 4) (ret := none) (by decide) rfl ?_
  intro p e s m args below meth c s₁ Q B hml hv hQ
  obtain ⟨rfl, hsz, hP, hN, hD0⟩ := hv
  have hx := B.exec
  have hb := B.bytes
  have hr := B.returns
  have hts := atoms_spec (ws := wsX3_reach) B.pre
  have hown : s.vm.findClass RX3 = some m.cls := findClass_of_methodNamed B.named
  have hlocks := B.notSynchronized
  have hK := hN.1
  have hiX3 : ∀ w ∈ wsX30, w ∈ wsX3_reach := (fun _ h => List.mem_cons_of_mem _ (List.mem_append_right _ h))
  subst hsz
  have hD := hD0.self (sz := s.heap.size)
  generalize hAe : va_A [(rt, .inr (3, [.ref q1, .ref q2, .ref q3, .int (nI u0)])), (q1, .inl (cI, 80, .inl v1)), (q2, .inl (cI, 80, .inl v2)), (q3, .inl (cI, 80, .inl v3))] s.heap.size = A at hD hQ ⊢
  have hA : ∀ q : Nat, s.heap.size ≤ q → A q := fun q h => by rw [← hAe]; exact Or.inr h
  have hS : va_S A s.heap s.heap [] := va_S.rf
  obtain ⟨H, eH⟩ : ∃ H, H = s.heap := ⟨_, rfl⟩
  have hP : va_P (dC, dI) vwCl [(rt, .inr (3, [.ref q1, .ref q2, .ref q3, .int (nI u0)])), (q1, .inl (cI, 80, .inl v1)), (q2, .inl (cI, 80, .inl v2)), (q3, .inl (cI, 80, .inl v3))] s.heap := hP
  have hl := lv_entry ([.ref rt, .int (nI n0), .int p1, .int p2]) (n := 4) (Nat.le_of_ble_eq_true rfl)
  rw [lg_entry_eq]
  generalize (lg_sl ([.ref rt, .int (nI n0), .int p1, .int p2]) ++ List.replicate (4 - (lg_sl ([.ref rt, .int (nI n0), .int p1, .int p2])).length) Slot.unset).toArray = ls at hl ⊢
  have hl : lv_has ls 4 [(0, .ref rt), (1, .int (nI n0)), (2, .int p1), (3, .int p2)] := hl
  refine lv_iload_n hx hb dX3_reach_0 rfl (lv_at hl 1 rfl) ?_
  refine vp_callSi (cz_run (va_runS (As := [.int (nI n0)]) (rest := []) ⟨hx, hb, hml, hown, hts⟩ (c_X3_isStance l dC dI cI cB (nI n0) ) (va_cwS 1 hts gX3_reach_X3_isStance rfl rfl rfl (by decide +kernel) ⟨Nat.le_of_ble_eq_true rfl, Nat.le_of_ble_eq_true rfl⟩) (cz_pS (hP.sub (ws' := []) [] rfl) hN) rfl rfl hl.1 rfl (lv_room (Nat.le_of_ble_eq_true rfl)) dX3_reach_1 ⟨Nat.le_of_ble_eq_true rfl, Nat.le_of_ble_eq_true rfl⟩)) (fun r_1 hr_1 => ?_)
  rcases hr_1 with ⟨rfl, hr_1⟩ | ⟨rfl, hr_1⟩
  · refine lv_if_eq (tgt := 50) hx hb dX3_reach_4 (by decide) (fun _ => ?_) (fun c => absurd (by decide) c)
    exact absurd (cw_in79 hn8) hr_1
  · refine lv_if_eq (tgt := 50) hx hb dX3_reach_4 (by decide) (fun c => absurd c (by decide)) (fun _ => ?_)
    refine lv_aload_n hx hb dX3_reach_7 rfl (lv_at hl 0 rfl) ?_
    refine va_get (D := (dC, dI)) (ci := 3) (v := .int (nI u0)) (C := RX3) (T := TX3) (N := 4) hx hb hts hiX3 hown hK hP 0 rfl rfl 3 (by decide) (hts (.fieldLink RX3 21 "LeftProfile$Route" "queued" "I") (List.mem_of_getElem? (i := 1) rfl)) (fun _ h9 => h9) rfl dX3_reach_8 ?_
    refine lv_bipush (v := 80) hx hb dX3_reach_11 (by decide) ?_
    refine lv_icmp_ge (tgt := 50) hx hb dX3_reach_13 (by decide) (fun c_2 => ?_) (fun c_2 => ?_)
    · have c_2 : 80 ≤ u0 := (nI_leI (a := 80) (b := u0) (by omega) (by omega)).mp c_2
      exact absurd hu8 (by omega)
    · have c_2 : ¬ 80 ≤ u0 := fun h => c_2 ((nI_leI (a := 80) (b := u0) (by omega) (by omega)).mpr h)
      refine lv_aload_n hx hb dX3_reach_16 rfl (lv_at hl 0 rfl) ?_
      refine va_get (D := (dC, dI)) (ci := 3) (v := .ref q2) (C := RX3) (T := TX3) (N := 4) hx hb hts hiX3 hown hK hP 0 rfl rfl 1 (by decide) (hts (.fieldLink RX3 15 "LeftProfile$Route" "lengths" "[I") (List.mem_of_getElem? (i := 2) rfl)) (fun _ h9 => h9) rfl dX3_reach_17 ?_
      refine lv_iload_n hx hb dX3_reach_20 rfl (lv_at hl 1 rfl) ?_
      refine lv_iload_n hx hb dX3_reach_21 rfl (lv_at hl 2 rfl) ?_
      refine va_iast hx hb hK hP hD hS 2 0 rfl rfl (vp_in_nI (n := n0) (by omega) (by omega)) dX3_reach_22 (fun H locs hP hD hS => ?_)
      rw [show (nI n0).toNatClampNeg = n0 from nI_clamp (n := n0) (by omega)] at hP hD
      have hP : va_P (dC, dI) vwCl [(rt, .inr (3, [.ref q1, .ref q2, .ref q3, .int (nI u0)])), (q1, .inl (cI, 80, .inl v1)), (q2, .inl (cI, 80, .inl (upd v2 n0 p1))), (q3, .inl (cI, 80, .inl v3))] H := hP
      have hD : va_D A [(rt, .inr (3, [.ref q1, .ref q2, .ref q3, .int (nI u0)])), (q1, .inl (cI, 80, .inl v1)), (q2, .inl (cI, 80, .inl (upd v2 n0 p1))), (q3, .inl (cI, 80, .inl v3))] := hD
      refine lv_aload_n hx hb dX3_reach_23 rfl (lv_at hl 0 rfl) ?_
      refine va_get (D := (dC, dI)) (ci := 3) (v := .ref q3) (C := RX3) (T := TX3) (N := 4) hx hb hts hiX3 hown hK hP 0 rfl rfl 2 (by decide) (hts (.fieldLink RX3 18 "LeftProfile$Route" "firsts" "[I") (List.mem_of_getElem? (i := 3) rfl)) (fun _ h9 => h9) rfl dX3_reach_24 ?_
      refine lv_iload_n hx hb dX3_reach_27 rfl (lv_at hl 1 rfl) ?_
      refine lv_iload_n hx hb dX3_reach_28 rfl (lv_at hl 3 rfl) ?_
      refine va_iast hx hb hK hP hD hS 3 0 rfl rfl (vp_in_nI (n := n0) (by omega) (by omega)) dX3_reach_29 (fun H locs hP hD hS => ?_)
      rw [show (nI n0).toNatClampNeg = n0 from nI_clamp (n := n0) (by omega)] at hP hD
      have hP : va_P (dC, dI) vwCl [(rt, .inr (3, [.ref q1, .ref q2, .ref q3, .int (nI u0)])), (q1, .inl (cI, 80, .inl v1)), (q2, .inl (cI, 80, .inl (upd v2 n0 p1))), (q3, .inl (cI, 80, .inl (upd v3 n0 p2)))] H := hP
      have hD : va_D A [(rt, .inr (3, [.ref q1, .ref q2, .ref q3, .int (nI u0)])), (q1, .inl (cI, 80, .inl v1)), (q2, .inl (cI, 80, .inl (upd v2 n0 p1))), (q3, .inl (cI, 80, .inl (upd v3 n0 p2)))] := hD
      refine lv_aload_n hx hb dX3_reach_30 rfl (lv_at hl 0 rfl) ?_
      refine va_get (D := (dC, dI)) (ci := 3) (v := .ref q1) (C := RX3) (T := TX3) (N := 4) hx hb hts hiX3 hown hK hP 0 rfl rfl 0 (by decide) (hts (.fieldLink RX3 9 "LeftProfile$Route" "queue" "[I") (List.mem_of_getElem? (i := 4) rfl)) (fun _ h9 => h9) rfl dX3_reach_31 ?_
      refine lv_aload_n hx hb dX3_reach_34 rfl (lv_at hl 0 rfl) ?_
      refine va_get (D := (dC, dI)) (ci := 3) (v := .int (nI u0)) (C := RX3) (T := TX3) (N := 4) hx hb hts hiX3 hown hK hP 0 rfl rfl 3 (by decide) (hts (.fieldLink RX3 21 "LeftProfile$Route" "queued" "I") (List.mem_of_getElem? (i := 1) rfl)) (fun _ h9 => h9) rfl dX3_reach_35 ?_
      refine lv_iload_n hx hb dX3_reach_38 rfl (lv_at hl 1 rfl) ?_
      refine va_iast hx hb hK hP hD hS 1 0 rfl rfl (vp_in_nI (n := u0) (by omega) (by omega)) dX3_reach_39 (fun H locs hP hD hS => ?_)
      rw [show (nI u0).toNatClampNeg = u0 from nI_clamp (n := u0) (by omega)] at hP hD
      have hP : va_P (dC, dI) vwCl [(rt, .inr (3, [.ref q1, .ref q2, .ref q3, .int (nI u0)])), (q1, .inl (cI, 80, .inl (upd v1 u0 (nI n0)))), (q2, .inl (cI, 80, .inl (upd v2 n0 p1))), (q3, .inl (cI, 80, .inl (upd v3 n0 p2)))] H := hP
      have hD : va_D A [(rt, .inr (3, [.ref q1, .ref q2, .ref q3, .int (nI u0)])), (q1, .inl (cI, 80, .inl (upd v1 u0 (nI n0)))), (q2, .inl (cI, 80, .inl (upd v2 n0 p1))), (q3, .inl (cI, 80, .inl (upd v3 n0 p2)))] := hD
      refine lv_aload_n hx hb dX3_reach_40 rfl (lv_at hl 0 rfl) ?_
      refine lv_dup hx hb dX3_reach_41 rfl ?_
      refine va_get (D := (dC, dI)) (ci := 3) (v := .int (nI u0)) (C := RX3) (T := TX3) (N := 4) hx hb hts hiX3 hown hK hP 0 rfl rfl 3 (by decide) (hts (.fieldLink RX3 21 "LeftProfile$Route" "queued" "I") (List.mem_of_getElem? (i := 1) rfl)) (fun _ h9 => h9) rfl dX3_reach_42 ?_
      refine lv_iconst (v := 1) hx hb dX3_reach_45 (by decide) ?_
      refine lv_iadd hx hb dX3_reach_46 ?_
      refine cz_i (y := (nI (u0 + 1))) (nI_add u0 1) ?_
      refine va_put (D := (dC, dI)) (ci := 3) (v := .int (nI (u0 + 1))) (ty := .int) (C := RX3) (T := TX3) (N := 4) hx hb hts hiX3 tyX3 tyX3_ok nmX3 hown hK hP hD hS 0 rfl rfl 3 (by decide) (hts (.fieldLink RX3 21 "LeftProfile$Route" "queued" "I") (List.mem_of_getElem? (i := 1) rfl)) (fun _ h9 => h9) rfl (by decide +kernel) rfl rfl (Nat.le_of_ble_eq_true rfl) dX3_reach_47 (fun H locs hP hD hS => ?_)
      have hP : va_P (dC, dI) vwCl [(rt, .inr (3, [.ref q1, .ref q2, .ref q3, .int (nI (u0 + 1))])), (q1, .inl (cI, 80, .inl (upd v1 u0 (nI n0)))), (q2, .inl (cI, 80, .inl (upd v2 n0 p1))), (q3, .inl (cI, 80, .inl (upd v3 n0 p2)))] H := hP
      have hD : va_D A [(rt, .inr (3, [.ref q1, .ref q2, .ref q3, .int (nI (u0 + 1))])), (q1, .inl (cI, 80, .inl (upd v1 u0 (nI n0)))), (q2, .inl (cI, 80, .inl (upd v2 n0 p1))), (q3, .inl (cI, 80, .inl (upd v3 n0 p2)))] := hD
      refine W.widen (k := 0) (n := 0) (Nat.le_of_ble_eq_true rfl) (Nat.le_of_ble_eq_true rfl) ?_
      have hP9 := hP.sub (ws' := [(rt, .inr (3, [.ref q1, .ref q2, .ref q3, .int (nI (u0 + 1))])), (q1, .inl (cI, 80, .inl (upd v1 u0 (nI n0)))), (q2, .inl (cI, 80, .inl (upd v2 n0 p1))), (q3, .inl (cI, 80, .inl (upd v3 n0 p2)))]) [0, 1, 2, 3] rfl
      have hD9 := hD.sub (ws' := [(rt, .inr (3, [.ref q1, .ref q2, .ref q3, .int (nI (u0 + 1))])), (q1, .inl (cI, 80, .inl (upd v1 u0 (nI n0)))), (q2, .inl (cI, 80, .inl (upd v2 n0 p1))), (q3, .inl (cI, 80, .inl (upd v3 n0 p2)))]) [0, 1, 2, 3] (by decide) rfl
      rw [hQ]; exact W.vret hx hb hr (fun t ht hW => ⟨⟨(), rfl, trivial, ⟨by rw [ht]; exact hP9, hD9⟩⟩, hS.F ht⟩) hS.2.2 dX3_reach_50

set_option maxHeartbeats 4000000 in
set_option maxRecDepth 100000 in
theorem c_X3_find (l : Launch) (dC : Nat → ClassId) (dI : Nat → Nat → Nat) (cI cB : ClassId) (tR tC : Nat) (rt : Nat) (hs : Nat) (s0 : Nat) (p2 : Int32) (q1 : Nat) (q2 : Nat) (q3 : Nat) (u0 : Nat) (v1 : Nat → Int32) (v2 : Nat → Int32) (v3 : Nat → Int32) (hh : Nat) (hc : Nat) (si : Nat) (w0 : Int32) (w1 : Int32) (w2 : Int32) (a0 : Int32) (a1 : Int32) (k0 : Nat) (k1 : Nat) (k2 : Nat) (k3 : Nat) (k4 : Nat) (k5 : Nat) (g1 : Nat → Int32) (g2 : Nat → Int32) (tw : Nat) (tb : Nat) (ft : Nat → Int32) (fb : Nat → Int32) (sz : Nat) (hk6 : k0 ≤ 6) (hs0 : s0 < 80) : Met l yX3_find wsX3_find ({ frames := 5, cells := 0, slots := 0, locals := 123 }) (cz_PmT dC dI cI cB tR tC [.ref rt, .ref hs, .int (nI s0), .int p2] [(rt, .inr (3, [.ref q1, .ref q2, .ref q3, .int (nI u0)])), (q1, .inl (cI, 80, .inl v1)), (q2, .inl (cI, 80, .inl v2)), (q3, .inl (cI, 80, .inl v3)), (hs, .inr (4, [.ref hh, .ref hc, .ref si])), (hh, .inr (1, [.int w0, .int w1, .int w2])), (hc, .inr (0, [.int a0, .int a1, .int (nI k0), .ref k1, .ref k2, .ref k3, .ref k4, .ref k5])), (k1, .inl (cI, 6, .inl g1)), (k2, .inl (cI, 6, .inl g2)), (si, .inr (5, [.ref tw, .ref tb])), (tw, .inl (cI, 400, .inl ft)), (tb, .inl (cI, 400, .inl fb))] sz) (va_Qi (fun (r : Int32) (_ : Unit) => cw_fA (cw_nxC (w0 ||| cz_pp g2 k0)) (cw_okC w0 (cz_pp g2 k0) g1 g2 ft fb k0) s0 p2 r) (fun _ t => ∃ (uu : Nat) (t1 : Nat → Int32) (t2 : Nat → Int32) (t3 : Nat → Int32), (uu ≤ 80) ∧ (cw_fZ (cw_nxC (w0 ||| cz_pp g2 k0)) (cw_okC w0 (cz_pp g2 k0) g1 g2 ft fb k0) s0 p2 t2 t3) ∧ va_P (dC, dI) vwCl [(rt, .inr (3, [.ref q1, .ref q2, .ref q3, .int (nI uu)])), (q1, .inl (cI, 80, .inl t1)), (q2, .inl (cI, 80, .inl t2)), (q3, .inl (cI, 80, .inl t3)), (hs, .inr (4, [.ref hh, .ref hc, .ref si])), (hh, .inr (1, [.int w0, .int w1, .int w2])), (hc, .inr (0, [.int a0, .int a1, .int (nI k0), .ref k1, .ref k2, .ref k3, .ref k4, .ref k5])), (k1, .inl (cI, 6, .inl g1)), (k2, .inl (cI, 6, .inl g2)), (si, .inr (5, [.ref tw, .ref tb])), (tw, .inl (cI, 400, .inl ft)), (tb, .inl (cI, 400, .inl fb))] t.heap ∧ va_D (va_A [(rt, .inr (3, [.ref q1, .ref q2, .ref q3, .int (nI u0)])), (q1, .inl (cI, 80, .inl v1)), (q2, .inl (cI, 80, .inl v2)), (q3, .inl (cI, 80, .inl v3)), (hs, .inr (4, [.ref hh, .ref hc, .ref si])), (hh, .inr (1, [.int w0, .int w1, .int w2])), (hc, .inr (0, [.int a0, .int a1, .int (nI k0), .ref k1, .ref k2, .ref k3, .ref k4, .ref k5])), (k1, .inl (cI, 6, .inl g1)), (k2, .inl (cI, 6, .inl g2)), (si, .inr (5, [.ref tw, .ref tb])), (tw, .inl (cI, 400, .inl ft)), (tb, .inl (cI, 400, .inl fb))] sz) [(rt, .inr (3, [.ref q1, .ref q2, .ref q3, .int (nI uu)])), (q1, .inl (cI, 80, .inl t1)), (q2, .inl (cI, 80, .inl t2)), (q3, .inl (cI, 80, .inl t3)), (hs, .inr (4, [.ref hh, .ref hc, .ref si])), (hh, .inr (1, [.int w0, .int w1, .int w2])), (hc, .inr (0, [.int a0, .int a1, .int (nI k0), .ref k1, .ref k2, .ref k3, .ref k4, .ref k5])), (k1, .inl (cI, 6, .inl g1)), (k2, .inl (cI, 6, .inl g2)), (si, .inr (5, [.ref tw, .ref tb])), (tw, .inl (cI, 400, .inl ft)), (tb, .inl (cI, 400, .inl fb))]) (va_A [(rt, .inr (3, [.ref q1, .ref q2, .ref q3, .int (nI u0)])), (q1, .inl (cI, 80, .inl v1)), (q2, .inl (cI, 80, .inl v2)), (q3, .inl (cI, 80, .inl v3)), (hs, .inr (4, [.ref hh, .ref hc, .ref si])), (hh, .inr (1, [.int w0, .int w1, .int w2])), (hc, .inr (0, [.int a0, .int a1, .int (nI k0), .ref k1, .ref k2, .ref k3, .ref k4, .ref k5])), (k1, .inl (cI, 6, .inl g1)), (k2, .inl (cI, 6, .inl g2)), (si, .inr (5, [.ref tw, .ref tb])), (tw, .inl (cI, 400, .inl ft)), (tb, .inl (cI, 400, .inl fb))] sz)) 0 0 (va_A [(rt, .inr (3, [.ref q1, .ref q2, .ref q3, .int (nI u0)])), (q1, .inl (cI, 80, .inl v1)), (q2, .inl (cI, 80, .inl v2)), (q3, .inl (cI, 80, .inl v3)), (hs, .inr (4, [.ref hh, .ref hc, .ref si])), (hh, .inr (1, [.int w0, .int w1, .int w2])), (hc, .inr (0, [.int a0, .int a1, .int (nI k0), .ref k1, .ref k2, .ref k3, .ref k4, .ref k5])), (k1, .inl (cI, 6, .inl g1)), (k2, .inl (cI, 6, .inl g2)), (si, .inr (5, [.ref tw, .ref tb])), (tw, .inl (cI, 400, .inl ft)), (tb, .inl (cI, 400, .inl fb))] sz) := by
  refine cz_of (cc := cX3_find) (maxL := 8) (ret := (some .int)) (by decide) rfl ?_
  intro p e s m args below meth c s₁ Q B hml hv hQ
  obtain ⟨rfl, hsz, hP, hN, hD0, hSt⟩ := hv
  have hx := B.exec
  have hb := B.bytes
  have hr := B.returns
  have hts := atoms_spec (ws := wsX3_find) B.pre
  have hown : s.vm.findClass RX3 = some m.cls := findClass_of_methodNamed B.named
  have hlocks := B.notSynchronized
  have hK := hN.1
  have hiX1 : ∀ w ∈ wsX10, w ∈ wsX3_find := (fun _ h => List.mem_cons_of_mem _ (List.mem_append_left _ (List.mem_append_left _ (List.mem_append_right _ h))))
  have hiX3 : ∀ w ∈ wsX30, w ∈ wsX3_find := (fun _ h => List.mem_cons_of_mem _ (List.mem_append_left _ (List.mem_append_left _ (List.mem_append_left _ (List.mem_append_left _ (List.mem_append_right _ h))))))
  have hiX4 : ∀ w ∈ wsX40, w ∈ wsX3_find := (fun _ h => List.mem_cons_of_mem _ (List.mem_append_left _ (List.mem_append_left _ (List.mem_append_left _ (List.mem_append_right _ h)))))
  subst hsz
  have hD := hD0.self (sz := s.heap.size)
  generalize hAe : va_A [(rt, .inr (3, [.ref q1, .ref q2, .ref q3, .int (nI u0)])), (q1, .inl (cI, 80, .inl v1)), (q2, .inl (cI, 80, .inl v2)), (q3, .inl (cI, 80, .inl v3)), (hs, .inr (4, [.ref hh, .ref hc, .ref si])), (hh, .inr (1, [.int w0, .int w1, .int w2])), (hc, .inr (0, [.int a0, .int a1, .int (nI k0), .ref k1, .ref k2, .ref k3, .ref k4, .ref k5])), (k1, .inl (cI, 6, .inl g1)), (k2, .inl (cI, 6, .inl g2)), (si, .inr (5, [.ref tw, .ref tb])), (tw, .inl (cI, 400, .inl ft)), (tb, .inl (cI, 400, .inl fb))] s.heap.size = A at hD hSt hQ ⊢
  have hA : ∀ q : Nat, s.heap.size ≤ q → A q := fun q h => by rw [← hAe]; exact Or.inr h
  have hS : va_S A s.heap s.heap [] := va_S.rf
  obtain ⟨H, eH⟩ : ∃ H, H = s.heap := ⟨_, rfl⟩
  have hP : va_P (dC, dI) vwCl [(rt, .inr (3, [.ref q1, .ref q2, .ref q3, .int (nI u0)])), (q1, .inl (cI, 80, .inl v1)), (q2, .inl (cI, 80, .inl v2)), (q3, .inl (cI, 80, .inl v3)), (hs, .inr (4, [.ref hh, .ref hc, .ref si])), (hh, .inr (1, [.int w0, .int w1, .int w2])), (hc, .inr (0, [.int a0, .int a1, .int (nI k0), .ref k1, .ref k2, .ref k3, .ref k4, .ref k5])), (k1, .inl (cI, 6, .inl g1)), (k2, .inl (cI, 6, .inl g2)), (si, .inr (5, [.ref tw, .ref tb])), (tw, .inl (cI, 400, .inl ft)), (tb, .inl (cI, 400, .inl fb))] s.heap := hP
  have hl := lv_entry ([.ref rt, .ref hs, .int (nI s0), .int p2]) (n := 8) (Nat.le_of_ble_eq_true rfl)
  rw [lg_entry_eq]
  generalize (lg_sl ([.ref rt, .ref hs, .int (nI s0), .int p2]) ++ List.replicate (8 - (lg_sl ([.ref rt, .ref hs, .int (nI s0), .int p2])).length) Slot.unset).toArray = ls at hl ⊢
  have hl : lv_has ls 8 [(0, .ref rt), (1, .ref hs), (2, .int (nI s0)), (3, .int p2)] := hl
  refine lv_aload_n hx hb dX3_find_0 rfl (lv_at hl 0 rfl) ?_
  refine va_get (D := (dC, dI)) (ci := 3) (v := .ref q2) (C := RX3) (T := TX3) (N := 4) hx hb hts hiX3 hown hK hP 0 rfl rfl 1 (by decide) (hts (.fieldLink RX3 15 "LeftProfile$Route" "lengths" "[I") (List.mem_of_getElem? (i := 1) rfl)) (fun _ h9 => h9) rfl dX3_find_1 ?_
  refine lv_iconst (v := (-1)) hx hb dX3_find_4 (by decide) ?_
  have hPc := hP.sub (ws' := [(q2, .inl (cI, 80, .inl v2))]) [2] rfl
  have hDc := hD.sub (ws' := [(q2, .inl (cI, 80, .inl v2))]) [2] (by decide) rfl
  have hFc := va_free (wc := [(q2, .inl (cI, 80, .inl v2))]) hD hS hA [2] rfl
  refine va_callv (va_runS (As := [.ref q2, .int (-1)]) (rest := []) ⟨hx, hb, hml, hown, hts⟩ (c_J7_fill_53178 l dC dI cI cB q2 (-1) 80 v2 s.heap.size (by omega)) (va_cwS 2 hts gX3_find_J7_fill_53178 rfl rfl rfl (by decide +kernel) ⟨Nat.le_of_ble_eq_true rfl, Nat.le_of_ble_eq_true rfl⟩) (cz_mS hPc hN hDc) rfl rfl hl.1 rfl (lv_room (Nat.le_of_ble_eq_true rfl)) dX3_find_5 ⟨Nat.le_of_ble_eq_true rfl, Nat.le_of_ble_eq_true rfl⟩) hS (fun q _ h => hFc q h) hFc (fun u t H1 locs ht hvm hr_1 hB hz1 hk1 hS => ?_)
  obtain ⟨f_2, hr_1_f, hP1, hD1⟩ := hB
  rw [ht] at hP1
  obtain ⟨hP, hD⟩ := va_join (wr := [(rt, .inr (3, [.ref q1, .ref q2, .ref q3, .int (nI u0)])), (q1, .inl (cI, 80, .inl v1)), (q3, .inl (cI, 80, .inl v3)), (hs, .inr (4, [.ref hh, .ref hc, .ref si])), (hh, .inr (1, [.int w0, .int w1, .int w2])), (hc, .inr (0, [.int a0, .int a1, .int (nI k0), .ref k1, .ref k2, .ref k3, .ref k4, .ref k5])), (k1, .inl (cI, 6, .inl g1)), (k2, .inl (cI, 6, .inl g2)), (si, .inr (5, [.ref tw, .ref tb])), (tw, .inl (cI, 400, .inl ft)), (tb, .inl (cI, 400, .inl fb))]) (w1 := [(q2, .inl (cI, 80, .inl f_2))]) hP hD [2] [0, 1, 3, 4, 5, 6, 7, 8, 9, 10, 11] rfl rfl (by decide) (by decide) hk1 hFc hP1 hD1
  generalize H1 = H at hP hS ⊢
  have hP : va_P (dC, dI) vwCl [(rt, .inr (3, [.ref q1, .ref q2, .ref q3, .int (nI u0)])), (q1, .inl (cI, 80, .inl v1)), (q3, .inl (cI, 80, .inl v3)), (hs, .inr (4, [.ref hh, .ref hc, .ref si])), (hh, .inr (1, [.int w0, .int w1, .int w2])), (hc, .inr (0, [.int a0, .int a1, .int (nI k0), .ref k1, .ref k2, .ref k3, .ref k4, .ref k5])), (k1, .inl (cI, 6, .inl g1)), (k2, .inl (cI, 6, .inl g2)), (si, .inr (5, [.ref tw, .ref tb])), (tw, .inl (cI, 400, .inl ft)), (tb, .inl (cI, 400, .inl fb)), (q2, .inl (cI, 80, .inl f_2))] H := hP
  have hD : va_D A [(rt, .inr (3, [.ref q1, .ref q2, .ref q3, .int (nI u0)])), (q1, .inl (cI, 80, .inl v1)), (q3, .inl (cI, 80, .inl v3)), (hs, .inr (4, [.ref hh, .ref hc, .ref si])), (hh, .inr (1, [.int w0, .int w1, .int w2])), (hc, .inr (0, [.int a0, .int a1, .int (nI k0), .ref k1, .ref k2, .ref k3, .ref k4, .ref k5])), (k1, .inl (cI, 6, .inl g1)), (k2, .inl (cI, 6, .inl g2)), (si, .inr (5, [.ref tw, .ref tb])), (tw, .inl (cI, 400, .inl ft)), (tb, .inl (cI, 400, .inl fb)), (q2, .inl (cI, 80, .inl f_2))] := hD
  refine lv_aload_n hx hb dX3_find_8 rfl (lv_at hl 0 rfl) ?_
  refine lv_iconst (v := 0) hx hb dX3_find_9 (by decide) ?_
  refine va_put (D := (dC, dI)) (ci := 3) (v := .int 0) (ty := .int) (C := RX3) (T := TX3) (N := 4) hx hb hts hiX3 tyX3 tyX3_ok nmX3 hown hK hP hD hS 0 rfl rfl 3 (by decide) (hts (.fieldLink RX3 21 "LeftProfile$Route" "queued" "I") (List.mem_of_getElem? (i := 2) rfl)) (fun _ h9 => h9) rfl (by decide +kernel) rfl rfl (Nat.le_of_ble_eq_true rfl) dX3_find_10 (fun H locs hP hD hS => ?_)
  have hP : va_P (dC, dI) vwCl [(rt, .inr (3, [.ref q1, .ref q2, .ref q3, .int 0])), (q1, .inl (cI, 80, .inl v1)), (q3, .inl (cI, 80, .inl v3)), (hs, .inr (4, [.ref hh, .ref hc, .ref si])), (hh, .inr (1, [.int w0, .int w1, .int w2])), (hc, .inr (0, [.int a0, .int a1, .int (nI k0), .ref k1, .ref k2, .ref k3, .ref k4, .ref k5])), (k1, .inl (cI, 6, .inl g1)), (k2, .inl (cI, 6, .inl g2)), (si, .inr (5, [.ref tw, .ref tb])), (tw, .inl (cI, 400, .inl ft)), (tb, .inl (cI, 400, .inl fb)), (q2, .inl (cI, 80, .inl f_2))] H := hP
  have hD : va_D A [(rt, .inr (3, [.ref q1, .ref q2, .ref q3, .int 0])), (q1, .inl (cI, 80, .inl v1)), (q3, .inl (cI, 80, .inl v3)), (hs, .inr (4, [.ref hh, .ref hc, .ref si])), (hh, .inr (1, [.int w0, .int w1, .int w2])), (hc, .inr (0, [.int a0, .int a1, .int (nI k0), .ref k1, .ref k2, .ref k3, .ref k4, .ref k5])), (k1, .inl (cI, 6, .inl g1)), (k2, .inl (cI, 6, .inl g2)), (si, .inr (5, [.ref tw, .ref tb])), (tw, .inl (cI, 400, .inl ft)), (tb, .inl (cI, 400, .inl fb)), (q2, .inl (cI, 80, .inl f_2))] := hD
  refine lv_aload_n hx hb dX3_find_13 rfl (lv_at hl 0 rfl) ?_
  refine lv_iload_n hx hb dX3_find_14 rfl (lv_at hl 2 rfl) ?_
  refine lv_iconst (v := 0) hx hb dX3_find_15 (by decide) ?_
  refine lv_iconst (v := (-1)) hx hb dX3_find_16 (by decide) ?_
  have hPc := hP.sub (ws' := [(rt, .inr (3, [.ref q1, .ref q2, .ref q3, .int 0])), (q1, .inl (cI, 80, .inl v1)), (q2, .inl (cI, 80, .inl f_2)), (q3, .inl (cI, 80, .inl v3))]) [0, 1, 11, 2] rfl
  have hDc := hD.sub (ws' := [(rt, .inr (3, [.ref q1, .ref q2, .ref q3, .int 0])), (q1, .inl (cI, 80, .inl v1)), (q2, .inl (cI, 80, .inl f_2)), (q3, .inl (cI, 80, .inl v3))]) [0, 1, 11, 2] (by decide) rfl
  have hFc := va_free (wc := [(rt, .inr (3, [.ref q1, .ref q2, .ref q3, .int 0])), (q1, .inl (cI, 80, .inl v1)), (q2, .inl (cI, 80, .inl f_2)), (q3, .inl (cI, 80, .inl v3))]) hD hS hA [0, 1, 11, 2] rfl
  refine va_callv (va_runV (As := [.int (nI s0), .int 0, .int (-1)]) (rest := []) ⟨hx, hb, hml, hown, hts⟩ (c_X3_reach l dC dI cI cB rt s0 0 (-1) q1 q2 q3 0 v1 f_2 v3 H.size (by omega) hs0) (cwV 3 hts gX3_find_X3_reach rfl rfl rfl (by decide +kernel) ⟨Nat.le_of_ble_eq_true rfl, Nat.le_of_ble_eq_true rfl⟩) (cz_mV hPc hN hDc (va_recv hK hPc (ci := 3) (q0 := 0) rfl rfl)) rfl rfl hl.1 rfl (lv_room (Nat.le_of_ble_eq_true rfl)) dX3_find_17 ⟨Nat.le_of_ble_eq_true rfl, Nat.le_of_ble_eq_true rfl⟩) hS (fun q _ h => hFc q h) hFc (fun u t H1 locs ht hvm hr_3 hB hz1 hk1 hS => ?_)
  obtain ⟨hP1, hD1⟩ := hB
  rw [ht] at hP1
  obtain ⟨hP, hD⟩ := va_join (wr := [(hs, .inr (4, [.ref hh, .ref hc, .ref si])), (hh, .inr (1, [.int w0, .int w1, .int w2])), (hc, .inr (0, [.int a0, .int a1, .int (nI k0), .ref k1, .ref k2, .ref k3, .ref k4, .ref k5])), (k1, .inl (cI, 6, .inl g1)), (k2, .inl (cI, 6, .inl g2)), (si, .inr (5, [.ref tw, .ref tb])), (tw, .inl (cI, 400, .inl ft)), (tb, .inl (cI, 400, .inl fb))]) (w1 := [(rt, .inr (3, [.ref q1, .ref q2, .ref q3, .int (nI (0 + 1))])), (q1, .inl (cI, 80, .inl (upd v1 0 (nI s0)))), (q2, .inl (cI, 80, .inl (upd f_2 s0 0))), (q3, .inl (cI, 80, .inl (upd v3 s0 (-1))))]) hP hD [0, 1, 11, 2] [3, 4, 5, 6, 7, 8, 9, 10] rfl rfl (by decide) (by decide) hk1 hFc hP1 hD1
  generalize H1 = H at hP hS ⊢
  have hP : va_P (dC, dI) vwCl [(hs, .inr (4, [.ref hh, .ref hc, .ref si])), (hh, .inr (1, [.int w0, .int w1, .int w2])), (hc, .inr (0, [.int a0, .int a1, .int (nI k0), .ref k1, .ref k2, .ref k3, .ref k4, .ref k5])), (k1, .inl (cI, 6, .inl g1)), (k2, .inl (cI, 6, .inl g2)), (si, .inr (5, [.ref tw, .ref tb])), (tw, .inl (cI, 400, .inl ft)), (tb, .inl (cI, 400, .inl fb)), (rt, .inr (3, [.ref q1, .ref q2, .ref q3, .int (nI (0 + 1))])), (q1, .inl (cI, 80, .inl (upd v1 0 (nI s0)))), (q2, .inl (cI, 80, .inl (upd f_2 s0 0))), (q3, .inl (cI, 80, .inl (upd v3 s0 (-1))))] H := hP
  have hD : va_D A [(hs, .inr (4, [.ref hh, .ref hc, .ref si])), (hh, .inr (1, [.int w0, .int w1, .int w2])), (hc, .inr (0, [.int a0, .int a1, .int (nI k0), .ref k1, .ref k2, .ref k3, .ref k4, .ref k5])), (k1, .inl (cI, 6, .inl g1)), (k2, .inl (cI, 6, .inl g2)), (si, .inr (5, [.ref tw, .ref tb])), (tw, .inl (cI, 400, .inl ft)), (tb, .inl (cI, 400, .inl fb)), (rt, .inr (3, [.ref q1, .ref q2, .ref q3, .int (nI (0 + 1))])), (q1, .inl (cI, 80, .inl (upd v1 0 (nI s0)))), (q2, .inl (cI, 80, .inl (upd f_2 s0 0))), (q3, .inl (cI, 80, .inl (upd v3 s0 (-1))))] := hD
  refine lv_iconst (v := 0) hx hb dX3_find_20 (by decide) ?_
  refine lv_istore (lv' := [(4, .int 0), (0, .ref rt), (1, .ref hs), (2, .int (nI s0)), (3, .int p2)]) hx hb dX3_find_21 hl (by decide) rfl (fun ls hl => ?_)
  have hex168 : ∀ (i23 : Nat) (y1 : Nat → Int32) (y2 : Nat → Int32) (y3 : Nat → Int32) (yu : Nat) (H : Heap) (locs : List Loc) (ls : Array Slot), yu ≤ 80 → cw_none (cw_nxC (w0 ||| cz_pp g2 k0)) (cw_okC w0 (cz_pp g2 k0) g1 g2 ft fb k0) s0 p2 → va_P (dC, dI) vwCl [(hs, .inr (4, [.ref hh, .ref hc, .ref si])), (hh, .inr (1, [.int w0, .int w1, .int w2])), (hc, .inr (0, [.int a0, .int a1, .int (nI k0), .ref k1, .ref k2, .ref k3, .ref k4, .ref k5])), (k1, .inl (cI, 6, .inl g1)), (k2, .inl (cI, 6, .inl g2)), (si, .inr (5, [.ref tw, .ref tb])), (tw, .inl (cI, 400, .inl ft)), (tb, .inl (cI, 400, .inl fb)), (rt, .inr (3, [.ref q1, .ref q2, .ref q3, .int (nI yu)])), (q1, .inl (cI, 80, .inl y1)), (q2, .inl (cI, 80, .inl y2)), (q3, .inl (cI, 80, .inl y3))] H → va_D A [(hs, .inr (4, [.ref hh, .ref hc, .ref si])), (hh, .inr (1, [.int w0, .int w1, .int w2])), (hc, .inr (0, [.int a0, .int a1, .int (nI k0), .ref k1, .ref k2, .ref k3, .ref k4, .ref k5])), (k1, .inl (cI, 6, .inl g1)), (k2, .inl (cI, 6, .inl g2)), (si, .inr (5, [.ref tw, .ref tb])), (tw, .inl (cI, 400, .inl ft)), (tb, .inl (cI, 400, .inl fb)), (rt, .inr (3, [.ref q1, .ref q2, .ref q3, .int (nI yu)])), (q1, .inl (cI, 80, .inl y1)), (q2, .inl (cI, 80, .inl y2)), (q3, .inl (cI, 80, .inl y3))] → va_S A s.heap H locs → lv_has ls 8 [] → W p l e ({ frames := 5, cells := 0, slots := 0, locals := 123 } : Room) s m #[Value.ref rt, Value.ref hs, Value.int (nI s0), Value.int p2] below meth c H locs 0 0 Q (F0 m 168 ls []) := by
    intro i23 y1 y2 y3 yu H locs ls hyu hnn hP hD hS hl
    refine lv_iconst (v := (-1)) hx hb dX3_find_168 (by decide) ?_
    refine W.widen (k := 0) (n := 0) (Nat.le_of_ble_eq_true rfl) (Nat.le_of_ble_eq_true rfl) ?_
    have hP9 := hP.sub (ws' := [(rt, .inr (3, [.ref q1, .ref q2, .ref q3, .int (nI yu)])), (q1, .inl (cI, 80, .inl y1)), (q2, .inl (cI, 80, .inl y2)), (q3, .inl (cI, 80, .inl y3)), (hs, .inr (4, [.ref hh, .ref hc, .ref si])), (hh, .inr (1, [.int w0, .int w1, .int w2])), (hc, .inr (0, [.int a0, .int a1, .int (nI k0), .ref k1, .ref k2, .ref k3, .ref k4, .ref k5])), (k1, .inl (cI, 6, .inl g1)), (k2, .inl (cI, 6, .inl g2)), (si, .inr (5, [.ref tw, .ref tb])), (tw, .inl (cI, 400, .inl ft)), (tb, .inl (cI, 400, .inl fb))]) [8, 9, 10, 11, 0, 1, 2, 3, 4, 5, 6, 7] rfl
    have hD9 := hD.sub (ws' := [(rt, .inr (3, [.ref q1, .ref q2, .ref q3, .int (nI yu)])), (q1, .inl (cI, 80, .inl y1)), (q2, .inl (cI, 80, .inl y2)), (q3, .inl (cI, 80, .inl y3)), (hs, .inr (4, [.ref hh, .ref hc, .ref si])), (hh, .inr (1, [.int w0, .int w1, .int w2])), (hc, .inr (0, [.int a0, .int a1, .int (nI k0), .ref k1, .ref k2, .ref k3, .ref k4, .ref k5])), (k1, .inl (cI, 6, .inl g1)), (k2, .inl (cI, 6, .inl g2)), (si, .inr (5, [.ref tw, .ref tb])), (tw, .inl (cI, 400, .inl ft)), (tb, .inl (cI, 400, .inl fb))]) [8, 9, 10, 11, 0, 1, 2, 3, 4, 5, 6, 7] (by decide) rfl
    rw [hQ]; exact W.iret (v := (-1)) hx hb hr (fun t ht hW => ⟨⟨(-1), (), rfl, (Or.inr ⟨hnn, rfl⟩), ⟨yu, y1, y2, y3, hyu, (Or.inr hnn), by rw [ht]; exact hP9, hD9⟩⟩, hS.F ht⟩) hS.2.2 dX3_find_169
  have lp23 : ∀ (n23 : Nat) (i23 : Nat) (y1 : Nat → Int32) (y2 : Nat → Int32) (y3 : Nat → Int32) (yu : Nat) (H : Heap) (locs : List Loc) (ls : Array Slot), i23 + n23 = 80 → yu ≤ 80 → cw_C (cw_okC w0 (cz_pp g2 k0) g1 g2 ft fb k0) (cw_E (cw_nxC (w0 ||| cz_pp g2 k0)) (cw_okC w0 (cz_pp g2 k0) g1 g2 ft fb k0) s0 i23) y1 y2 y3 yu → (∀ i, i < i23 → ¬ cz_plc ((cw_E (cw_nxC (w0 ||| cz_pp g2 k0)) (cw_okC w0 (cz_pp g2 k0) g1 g2 ft fb k0) s0 i23).2.1 i) = p2) → va_P (dC, dI) vwCl [(hs, .inr (4, [.ref hh, .ref hc, .ref si])), (hh, .inr (1, [.int w0, .int w1, .int w2])), (hc, .inr (0, [.int a0, .int a1, .int (nI k0), .ref k1, .ref k2, .ref k3, .ref k4, .ref k5])), (k1, .inl (cI, 6, .inl g1)), (k2, .inl (cI, 6, .inl g2)), (si, .inr (5, [.ref tw, .ref tb])), (tw, .inl (cI, 400, .inl ft)), (tb, .inl (cI, 400, .inl fb)), (rt, .inr (3, [.ref q1, .ref q2, .ref q3, .int (nI yu)])), (q1, .inl (cI, 80, .inl y1)), (q2, .inl (cI, 80, .inl y2)), (q3, .inl (cI, 80, .inl y3))] H → va_D A [(hs, .inr (4, [.ref hh, .ref hc, .ref si])), (hh, .inr (1, [.int w0, .int w1, .int w2])), (hc, .inr (0, [.int a0, .int a1, .int (nI k0), .ref k1, .ref k2, .ref k3, .ref k4, .ref k5])), (k1, .inl (cI, 6, .inl g1)), (k2, .inl (cI, 6, .inl g2)), (si, .inr (5, [.ref tw, .ref tb])), (tw, .inl (cI, 400, .inl ft)), (tb, .inl (cI, 400, .inl fb)), (rt, .inr (3, [.ref q1, .ref q2, .ref q3, .int (nI yu)])), (q1, .inl (cI, 80, .inl y1)), (q2, .inl (cI, 80, .inl y2)), (q3, .inl (cI, 80, .inl y3))] → va_S A s.heap H locs → lv_has ls 8 [(0, .ref rt), (1, .ref hs), (2, .int (nI s0)), (3, .int p2), (4, .int (nI i23))] → W p l e ({ frames := 5, cells := 0, slots := 0, locals := 123 } : Room) s m #[Value.ref rt, Value.ref hs, Value.int (nI s0), Value.int p2] below meth c H locs 0 0 Q (F0 m 23 ls []) := by
    intro n23
    induction n23 with
    | zero =>
      intro i23 y1 y2 y3 yu H locs ls hi23 hyu hC hno hP hD hS hl
      refine lv_iload hx hb dX3_find_23 (lv_at hl 4 rfl) ?_
      refine lv_aload_n hx hb dX3_find_25 rfl (lv_at hl 0 rfl) ?_
      refine va_get (D := (dC, dI)) (ci := 3) (v := .int (nI yu)) (C := RX3) (T := TX3) (N := 4) hx hb hts hiX3 hown hK hP 8 rfl rfl 3 (by decide) (hts (.fieldLink RX3 21 "LeftProfile$Route" "queued" "I") (List.mem_of_getElem? (i := 2) rfl)) (fun _ h9 => h9) rfl dX3_find_26 ?_
      refine lv_icmp_ge (tgt := 168) hx hb dX3_find_29 (by decide) (fun c_4 => ?_) (fun c_4 => ?_)
      · have c_4 : yu ≤ i23 := (nI_leI (a := yu) (b := i23) (by omega) (by omega)).mp c_4
        exact hex168 i23 y1 y2 y3 yu H locs ls hyu (cw_none_of hs0 hC (by omega) hno) hP hD hS (lv_sub hl [] rfl)
      · have c_4 : ¬ yu ≤ i23 := fun h => c_4 ((nI_leI (a := yu) (b := i23) (by omega) (by omega)).mpr h)
        refine lv_iload hx hb dX3_find_32 (lv_at hl 4 rfl) ?_
        refine lv_bipush (v := 80) hx hb dX3_find_34 (by decide) ?_
        refine lv_icmp_ge (tgt := 168) hx hb dX3_find_36 (by decide) (fun c_5 => ?_) (fun c_5 => ?_)
        · exact hex168 i23 y1 y2 y3 yu H locs ls hyu (cw_none_of hs0 hC (by omega) hno) hP hD hS (lv_sub hl [] rfl)
        · exact absurd (show (80 : Int32) ≤ nI i23 from nI_le (a := 80) (b := i23) (by omega) (by omega)) c_5
    | succ n23 ih23 =>
      intro i23 y1 y2 y3 yu H locs ls hi23 hyu hC hno hP hD hS hl
      refine lv_iload hx hb dX3_find_23 (lv_at hl 4 rfl) ?_
      refine lv_aload_n hx hb dX3_find_25 rfl (lv_at hl 0 rfl) ?_
      refine va_get (D := (dC, dI)) (ci := 3) (v := .int (nI yu)) (C := RX3) (T := TX3) (N := 4) hx hb hts hiX3 hown hK hP 8 rfl rfl 3 (by decide) (hts (.fieldLink RX3 21 "LeftProfile$Route" "queued" "I") (List.mem_of_getElem? (i := 2) rfl)) (fun _ h9 => h9) rfl dX3_find_26 ?_
      refine lv_icmp_ge (tgt := 168) hx hb dX3_find_29 (by decide) (fun c_6 => ?_) (fun c_6 => ?_)
      · have c_6 : yu ≤ i23 := (nI_leI (a := yu) (b := i23) (by omega) (by omega)).mp c_6
        exact hex168 i23 y1 y2 y3 yu H locs ls hyu (cw_none_of hs0 hC (by omega) hno) hP hD hS (lv_sub hl [] rfl)
      · have c_6 : ¬ yu ≤ i23 := fun h => c_6 ((nI_leI (a := yu) (b := i23) (by omega) (by omega)).mpr h)
        refine lv_iload hx hb dX3_find_32 (lv_at hl 4 rfl) ?_
        refine lv_bipush (v := 80) hx hb dX3_find_34 (by decide) ?_
        refine lv_icmp_ge (tgt := 168) hx hb dX3_find_36 (by decide) (fun c_7 => ?_) (fun c_7 => ?_)
        · exact absurd c_7 (show ¬ (80 : Int32) ≤ nI i23 from nI_ge (a := i23) (b := 80) (by omega) (by omega))
        · refine lv_aload_n hx hb dX3_find_39 rfl (lv_at hl 0 rfl) ?_
          refine va_get (D := (dC, dI)) (ci := 3) (v := .ref q1) (C := RX3) (T := TX3) (N := 4) hx hb hts hiX3 hown hK hP 8 rfl rfl 0 (by decide) (hts (.fieldLink RX3 9 "LeftProfile$Route" "queue" "[I") (List.mem_of_getElem? (i := 3) rfl)) (fun _ h9 => h9) rfl dX3_find_40 ?_
          refine lv_iload hx hb dX3_find_43 (lv_at hl 4 rfl) ?_
          refine va_iald hx hb hK hP 9 0 rfl rfl (vp_in_nI (n := i23) (by omega) (by omega)) dX3_find_45 ?_
          refine cz_i (y := (y1 i23)) (congrArg y1 (nI_clamp (n := i23) (by omega))) ?_
          have hlt0 : i23 < (cw_E (cw_nxC (w0 ||| cz_pp g2 k0)) (cw_okC w0 (cz_pp g2 k0) g1 g2 ft fb k0) s0 i23).2.2.1 := (by have e_ := hC.1; omega)
          obtain ⟨q0, hq0, eq0, hv0⟩ := (cw_E_J (nx := (cw_nxC (w0 ||| cz_pp g2 k0))) (ok := (cw_okC w0 (cz_pp g2 k0) g1 g2 ft fb k0)) hs0 i23).q hlt0
          refine cz_i (y := nI q0) ((hC.2.1 i23 (by omega)).trans eq0) ?_
          refine lv_istore (lv' := [(5, .int (nI q0)), (0, .ref rt), (1, .ref hs), (2, .int (nI s0)), (3, .int p2), (4, .int (nI i23))]) hx hb dX3_find_46 hl (by decide) rfl (fun ls hl => ?_)
          refine lv_iload hx hb dX3_find_48 (lv_at hl 0 rfl) ?_
          refine vp_callSi (cz_run (va_runSN (As := [.int (nI q0)]) (rest := []) ⟨hx, hb, hml, hown, hts⟩ (c_X6_placeOf l dC dI cI cB (nI q0) ) ⟨(va_cnB 1 hts gX3_find_X6_placeOf_n35 rfl rfl rfl (hN.2 (RX3, 35, yX6_placeOf) (by decide)) (hts (.initialized RX6) (List.mem_of_getElem? (i := 20) rfl)) (by decide +kernel) ⟨Nat.le_of_ble_eq_true rfl, Nat.le_of_ble_eq_true rfl⟩), hts (.static yX6_placeOf) (List.mem_of_getElem? (i := 19) rfl), trivial⟩ (cz_pS (hP.sub (ws' := []) [] rfl) hN) rfl rfl hl.1 rfl (lv_room (Nat.le_of_ble_eq_true rfl)) dX3_find_50 ⟨Nat.le_of_ble_eq_true rfl, Nat.le_of_ble_eq_true rfl⟩)) (fun r_8 hr_8 => ?_)
          refine lv_iload_n hx hb dX3_find_53 rfl (lv_at hl 4 rfl) ?_
          refine lv_icmp_ne (tgt := 60) hx hb dX3_find_54 (by decide) (fun c_9 => ?_) (fun c_9 => ?_)
          · refine lv_iconst (v := 0) hx hb dX3_find_60 (by decide) ?_
            refine lv_istore (lv' := [(6, .int 0), (5, .int (nI q0)), (0, .ref rt), (1, .ref hs), (2, .int (nI s0)), (3, .int p2), (4, .int (nI i23))]) hx hb dX3_find_61 hl (by decide) rfl (fun ls hl => ?_)
            have lp63 : ∀ (n63 : Nat) (i63 : Nat) (z1 : Nat → Int32) (z2 : Nat → Int32) (z3 : Nat → Int32) (zu : Nat) (H : Heap) (locs : List Loc) (ls : Array Slot), i63 + n63 = 3 → cw_C (cw_okC w0 (cz_pp g2 k0) g1 g2 ft fb k0) (cw_ex (cw_nxC (w0 ||| cz_pp g2 k0)) (cw_okC w0 (cz_pp g2 k0) g1 g2 ft fb k0) q0 (cw_E (cw_nxC (w0 ||| cz_pp g2 k0)) (cw_okC w0 (cz_pp g2 k0) g1 g2 ft fb k0) s0 i23) i63) z1 z2 z3 zu → va_P (dC, dI) vwCl [(hs, .inr (4, [.ref hh, .ref hc, .ref si])), (hh, .inr (1, [.int w0, .int w1, .int w2])), (hc, .inr (0, [.int a0, .int a1, .int (nI k0), .ref k1, .ref k2, .ref k3, .ref k4, .ref k5])), (k1, .inl (cI, 6, .inl g1)), (k2, .inl (cI, 6, .inl g2)), (si, .inr (5, [.ref tw, .ref tb])), (tw, .inl (cI, 400, .inl ft)), (tb, .inl (cI, 400, .inl fb)), (rt, .inr (3, [.ref q1, .ref q2, .ref q3, .int (nI zu)])), (q1, .inl (cI, 80, .inl z1)), (q2, .inl (cI, 80, .inl z2)), (q3, .inl (cI, 80, .inl z3))] H → va_D A [(hs, .inr (4, [.ref hh, .ref hc, .ref si])), (hh, .inr (1, [.int w0, .int w1, .int w2])), (hc, .inr (0, [.int a0, .int a1, .int (nI k0), .ref k1, .ref k2, .ref k3, .ref k4, .ref k5])), (k1, .inl (cI, 6, .inl g1)), (k2, .inl (cI, 6, .inl g2)), (si, .inr (5, [.ref tw, .ref tb])), (tw, .inl (cI, 400, .inl ft)), (tb, .inl (cI, 400, .inl fb)), (rt, .inr (3, [.ref q1, .ref q2, .ref q3, .int (nI zu)])), (q1, .inl (cI, 80, .inl z1)), (q2, .inl (cI, 80, .inl z2)), (q3, .inl (cI, 80, .inl z3))] → va_S A s.heap H locs → lv_has ls 8 [(0, .ref rt), (1, .ref hs), (2, .int (nI s0)), (3, .int p2), (4, .int (nI i23)), (5, .int (nI q0)), (6, .int (nI i63))] → W p l e ({ frames := 5, cells := 0, slots := 0, locals := 123 } : Room) s m #[Value.ref rt, Value.ref hs, Value.int (nI s0), Value.int p2] below meth c H locs 0 0 Q (F0 m 63 ls []) := by
              intro n63
              induction n63 with
              | zero =>
                intro i63 z1 z2 z3 zu H locs ls hi63 hCz hP hD hS hl
                obtain rfl : i63 = 3 := by omega
                have hl : lv_has ls 8 [(0, .ref rt), (1, .ref hs), (2, .int (nI s0)), (3, .int p2), (4, .int (nI i23)), (5, .int (nI q0)), (6, .int 3)] := hl
                refine lv_iload hx hb dX3_find_63 (lv_at hl 6 rfl) ?_
                refine lv_iconst (v := 3) hx hb dX3_find_65 (by decide) ?_
                refine lv_icmp_ge (tgt := 162) hx hb dX3_find_66 (by decide) (fun _ => ?_) (fun c => absurd (by decide) c)
                refine lv_iinc (v := (nI (i23 + 1))) (lv' := [(4, .int (nI (i23 + 1))), (0, .ref rt), (1, .ref hs), (2, .int (nI s0)), (3, .int p2), (5, .int (nI q0)), (6, .int 3)]) hx hb dX3_find_162 hl (k := 4) rfl (nI_add i23 1) (by decide) rfl (fun ls hl => ?_)
                refine lv_goto (tgt := 23) hx hb dX3_find_165 (by decide) ?_
                exact ih23 (i23 + 1) z1 z2 z3 zu H locs ls (by omega) (cw_C_u hCz (cw_exJ hs0 hq0 hv0 (Nat.le_refl 3)).1) (by rw [cw_E_s hq0 hlt0 eq0]; exact hCz) (cw_no_s hlt0 hno eq0 hr_8 c_9) hP hD hS (lv_sub hl [1, 2, 3, 4, 0] rfl)
              | succ n63 ih63 =>
                intro i63 z1 z2 z3 zu H locs ls hi63 hCz hP hD hS hl
                refine lv_iload hx hb dX3_find_63 (lv_at hl 6 rfl) ?_
                refine lv_iconst (v := 3) hx hb dX3_find_65 (by decide) ?_
                refine lv_icmp_ge (tgt := 162) hx hb dX3_find_66 (by decide) (fun c_10 => ?_) (fun c_10 => ?_)
                · exact absurd c_10 (show ¬ (3 : Int32) ≤ nI i63 from nI_ge (a := i63) (b := 3) (by omega) (by omega))
                · refine lv_aload_n hx hb dX3_find_69 rfl (lv_at hl 1 rfl) ?_
                  refine lv_iload hx hb dX3_find_70 (lv_at hl 5 rfl) ?_
                  refine lv_iload hx hb dX3_find_72 (lv_at hl 6 rfl) ?_
                  refine vp_callSi (cz_run (va_runV (As := [.int (nI q0), .int (nI i63)]) (rest := []) ⟨hx, hb, hml, hown, hts⟩ (c_X4_after l dC dI cI cB tR tC hs (nI q0) (nI i63) hh hc si w0 w1 w2 a0 a1 k0 k1 k2 k3 k4 k5 g2 hk6) (cwV 2 hts gX3_find_X4_after rfl rfl rfl (by decide +kernel) ⟨Nat.le_of_ble_eq_true rfl, Nat.le_of_ble_eq_true rfl⟩) (cz_pVT (hP.sub (ws' := [(hs, .inr (4, [.ref hh, .ref hc, .ref si])), (hh, .inr (1, [.int w0, .int w1, .int w2])), (hc, .inr (0, [.int a0, .int a1, .int (nI k0), .ref k1, .ref k2, .ref k3, .ref k4, .ref k5])), (k2, .inl (cI, 6, .inl g2))]) [0, 1, 2, 4] rfl) hN (hSt.pass hS) (va_recv hK (hP.sub (ws' := [(hs, .inr (4, [.ref hh, .ref hc, .ref si])), (hh, .inr (1, [.int w0, .int w1, .int w2])), (hc, .inr (0, [.int a0, .int a1, .int (nI k0), .ref k1, .ref k2, .ref k3, .ref k4, .ref k5])), (k2, .inl (cI, 6, .inl g2))]) [0, 1, 2, 4] rfl) (ci := 4) (q0 := 0) rfl rfl)) rfl rfl hl.1 rfl (lv_room (Nat.le_of_ble_eq_true rfl)) dX3_find_74 ⟨Nat.le_of_ble_eq_true rfl, Nat.le_of_ble_eq_true rfl⟩)) (fun r_11 hr_11 => ?_)
                  refine lv_istore (lv' := [(7, .int r_11), (0, .ref rt), (1, .ref hs), (2, .int (nI s0)), (3, .int p2), (4, .int (nI i23)), (5, .int (nI q0)), (6, .int (nI i63))]) hx hb dX3_find_77 hl (by decide) rfl (fun ls hl => ?_)
                  refine lv_iload hx hb dX3_find_79 (lv_at hl 0 rfl) ?_
                  refine vp_callSi (cz_run (va_runS (As := [.int r_11]) (rest := []) ⟨hx, hb, hml, hown, hts⟩ (c_X3_isStance l dC dI cI cB r_11 ) (va_cwS 1 hts gX3_find_X3_isStance rfl rfl rfl (by decide +kernel) ⟨Nat.le_of_ble_eq_true rfl, Nat.le_of_ble_eq_true rfl⟩) (cz_pS (hP.sub (ws' := []) [] rfl) hN) rfl rfl hl.1 rfl (lv_room (Nat.le_of_ble_eq_true rfl)) dX3_find_81 ⟨Nat.le_of_ble_eq_true rfl, Nat.le_of_ble_eq_true rfl⟩)) (fun r_12 hr_12 => ?_)
                  rcases hr_12 with ⟨rfl, hr_12⟩ | ⟨rfl, hr_12⟩
                  · refine lv_if_eq (tgt := 156) hx hb dX3_find_84 (by decide) (fun _ => ?_) (fun c => absurd (by decide) c)
                    refine lv_iinc (v := (nI (i63 + 1))) (lv' := [(6, .int (nI (i63 + 1))), (7, .int r_11), (0, .ref rt), (1, .ref hs), (2, .int (nI s0)), (3, .int p2), (4, .int (nI i23)), (5, .int (nI q0))]) hx hb dX3_find_156 hl (k := 7) rfl (nI_add i63 1) (by decide) rfl (fun ls hl => ?_)
                    refine lv_goto (tgt := 63) hx hb dX3_find_159 (by decide) ?_
                    exact ih63 (i63 + 1) z1 z2 z3 zu H locs ls (by omega) (cw_C1 hCz (cw_nx_no hr_11 hr_12)) hP hD hS (lv_sub hl [2, 3, 4, 5, 6, 7, 0] rfl)
                  · refine lv_if_eq (tgt := 156) hx hb dX3_find_84 (by decide) (fun c => absurd c (by decide)) (fun _ => ?_)
                    refine lv_aload_n hx hb dX3_find_87 rfl (lv_at hl 1 rfl) ?_
                    refine va_get (D := (dC, dI)) (ci := 3) (v := .ref q2) (C := RX3) (T := TX3) (N := 4) hx hb hts hiX3 hown hK hP 8 rfl rfl 1 (by decide) (hts (.fieldLink RX3 15 "LeftProfile$Route" "lengths" "[I") (List.mem_of_getElem? (i := 1) rfl)) (fun _ h9 => h9) rfl dX3_find_88 ?_
                    refine lv_iload hx hb dX3_find_91 (lv_at hl 0 rfl) ?_
                    obtain ⟨n1, hn1, en1⟩ := cw_i79 hr_12
                    refine cz_i (y := nI n1) en1 ?_
                    refine va_iald hx hb hK hP 10 0 rfl rfl (vp_in_nI (n := n1) (by omega) (by omega)) dX3_find_93 ?_
                    refine cz_i (y := (z2 n1)) (congrArg z2 (nI_clamp (n := n1) (by omega))) ?_
                    refine lv_iconst (v := (-1)) hx hb dX3_find_94 (by decide) ?_
                    refine lv_icmp_ne (tgt := 156) hx hb dX3_find_95 (by decide) (fun c_13 => ?_) (fun c_13 => ?_)
                    · refine lv_iinc (v := (nI (i63 + 1))) (lv' := [(6, .int (nI (i63 + 1))), (7, .int r_11), (0, .ref rt), (1, .ref hs), (2, .int (nI s0)), (3, .int p2), (4, .int (nI i23)), (5, .int (nI q0))]) hx hb dX3_find_156 hl (k := 7) rfl (nI_add i63 1) (by decide) rfl (fun ls hl => ?_)
                      refine lv_goto (tgt := 63) hx hb dX3_find_159 (by decide) ?_
                      exact ih63 (i63 + 1) z1 z2 z3 zu H locs ls (by omega) (cw_C2 hCz hn1 (cw_nx_of hr_11 hn1 en1) c_13) hP hD hS (lv_sub hl [2, 3, 4, 5, 6, 7, 0] rfl)
                    · refine lv_aload_n hx hb dX3_find_98 rfl (lv_at hl 2 rfl) ?_
                      refine lv_iload hx hb dX3_find_99 (lv_at hl 0 rfl) ?_
                      refine cz_i (y := nI n1) en1 ?_
                      refine lv_aload_n hx hb dX3_find_101 rfl (lv_at hl 2 rfl) ?_
                      refine va_get (D := (dC, dI)) (ci := 4) (v := .ref hh) (C := RX4) (T := TX4) (N := 3) hx hb hts hiX4 hown hK hP 0 rfl rfl 0 (by decide) (hts (.fieldLink RX3 49 "LeftProfile$Scene" "hall" "LLeftProfile$Hall;") (List.mem_of_getElem? (i := 4) rfl)) (fun _ h9 => h9) rfl dX3_find_102 ?_
                      refine va_get (D := (dC, dI)) (ci := 1) (v := .int w0) (C := RX1) (T := TX1) (N := 3) hx hb hts hiX1 hown hK hP 1 rfl rfl 0 (by decide) (hts (.fieldLink RX3 53 "LeftProfile$Hall" "walls" "I") (List.mem_of_getElem? (i := 5) rfl)) (fun _ h9 => h9) rfl dX3_find_105 ?_
                      refine vp_callSi (cz_run (va_runV (As := [.int (nI n1), .int w0]) (rest := []) ⟨hx, hb, hml, hown, hts⟩ (c_X4_guiltyIf l dC dI cI cB hs (nI n1) w0 hh hc si w0 w1 w2 a0 a1 k0 k1 k2 k3 k4 k5 g1 g2 tw tb ft fb hk6) (cwV 2 hts gX3_find_X4_guiltyIf rfl rfl rfl (by decide +kernel) ⟨Nat.le_of_ble_eq_true rfl, Nat.le_of_ble_eq_true rfl⟩) (cz_pV (hP.sub (ws' := [(hs, .inr (4, [.ref hh, .ref hc, .ref si])), (hh, .inr (1, [.int w0, .int w1, .int w2])), (hc, .inr (0, [.int a0, .int a1, .int (nI k0), .ref k1, .ref k2, .ref k3, .ref k4, .ref k5])), (k1, .inl (cI, 6, .inl g1)), (k2, .inl (cI, 6, .inl g2)), (si, .inr (5, [.ref tw, .ref tb])), (tw, .inl (cI, 400, .inl ft)), (tb, .inl (cI, 400, .inl fb))]) [0, 1, 2, 3, 4, 5, 6, 7] rfl) hN (va_recv hK (hP.sub (ws' := [(hs, .inr (4, [.ref hh, .ref hc, .ref si])), (hh, .inr (1, [.int w0, .int w1, .int w2])), (hc, .inr (0, [.int a0, .int a1, .int (nI k0), .ref k1, .ref k2, .ref k3, .ref k4, .ref k5])), (k1, .inl (cI, 6, .inl g1)), (k2, .inl (cI, 6, .inl g2)), (si, .inr (5, [.ref tw, .ref tb])), (tw, .inl (cI, 400, .inl ft)), (tb, .inl (cI, 400, .inl fb))]) [0, 1, 2, 3, 4, 5, 6, 7] rfl) (ci := 4) (q0 := 0) rfl rfl)) rfl rfl hl.1 rfl (lv_room (Nat.le_of_ble_eq_true rfl)) dX3_find_108 ⟨Nat.le_of_ble_eq_true rfl, Nat.le_of_ble_eq_true rfl⟩)) (fun r_14 hr_14 => ?_)
                      refine lv_if_eq (tgt := 126) hx hb dX3_find_111 (by decide) (fun c_15 => ?_) (fun c_15 => ?_)
                      · refine lv_aload_n hx hb dX3_find_126 rfl (lv_at hl 1 rfl) ?_
                        refine lv_iload hx hb dX3_find_127 (lv_at hl 0 rfl) ?_
                        refine cz_i (y := nI n1) en1 ?_
                        refine lv_aload_n hx hb dX3_find_129 rfl (lv_at hl 1 rfl) ?_
                        refine lv_iload hx hb dX3_find_130 (lv_at hl 6 rfl) ?_
                        refine vp_callSi (cz_run (va_runV (As := [.int (nI q0)]) (rest := [.int (nI n1), .ref rt]) ⟨hx, hb, hml, hown, hts⟩ (c_X3_lengthTo l dC dI cI cB rt (nI q0) q1 q2 q3 zu z2 ) (cwV 1 hts gX3_find_X3_lengthTo rfl rfl rfl (by decide +kernel) ⟨Nat.le_of_ble_eq_true rfl, Nat.le_of_ble_eq_true rfl⟩) (cz_pV (hP.sub (ws' := [(rt, .inr (3, [.ref q1, .ref q2, .ref q3, .int (nI zu)])), (q2, .inl (cI, 80, .inl z2))]) [8, 10] rfl) hN (va_recv hK (hP.sub (ws' := [(rt, .inr (3, [.ref q1, .ref q2, .ref q3, .int (nI zu)])), (q2, .inl (cI, 80, .inl z2))]) [8, 10] rfl) (ci := 3) (q0 := 0) rfl rfl)) rfl rfl hl.1 rfl (lv_room (Nat.le_of_ble_eq_true rfl)) dX3_find_132 ⟨Nat.le_of_ble_eq_true rfl, Nat.le_of_ble_eq_true rfl⟩)) (fun r_16 hr_16 => ?_)
                        refine lv_iconst (v := 1) hx hb dX3_find_135 (by decide) ?_
                        refine lv_iadd hx hb dX3_find_136 ?_
                        refine lv_topi (fun x_17 ex_17 => ?_)
                        refine lv_iload hx hb dX3_find_137 (lv_at hl 5 rfl) ?_
                        refine lv_if_ne (tgt := 147) hx hb dX3_find_139 (by decide) (fun c_18 => ?_) (fun c_18 => ?_)
                        · have c_18 : ¬ i23 = 0 := fun h => c_18 ((nI_eq (a := i23) (b := 0) (by omega) (by omega)).mpr h)
                          refine lv_aload_n hx hb dX3_find_147 rfl (lv_at hl 1 rfl) ?_
                          refine lv_iload hx hb dX3_find_148 (lv_at hl 6 rfl) ?_
                          refine vp_callSi (cz_run (va_runV (As := [.int (nI q0)]) (rest := [.int x_17, .int (nI n1), .ref rt]) ⟨hx, hb, hml, hown, hts⟩ (c_X3_firstTo l dC dI cI cB rt (nI q0) q1 q2 q3 zu z3 ) (cwV 1 hts gX3_find_X3_firstTo rfl rfl rfl (by decide +kernel) ⟨Nat.le_of_ble_eq_true rfl, Nat.le_of_ble_eq_true rfl⟩) (cz_pV (hP.sub (ws' := [(rt, .inr (3, [.ref q1, .ref q2, .ref q3, .int (nI zu)])), (q3, .inl (cI, 80, .inl z3))]) [8, 11] rfl) hN (va_recv hK (hP.sub (ws' := [(rt, .inr (3, [.ref q1, .ref q2, .ref q3, .int (nI zu)])), (q3, .inl (cI, 80, .inl z3))]) [8, 11] rfl) (ci := 3) (q0 := 0) rfl rfl)) rfl rfl hl.1 rfl (lv_room (Nat.le_of_ble_eq_true rfl)) dX3_find_150 ⟨Nat.le_of_ble_eq_true rfl, Nat.le_of_ble_eq_true rfl⟩)) (fun r_19 hr_19 => ?_)
                          have hu_ : zu < 80 := cw_C_lt hCz (cw_exJ hs0 hq0 hv0 (show i63 ≤ 3 by omega)).1 (by omega) hn1 c_13
                          have hPc := hP.sub (ws' := [(rt, .inr (3, [.ref q1, .ref q2, .ref q3, .int (nI zu)])), (q1, .inl (cI, 80, .inl z1)), (q2, .inl (cI, 80, .inl z2)), (q3, .inl (cI, 80, .inl z3))]) [8, 9, 10, 11] rfl
                          have hDc := hD.sub (ws' := [(rt, .inr (3, [.ref q1, .ref q2, .ref q3, .int (nI zu)])), (q1, .inl (cI, 80, .inl z1)), (q2, .inl (cI, 80, .inl z2)), (q3, .inl (cI, 80, .inl z3))]) [8, 9, 10, 11] (by decide) rfl
                          have hFc := va_free (wc := [(rt, .inr (3, [.ref q1, .ref q2, .ref q3, .int (nI zu)])), (q1, .inl (cI, 80, .inl z1)), (q2, .inl (cI, 80, .inl z2)), (q3, .inl (cI, 80, .inl z3))]) hD hS hA [8, 9, 10, 11] rfl
                          refine va_callv (va_runV (As := [.int (nI n1), .int x_17, .int r_19]) (rest := []) ⟨hx, hb, hml, hown, hts⟩ (c_X3_reach l dC dI cI cB rt n1 x_17 r_19 q1 q2 q3 zu z1 z2 z3 H.size hu_ hn1) (cwV 3 hts gX3_find_X3_reach rfl rfl rfl (by decide +kernel) ⟨Nat.le_of_ble_eq_true rfl, Nat.le_of_ble_eq_true rfl⟩) (cz_mV hPc hN hDc (va_recv hK hPc (ci := 3) (q0 := 0) rfl rfl)) rfl rfl hl.1 rfl (lv_room (Nat.le_of_ble_eq_true rfl)) dX3_find_153 ⟨Nat.le_of_ble_eq_true rfl, Nat.le_of_ble_eq_true rfl⟩) hS (fun q _ h => hFc q h) hFc (fun u t H1 locs ht hvm hr_20 hB hz1 hk1 hS => ?_)
                          obtain ⟨hP1, hD1⟩ := hB
                          rw [ht] at hP1
                          obtain ⟨hP, hD⟩ := va_join (wr := [(hs, .inr (4, [.ref hh, .ref hc, .ref si])), (hh, .inr (1, [.int w0, .int w1, .int w2])), (hc, .inr (0, [.int a0, .int a1, .int (nI k0), .ref k1, .ref k2, .ref k3, .ref k4, .ref k5])), (k1, .inl (cI, 6, .inl g1)), (k2, .inl (cI, 6, .inl g2)), (si, .inr (5, [.ref tw, .ref tb])), (tw, .inl (cI, 400, .inl ft)), (tb, .inl (cI, 400, .inl fb))]) (w1 := [(rt, .inr (3, [.ref q1, .ref q2, .ref q3, .int (nI (zu + 1))])), (q1, .inl (cI, 80, .inl (upd z1 zu (nI n1)))), (q2, .inl (cI, 80, .inl (upd z2 n1 x_17))), (q3, .inl (cI, 80, .inl (upd z3 n1 r_19)))]) hP hD [8, 9, 10, 11] [0, 1, 2, 3, 4, 5, 6, 7] rfl rfl (by decide) (by decide) hk1 hFc hP1 hD1
                          generalize H1 = H at hP hS ⊢
                          have hP : va_P (dC, dI) vwCl [(hs, .inr (4, [.ref hh, .ref hc, .ref si])), (hh, .inr (1, [.int w0, .int w1, .int w2])), (hc, .inr (0, [.int a0, .int a1, .int (nI k0), .ref k1, .ref k2, .ref k3, .ref k4, .ref k5])), (k1, .inl (cI, 6, .inl g1)), (k2, .inl (cI, 6, .inl g2)), (si, .inr (5, [.ref tw, .ref tb])), (tw, .inl (cI, 400, .inl ft)), (tb, .inl (cI, 400, .inl fb)), (rt, .inr (3, [.ref q1, .ref q2, .ref q3, .int (nI (zu + 1))])), (q1, .inl (cI, 80, .inl (upd z1 zu (nI n1)))), (q2, .inl (cI, 80, .inl (upd z2 n1 x_17))), (q3, .inl (cI, 80, .inl (upd z3 n1 r_19)))] H := hP
                          have hD : va_D A [(hs, .inr (4, [.ref hh, .ref hc, .ref si])), (hh, .inr (1, [.int w0, .int w1, .int w2])), (hc, .inr (0, [.int a0, .int a1, .int (nI k0), .ref k1, .ref k2, .ref k3, .ref k4, .ref k5])), (k1, .inl (cI, 6, .inl g1)), (k2, .inl (cI, 6, .inl g2)), (si, .inr (5, [.ref tw, .ref tb])), (tw, .inl (cI, 400, .inl ft)), (tb, .inl (cI, 400, .inl fb)), (rt, .inr (3, [.ref q1, .ref q2, .ref q3, .int (nI (zu + 1))])), (q1, .inl (cI, 80, .inl (upd z1 zu (nI n1)))), (q2, .inl (cI, 80, .inl (upd z2 n1 x_17))), (q3, .inl (cI, 80, .inl (upd z3 n1 r_19)))] := hD
                          refine lv_iinc (v := (nI (i63 + 1))) (lv' := [(6, .int (nI (i63 + 1))), (7, .int r_11), (0, .ref rt), (1, .ref hs), (2, .int (nI s0)), (3, .int p2), (4, .int (nI i23)), (5, .int (nI q0))]) hx hb dX3_find_156 hl (k := 7) rfl (nI_add i63 1) (by decide) rfl (fun ls hl => ?_)
                          refine lv_goto (tgt := 63) hx hb dX3_find_159 (by decide) ?_
                          exact ih63 (i63 + 1) (upd z1 zu (nI n1)) (upd z2 n1 x_17) (upd z3 n1 r_19) (zu + 1) H locs ls (by omega) (cw_f1 (by omega) hs0 hlt0 hq0 eq0 hv0 (by omega) hCz hn1 (cw_nx_of hr_11 hn1 en1) c_13 (decide_eq_true (hr_14.symm.trans c_15)) hr_16 ex_17 (Or.inr ⟨c_18, hr_19⟩)) hP hD hS (lv_sub hl [2, 3, 4, 5, 6, 7, 0] rfl)
                        · have c_18 : i23 = 0 := (nI_eq (a := i23) (b := 0) (by omega) (by omega)).mp c_18
                          refine lv_iload hx hb dX3_find_142 (lv_at hl 7 rfl) ?_
                          refine lv_goto (tgt := 153) hx hb dX3_find_144 (by decide) ?_
                          have hu_ : zu < 80 := cw_C_lt hCz (cw_exJ hs0 hq0 hv0 (show i63 ≤ 3 by omega)).1 (by omega) hn1 c_13
                          have hPc := hP.sub (ws' := [(rt, .inr (3, [.ref q1, .ref q2, .ref q3, .int (nI zu)])), (q1, .inl (cI, 80, .inl z1)), (q2, .inl (cI, 80, .inl z2)), (q3, .inl (cI, 80, .inl z3))]) [8, 9, 10, 11] rfl
                          have hDc := hD.sub (ws' := [(rt, .inr (3, [.ref q1, .ref q2, .ref q3, .int (nI zu)])), (q1, .inl (cI, 80, .inl z1)), (q2, .inl (cI, 80, .inl z2)), (q3, .inl (cI, 80, .inl z3))]) [8, 9, 10, 11] (by decide) rfl
                          have hFc := va_free (wc := [(rt, .inr (3, [.ref q1, .ref q2, .ref q3, .int (nI zu)])), (q1, .inl (cI, 80, .inl z1)), (q2, .inl (cI, 80, .inl z2)), (q3, .inl (cI, 80, .inl z3))]) hD hS hA [8, 9, 10, 11] rfl
                          refine va_callv (va_runV (As := [.int (nI n1), .int x_17, .int (nI i63)]) (rest := []) ⟨hx, hb, hml, hown, hts⟩ (c_X3_reach l dC dI cI cB rt n1 x_17 (nI i63) q1 q2 q3 zu z1 z2 z3 H.size hu_ hn1) (cwV 3 hts gX3_find_X3_reach rfl rfl rfl (by decide +kernel) ⟨Nat.le_of_ble_eq_true rfl, Nat.le_of_ble_eq_true rfl⟩) (cz_mV hPc hN hDc (va_recv hK hPc (ci := 3) (q0 := 0) rfl rfl)) rfl rfl hl.1 rfl (lv_room (Nat.le_of_ble_eq_true rfl)) dX3_find_153 ⟨Nat.le_of_ble_eq_true rfl, Nat.le_of_ble_eq_true rfl⟩) hS (fun q _ h => hFc q h) hFc (fun u t H1 locs ht hvm hr_21 hB hz1 hk1 hS => ?_)
                          obtain ⟨hP1, hD1⟩ := hB
                          rw [ht] at hP1
                          obtain ⟨hP, hD⟩ := va_join (wr := [(hs, .inr (4, [.ref hh, .ref hc, .ref si])), (hh, .inr (1, [.int w0, .int w1, .int w2])), (hc, .inr (0, [.int a0, .int a1, .int (nI k0), .ref k1, .ref k2, .ref k3, .ref k4, .ref k5])), (k1, .inl (cI, 6, .inl g1)), (k2, .inl (cI, 6, .inl g2)), (si, .inr (5, [.ref tw, .ref tb])), (tw, .inl (cI, 400, .inl ft)), (tb, .inl (cI, 400, .inl fb))]) (w1 := [(rt, .inr (3, [.ref q1, .ref q2, .ref q3, .int (nI (zu + 1))])), (q1, .inl (cI, 80, .inl (upd z1 zu (nI n1)))), (q2, .inl (cI, 80, .inl (upd z2 n1 x_17))), (q3, .inl (cI, 80, .inl (upd z3 n1 (nI i63))))]) hP hD [8, 9, 10, 11] [0, 1, 2, 3, 4, 5, 6, 7] rfl rfl (by decide) (by decide) hk1 hFc hP1 hD1
                          generalize H1 = H at hP hS ⊢
                          have hP : va_P (dC, dI) vwCl [(hs, .inr (4, [.ref hh, .ref hc, .ref si])), (hh, .inr (1, [.int w0, .int w1, .int w2])), (hc, .inr (0, [.int a0, .int a1, .int (nI k0), .ref k1, .ref k2, .ref k3, .ref k4, .ref k5])), (k1, .inl (cI, 6, .inl g1)), (k2, .inl (cI, 6, .inl g2)), (si, .inr (5, [.ref tw, .ref tb])), (tw, .inl (cI, 400, .inl ft)), (tb, .inl (cI, 400, .inl fb)), (rt, .inr (3, [.ref q1, .ref q2, .ref q3, .int (nI (zu + 1))])), (q1, .inl (cI, 80, .inl (upd z1 zu (nI n1)))), (q2, .inl (cI, 80, .inl (upd z2 n1 x_17))), (q3, .inl (cI, 80, .inl (upd z3 n1 (nI i63))))] H := hP
                          have hD : va_D A [(hs, .inr (4, [.ref hh, .ref hc, .ref si])), (hh, .inr (1, [.int w0, .int w1, .int w2])), (hc, .inr (0, [.int a0, .int a1, .int (nI k0), .ref k1, .ref k2, .ref k3, .ref k4, .ref k5])), (k1, .inl (cI, 6, .inl g1)), (k2, .inl (cI, 6, .inl g2)), (si, .inr (5, [.ref tw, .ref tb])), (tw, .inl (cI, 400, .inl ft)), (tb, .inl (cI, 400, .inl fb)), (rt, .inr (3, [.ref q1, .ref q2, .ref q3, .int (nI (zu + 1))])), (q1, .inl (cI, 80, .inl (upd z1 zu (nI n1)))), (q2, .inl (cI, 80, .inl (upd z2 n1 x_17))), (q3, .inl (cI, 80, .inl (upd z3 n1 (nI i63))))] := hD
                          refine lv_iinc (v := (nI (i63 + 1))) (lv' := [(6, .int (nI (i63 + 1))), (7, .int r_11), (0, .ref rt), (1, .ref hs), (2, .int (nI s0)), (3, .int p2), (4, .int (nI i23)), (5, .int (nI q0))]) hx hb dX3_find_156 hl (k := 7) rfl (nI_add i63 1) (by decide) rfl (fun ls hl => ?_)
                          refine lv_goto (tgt := 63) hx hb dX3_find_159 (by decide) ?_
                          exact ih63 (i63 + 1) (upd z1 zu (nI n1)) (upd z2 n1 x_17) (upd z3 n1 (nI i63)) (zu + 1) H locs ls (by omega) (cw_f1 (by omega) hs0 hlt0 hq0 eq0 hv0 (by omega) hCz hn1 (cw_nx_of hr_11 hn1 en1) c_13 (decide_eq_true (hr_14.symm.trans c_15)) hr_16 ex_17 (Or.inl ⟨c_18, rfl⟩)) hP hD hS (lv_sub hl [2, 3, 4, 5, 6, 7, 0] rfl)
                      · refine lv_aload_n hx hb dX3_find_114 rfl (lv_at hl 1 rfl) ?_
                        refine va_get (D := (dC, dI)) (ci := 3) (v := .ref q2) (C := RX3) (T := TX3) (N := 4) hx hb hts hiX3 hown hK hP 8 rfl rfl 1 (by decide) (hts (.fieldLink RX3 15 "LeftProfile$Route" "lengths" "[I") (List.mem_of_getElem? (i := 1) rfl)) (fun _ h9 => h9) rfl dX3_find_115 ?_
                        refine lv_iload hx hb dX3_find_118 (lv_at hl 0 rfl) ?_
                        refine cz_i (y := nI n1) en1 ?_
                        refine lv_bipush (v := (-2)) hx hb dX3_find_120 (by decide) ?_
                        refine va_iast hx hb hK hP hD hS 10 0 rfl rfl (vp_in_nI (n := n1) (by omega) (by omega)) dX3_find_122 (fun H locs hP hD hS => ?_)
                        rw [show (nI n1).toNatClampNeg = n1 from nI_clamp (n := n1) (by omega)] at hP hD
                        have hP : va_P (dC, dI) vwCl [(hs, .inr (4, [.ref hh, .ref hc, .ref si])), (hh, .inr (1, [.int w0, .int w1, .int w2])), (hc, .inr (0, [.int a0, .int a1, .int (nI k0), .ref k1, .ref k2, .ref k3, .ref k4, .ref k5])), (k1, .inl (cI, 6, .inl g1)), (k2, .inl (cI, 6, .inl g2)), (si, .inr (5, [.ref tw, .ref tb])), (tw, .inl (cI, 400, .inl ft)), (tb, .inl (cI, 400, .inl fb)), (rt, .inr (3, [.ref q1, .ref q2, .ref q3, .int (nI zu)])), (q1, .inl (cI, 80, .inl z1)), (q2, .inl (cI, 80, .inl (upd z2 n1 (-2)))), (q3, .inl (cI, 80, .inl z3))] H := hP
                        have hD : va_D A [(hs, .inr (4, [.ref hh, .ref hc, .ref si])), (hh, .inr (1, [.int w0, .int w1, .int w2])), (hc, .inr (0, [.int a0, .int a1, .int (nI k0), .ref k1, .ref k2, .ref k3, .ref k4, .ref k5])), (k1, .inl (cI, 6, .inl g1)), (k2, .inl (cI, 6, .inl g2)), (si, .inr (5, [.ref tw, .ref tb])), (tw, .inl (cI, 400, .inl ft)), (tb, .inl (cI, 400, .inl fb)), (rt, .inr (3, [.ref q1, .ref q2, .ref q3, .int (nI zu)])), (q1, .inl (cI, 80, .inl z1)), (q2, .inl (cI, 80, .inl (upd z2 n1 (-2)))), (q3, .inl (cI, 80, .inl z3))] := hD
                        refine lv_goto (tgt := 156) hx hb dX3_find_123 (by decide) ?_
                        refine lv_iinc (v := (nI (i63 + 1))) (lv' := [(6, .int (nI (i63 + 1))), (7, .int r_11), (0, .ref rt), (1, .ref hs), (2, .int (nI s0)), (3, .int p2), (4, .int (nI i23)), (5, .int (nI q0))]) hx hb dX3_find_156 hl (k := 7) rfl (nI_add i63 1) (by decide) rfl (fun ls hl => ?_)
                        refine lv_goto (tgt := 63) hx hb dX3_find_159 (by decide) ?_
                        exact ih63 (i63 + 1) z1 (upd z2 n1 (-2)) z3 zu H locs ls (by omega) (cw_C3 hCz (cw_exJ hs0 hq0 hv0 (show i63 ≤ 3 by omega)).1 (by omega) hn1 (cw_nx_of hr_11 hn1 en1) c_13 (decide_eq_false (fun e_ => c_15 (hr_14.trans e_)))) hP hD hS (lv_sub hl [2, 3, 4, 5, 6, 7, 0] rfl)
            exact lp63 3 0 y1 y2 y3 yu H locs ls (by omega) hC hP hD hS (lv_sub hl [2, 3, 4, 5, 6, 1, 0] rfl)
          · refine lv_iload hx hb dX3_find_57 (lv_at hl 0 rfl) ?_
            refine W.widen (k := 0) (n := 0) (Nat.le_of_ble_eq_true rfl) (Nat.le_of_ble_eq_true rfl) ?_
            have hP9 := hP.sub (ws' := [(rt, .inr (3, [.ref q1, .ref q2, .ref q3, .int (nI yu)])), (q1, .inl (cI, 80, .inl y1)), (q2, .inl (cI, 80, .inl y2)), (q3, .inl (cI, 80, .inl y3)), (hs, .inr (4, [.ref hh, .ref hc, .ref si])), (hh, .inr (1, [.int w0, .int w1, .int w2])), (hc, .inr (0, [.int a0, .int a1, .int (nI k0), .ref k1, .ref k2, .ref k3, .ref k4, .ref k5])), (k1, .inl (cI, 6, .inl g1)), (k2, .inl (cI, 6, .inl g2)), (si, .inr (5, [.ref tw, .ref tb])), (tw, .inl (cI, 400, .inl ft)), (tb, .inl (cI, 400, .inl fb))]) [8, 9, 10, 11, 0, 1, 2, 3, 4, 5, 6, 7] rfl
            have hD9 := hD.sub (ws' := [(rt, .inr (3, [.ref q1, .ref q2, .ref q3, .int (nI yu)])), (q1, .inl (cI, 80, .inl y1)), (q2, .inl (cI, 80, .inl y2)), (q3, .inl (cI, 80, .inl y3)), (hs, .inr (4, [.ref hh, .ref hc, .ref si])), (hh, .inr (1, [.int w0, .int w1, .int w2])), (hc, .inr (0, [.int a0, .int a1, .int (nI k0), .ref k1, .ref k2, .ref k3, .ref k4, .ref k5])), (k1, .inl (cI, 6, .inl g1)), (k2, .inl (cI, 6, .inl g2)), (si, .inr (5, [.ref tw, .ref tb])), (tw, .inl (cI, 400, .inl ft)), (tb, .inl (cI, 400, .inl fb))]) [8, 9, 10, 11, 0, 1, 2, 3, 4, 5, 6, 7] (by decide) rfl
            rw [hQ]; exact W.iret (v := (nI q0)) hx hb hr (fun t ht hW => ⟨⟨(nI q0), (), rfl, (Or.inl ⟨i23, (cw_hit_of hlt0 hno eq0 hr_8 c_9), eq0.symm⟩), ⟨yu, y1, y2, y3, hyu, (Or.inl ⟨i23, q0, (cw_hit_of hlt0 hno eq0 hr_8 c_9), hq0, eq0, ((hC.2.2 q0 hq0).1 hv0).1, ((hC.2.2 q0 hq0).1 hv0).2⟩), by rw [ht]; exact hP9, hD9⟩⟩, hS.F ht⟩) hS.2.2 dX3_find_59
  exact lp23 80 0 (upd v1 0 (nI s0)) (upd f_2 s0 0) (upd v3 s0 (-1)) (0 + 1) H locs ls (by omega) (by omega) (cw_C0 hs0 (cw_fil80 hr_1_f)) (fun i h => absurd h (Nat.not_lt_zero _)) hP hD hS (lv_sub hl [1, 2, 3, 4, 0] rfl)
