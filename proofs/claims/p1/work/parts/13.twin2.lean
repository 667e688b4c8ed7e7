set_option maxHeartbeats 4000000 in
set_option maxRecDepth 100000 in
theorem c_guiltySet_h (l : Launch) (dC : Nat → ClassId) (dI : Nat → Nat → Nat) (cI cB : ClassId) (h0 : Nat) (m1 : Nat) (m2 : Nat) (m3 : Nat) (m4 : Nat) (m5 : Nat) (pg : Nat) (m6 : Nat) (m7 : Nat) (m8 : Nat) (m9 : Nat) (m10 : Nat) (m11 : Nat) (m12 : Nat) (hv : Int64) : Met l yX7_guiltySet wsX7_guiltySet ({ frames := 0, cells := 0, slots := 0, locals := 0 }) (cz_Pp dC dI cI cB [.ref h0] [(h0, .inr (7, [.int 0, .int 0, .int 0, .int (-1), .int (-1), .int 0, .int 0, .ref m1, .ref m2, .ref m3, .ref m4, .ref m5, .int 0, .ref pg, .int 0, .int 0, .ref m6, .ref m7, .ref m8, .long 0, .int 0, .int 0, .int 0, .int 0, .int 0, .int 0, .ref m9, .ref m10, .ref m11, .ref m12, .long hv]))]) (vp_Si (fun r : Int32 => r = 0)) 0 0 (fun _ => False) := by
  refine Met.ofW (cc := cX7_guiltySet) (maxL := 3) (ret := (some .int)) (by decide) rfl ?_
  intro p e s m args below meth c s₁ B hml hv
  obtain ⟨rfl, hP, hN⟩ := hv
  have hx := B.exec
  have hb := B.bytes
  have hr := B.returns
  have hts := atoms_spec (ws := wsX7_guiltySet) B.pre
  have hown : s.vm.findClass RX7 = some m.cls := findClass_of_methodNamed B.named
  have hlocks := B.notSynchronized
  have hK := hN.1
  have hiX7 : ∀ w ∈ wsX70, w ∈ wsX7_guiltySet := (fun _ h => List.mem_cons_of_mem _ (List.mem_append_right _ h))
  have hl := lv_entry ([.ref h0]) (n := 3) (Nat.le_of_ble_eq_true rfl)
  rw [lg_entry_eq]
  generalize (lg_sl ([.ref h0]) ++ List.replicate (3 - (lg_sl ([.ref h0])).length) Slot.unset).toArray = ls at hl ⊢
  have hl : lv_has ls 3 [(0, .ref h0)] := hl
  refine lv_iconst (v := 0) hx hb dX7_guiltySet_0 (by decide) ?_
  refine lv_istore_n (lv' := [(1, .int 0), (0, .ref h0)]) hx hb dX7_guiltySet_1 rfl hl (by decide) rfl (fun ls hl => ?_)
  refine lv_iconst (v := 0) hx hb dX7_guiltySet_2 (by decide) ?_
  refine lv_istore_n (lv' := [(2, .int 0), (1, .int 0), (0, .ref h0)]) hx hb dX7_guiltySet_3 rfl hl (by decide) rfl (fun ls hl => ?_)
  refine lv_iload_n hx hb dX7_guiltySet_4 rfl (lv_at hl 0 rfl) ?_
  refine lv_aload_n hx hb dX7_guiltySet_5 rfl (lv_at hl 2 rfl) ?_
  refine va_get (D := (dC, dI)) (ci := 7) (v := .int 0) (C := RX7) (T := TX7) (N := 31) hx hb hts hiX7 hown hK hP 0 rfl rfl 6 (by decide) (hts (.fieldLink RX7 86 "LeftProfileModel" "courtiers" "I") (List.mem_of_getElem? (i := 1) rfl)) (fun _ h9 => h9) rfl dX7_guiltySet_6 ?_
  refine lv_icmp_ge (tgt := 36) hx hb dX7_guiltySet_9 (by decide) (fun _ => ?_) (fun c => absurd (by decide) c)
  refine lv_iload_n hx hb dX7_guiltySet_36 rfl (lv_at hl 1 rfl) ?_
  exact W.iret (v := 0) hx hb hr (fun t ht hW => ⟨0, rfl, rfl, ht⟩) (fun _ h => absurd h List.not_mem_nil) dX7_guiltySet_37

set_option maxHeartbeats 4000000 in
set_option maxRecDepth 100000 in
theorem c_toldMany_h (l : Launch) (dC : Nat → ClassId) (dI : Nat → Nat → Nat) (cI cB : ClassId) (h0 : Nat) (m1 : Nat) (m2 : Nat) (m3 : Nat) (m4 : Nat) (m5 : Nat) (pg : Nat) (m6 : Nat) (m7 : Nat) (m8 : Nat) (m9 : Nat) (m10 : Nat) (m11 : Nat) (m12 : Nat) (hv : Int64) : Met l yX7_toldMany wsX7_toldMany ({ frames := 0, cells := 0, slots := 0, locals := 0 }) (cz_Pp dC dI cI cB [.ref h0] [(h0, .inr (7, [.int 0, .int 0, .int 0, .int (-1), .int (-1), .int 0, .int 0, .ref m1, .ref m2, .ref m3, .ref m4, .ref m5, .int 0, .ref pg, .int 0, .int 0, .ref m6, .ref m7, .ref m8, .long 0, .int 0, .int 0, .int 0, .int 0, .int 0, .int 0, .ref m9, .ref m10, .ref m11, .ref m12, .long hv]))]) (vp_Si (fun r : Int32 => r = 0)) 0 0 (fun _ => False) := by
  refine Met.ofW (cc := cX7_toldMany) (maxL := 3) (ret := (some .int)) (by decide) rfl ?_
  intro p e s m args below meth c s₁ B hml hv
  obtain ⟨rfl, hP, hN⟩ := hv
  have hx := B.exec
  have hb := B.bytes
  have hr := B.returns
  have hts := atoms_spec (ws := wsX7_toldMany) B.pre
  have hown : s.vm.findClass RX7 = some m.cls := findClass_of_methodNamed B.named
  have hlocks := B.notSynchronized
  have hK := hN.1
  have hiX7 : ∀ w ∈ wsX70, w ∈ wsX7_toldMany := (fun _ h => List.mem_cons_of_mem _ (List.mem_append_right _ h))
  have hl := lv_entry ([.ref h0]) (n := 3) (Nat.le_of_ble_eq_true rfl)
  rw [lg_entry_eq]
  generalize (lg_sl ([.ref h0]) ++ List.replicate (3 - (lg_sl ([.ref h0])).length) Slot.unset).toArray = ls at hl ⊢
  have hl : lv_has ls 3 [(0, .ref h0)] := hl
  refine lv_iconst (v := 0) hx hb dX7_toldMany_0 (by decide) ?_
  refine lv_istore_n (lv' := [(1, .int 0), (0, .ref h0)]) hx hb dX7_toldMany_1 rfl hl (by decide) rfl (fun ls hl => ?_)
  refine lv_iconst (v := 0) hx hb dX7_toldMany_2 (by decide) ?_
  refine lv_istore_n (lv' := [(2, .int 0), (1, .int 0), (0, .ref h0)]) hx hb dX7_toldMany_3 rfl hl (by decide) rfl (fun ls hl => ?_)
  refine lv_iload_n hx hb dX7_toldMany_4 rfl (lv_at hl 0 rfl) ?_
  refine lv_aload_n hx hb dX7_toldMany_5 rfl (lv_at hl 2 rfl) ?_
  refine va_get (D := (dC, dI)) (ci := 7) (v := .int 0) (C := RX7) (T := TX7) (N := 31) hx hb hts hiX7 hown hK hP 0 rfl rfl 6 (by decide) (hts (.fieldLink RX7 86 "LeftProfileModel" "courtiers" "I") (List.mem_of_getElem? (i := 1) rfl)) (fun _ h9 => h9) rfl dX7_toldMany_6 ?_
  refine lv_icmp_ge (tgt := 36) hx hb dX7_toldMany_9 (by decide) (fun _ => ?_) (fun c => absurd (by decide) c)
  refine lv_iload_n hx hb dX7_toldMany_36 rfl (lv_at hl 1 rfl) ?_
  exact W.iret (v := 0) hx hb hr (fun t ht hW => ⟨0, rfl, rfl, ht⟩) (fun _ h => absurd h List.not_mem_nil) dX7_toldMany_37

theorem c_X7_howMany_a1 (p0 : Int32) (c_1 : p0 = 0) : (0 : Int32) = cz_rc p0 := by first | (subst_vars; rfl) | ((try simp only [cz_rl, cz_ron, cz_r2, cz_r1, cz_rr, cz_rw, cz_rc]) <;> (repeat' split) <;> (first | rfl | ((try simp only [cz_in, cz_lt, cz_le, cz_eq, cz_l] at *) <;> (first | omega | (simp_all; done)))))
theorem c_X7_howMany_a2 (p0 : Int32) (c_1 : p0 = 1) : (0 : Int32) = cz_rc p0 := by first | (subst_vars; rfl) | ((try simp only [cz_rl, cz_ron, cz_r2, cz_r1, cz_rr, cz_rw, cz_rc]) <;> (repeat' split) <;> (first | rfl | ((try simp only [cz_in, cz_lt, cz_le, cz_eq, cz_l] at *) <;> (first | omega | (simp_all; done)))))
theorem c_X7_howMany_a3 (p0 : Int32) (c_1 : p0 = 2) : ((-1) : Int32) = cz_rc p0 := by first | (subst_vars; rfl) | ((try simp only [cz_rl, cz_ron, cz_r2, cz_r1, cz_rr, cz_rw, cz_rc]) <;> (repeat' split) <;> (first | rfl | ((try simp only [cz_in, cz_lt, cz_le, cz_eq, cz_l] at *) <;> (first | omega | (simp_all; done)))))
theorem c_X7_howMany_a4 (p0 : Int32) (c_1 : p0 = 3) : ((-1) : Int32) = cz_rc p0 := by first | (subst_vars; rfl) | ((try simp only [cz_rl, cz_ron, cz_r2, cz_r1, cz_rr, cz_rw, cz_rc]) <;> (repeat' split) <;> (first | rfl | ((try simp only [cz_in, cz_lt, cz_le, cz_eq, cz_l] at *) <;> (first | omega | (simp_all; done)))))
theorem c_X7_howMany_a5 (p0 : Int32) (c_1 : p0 = 4) : (0 : Int32) = cz_rc p0 := by first | (subst_vars; rfl) | ((try simp only [cz_rl, cz_ron, cz_r2, cz_r1, cz_rr, cz_rw, cz_rc]) <;> (repeat' split) <;> (first | rfl | ((try simp only [cz_in, cz_lt, cz_le, cz_eq, cz_l] at *) <;> (first | omega | (simp_all; done)))))
theorem c_X7_howMany_a6 (p0 : Int32) (c_1 : p0 = 5) : (0 : Int32) = cz_rc p0 := by first | (subst_vars; rfl) | ((try simp only [cz_rl, cz_ron, cz_r2, cz_r1, cz_rr, cz_rw, cz_rc]) <;> (repeat' split) <;> (first | rfl | ((try simp only [cz_in, cz_lt, cz_le, cz_eq, cz_l] at *) <;> (first | omega | (simp_all; done)))))
theorem c_X7_howMany_a7 (p0 : Int32) (c_1 : p0 = 6) : (0 : Int32) = cz_rc p0 := by first | (subst_vars; rfl) | ((try simp only [cz_rl, cz_ron, cz_r2, cz_r1, cz_rr, cz_rw, cz_rc]) <;> (repeat' split) <;> (first | rfl | ((try simp only [cz_in, cz_lt, cz_le, cz_eq, cz_l] at *) <;> (first | omega | (simp_all; done)))))
theorem c_X7_howMany_a8 (p0 : Int32) (c_1 : p0 = 7) : (0 : Int32) = cz_rc p0 := by first | (subst_vars; rfl) | ((try simp only [cz_rl, cz_ron, cz_r2, cz_r1, cz_rr, cz_rw, cz_rc]) <;> (repeat' split) <;> (first | rfl | ((try simp only [cz_in, cz_lt, cz_le, cz_eq, cz_l] at *) <;> (first | omega | (simp_all; done)))))
theorem c_X7_howMany_a9 (p0 : Int32) (c_1 : p0 = 8) : (0 : Int32) = cz_rc p0 := by first | (subst_vars; rfl) | ((try simp only [cz_rl, cz_ron, cz_r2, cz_r1, cz_rr, cz_rw, cz_rc]) <;> (repeat' split) <;> (first | rfl | ((try simp only [cz_in, cz_lt, cz_le, cz_eq, cz_l] at *) <;> (first | omega | (simp_all; done)))))
theorem c_X7_howMany_a10 (p0 : Int32) (c_1 : p0.toInt < 0 ∨ 8 < p0.toInt) : ((-102) : Int32) = cz_rc p0 := by first | (subst_vars; rfl) | ((try simp only [cz_rl, cz_ron, cz_r2, cz_r1, cz_rr, cz_rw, cz_rc]) <;> (repeat' split) <;> (first | rfl | ((try simp only [cz_in, cz_lt, cz_le, cz_eq, cz_l] at *) <;> (first | omega | (simp_all; done)))))
set_option maxHeartbeats 4000000 in
set_option maxRecDepth 100000 in
theorem c_X7_howMany (l : Launch) (dC : Nat → ClassId) (dI : Nat → Nat → Nat) (cI cB : ClassId) (h0 : Nat) (p0 : Int32) (m1 : Nat) (m2 : Nat) (m3 : Nat) (m4 : Nat) (m5 : Nat) (pg : Nat) (m6 : Nat) (m7 : Nat) (m8 : Nat) (m9 : Nat) (m10 : Nat) (m11 : Nat) (m12 : Nat) (hv : Int64) : Met l yX7_howMany wsX7_howMany ({ frames := 1, cells := 0, slots := 0, locals := 22 }) (cz_Pp dC dI cI cB [.ref h0, .int p0] [(h0, .inr (7, [.int 0, .int 0, .int 0, .int (-1), .int (-1), .int 0, .int 0, .ref m1, .ref m2, .ref m3, .ref m4, .ref m5, .int 0, .ref pg, .int 0, .int 0, .ref m6, .ref m7, .ref m8, .long 0, .int 0, .int 0, .int 0, .int 0, .int 0, .int 0, .ref m9, .ref m10, .ref m11, .ref m12, .long hv]))]) (vp_Si (fun r : Int32 => r = cz_rc p0)) 0 0 (fun _ => False) := by
  refine Met.ofW (cc := cX7_howMany) (maxL := 2) (ret := (some .int)) (by decide) rfl ?_
  intro p e s m args below meth c s₁ B hml hv
  obtain ⟨rfl, hP, hN⟩ := hv
  have hx := B.exec
  have hb := B.bytes
  have hr := B.returns
  have hts := atoms_spec (ws := wsX7_howMany) B.pre
  have hown : s.vm.findClass RX7 = some m.cls := findClass_of_methodNamed B.named
  have hlocks := B.notSynchronized
  have hK := hN.1
  have hiX7 : ∀ w ∈ wsX70, w ∈ wsX7_howMany := (fun _ h => List.mem_cons_of_mem _ (List.mem_append_right _ h))
  have hl := lv_entry ([.ref h0, .int p0]) (n := 2) (Nat.le_of_ble_eq_true rfl)
  rw [lg_entry_eq]
  generalize (lg_sl ([.ref h0, .int p0]) ++ List.replicate (2 - (lg_sl ([.ref h0, .int p0])).length) Slot.unset).toArray = ls at hl ⊢
  have hl : lv_has ls 2 [(0, .ref h0), (1, .int p0)] := hl
  refine lv_iload_n hx hb dX7_howMany_0 rfl (lv_at hl 1 rfl) ?_
  rcases cz_sw_0_8 p0 with c_1 | c_1 | c_1 | c_1 | c_1 | c_1 | c_1 | c_1 | c_1 | c_1
  · refine lv_tableIn (off := 51) (tgt := 52) hx hb dX7_howMany_1 (by rw [c_1]; decide) (by rw [c_1]; decide) (by rw [c_1]; decide) (by decide) ?_
    refine lv_aload_n hx hb dX7_howMany_52 rfl (lv_at hl 0 rfl) ?_
    refine va_get (D := (dC, dI)) (ci := 7) (v := .int 0) (C := RX7) (T := TX7) (N := 31) hx hb hts hiX7 hown hK hP 0 rfl rfl 2 (by decide) (hts (.fieldLink RX7 73 "LeftProfileModel" "floor" "I") (List.mem_of_getElem? (i := 1) rfl)) (fun _ h9 => h9) rfl dX7_howMany_53 ?_
    refine vp_callSi (cz_run (va_runS (As := [.int 0]) (rest := []) ⟨hx, hb, hml, hown, hts⟩ (c_X7_size l dC dI cI cB 0 ) (va_cwS 1 hts gX7_howMany_X7_size rfl rfl rfl (by decide +kernel) ⟨Nat.le_of_ble_eq_true rfl, Nat.le_of_ble_eq_true rfl⟩) (cz_pS (hP.sub (ws' := []) [] rfl) hN) rfl rfl hl.1 rfl (lv_room (Nat.le_of_ble_eq_true rfl)) dX7_howMany_56 ⟨Nat.le_of_ble_eq_true rfl, Nat.le_of_ble_eq_true rfl⟩)) (fun r_2 hr_2 => ?_)
    obtain rfl : r_2 = 0 := hr_2.trans (by decide)
    exact W.iret (v := 0) hx hb hr (fun t ht hW => ⟨0, rfl, (c_X7_howMany_a1 p0 c_1), ht⟩) (fun _ h => absurd h List.not_mem_nil) dX7_howMany_59
  · refine lv_tableIn (off := 59) (tgt := 60) hx hb dX7_howMany_1 (by rw [c_1]; decide) (by rw [c_1]; decide) (by rw [c_1]; decide) (by decide) ?_
    refine lv_aload_n hx hb dX7_howMany_60 rfl (lv_at hl 0 rfl) ?_
    refine va_get (D := (dC, dI)) (ci := 7) (v := .int 0) (C := RX7) (T := TX7) (N := 31) hx hb hts hiX7 hown hK hP 0 rfl rfl 6 (by decide) (hts (.fieldLink RX7 86 "LeftProfileModel" "courtiers" "I") (List.mem_of_getElem? (i := 2) rfl)) (fun _ h9 => h9) rfl dX7_howMany_61 ?_
    exact W.iret (v := 0) hx hb hr (fun t ht hW => ⟨0, rfl, (c_X7_howMany_a2 p0 c_1), ht⟩) (fun _ h => absurd h List.not_mem_nil) dX7_howMany_64
  · refine lv_tableIn (off := 64) (tgt := 65) hx hb dX7_howMany_1 (by rw [c_1]; decide) (by rw [c_1]; decide) (by rw [c_1]; decide) (by decide) ?_
    refine lv_aload_n hx hb dX7_howMany_65 rfl (lv_at hl 0 rfl) ?_
    refine va_get (D := (dC, dI)) (ci := 7) (v := .int (-1)) (C := RX7) (T := TX7) (N := 31) hx hb hts hiX7 hown hK hP 0 rfl rfl 3 (by decide) (hts (.fieldLink RX7 7 "LeftProfileModel" "dukeAt" "I") (List.mem_of_getElem? (i := 3) rfl)) (fun _ h9 => h9) rfl dX7_howMany_66 ?_
    exact W.iret (v := (-1)) hx hb hr (fun t ht hW => ⟨(-1), rfl, (c_X7_howMany_a3 p0 c_1), ht⟩) (fun _ h => absurd h List.not_mem_nil) dX7_howMany_69
  · refine lv_tableIn (off := 69) (tgt := 70) hx hb dX7_howMany_1 (by rw [c_1]; decide) (by rw [c_1]; decide) (by rw [c_1]; decide) (by decide) ?_
    refine lv_aload_n hx hb dX7_howMany_70 rfl (lv_at hl 0 rfl) ?_
    refine va_get (D := (dC, dI)) (ci := 7) (v := .int (-1)) (C := RX7) (T := TX7) (N := 31) hx hb hts hiX7 hown hK hP 0 rfl rfl 4 (by decide) (hts (.fieldLink RX7 13 "LeftProfileModel" "dukeSide" "I") (List.mem_of_getElem? (i := 4) rfl)) (fun _ h9 => h9) rfl dX7_howMany_71 ?_
    exact W.iret (v := (-1)) hx hb hr (fun t ht hW => ⟨(-1), rfl, (c_X7_howMany_a4 p0 c_1), ht⟩) (fun _ h => absurd h List.not_mem_nil) dX7_howMany_74
  · refine lv_tableIn (off := 74) (tgt := 75) hx hb dX7_howMany_1 (by rw [c_1]; decide) (by rw [c_1]; decide) (by rw [c_1]; decide) (by decide) ?_
    refine lv_aload_n hx hb dX7_howMany_75 rfl (lv_at hl 0 rfl) ?_
    refine vp_callSi (cz_run (va_runV (As := []) (rest := []) ⟨hx, hb, hml, hown, hts⟩ (c_guiltySet_h l dC dI cI cB h0 m1 m2 m3 m4 m5 pg m6 m7 m8 m9 m10 m11 m12 hv ) (cwV 0 hts gX7_howMany_X7_guiltySet rfl rfl rfl (by decide +kernel) ⟨Nat.le_of_ble_eq_true rfl, Nat.le_of_ble_eq_true rfl⟩) (cz_pV hP hN (va_recv hK hP (ci := 7) (q0 := 0) rfl rfl)) rfl rfl hl.1 rfl (lv_room (Nat.le_of_ble_eq_true rfl)) dX7_howMany_76 ⟨Nat.le_of_ble_eq_true rfl, Nat.le_of_ble_eq_true rfl⟩)) (fun r_3 hr_3 => ?_)
    obtain rfl : r_3 = 0 := hr_3
    refine vp_callSi (cz_run (va_runS (As := [.int 0]) (rest := []) ⟨hx, hb, hml, hown, hts⟩ (c_X7_size l dC dI cI cB 0 ) (va_cwS 1 hts gX7_howMany_X7_size rfl rfl rfl (by decide +kernel) ⟨Nat.le_of_ble_eq_true rfl, Nat.le_of_ble_eq_true rfl⟩) (cz_pS (hP.sub (ws' := []) [] rfl) hN) rfl rfl hl.1 rfl (lv_room (Nat.le_of_ble_eq_true rfl)) dX7_howMany_79 ⟨Nat.le_of_ble_eq_true rfl, Nat.le_of_ble_eq_true rfl⟩)) (fun r_4 hr_4 => ?_)
    obtain rfl : r_4 = 0 := hr_4.trans (by decide)
    exact W.iret (v := 0) hx hb hr (fun t ht hW => ⟨0, rfl, (c_X7_howMany_a5 p0 c_1), ht⟩) (fun _ h => absurd h List.not_mem_nil) dX7_howMany_82
  · refine lv_tableIn (off := 82) (tgt := 83) hx hb dX7_howMany_1 (by rw [c_1]; decide) (by rw [c_1]; decide) (by rw [c_1]; decide) (by decide) ?_
    refine lv_aload_n hx hb dX7_howMany_83 rfl (lv_at hl 0 rfl) ?_
    refine vp_callSi (cz_run (va_runV (As := []) (rest := []) ⟨hx, hb, hml, hown, hts⟩ (c_toldMany_h l dC dI cI cB h0 m1 m2 m3 m4 m5 pg m6 m7 m8 m9 m10 m11 m12 hv ) (cwV 0 hts gX7_howMany_X7_toldMany rfl rfl rfl (by decide +kernel) ⟨Nat.le_of_ble_eq_true rfl, Nat.le_of_ble_eq_true rfl⟩) (cz_pV hP hN (va_recv hK hP (ci := 7) (q0 := 0) rfl rfl)) rfl rfl hl.1 rfl (lv_room (Nat.le_of_ble_eq_true rfl)) dX7_howMany_84 ⟨Nat.le_of_ble_eq_true rfl, Nat.le_of_ble_eq_true rfl⟩)) (fun r_5 hr_5 => ?_)
    obtain rfl : r_5 = 0 := hr_5
    exact W.iret (v := 0) hx hb hr (fun t ht hW => ⟨0, rfl, (c_X7_howMany_a6 p0 c_1), ht⟩) (fun _ h => absurd h List.not_mem_nil) dX7_howMany_87
  · refine lv_tableIn (off := 87) (tgt := 88) hx hb dX7_howMany_1 (by rw [c_1]; decide) (by rw [c_1]; decide) (by rw [c_1]; decide) (by decide) ?_
    refine lv_aload_n hx hb dX7_howMany_88 rfl (lv_at hl 0 rfl) ?_
    refine va_get (D := (dC, dI)) (ci := 7) (v := .int 0) (C := RX7) (T := TX7) (N := 31) hx hb hts hiX7 hown hK hP 0 rfl rfl 5 (by decide) (hts (.fieldLink RX7 83 "LeftProfileModel" "acts" "I") (List.mem_of_getElem? (i := 5) rfl)) (fun _ h9 => h9) rfl dX7_howMany_89 ?_
    exact W.iret (v := 0) hx hb hr (fun t ht hW => ⟨0, rfl, (c_X7_howMany_a7 p0 c_1), ht⟩) (fun _ h => absurd h List.not_mem_nil) dX7_howMany_92
  · refine lv_tableIn (off := 92) (tgt := 93) hx hb dX7_howMany_1 (by rw [c_1]; decide) (by rw [c_1]; decide) (by rw [c_1]; decide) (by decide) ?_
    refine lv_aload_n hx hb dX7_howMany_93 rfl (lv_at hl 0 rfl) ?_
    refine va_get (D := (dC, dI)) (ci := 7) (v := .int 0) (C := RX7) (T := TX7) (N := 31) hx hb hts hiX7 hown hK hP 0 rfl rfl 12 (by decide) (hts (.fieldLink RX7 61 "LeftProfileModel" "pageLength" "I") (List.mem_of_getElem? (i := 6) rfl)) (fun _ h9 => h9) rfl dX7_howMany_94 ?_
    exact W.iret (v := 0) hx hb hr (fun t ht hW => ⟨0, rfl, (c_X7_howMany_a8 p0 c_1), ht⟩) (fun _ h => absurd h List.not_mem_nil) dX7_howMany_97
  · refine lv_tableIn (off := 97) (tgt := 98) hx hb dX7_howMany_1 (by rw [c_1]; decide) (by rw [c_1]; decide) (by rw [c_1]; decide) (by decide) ?_
    refine lv_aload_n hx hb dX7_howMany_98 rfl (lv_at hl 0 rfl) ?_
    refine va_get (D := (dC, dI)) (ci := 7) (v := .int 0) (C := RX7) (T := TX7) (N := 31) hx hb hts hiX7 hown hK hP 0 rfl rfl 1 (by decide) (hts (.fieldLink RX7 80 "LeftProfileModel" "halls" "I") (List.mem_of_getElem? (i := 7) rfl)) (fun _ h9 => h9) rfl dX7_howMany_99 ?_
    exact W.iret (v := 0) hx hb hr (fun t ht hW => ⟨0, rfl, (c_X7_howMany_a9 p0 c_1), ht⟩) (fun _ h => absurd h List.not_mem_nil) dX7_howMany_102
  · refine lv_tableOut (tgt := 103) hx hb dX7_howMany_1 c_1 (by decide) ?_
    refine lv_bipush (v := (-102)) hx hb dX7_howMany_103 (by decide) ?_
    exact W.iret (v := (-102)) hx hb hr (fun t ht hW => ⟨(-102), rfl, (c_X7_howMany_a10 p0 c_1), ht⟩) (fun _ h => absurd h List.not_mem_nil) dX7_howMany_105

theorem c_X7_count_a1 (p0 : Int32) (r_1 : Int32) (hr_1 : r_1 = cz_rc p0) : (r_1 : Int32) = cz_rc p0 := by first | (subst_vars; rfl) | ((try simp only [cz_rl, cz_ron, cz_r2, cz_r1, cz_rr, cz_rw, cz_rc]) <;> (repeat' split) <;> (first | rfl | ((try simp only [cz_in, cz_lt, cz_le, cz_eq, cz_l] at *) <;> (first | omega | (simp_all; done)))))
set_option maxHeartbeats 4000000 in
set_option maxRecDepth 100000 in
theorem c_X7_count (l : Launch) (dC : Nat → ClassId) (dI : Nat → Nat → Nat) (cI cB : ClassId) (h0 : Nat) (p0 : Int32) (m1 : Nat) (m2 : Nat) (m3 : Nat) (m4 : Nat) (m5 : Nat) (pg : Nat) (m6 : Nat) (m7 : Nat) (m8 : Nat) (m9 : Nat) (m10 : Nat) (m11 : Nat) (m12 : Nat) : Met l yX7_count wsX7_count ({ frames := 2, cells := 0, slots := 0, locals := 43 }) (cz_Pp dC dI cI cB [.ref h0, .int p0] [(h0, .inr (7, [.int 0, .int 0, .int 0, .int (-1), .int (-1), .int 0, .int 0, .ref m1, .ref m2, .ref m3, .ref m4, .ref m5, .int 0, .ref pg, .int 0, .int 0, .ref m6, .ref m7, .ref m8, .long 0, .int 0, .int 0, .int 0, .int 0, .int 0, .int 0, .ref m9, .ref m10, .ref m11, .ref m12, .long 0]))]) (vp_Si (fun r : Int32 => r = cz_rc p0)) 0 0 (fun _ => False) := by
  refine Met.ofW (cc := cX7_count) (maxL := 2) (ret := (some .int)) (by decide) rfl ?_
  intro p e s m args below meth c s₁ B hml hv
  obtain ⟨rfl, hP, hN⟩ := hv
  have hx := B.exec
  have hb := B.bytes
  have hr := B.returns
  have hts := atoms_spec (ws := wsX7_count) B.pre
  have hown : s.vm.findClass RX7 = some m.cls := findClass_of_methodNamed B.named
  have hlocks := B.notSynchronized
  have hK := hN.1
  have hl := lv_entry ([.ref h0, .int p0]) (n := 2) (Nat.le_of_ble_eq_true rfl)
  rw [lg_entry_eq]
  generalize (lg_sl ([.ref h0, .int p0]) ++ List.replicate (2 - (lg_sl ([.ref h0, .int p0])).length) Slot.unset).toArray = ls at hl ⊢
  have hl : lv_has ls 2 [(0, .ref h0), (1, .int p0)] := hl
  refine lv_aload_n hx hb dX7_count_0 rfl (lv_at hl 0 rfl) ?_
  refine lv_iload_n hx hb dX7_count_1 rfl (lv_at hl 1 rfl) ?_
  refine vp_callSi (cz_run (va_runV (As := [.int p0]) (rest := []) ⟨hx, hb, hml, hown, hts⟩ (c_X7_howMany l dC dI cI cB h0 p0 m1 m2 m3 m4 m5 pg m6 m7 m8 m9 m10 m11 m12 0 ) (cwV 1 hts gX7_count_X7_howMany rfl rfl rfl (by decide +kernel) ⟨Nat.le_of_ble_eq_true rfl, Nat.le_of_ble_eq_true rfl⟩) (cz_pV hP hN (va_recv hK hP (ci := 7) (q0 := 0) rfl rfl)) rfl rfl hl.1 rfl (lv_room (Nat.le_of_ble_eq_true rfl)) dX7_count_2 ⟨Nat.le_of_ble_eq_true rfl, Nat.le_of_ble_eq_true rfl⟩)) (fun r_1 hr_1 => ?_)
  exact W.iret (v := r_1) hx hb hr (fun t ht hW => ⟨r_1, rfl, (c_X7_count_a1 p0 r_1 hr_1), ht⟩) (fun _ h => absurd h List.not_mem_nil) dX7_count_5

theorem c_X7_mix_a1 (p0 : Int64) (hv : Int64) (x_1 : Int64) (x_2 : Int64) (ex_1 : x_1 = 31 * hv) (ex_2 : x_2 = x_1 + p0) : x_2 = 31 * hv + p0 := by first | (subst_vars; rfl) | ((repeat' split) <;> (first | rfl | ((try simp only [cz_in, cz_lt, cz_le, cz_eq, cz_l] at *) <;> (first | omega | (simp_all; done)))))
set_option maxHeartbeats 4000000 in
set_option maxRecDepth 100000 in
theorem c_X7_mix (l : Launch) (dC : Nat → ClassId) (dI : Nat → Nat → Nat) (cI cB : ClassId) (h0 : Nat) (p0 : Int64) (m1 : Nat) (m2 : Nat) (m3 : Nat) (m4 : Nat) (m5 : Nat) (pg : Nat) (m6 : Nat) (m7 : Nat) (m8 : Nat) (m9 : Nat) (m10 : Nat) (m11 : Nat) (m12 : Nat) (hv : Int64) (sz : Nat) : Met l yX7_mix wsX7_mix ({ frames := 0, cells := 0, slots := 0, locals := 0 }) (cz_Pm dC dI cI cB [.ref h0, .long p0] [(h0, .inr (7, [.int 0, .int 0, .int 0, .int (-1), .int (-1), .int 0, .int 0, .ref m1, .ref m2, .ref m3, .ref m4, .ref m5, .int 0, .ref pg, .int 0, .int 0, .ref m6, .ref m7, .ref m8, .long 0, .int 0, .int 0, .int 0, .int 0, .int 0, .int 0, .ref m9, .ref m10, .ref m11, .ref m12, .long hv]))] sz) (va_Qv (fun _ : Unit => True) (fun _ t => va_P (dC, dI) vwCl [(h0, .inr (7, [.int 0, .int 0, .int 0, .int (-1), .int (-1), .int 0, .int 0, .ref m1, .ref m2, .ref m3, .ref m4, .ref m5, .int 0, .ref pg, .int 0, .int 0, .ref m6, .ref m7, .ref m8, .long 0, .int 0, .int 0, .int 0, .int 0, .int 0, .int 0, .ref m9, .ref m10, .ref m11, .ref m12, .long (31 * hv + p0)]))] t.heap ∧ va_D (va_A [(h0, .inr (7, [.int 0, .int 0, .int 0, .int (-1), .int (-1), .int 0, .int 0, .ref m1, .ref m2, .ref m3, .ref m4, .ref m5, .int 0, .ref pg, .int 0, .int 0, .ref m6, .ref m7, .ref m8, .long 0, .int 0, .int 0, .int 0, .int 0, .int 0, .int 0, .ref m9, .ref m10, .ref m11, .ref m12, .long hv]))] sz) [(h0, .inr (7, [.int 0, .int 0, .int 0, .int (-1), .int (-1), .int 0, .int 0, .ref m1, .ref m2, .ref m3, .ref m4, .ref m5, .int 0, .ref pg, .int 0, .int 0, .ref m6, .ref m7, .ref m8, .long 0, .int 0, .int 0, .int 0, .int 0, .int 0, .int 0, .ref m9, .ref m10, .ref m11, .ref m12, .long (31 * hv + p0)]))]) (va_A [(h0, .inr (7, [.int 0, .int 0, .int 0, .int (-1), .int (-1), .int 0, .int 0, .ref m1, .ref m2, .ref m3, .ref m4, .ref m5, .int 0, .ref pg, .int 0, .int 0, .ref m6, .ref m7, .ref m8, .long 0, .int 0, .int 0, .int 0, .int 0, .int 0, .int 0, .ref m9, .ref m10, .ref m11, .ref m12, .long hv]))] sz)) 0 0 (va_A [(h0, .inr (7, [.int 0, .int 0, .int 0, .int (-1), .int (-1), .int 0, .int 0, .ref m1, .ref m2, .ref m3, .ref m4, .ref m5, .int 0, .ref pg, .int 0, .int 0, .ref m6, .ref m7, .ref m8, .long 0, .int 0, .int 0, .int 0, .int 0, .int 0, .int 0, .ref m9, .ref m10, .ref m11, .ref m12, .long hv]))] sz) := by
  refine Met.ofW (cc := cX7_mix) (maxL := 3) (ret := none) (by decide) rfl ?_
  intro p e s m args below meth c s₁ B hml hv
  obtain ⟨rfl, hsz, hP, hN, hD0⟩ := hv
  have hx := B.exec
  have hb := B.bytes
  have hr := B.returns
  have hts := atoms_spec (ws := wsX7_mix) B.pre
  have hown : s.vm.findClass RX7 = some m.cls := findClass_of_methodNamed B.named
  have hlocks := B.notSynchronized
  have hK := hN.1
  have hiX7 : ∀ w ∈ wsX70, w ∈ wsX7_mix := (fun _ h => List.mem_cons_of_mem _ (List.mem_append_right _ h))
  subst hsz
  have hD := hD0.self (sz := s.heap.size)
  generalize hAe : va_A [(h0, .inr (7, [.int 0, .int 0, .int 0, .int (-1), .int (-1), .int 0, .int 0, .ref m1, .ref m2, .ref m3, .ref m4, .ref m5, .int 0, .ref pg, .int 0, .int 0, .ref m6, .ref m7, .ref m8, .long 0, .int 0, .int 0, .int 0, .int 0, .int 0, .int 0, .ref m9, .ref m10, .ref m11, .ref m12, .long hv]))] s.heap.size = A at hD ⊢
  have hA : ∀ q : Nat, s.heap.size ≤ q → A q := fun q h => by rw [← hAe]; exact Or.inr h
  have hS : va_S A s.heap s.heap [] := va_S.rf
  obtain ⟨H, eH⟩ : ∃ H, H = s.heap := ⟨_, rfl⟩
  have hP : va_P (dC, dI) vwCl [(h0, .inr (7, [.int 0, .int 0, .int 0, .int (-1), .int (-1), .int 0, .int 0, .ref m1, .ref m2, .ref m3, .ref m4, .ref m5, .int 0, .ref pg, .int 0, .int 0, .ref m6, .ref m7, .ref m8, .long 0, .int 0, .int 0, .int 0, .int 0, .int 0, .int 0, .ref m9, .ref m10, .ref m11, .ref m12, .long hv]))] s.heap := hP
  have hl := lv_entry ([.ref h0, .long p0]) (n := 3) (Nat.le_of_ble_eq_true rfl)
  rw [lg_entry_eq]
  generalize (lg_sl ([.ref h0, .long p0]) ++ List.replicate (3 - (lg_sl ([.ref h0, .long p0])).length) Slot.unset).toArray = ls at hl ⊢
  have hl : lv_has ls 3 [(0, .ref h0), (1, .long p0)] := hl
  refine lv_aload_n hx hb dX7_mix_0 rfl (lv_at hl 0 rfl) ?_
  refine lv_ldc2 (v := 31) hx hb hown (hts (.constantLong RX7 234 (31)) (List.mem_of_getElem? (i := 1) rfl)) dX7_mix_1 ?_
  refine lv_aload_n hx hb dX7_mix_4 rfl (lv_at hl 0 rfl) ?_
  refine va_get (D := (dC, dI)) (ci := 7) (v := .long hv) (C := RX7) (T := TX7) (N := 31) hx hb hts hiX7 hown hK hP 0 rfl rfl 30 (by decide) (hts (.fieldLink RX7 236 "LeftProfileModel" "h" "J") (List.mem_of_getElem? (i := 2) rfl)) (fun _ h9 => h9) rfl dX7_mix_5 ?_
  refine lv_lmul hx hb dX7_mix_8 ?_
  refine lv_topl (fun x_1 ex_1 => ?_)
  refine lv_lload_n hx hb dX7_mix_9 rfl (lv_at hl 1 rfl) ?_
  refine lv_ladd hx hb dX7_mix_10 ?_
  refine lv_topl (fun x_2 ex_2 => ?_)
  refine va_put (D := (dC, dI)) (ci := 7) (v := .long x_2) (ty := .long) (C := RX7) (T := TX7) (N := 31) hx hb hts hiX7 tyX7 tyX7_ok nmX7 hown hK hP hD hS 0 rfl rfl 30 (by decide) (hts (.fieldLink RX7 236 "LeftProfileModel" "h" "J") (List.mem_of_getElem? (i := 2) rfl)) (fun _ h9 => h9) rfl (by decide +kernel) rfl rfl (Nat.le_of_ble_eq_true rfl) dX7_mix_11 (fun H locs hP hD hS => ?_)
  have hP : va_P (dC, dI) vwCl [(h0, .inr (7, [.int 0, .int 0, .int 0, .int (-1), .int (-1), .int 0, .int 0, .ref m1, .ref m2, .ref m3, .ref m4, .ref m5, .int 0, .ref pg, .int 0, .int 0, .ref m6, .ref m7, .ref m8, .long 0, .int 0, .int 0, .int 0, .int 0, .int 0, .int 0, .ref m9, .ref m10, .ref m11, .ref m12, .long x_2]))] H := hP
  have hD : va_D A [(h0, .inr (7, [.int 0, .int 0, .int 0, .int (-1), .int (-1), .int 0, .int 0, .ref m1, .ref m2, .ref m3, .ref m4, .ref m5, .int 0, .ref pg, .int 0, .int 0, .ref m6, .ref m7, .ref m8, .long 0, .int 0, .int 0, .int 0, .int 0, .int 0, .int 0, .ref m9, .ref m10, .ref m11, .ref m12, .long x_2]))] := hD
  refine W.widen (k := 0) (n := 0) (Nat.le_of_ble_eq_true rfl) (Nat.le_of_ble_eq_true rfl) ?_
  obtain rfl : x_2 = 31 * hv + p0 := (c_X7_mix_a1 p0 hv x_1 x_2 ex_1 ex_2)
  have hP : va_P (dC, dI) vwCl [(h0, .inr (7, [.int 0, .int 0, .int 0, .int (-1), .int (-1), .int 0, .int 0, .ref m1, .ref m2, .ref m3, .ref m4, .ref m5, .int 0, .ref pg, .int 0, .int 0, .ref m6, .ref m7, .ref m8, .long 0, .int 0, .int 0, .int 0, .int 0, .int 0, .int 0, .ref m9, .ref m10, .ref m11, .ref m12, .long (31 * hv + p0)]))] H := hP
  have hD : va_D A [(h0, .inr (7, [.int 0, .int 0, .int 0, .int (-1), .int (-1), .int 0, .int 0, .ref m1, .ref m2, .ref m3, .ref m4, .ref m5, .int 0, .ref pg, .int 0, .int 0, .ref m6, .ref m7, .ref m8, .long 0, .int 0, .int 0, .int 0, .int 0, .int 0, .int 0, .ref m9, .ref m10, .ref m11, .ref m12, .long (31 * hv + p0)]))] := hD
  have hP9 := hP.sub (ws' := [(h0, .inr (7, [.int 0, .int 0, .int 0, .int (-1), .int (-1), .int 0, .int 0, .ref m1, .ref m2, .ref m3, .ref m4, .ref m5, .int 0, .ref pg, .int 0, .int 0, .ref m6, .ref m7, .ref m8, .long 0, .int 0, .int 0, .int 0, .int 0, .int 0, .int 0, .ref m9, .ref m10, .ref m11, .ref m12, .long (31 * hv + p0)]))]) [0] rfl
  have hD9 := hD.sub (ws' := [(h0, .inr (7, [.int 0, .int 0, .int 0, .int (-1), .int (-1), .int 0, .int 0, .ref m1, .ref m2, .ref m3, .ref m4, .ref m5, .int 0, .ref pg, .int 0, .int 0, .ref m6, .ref m7, .ref m8, .long 0, .int 0, .int 0, .int 0, .int 0, .int 0, .int 0, .ref m9, .ref m10, .ref m11, .ref m12, .long (31 * hv + p0)]))]) [0] (by decide) rfl
  exact W.vret hx hb hr (fun t ht hW => ⟨⟨(), rfl, trivial, ⟨by rw [ht]; exact hP9, hD9⟩⟩, hS.F ht⟩) hS.2.2 dX7_mix_14

set_option maxHeartbeats 4000000 in
set_option maxRecDepth 100000 in
theorem c_X7_digest (l : Launch) (dC : Nat → ClassId) (dI : Nat → Nat → Nat) (cI cB : ClassId) (h0 : Nat) (m1 : Nat) (m2 : Nat) (m3 : Nat) (m4 : Nat) (m5 : Nat) (pg : Nat) (m6 : Nat) (m7 : Nat) (m8 : Nat) (m9 : Nat) (m10 : Nat) (m11 : Nat) (m12 : Nat) (sz : Nat) : Met l yX7_digest wsX7_digest ({ frames := 2, cells := 0, slots := 0, locals := 43 }) (cz_Pm dC dI cI cB [.ref h0] [(h0, .inr (7, [.int 0, .int 0, .int 0, .int (-1), .int (-1), .int 0, .int 0, .ref m1, .ref m2, .ref m3, .ref m4, .ref m5, .int 0, .ref pg, .int 0, .int 0, .ref m6, .ref m7, .ref m8, .long 0, .int 0, .int 0, .int 0, .int 0, .int 0, .int 0, .ref m9, .ref m10, .ref m11, .ref m12, .long 0]))] sz) (va_Ql (fun (r : Int64) (_ : Unit) => r = 19010087417389617) (fun _ _ => True) (va_A [(h0, .inr (7, [.int 0, .int 0, .int 0, .int (-1), .int (-1), .int 0, .int 0, .ref m1, .ref m2, .ref m3, .ref m4, .ref m5, .int 0, .ref pg, .int 0, .int 0, .ref m6, .ref m7, .ref m8, .long 0, .int 0, .int 0, .int 0, .int 0, .int 0, .int 0, .ref m9, .ref m10, .ref m11, .ref m12, .long 0]))] sz)) 0 0 (va_A [(h0, .inr (7, [.int 0, .int 0, .int 0, .int (-1), .int (-1), .int 0, .int 0, .ref m1, .ref m2, .ref m3, .ref m4, .ref m5, .int 0, .ref pg, .int 0, .int 0, .ref m6, .ref m7, .ref m8, .long 0, .int 0, .int 0, .int 0, .int 0, .int 0, .int 0, .ref m9, .ref m10, .ref m11, .ref m12, .long 0]))] sz) := by
  refine Met.ofW (cc := cX7_digest) (maxL := 3) (ret := (some .long)) (by decide) rfl ?_
  intro p e s m args below meth c s₁ B hml hv
  obtain ⟨rfl, hsz, hP, hN, hD0⟩ := hv
  have hx := B.exec
  have hb := B.bytes
  have hr := B.returns
  have hts := atoms_spec (ws := wsX7_digest) B.pre
  have hown : s.vm.findClass RX7 = some m.cls := findClass_of_methodNamed B.named
  have hlocks := B.notSynchronized
  have hK := hN.1
  have hiX7 : ∀ w ∈ wsX70, w ∈ wsX7_digest := (fun _ h => List.mem_cons_of_mem _ (List.mem_append_right _ h))
  subst hsz
  have hD := hD0.self (sz := s.heap.size)
  generalize hAe : va_A [(h0, .inr (7, [.int 0, .int 0, .int 0, .int (-1), .int (-1), .int 0, .int 0, .ref m1, .ref m2, .ref m3, .ref m4, .ref m5, .int 0, .ref pg, .int 0, .int 0, .ref m6, .ref m7, .ref m8, .long 0, .int 0, .int 0, .int 0, .int 0, .int 0, .int 0, .ref m9, .ref m10, .ref m11, .ref m12, .long 0]))] s.heap.size = A at hD ⊢
  have hA : ∀ q : Nat, s.heap.size ≤ q → A q := fun q h => by rw [← hAe]; exact Or.inr h
  have hS : va_S A s.heap s.heap [] := va_S.rf
  obtain ⟨H, eH⟩ : ∃ H, H = s.heap := ⟨_, rfl⟩
  have hP : va_P (dC, dI) vwCl [(h0, .inr (7, [.int 0, .int 0, .int 0, .int (-1), .int (-1), .int 0, .int 0, .ref m1, .ref m2, .ref m3, .ref m4, .ref m5, .int 0, .ref pg, .int 0, .int 0, .ref m6, .ref m7, .ref m8, .long 0, .int 0, .int 0, .int 0, .int 0, .int 0, .int 0, .ref m9, .ref m10, .ref m11, .ref m12, .long 0]))] s.heap := hP
  have hl := lv_entry ([.ref h0]) (n := 3) (Nat.le_of_ble_eq_true rfl)
  rw [lg_entry_eq]
  generalize (lg_sl ([.ref h0]) ++ List.replicate (3 - (lg_sl ([.ref h0])).length) Slot.unset).toArray = ls at hl ⊢
  have hl : lv_has ls 3 [(0, .ref h0)] := hl
  refine lv_aload_n hx hb dX7_digest_0 rfl (lv_at hl 0 rfl) ?_
  refine lv_ldc2 (v := 719) hx hb hown (hts (.constantLong RX7 239 (719)) (List.mem_of_getElem? (i := 1) rfl)) dX7_digest_1 ?_
  refine va_put (D := (dC, dI)) (ci := 7) (v := .long 719) (ty := .long) (C := RX7) (T := TX7) (N := 31) hx hb hts hiX7 tyX7 tyX7_ok nmX7 hown hK hP hD hS 0 rfl rfl 30 (by decide) (hts (.fieldLink RX7 236 "LeftProfileModel" "h" "J") (List.mem_of_getElem? (i := 2) rfl)) (fun _ h9 => h9) rfl (by decide +kernel) rfl rfl (Nat.le_of_ble_eq_true rfl) dX7_digest_4 (fun H locs hP hD hS => ?_)
  have hP : va_P (dC, dI) vwCl [(h0, .inr (7, [.int 0, .int 0, .int 0, .int (-1), .int (-1), .int 0, .int 0, .ref m1, .ref m2, .ref m3, .ref m4, .ref m5, .int 0, .ref pg, .int 0, .int 0, .ref m6, .ref m7, .ref m8, .long 0, .int 0, .int 0, .int 0, .int 0, .int 0, .int 0, .ref m9, .ref m10, .ref m11, .ref m12, .long 719]))] H := hP
  have hD : va_D A [(h0, .inr (7, [.int 0, .int 0, .int 0, .int (-1), .int (-1), .int 0, .int 0, .ref m1, .ref m2, .ref m3, .ref m4, .ref m5, .int 0, .ref pg, .int 0, .int 0, .ref m6, .ref m7, .ref m8, .long 0, .int 0, .int 0, .int 0, .int 0, .int 0, .int 0, .ref m9, .ref m10, .ref m11, .ref m12, .long 719]))] := hD
  refine lv_iconst (v := 0) hx hb dX7_digest_7 (by decide) ?_
  refine lv_istore_n (lv' := [(1, .int 0), (0, .ref h0)]) hx hb dX7_digest_8 rfl hl (by decide) rfl (fun ls hl => ?_)
  refine lv_iload_n hx hb dX7_digest_9 rfl (lv_at hl 0 rfl) ?_
  refine lv_bipush (v := 20) hx hb dX7_digest_10 (by decide) ?_
  refine lv_icmp_ge (tgt := 38) hx hb dX7_digest_12 (by decide) (fun c => absurd c (by decide)) (fun _ => ?_)
  refine lv_aload_n hx hb dX7_digest_15 rfl (lv_at hl 1 rfl) ?_
  refine va_get (D := (dC, dI)) (ci := 7) (v := .int 0) (C := RX7) (T := TX7) (N := 31) hx hb hts hiX7 hown hK hP 0 rfl rfl 0 (by decide) (hts (.fieldLink RX7 76 "LeftProfileModel" "isHall" "Z") (List.mem_of_getElem? (i := 3) rfl)) (fun _ h9 => h9) rfl dX7_digest_16 ?_
  refine lv_if_eq (tgt := 38) hx hb dX7_digest_19 (by decide) (fun _ => ?_) (fun c => absurd (by decide) c)
  refine lv_iconst (v := 0) hx hb dX7_digest_38 (by decide) ?_
  refine lv_istore_n (lv' := [(1, .int 0), (0, .ref h0)]) hx hb dX7_digest_39 rfl hl (by decide) rfl (fun ls hl => ?_)
  refine lv_iload_n hx hb dX7_digest_40 rfl (lv_at hl 0 rfl) ?_
  refine lv_aload_n hx hb dX7_digest_41 rfl (lv_at hl 1 rfl) ?_
  refine va_get (D := (dC, dI)) (ci := 7) (v := .int 0) (C := RX7) (T := TX7) (N := 31) hx hb hts hiX7 hown hK hP 0 rfl rfl 6 (by decide) (hts (.fieldLink RX7 86 "LeftProfileModel" "courtiers" "I") (List.mem_of_getElem? (i := 4) rfl)) (fun _ h9 => h9) rfl dX7_digest_42 ?_
  refine lv_icmp_ge (tgt := 90) hx hb dX7_digest_45 (by decide) (fun _ => ?_) (fun c => absurd (by decide) c)
  refine lv_aload_n hx hb dX7_digest_90 rfl (lv_at hl 1 rfl) ?_
  refine va_get (D := (dC, dI)) (ci := 7) (v := .int (-1)) (C := RX7) (T := TX7) (N := 31) hx hb hts hiX7 hown hK hP 0 rfl rfl 3 (by decide) (hts (.fieldLink RX7 7 "LeftProfileModel" "dukeAt" "I") (List.mem_of_getElem? (i := 6) rfl)) (fun _ h9 => h9) rfl dX7_digest_91 ?_
  refine lv_iconst (v := (-1)) hx hb dX7_digest_94 (by decide) ?_
  refine lv_icmp_eq (tgt := 163) hx hb dX7_digest_95 (by decide) (fun _ => ?_) (fun c => absurd (by decide) c)
  refine lv_iconst (v := 0) hx hb dX7_digest_163 (by decide) ?_
  refine lv_istore_n (lv' := [(1, .int 0), (0, .ref h0)]) hx hb dX7_digest_164 rfl hl (by decide) rfl (fun ls hl => ?_)
  refine lv_iload_n hx hb dX7_digest_165 rfl (lv_at hl 0 rfl) ?_
  refine lv_iconst (v := 3) hx hb dX7_digest_166 (by decide) ?_
  refine lv_icmp_ge (tgt := 193) hx hb dX7_digest_167 (by decide) (fun c => absurd c (by decide)) (fun _ => ?_)
  refine lv_aload_n hx hb dX7_digest_170 rfl (lv_at hl 1 rfl) ?_
  refine va_get (D := (dC, dI)) (ci := 7) (v := .int 0) (C := RX7) (T := TX7) (N := 31) hx hb hts hiX7 hown hK hP 0 rfl rfl 0 (by decide) (hts (.fieldLink RX7 76 "LeftProfileModel" "isHall" "Z") (List.mem_of_getElem? (i := 3) rfl)) (fun _ h9 => h9) rfl dX7_digest_171 ?_
  refine lv_if_eq (tgt := 193) hx hb dX7_digest_174 (by decide) (fun _ => ?_) (fun c => absurd (by decide) c)
  refine lv_iconst (v := 0) hx hb dX7_digest_193 (by decide) ?_
  refine lv_istore_n (lv' := [(1, .int 0), (0, .ref h0)]) hx hb dX7_digest_194 rfl hl (by decide) rfl (fun ls hl => ?_)
  refine lv_iload_n hx hb dX7_digest_195 rfl (lv_at hl 0 rfl) ?_
  refine lv_aload_n hx hb dX7_digest_196 rfl (lv_at hl 1 rfl) ?_
  refine va_get (D := (dC, dI)) (ci := 7) (v := .int 0) (C := RX7) (T := TX7) (N := 31) hx hb hts hiX7 hown hK hP 0 rfl rfl 12 (by decide) (hts (.fieldLink RX7 61 "LeftProfileModel" "pageLength" "I") (List.mem_of_getElem? (i := 7) rfl)) (fun _ h9 => h9) rfl dX7_digest_197 ?_
  refine lv_icmp_ge (tgt := 220) hx hb dX7_digest_200 (by decide) (fun _ => ?_) (fun c => absurd (by decide) c)
  refine lv_iconst (v := 0) hx hb dX7_digest_220 (by decide) ?_
  refine lv_istore_n (lv' := [(1, .int 0), (0, .ref h0)]) hx hb dX7_digest_221 rfl hl (by decide) rfl (fun ls hl => ?_)
  refine lv_iload_n hx hb dX7_digest_222 rfl (lv_at hl 0 rfl) ?_
  refine lv_bipush (v := 9) hx hb dX7_digest_223 (by decide) ?_
  refine lv_icmp_ge (tgt := 244) hx hb dX7_digest_225 (by decide) (fun c => absurd c (by decide)) (fun _ => ?_)
  refine lv_aload_n hx hb dX7_digest_228 rfl (lv_at hl 1 rfl) ?_
  refine lv_aload_n hx hb dX7_digest_229 rfl (lv_at hl 1 rfl) ?_
  refine lv_iload_n hx hb dX7_digest_230 rfl (lv_at hl 0 rfl) ?_
  refine vp_callSi (cz_run (va_runV (As := [.int 0]) (rest := [.ref h0]) ⟨hx, hb, hml, hown, hts⟩ (c_X7_howMany l dC dI cI cB h0 0 m1 m2 m3 m4 m5 pg m6 m7 m8 m9 m10 m11 m12 719 ) (cwV 1 hts gX7_digest_X7_howMany rfl rfl rfl (by decide +kernel) ⟨Nat.le_of_ble_eq_true rfl, Nat.le_of_ble_eq_true rfl⟩) (cz_pV hP hN (va_recv hK hP (ci := 7) (q0 := 0) rfl rfl)) rfl rfl hl.1 rfl (lv_room (Nat.le_of_ble_eq_true rfl)) dX7_digest_231 ⟨Nat.le_of_ble_eq_true rfl, Nat.le_of_ble_eq_true rfl⟩)) (fun r_1 hr_1 => ?_)
  obtain rfl : r_1 = 0 := hr_1.trans (by decide)
  refine lv_i2l hx hb dX7_digest_234 rfl ?_
  refine cz_lg (y := 0) (by decide) ?_
  have hPc := hP.sub (ws' := [(h0, .inr (7, [.int 0, .int 0, .int 0, .int (-1), .int (-1), .int 0, .int 0, .ref m1, .ref m2, .ref m3, .ref m4, .ref m5, .int 0, .ref pg, .int 0, .int 0, .ref m6, .ref m7, .ref m8, .long 0, .int 0, .int 0, .int 0, .int 0, .int 0, .int 0, .ref m9, .ref m10, .ref m11, .ref m12, .long 719]))]) [0] rfl
  have hDc := hD.sub (ws' := [(h0, .inr (7, [.int 0, .int 0, .int 0, .int (-1), .int (-1), .int 0, .int 0, .ref m1, .ref m2, .ref m3, .ref m4, .ref m5, .int 0, .ref pg, .int 0, .int 0, .ref m6, .ref m7, .ref m8, .long 0, .int 0, .int 0, .int 0, .int 0, .int 0, .int 0, .ref m9, .ref m10, .ref m11, .ref m12, .long 719]))]) [0] (by decide) rfl
  have hFc := va_free (wc := [(h0, .inr (7, [.int 0, .int 0, .int 0, .int (-1), .int (-1), .int 0, .int 0, .ref m1, .ref m2, .ref m3, .ref m4, .ref m5, .int 0, .ref pg, .int 0, .int 0, .ref m6, .ref m7, .ref m8, .long 0, .int 0, .int 0, .int 0, .int 0, .int 0, .int 0, .ref m9, .ref m10, .ref m11, .ref m12, .long 719]))]) hD hS hA [0] rfl
  refine va_callv (va_runV (As := [.long 0]) (rest := []) ⟨hx, hb, hml, hown, hts⟩ (c_X7_mix l dC dI cI cB h0 0 m1 m2 m3 m4 m5 pg m6 m7 m8 m9 m10 m11 m12 719 H.size ) (cwV 1 hts gX7_digest_X7_mix rfl rfl rfl (by decide +kernel) ⟨Nat.le_of_ble_eq_true rfl, Nat.le_of_ble_eq_true rfl⟩) (cz_mV hPc hN hDc (va_recv hK hPc (ci := 7) (q0 := 0) rfl rfl)) rfl rfl hl.1 rfl (lv_room (Nat.le_of_ble_eq_true rfl)) dX7_digest_235 ⟨Nat.le_of_ble_eq_true rfl, Nat.le_of_ble_eq_true rfl⟩) hS (fun q _ h => hFc q h) hFc (fun u t H1 locs ht hvm hr_2 hB hz1 hk1 hS => ?_)
  obtain ⟨hP1, hD1⟩ := hB
  rw [ht] at hP1
  obtain ⟨hP, hD⟩ := va_join (wr := []) (w1 := [(h0, .inr (7, [.int 0, .int 0, .int 0, .int (-1), .int (-1), .int 0, .int 0, .ref m1, .ref m2, .ref m3, .ref m4, .ref m5, .int 0, .ref pg, .int 0, .int 0, .ref m6, .ref m7, .ref m8, .long 0, .int 0, .int 0, .int 0, .int 0, .int 0, .int 0, .ref m9, .ref m10, .ref m11, .ref m12, .long (31 * 719 + 0)]))]) hP hD [0] [] rfl rfl (by decide) (by decide) hk1 hFc hP1 hD1
  generalize H1 = H at hP hS ⊢
  have hP : va_P (dC, dI) vwCl [(h0, .inr (7, [.int 0, .int 0, .int 0, .int (-1), .int (-1), .int 0, .int 0, .ref m1, .ref m2, .ref m3, .ref m4, .ref m5, .int 0, .ref pg, .int 0, .int 0, .ref m6, .ref m7, .ref m8, .long 0, .int 0, .int 0, .int 0, .int 0, .int 0, .int 0, .ref m9, .ref m10, .ref m11, .ref m12, .long (31 * 719 + 0)]))] H := hP
  have hD : va_D A [(h0, .inr (7, [.int 0, .int 0, .int 0, .int (-1), .int (-1), .int 0, .int 0, .ref m1, .ref m2, .ref m3, .ref m4, .ref m5, .int 0, .ref pg, .int 0, .int 0, .ref m6, .ref m7, .ref m8, .long 0, .int 0, .int 0, .int 0, .int 0, .int 0, .int 0, .ref m9, .ref m10, .ref m11, .ref m12, .long (31 * 719 + 0)]))] := hD
  refine lv_iinc (v := 1) (lv' := [(1, .int 1), (0, .ref h0)]) hx hb dX7_digest_238 hl (k := 0) rfl (by decide) (by decide) rfl (fun ls hl => ?_)
  refine lv_goto (tgt := 222) hx hb dX7_digest_241 (by decide) ?_
  refine lv_iload_n hx hb dX7_digest_222 rfl (lv_at hl 0 rfl) ?_
  refine lv_bipush (v := 9) hx hb dX7_digest_223 (by decide) ?_
  refine lv_icmp_ge (tgt := 244) hx hb dX7_digest_225 (by decide) (fun c => absurd c (by decide)) (fun _ => ?_)
  refine lv_aload_n hx hb dX7_digest_228 rfl (lv_at hl 1 rfl) ?_
  refine lv_aload_n hx hb dX7_digest_229 rfl (lv_at hl 1 rfl) ?_
  refine lv_iload_n hx hb dX7_digest_230 rfl (lv_at hl 0 rfl) ?_
  refine vp_callSi (cz_run (va_runV (As := [.int 1]) (rest := [.ref h0]) ⟨hx, hb, hml, hown, hts⟩ (c_X7_howMany l dC dI cI cB h0 1 m1 m2 m3 m4 m5 pg m6 m7 m8 m9 m10 m11 m12 (31 * 719 + 0) ) (cwV 1 hts gX7_digest_X7_howMany rfl rfl rfl (by decide +kernel) ⟨Nat.le_of_ble_eq_true rfl, Nat.le_of_ble_eq_true rfl⟩) (cz_pV hP hN (va_recv hK hP (ci := 7) (q0 := 0) rfl rfl)) rfl rfl hl.1 rfl (lv_room (Nat.le_of_ble_eq_true rfl)) dX7_digest_231 ⟨Nat.le_of_ble_eq_true rfl, Nat.le_of_ble_eq_true rfl⟩)) (fun r_3 hr_3 => ?_)
  obtain rfl : r_3 = 0 := hr_3.trans (by decide)
  refine lv_i2l hx hb dX7_digest_234 rfl ?_
  refine cz_lg (y := 0) (by decide) ?_
  have hPc := hP.sub (ws' := [(h0, .inr (7, [.int 0, .int 0, .int 0, .int (-1), .int (-1), .int 0, .int 0, .ref m1, .ref m2, .ref m3, .ref m4, .ref m5, .int 0, .ref pg, .int 0, .int 0, .ref m6, .ref m7, .ref m8, .long 0, .int 0, .int 0, .int 0, .int 0, .int 0, .int 0, .ref m9, .ref m10, .ref m11, .ref m12, .long (31 * 719 + 0)]))]) [0] rfl
  have hDc := hD.sub (ws' := [(h0, .inr (7, [.int 0, .int 0, .int 0, .int (-1), .int (-1), .int 0, .int 0, .ref m1, .ref m2, .ref m3, .ref m4, .ref m5, .int 0, .ref pg, .int 0, .int 0, .ref m6, .ref m7, .ref m8, .long 0, .int 0, .int 0, .int 0, .int 0, .int 0, .int 0, .ref m9, .ref m10, .ref m11, .ref m12, .long (31 * 719 + 0)]))]) [0] (by decide) rfl
  have hFc := va_free (wc := [(h0, .inr (7, [.int 0, .int 0, .int 0, .int (-1), .int (-1), .int 0, .int 0, .ref m1, .ref m2, .ref m3, .ref m4, .ref m5, .int 0, .ref pg, .int 0, .int 0, .ref m6, .ref m7, .ref m8, .long 0, .int 0, .int 0, .int 0, .int 0, .int 0, .int 0, .ref m9, .ref m10, .ref m11, .ref m12, .long (31 * 719 + 0)]))]) hD hS hA [0] rfl
  refine va_callv (va_runV (As := [.long 0]) (rest := []) ⟨hx, hb, hml, hown, hts⟩ (c_X7_mix l dC dI cI cB h0 0 m1 m2 m3 m4 m5 pg m6 m7 m8 m9 m10 m11 m12 (31 * 719 + 0) H.size ) (cwV 1 hts gX7_digest_X7_mix rfl rfl rfl (by decide +kernel) ⟨Nat.le_of_ble_eq_true rfl, Nat.le_of_ble_eq_true rfl⟩) (cz_mV hPc hN hDc (va_recv hK hPc (ci := 7) (q0 := 0) rfl rfl)) rfl rfl hl.1 rfl (lv_room (Nat.le_of_ble_eq_true rfl)) dX7_digest_235 ⟨Nat.le_of_ble_eq_true rfl, Nat.le_of_ble_eq_true rfl⟩) hS (fun q _ h => hFc q h) hFc (fun u t H1 locs ht hvm hr_4 hB hz1 hk1 hS => ?_)
  obtain ⟨hP1, hD1⟩ := hB
  rw [ht] at hP1
  obtain ⟨hP, hD⟩ := va_join (wr := []) (w1 := [(h0, .inr (7, [.int 0, .int 0, .int 0, .int (-1), .int (-1), .int 0, .int 0, .ref m1, .ref m2, .ref m3, .ref m4, .ref m5, .int 0, .ref pg, .int 0, .int 0, .ref m6, .ref m7, .ref m8, .long 0, .int 0, .int 0, .int 0, .int 0, .int 0, .int 0, .ref m9, .ref m10, .ref m11, .ref m12, .long (31 * (31 * 719 + 0) + 0)]))]) hP hD [0] [] rfl rfl (by decide) (by decide) hk1 hFc hP1 hD1
  generalize H1 = H at hP hS ⊢
  have hP : va_P (dC, dI) vwCl [(h0, .inr (7, [.int 0, .int 0, .int 0, .int (-1), .int (-1), .int 0, .int 0, .ref m1, .ref m2, .ref m3, .ref m4, .ref m5, .int 0, .ref pg, .int 0, .int 0, .ref m6, .ref m7, .ref m8, .long 0, .int 0, .int 0, .int 0, .int 0, .int 0, .int 0, .ref m9, .ref m10, .ref m11, .ref m12, .long (31 * (31 * 719 + 0) + 0)]))] H := hP
  have hD : va_D A [(h0, .inr (7, [.int 0, .int 0, .int 0, .int (-1), .int (-1), .int 0, .int 0, .ref m1, .ref m2, .ref m3, .ref m4, .ref m5, .int 0, .ref pg, .int 0, .int 0, .ref m6, .ref m7, .ref m8, .long 0, .int 0, .int 0, .int 0, .int 0, .int 0, .int 0, .ref m9, .ref m10, .ref m11, .ref m12, .long (31 * (31 * 719 + 0) + 0)]))] := hD
  refine lv_iinc (v := 2) (lv' := [(1, .int 2), (0, .ref h0)]) hx hb dX7_digest_238 hl (k := 0) rfl (by decide) (by decide) rfl (fun ls hl => ?_)
  refine lv_goto (tgt := 222) hx hb dX7_digest_241 (by decide) ?_
  refine lv_iload_n hx hb dX7_digest_222 rfl (lv_at hl 0 rfl) ?_
  refine lv_bipush (v := 9) hx hb dX7_digest_223 (by decide) ?_
  refine lv_icmp_ge (tgt := 244) hx hb dX7_digest_225 (by decide) (fun c => absurd c (by decide)) (fun _ => ?_)
  refine lv_aload_n hx hb dX7_digest_228 rfl (lv_at hl 1 rfl) ?_
  refine lv_aload_n hx hb dX7_digest_229 rfl (lv_at hl 1 rfl) ?_
  refine lv_iload_n hx hb dX7_digest_230 rfl (lv_at hl 0 rfl) ?_
  refine vp_callSi (cz_run (va_runV (As := [.int 2]) (rest := [.ref h0]) ⟨hx, hb, hml, hown, hts⟩ (c_X7_howMany l dC dI cI cB h0 2 m1 m2 m3 m4 m5 pg m6 m7 m8 m9 m10 m11 m12 (31 * (31 * 719 + 0) + 0) ) (cwV 1 hts gX7_digest_X7_howMany rfl rfl rfl (by decide +kernel) ⟨Nat.le_of_ble_eq_true rfl, Nat.le_of_ble_eq_true rfl⟩) (cz_pV hP hN (va_recv hK hP (ci := 7) (q0 := 0) rfl rfl)) rfl rfl hl.1 rfl (lv_room (Nat.le_of_ble_eq_true rfl)) dX7_digest_231 ⟨Nat.le_of_ble_eq_true rfl, Nat.le_of_ble_eq_true rfl⟩)) (fun r_5 hr_5 => ?_)
  obtain rfl : r_5 = (-1) := hr_5.trans (by decide)
  refine lv_i2l hx hb dX7_digest_234 rfl ?_
  refine cz_lg (y := (-1)) (by decide) ?_
  have hPc := hP.sub (ws' := [(h0, .inr (7, [.int 0, .int 0, .int 0, .int (-1), .int (-1), .int 0, .int 0, .ref m1, .ref m2, .ref m3, .ref m4, .ref m5, .int 0, .ref pg, .int 0, .int 0, .ref m6, .ref m7, .ref m8, .long 0, .int 0, .int 0, .int 0, .int 0, .int 0, .int 0, .ref m9, .ref m10, .ref m11, .ref m12, .long (31 * (31 * 719 + 0) + 0)]))]) [0] rfl
  have hDc := hD.sub (ws' := [(h0, .inr (7, [.int 0, .int 0, .int 0, .int (-1), .int (-1), .int 0, .int 0, .ref m1, .ref m2, .ref m3, .ref m4, .ref m5, .int 0, .ref pg, .int 0, .int 0, .ref m6, .ref m7, .ref m8, .long 0, .int 0, .int 0, .int 0, .int 0, .int 0, .int 0, .ref m9, .ref m10, .ref m11, .ref m12, .long (31 * (31 * 719 + 0) + 0)]))]) [0] (by decide) rfl
  have hFc := va_free (wc := [(h0, .inr (7, [.int 0, .int 0, .int 0, .int (-1), .int (-1), .int 0, .int 0, .ref m1, .ref m2, .ref m3, .ref m4, .ref m5, .int 0, .ref pg, .int 0, .int 0, .ref m6, .ref m7, .ref m8, .long 0, .int 0, .int 0, .int 0, .int 0, .int 0, .int 0, .ref m9, .ref m10, .ref m11, .ref m12, .long (31 * (31 * 719 + 0) + 0)]))]) hD hS hA [0] rfl
  refine va_callv (va_runV (As := [.long (-1)]) (rest := []) ⟨hx, hb, hml, hown, hts⟩ (c_X7_mix l dC dI cI cB h0 (-1) m1 m2 m3 m4 m5 pg m6 m7 m8 m9 m10 m11 m12 (31 * (31 * 719 + 0) + 0) H.size ) (cwV 1 hts gX7_digest_X7_mix rfl rfl rfl (by decide +kernel) ⟨Nat.le_of_ble_eq_true rfl, Nat.le_of_ble_eq_true rfl⟩) (cz_mV hPc hN hDc (va_recv hK hPc (ci := 7) (q0 := 0) rfl rfl)) rfl rfl hl.1 rfl (lv_room (Nat.le_of_ble_eq_true rfl)) dX7_digest_235 ⟨Nat.le_of_ble_eq_true rfl, Nat.le_of_ble_eq_true rfl⟩) hS (fun q _ h => hFc q h) hFc (fun u t H1 locs ht hvm hr_6 hB hz1 hk1 hS => ?_)
  obtain ⟨hP1, hD1⟩ := hB
  rw [ht] at hP1
  obtain ⟨hP, hD⟩ := va_join (wr := []) (w1 := [(h0, .inr (7, [.int 0, .int 0, .int 0, .int (-1), .int (-1), .int 0, .int 0, .ref m1, .ref m2, .ref m3, .ref m4, .ref m5, .int 0, .ref pg, .int 0, .int 0, .ref m6, .ref m7, .ref m8, .long 0, .int 0, .int 0, .int 0, .int 0, .int 0, .int 0, .ref m9, .ref m10, .ref m11, .ref m12, .long (31 * (31 * (31 * 719 + 0) + 0) + (-1))]))]) hP hD [0] [] rfl rfl (by decide) (by decide) hk1 hFc hP1 hD1
  generalize H1 = H at hP hS ⊢
  have hP : va_P (dC, dI) vwCl [(h0, .inr (7, [.int 0, .int 0, .int 0, .int (-1), .int (-1), .int 0, .int 0, .ref m1, .ref m2, .ref m3, .ref m4, .ref m5, .int 0, .ref pg, .int 0, .int 0, .ref m6, .ref m7, .ref m8, .long 0, .int 0, .int 0, .int 0, .int 0, .int 0, .int 0, .ref m9, .ref m10, .ref m11, .ref m12, .long (31 * (31 * (31 * 719 + 0) + 0) + (-1))]))] H := hP
  have hD : va_D A [(h0, .inr (7, [.int 0, .int 0, .int 0, .int (-1), .int (-1), .int 0, .int 0, .ref m1, .ref m2, .ref m3, .ref m4, .ref m5, .int 0, .ref pg, .int 0, .int 0, .ref m6, .ref m7, .ref m8, .long 0, .int 0, .int 0, .int 0, .int 0, .int 0, .int 0, .ref m9, .ref m10, .ref m11, .ref m12, .long (31 * (31 * (31 * 719 + 0) + 0) + (-1))]))] := hD
  refine lv_iinc (v := 3) (lv' := [(1, .int 3), (0, .ref h0)]) hx hb dX7_digest_238 hl (k := 0) rfl (by decide) (by decide) rfl (fun ls hl => ?_)
  refine lv_goto (tgt := 222) hx hb dX7_digest_241 (by decide) ?_
  refine lv_iload_n hx hb dX7_digest_222 rfl (lv_at hl 0 rfl) ?_
  refine lv_bipush (v := 9) hx hb dX7_digest_223 (by decide) ?_
  refine lv_icmp_ge (tgt := 244) hx hb dX7_digest_225 (by decide) (fun c => absurd c (by decide)) (fun _ => ?_)
  refine lv_aload_n hx hb dX7_digest_228 rfl (lv_at hl 1 rfl) ?_
  refine lv_aload_n hx hb dX7_digest_229 rfl (lv_at hl 1 rfl) ?_
  refine lv_iload_n hx hb dX7_digest_230 rfl (lv_at hl 0 rfl) ?_
  refine vp_callSi (cz_run (va_runV (As := [.int 3]) (rest := [.ref h0]) ⟨hx, hb, hml, hown, hts⟩ (c_X7_howMany l dC dI cI cB h0 3 m1 m2 m3 m4 m5 pg m6 m7 m8 m9 m10 m11 m12 (31 * (31 * (31 * 719 + 0) + 0) + (-1)) ) (cwV 1 hts gX7_digest_X7_howMany rfl rfl rfl (by decide +kernel) ⟨Nat.le_of_ble_eq_true rfl, Nat.le_of_ble_eq_true rfl⟩) (cz_pV hP hN (va_recv hK hP (ci := 7) (q0 := 0) rfl rfl)) rfl rfl hl.1 rfl (lv_room (Nat.le_of_ble_eq_true rfl)) dX7_digest_231 ⟨Nat.le_of_ble_eq_true rfl, Nat.le_of_ble_eq_true rfl⟩)) (fun r_7 hr_7 => ?_)
  obtain rfl : r_7 = (-1) := hr_7.trans (by decide)
  refine lv_i2l hx hb dX7_digest_234 rfl ?_
  refine cz_lg (y := (-1)) (by decide) ?_
  have hPc := hP.sub (ws' := [(h0, .inr (7, [.int 0, .int 0, .int 0, .int (-1), .int (-1), .int 0, .int 0, .ref m1, .ref m2, .ref m3, .ref m4, .ref m5, .int 0, .ref pg, .int 0, .int 0, .ref m6, .ref m7, .ref m8, .long 0, .int 0, .int 0, .int 0, .int 0, .int 0, .int 0, .ref m9, .ref m10, .ref m11, .ref m12, .long (31 * (31 * (31 * 719 + 0) + 0) + (-1))]))]) [0] rfl
  have hDc := hD.sub (ws' := [(h0, .inr (7, [.int 0, .int 0, .int 0, .int (-1), .int (-1), .int 0, .int 0, .ref m1, .ref m2, .ref m3, .ref m4, .ref m5, .int 0, .ref pg, .int 0, .int 0, .ref m6, .ref m7, .ref m8, .long 0, .int 0, .int 0, .int 0, .int 0, .int 0, .int 0, .ref m9, .ref m10, .ref m11, .ref m12, .long (31 * (31 * (31 * 719 + 0) + 0) + (-1))]))]) [0] (by decide) rfl
  have hFc := va_free (wc := [(h0, .inr (7, [.int 0, .int 0, .int 0, .int (-1), .int (-1), .int 0, .int 0, .ref m1, .ref m2, .ref m3, .ref m4, .ref m5, .int 0, .ref pg, .int 0, .int 0, .ref m6, .ref m7, .ref m8, .long 0, .int 0, .int 0, .int 0, .int 0, .int 0, .int 0, .ref m9, .ref m10, .ref m11, .ref m12, .long (31 * (31 * (31 * 719 + 0) + 0) + (-1))]))]) hD hS hA [0] rfl
  refine va_callv (va_runV (As := [.long (-1)]) (rest := []) ⟨hx, hb, hml, hown, hts⟩ (c_X7_mix l dC dI cI cB h0 (-1) m1 m2 m3 m4 m5 pg m6 m7 m8 m9 m10 m11 m12 (31 * (31 * (31 * 719 + 0) + 0) + (-1)) H.size ) (cwV 1 hts gX7_digest_X7_mix rfl rfl rfl (by decide +kernel) ⟨Nat.le_of_ble_eq_true rfl, Nat.le_of_ble_eq_true rfl⟩) (cz_mV hPc hN hDc (va_recv hK hPc (ci := 7) (q0 := 0) rfl rfl)) rfl rfl hl.1 rfl (lv_room (Nat.le_of_ble_eq_true rfl)) dX7_digest_235 ⟨Nat.le_of_ble_eq_true rfl, Nat.le_of_ble_eq_true rfl⟩) hS (fun q _ h => hFc q h) hFc (fun u t H1 locs ht hvm hr_8 hB hz1 hk1 hS => ?_)
  obtain ⟨hP1, hD1⟩ := hB
  rw [ht] at hP1
  obtain ⟨hP, hD⟩ := va_join (wr := []) (w1 := [(h0, .inr (7, [.int 0, .int 0, .int 0, .int (-1), .int (-1), .int 0, .int 0, .ref m1, .ref m2, .ref m3, .ref m4, .ref m5, .int 0, .ref pg, .int 0, .int 0, .ref m6, .ref m7, .ref m8, .long 0, .int 0, .int 0, .int 0, .int 0, .int 0, .int 0, .ref m9, .ref m10, .ref m11, .ref m12, .long (31 * (31 * (31 * (31 * 719 + 0) + 0) + (-1)) + (-1))]))]) hP hD [0] [] rfl rfl (by decide) (by decide) hk1 hFc hP1 hD1
  generalize H1 = H at hP hS ⊢
  have hP : va_P (dC, dI) vwCl [(h0, .inr (7, [.int 0, .int 0, .int 0, .int (-1), .int (-1), .int 0, .int 0, .ref m1, .ref m2, .ref m3, .ref m4, .ref m5, .int 0, .ref pg, .int 0, .int 0, .ref m6, .ref m7, .ref m8, .long 0, .int 0, .int 0, .int 0, .int 0, .int 0, .int 0, .ref m9, .ref m10, .ref m11, .ref m12, .long (31 * (31 * (31 * (31 * 719 + 0) + 0) + (-1)) + (-1))]))] H := hP
  have hD : va_D A [(h0, .inr (7, [.int 0, .int 0, .int 0, .int (-1), .int (-1), .int 0, .int 0, .ref m1, .ref m2, .ref m3, .ref m4, .ref m5, .int 0, .ref pg, .int 0, .int 0, .ref m6, .ref m7, .ref m8, .long 0, .int 0, .int 0, .int 0, .int 0, .int 0, .int 0, .ref m9, .ref m10, .ref m11, .ref m12, .long (31 * (31 * (31 * (31 * 719 + 0) + 0) + (-1)) + (-1))]))] := hD
  refine lv_iinc (v := 4) (lv' := [(1, .int 4), (0, .ref h0)]) hx hb dX7_digest_238 hl (k := 0) rfl (by decide) (by decide) rfl (fun ls hl => ?_)
  refine lv_goto (tgt := 222) hx hb dX7_digest_241 (by decide) ?_
  refine lv_iload_n hx hb dX7_digest_222 rfl (lv_at hl 0 rfl) ?_
  refine lv_bipush (v := 9) hx hb dX7_digest_223 (by decide) ?_
  refine lv_icmp_ge (tgt := 244) hx hb dX7_digest_225 (by decide) (fun c => absurd c (by decide)) (fun _ => ?_)
  refine lv_aload_n hx hb dX7_digest_228 rfl (lv_at hl 1 rfl) ?_
  refine lv_aload_n hx hb dX7_digest_229 rfl (lv_at hl 1 rfl) ?_
  refine lv_iload_n hx hb dX7_digest_230 rfl (lv_at hl 0 rfl) ?_
  refine vp_callSi (cz_run (va_runV (As := [.int 4]) (rest := [.ref h0]) ⟨hx, hb, hml, hown, hts⟩ (c_X7_howMany l dC dI cI cB h0 4 m1 m2 m3 m4 m5 pg m6 m7 m8 m9 m10 m11 m12 (31 * (31 * (31 * (31 * 719 + 0) + 0) + (-1)) + (-1)) ) (cwV 1 hts gX7_digest_X7_howMany rfl rfl rfl (by decide +kernel) ⟨Nat.le_of_ble_eq_true rfl, Nat.le_of_ble_eq_true rfl⟩) (cz_pV hP hN (va_recv hK hP (ci := 7) (q0 := 0) rfl rfl)) rfl rfl hl.1 rfl (lv_room (Nat.le_of_ble_eq_true rfl)) dX7_digest_231 ⟨Nat.le_of_ble_eq_true rfl, Nat.le_of_ble_eq_true rfl⟩)) (fun r_9 hr_9 => ?_)
  obtain rfl : r_9 = 0 := hr_9.trans (by decide)
  refine lv_i2l hx hb dX7_digest_234 rfl ?_
  refine cz_lg (y := 0) (by decide) ?_
  have hPc := hP.sub (ws' := [(h0, .inr (7, [.int 0, .int 0, .int 0, .int (-1), .int (-1), .int 0, .int 0, .ref m1, .ref m2, .ref m3, .ref m4, .ref m5, .int 0, .ref pg, .int 0, .int 0, .ref m6, .ref m7, .ref m8, .long 0, .int 0, .int 0, .int 0, .int 0, .int 0, .int 0, .ref m9, .ref m10, .ref m11, .ref m12, .long (31 * (31 * (31 * (31 * 719 + 0) + 0) + (-1)) + (-1))]))]) [0] rfl
  have hDc := hD.sub (ws' := [(h0, .inr (7, [.int 0, .int 0, .int 0, .int (-1), .int (-1), .int 0, .int 0, .ref m1, .ref m2, .ref m3, .ref m4, .ref m5, .int 0, .ref pg, .int 0, .int 0, .ref m6, .ref m7, .ref m8, .long 0, .int 0, .int 0, .int 0, .int 0, .int 0, .int 0, .ref m9, .ref m10, .ref m11, .ref m12, .long (31 * (31 * (31 * (31 * 719 + 0) + 0) + (-1)) + (-1))]))]) [0] (by decide) rfl
  have hFc := va_free (wc := [(h0, .inr (7, [.int 0, .int 0, .int 0, .int (-1), .int (-1), .int 0, .int 0, .ref m1, .ref m2, .ref m3, .ref m4, .ref m5, .int 0, .ref pg, .int 0, .int 0, .ref m6, .ref m7, .ref m8, .long 0, .int 0, .int 0, .int 0, .int 0, .int 0, .int 0, .ref m9, .ref m10, .ref m11, .ref m12, .long (31 * (31 * (31 * (31 * 719 + 0) + 0) + (-1)) + (-1))]))]) hD hS hA [0] rfl
  refine va_callv (va_runV (As := [.long 0]) (rest := []) ⟨hx, hb, hml, hown, hts⟩ (c_X7_mix l dC dI cI cB h0 0 m1 m2 m3 m4 m5 pg m6 m7 m8 m9 m10 m11 m12 (31 * (31 * (31 * (31 * 719 + 0) + 0) + (-1)) + (-1)) H.size ) (cwV 1 hts gX7_digest_X7_mix rfl rfl rfl (by decide +kernel) ⟨Nat.le_of_ble_eq_true rfl, Nat.le_of_ble_eq_true rfl⟩) (cz_mV hPc hN hDc (va_recv hK hPc (ci := 7) (q0 := 0) rfl rfl)) rfl rfl hl.1 rfl (lv_room (Nat.le_of_ble_eq_true rfl)) dX7_digest_235 ⟨Nat.le_of_ble_eq_true rfl, Nat.le_of_ble_eq_true rfl⟩) hS (fun q _ h => hFc q h) hFc (fun u t H1 locs ht hvm hr_10 hB hz1 hk1 hS => ?_)
  obtain ⟨hP1, hD1⟩ := hB
  rw [ht] at hP1
  obtain ⟨hP, hD⟩ := va_join (wr := []) (w1 := [(h0, .inr (7, [.int 0, .int 0, .int 0, .int (-1), .int (-1), .int 0, .int 0, .ref m1, .ref m2, .ref m3, .ref m4, .ref m5, .int 0, .ref pg, .int 0, .int 0, .ref m6, .ref m7, .ref m8, .long 0, .int 0, .int 0, .int 0, .int 0, .int 0, .int 0, .ref m9, .ref m10, .ref m11, .ref m12, .long (31 * (31 * (31 * (31 * (31 * 719 + 0) + 0) + (-1)) + (-1)) + 0)]))]) hP hD [0] [] rfl rfl (by decide) (by decide) hk1 hFc hP1 hD1
  generalize H1 = H at hP hS ⊢
  have hP : va_P (dC, dI) vwCl [(h0, .inr (7, [.int 0, .int 0, .int 0, .int (-1), .int (-1), .int 0, .int 0, .ref m1, .ref m2, .ref m3, .ref m4, .ref m5, .int 0, .ref pg, .int 0, .int 0, .ref m6, .ref m7, .ref m8, .long 0, .int 0, .int 0, .int 0, .int 0, .int 0, .int 0, .ref m9, .ref m10, .ref m11, .ref m12, .long (31 * (31 * (31 * (31 * (31 * 719 + 0) + 0) + (-1)) + (-1)) + 0)]))] H := hP
  have hD : va_D A [(h0, .inr (7, [.int 0, .int 0, .int 0, .int (-1), .int (-1), .int 0, .int 0, .ref m1, .ref m2, .ref m3, .ref m4, .ref m5, .int 0, .ref pg, .int 0, .int 0, .ref m6, .ref m7, .ref m8, .long 0, .int 0, .int 0, .int 0, .int 0, .int 0, .int 0, .ref m9, .ref m10, .ref m11, .ref m12, .long (31 * (31 * (31 * (31 * (31 * 719 + 0) + 0) + (-1)) + (-1)) + 0)]))] := hD
  refine lv_iinc (v := 5) (lv' := [(1, .int 5), (0, .ref h0)]) hx hb dX7_digest_238 hl (k := 0) rfl (by decide) (by decide) rfl (fun ls hl => ?_)
  refine lv_goto (tgt := 222) hx hb dX7_digest_241 (by decide) ?_
  refine lv_iload_n hx hb dX7_digest_222 rfl (lv_at hl 0 rfl) ?_
  refine lv_bipush (v := 9) hx hb dX7_digest_223 (by decide) ?_
  refine lv_icmp_ge (tgt := 244) hx hb dX7_digest_225 (by decide) (fun c => absurd c (by decide)) (fun _ => ?_)
  refine lv_aload_n hx hb dX7_digest_228 rfl (lv_at hl 1 rfl) ?_
  refine lv_aload_n hx hb dX7_digest_229 rfl (lv_at hl 1 rfl) ?_
  refine lv_iload_n hx hb dX7_digest_230 rfl (lv_at hl 0 rfl) ?_
  refine vp_callSi (cz_run (va_runV (As := [.int 5]) (rest := [.ref h0]) ⟨hx, hb, hml, hown, hts⟩ (c_X7_howMany l dC dI cI cB h0 5 m1 m2 m3 m4 m5 pg m6 m7 m8 m9 m10 m11 m12 (31 * (31 * (31 * (31 * (31 * 719 + 0) + 0) + (-1)) + (-1)) + 0) ) (cwV 1 hts gX7_digest_X7_howMany rfl rfl rfl (by decide +kernel) ⟨Nat.le_of_ble_eq_true rfl, Nat.le_of_ble_eq_true rfl⟩) (cz_pV hP hN (va_recv hK hP (ci := 7) (q0 := 0) rfl rfl)) rfl rfl hl.1 rfl (lv_room (Nat.le_of_ble_eq_true rfl)) dX7_digest_231 ⟨Nat.le_of_ble_eq_true rfl, Nat.le_of_ble_eq_true rfl⟩)) (fun r_11 hr_11 => ?_)
  obtain rfl : r_11 = 0 := hr_11.trans (by decide)
  refine lv_i2l hx hb dX7_digest_234 rfl ?_
  refine cz_lg (y := 0) (by decide) ?_
  have hPc := hP.sub (ws' := [(h0, .inr (7, [.int 0, .int 0, .int 0, .int (-1), .int (-1), .int 0, .int 0, .ref m1, .ref m2, .ref m3, .ref m4, .ref m5, .int 0, .ref pg, .int 0, .int 0, .ref m6, .ref m7, .ref m8, .long 0, .int 0, .int 0, .int 0, .int 0, .int 0, .int 0, .ref m9, .ref m10, .ref m11, .ref m12, .long (31 * (31 * (31 * (31 * (31 * 719 + 0) + 0) + (-1)) + (-1)) + 0)]))]) [0] rfl
  have hDc := hD.sub (ws' := [(h0, .inr (7, [.int 0, .int 0, .int 0, .int (-1), .int (-1), .int 0, .int 0, .ref m1, .ref m2, .ref m3, .ref m4, .ref m5, .int 0, .ref pg, .int 0, .int 0, .ref m6, .ref m7, .ref m8, .long 0, .int 0, .int 0, .int 0, .int 0, .int 0, .int 0, .ref m9, .ref m10, .ref m11, .ref m12, .long (31 * (31 * (31 * (31 * (31 * 719 + 0) + 0) + (-1)) + (-1)) + 0)]))]) [0] (by decide) rfl
  have hFc := va_free (wc := [(h0, .inr (7, [.int 0, .int 0, .int 0, .int (-1), .int (-1), .int 0, .int 0, .ref m1, .ref m2, .ref m3, .ref m4, .ref m5, .int 0, .ref pg, .int 0, .int 0, .ref m6, .ref m7, .ref m8, .long 0, .int 0, .int 0, .int 0, .int 0, .int 0, .int 0, .ref m9, .ref m10, .ref m11, .ref m12, .long (31 * (31 * (31 * (31 * (31 * 719 + 0) + 0) + (-1)) + (-1)) + 0)]))]) hD hS hA [0] rfl
  refine va_callv (va_runV (As := [.long 0]) (rest := []) ⟨hx, hb, hml, hown, hts⟩ (c_X7_mix l dC dI cI cB h0 0 m1 m2 m3 m4 m5 pg m6 m7 m8 m9 m10 m11 m12 (31 * (31 * (31 * (31 * (31 * 719 + 0) + 0) + (-1)) + (-1)) + 0) H.size ) (cwV 1 hts gX7_digest_X7_mix rfl rfl rfl (by decide +kernel) ⟨Nat.le_of_ble_eq_true rfl, Nat.le_of_ble_eq_true rfl⟩) (cz_mV hPc hN hDc (va_recv hK hPc (ci := 7) (q0 := 0) rfl rfl)) rfl rfl hl.1 rfl (lv_room (Nat.le_of_ble_eq_true rfl)) dX7_digest_235 ⟨Nat.le_of_ble_eq_true rfl, Nat.le_of_ble_eq_true rfl⟩) hS (fun q _ h => hFc q h) hFc (fun u t H1 locs ht hvm hr_12 hB hz1 hk1 hS => ?_)
  obtain ⟨hP1, hD1⟩ := hB
  rw [ht] at hP1
  obtain ⟨hP, hD⟩ := va_join (wr := []) (w1 := [(h0, .inr (7, [.int 0, .int 0, .int 0, .int (-1), .int (-1), .int 0, .int 0, .ref m1, .ref m2, .ref m3, .ref m4, .ref m5, .int 0, .ref pg, .int 0, .int 0, .ref m6, .ref m7, .ref m8, .long 0, .int 0, .int 0, .int 0, .int 0, .int 0, .int 0, .ref m9, .ref m10, .ref m11, .ref m12, .long (31 * (31 * (31 * (31 * (31 * (31 * 719 + 0) + 0) + (-1)) + (-1)) + 0) + 0)]))]) hP hD [0] [] rfl rfl (by decide) (by decide) hk1 hFc hP1 hD1
  generalize H1 = H at hP hS ⊢
  have hP : va_P (dC, dI) vwCl [(h0, .inr (7, [.int 0, .int 0, .int 0, .int (-1), .int (-1), .int 0, .int 0, .ref m1, .ref m2, .ref m3, .ref m4, .ref m5, .int 0, .ref pg, .int 0, .int 0, .ref m6, .ref m7, .ref m8, .long 0, .int 0, .int 0, .int 0, .int 0, .int 0, .int 0, .ref m9, .ref m10, .ref m11, .ref m12, .long (31 * (31 * (31 * (31 * (31 * (31 * 719 + 0) + 0) + (-1)) + (-1)) + 0) + 0)]))] H := hP
  have hD : va_D A [(h0, .inr (7, [.int 0, .int 0, .int 0, .int (-1), .int (-1), .int 0, .int 0, .ref m1, .ref m2, .ref m3, .ref m4, .ref m5, .int 0, .ref pg, .int 0, .int 0, .ref m6, .ref m7, .ref m8, .long 0, .int 0, .int 0, .int 0, .int 0, .int 0, .int 0, .ref m9, .ref m10, .ref m11, .ref m12, .long (31 * (31 * (31 * (31 * (31 * (31 * 719 + 0) + 0) + (-1)) + (-1)) + 0) + 0)]))] := hD
  refine lv_iinc (v := 6) (lv' := [(1, .int 6), (0, .ref h0)]) hx hb dX7_digest_238 hl (k := 0) rfl (by decide) (by decide) rfl (fun ls hl => ?_)
  refine lv_goto (tgt := 222) hx hb dX7_digest_241 (by decide) ?_
  refine lv_iload_n hx hb dX7_digest_222 rfl (lv_at hl 0 rfl) ?_
  refine lv_bipush (v := 9) hx hb dX7_digest_223 (by decide) ?_
  refine lv_icmp_ge (tgt := 244) hx hb dX7_digest_225 (by decide) (fun c => absurd c (by decide)) (fun _ => ?_)
  refine lv_aload_n hx hb dX7_digest_228 rfl (lv_at hl 1 rfl) ?_
  refine lv_aload_n hx hb dX7_digest_229 rfl (lv_at hl 1 rfl) ?_
  refine lv_iload_n hx hb dX7_digest_230 rfl (lv_at hl 0 rfl) ?_
  refine vp_callSi (cz_run (va_runV (As := [.int 6]) (rest := [.ref h0]) ⟨hx, hb, hml, hown, hts⟩ (c_X7_howMany l dC dI cI cB h0 6 m1 m2 m3 m4 m5 pg m6 m7 m8 m9 m10 m11 m12 (31 * (31 * (31 * (31 * (31 * (31 * 719 + 0) + 0) + (-1)) + (-1)) + 0) + 0) ) (cwV 1 hts gX7_digest_X7_howMany rfl rfl rfl (by decide +kernel) ⟨Nat.le_of_ble_eq_true rfl, Nat.le_of_ble_eq_true rfl⟩) (cz_pV hP hN (va_recv hK hP (ci := 7) (q0 := 0) rfl rfl)) rfl rfl hl.1 rfl (lv_room (Nat.le_of_ble_eq_true rfl)) dX7_digest_231 ⟨Nat.le_of_ble_eq_true rfl, Nat.le_of_ble_eq_true rfl⟩)) (fun r_13 hr_13 => ?_)
  obtain rfl : r_13 = 0 := hr_13.trans (by decide)
  refine lv_i2l hx hb dX7_digest_234 rfl ?_
  refine cz_lg (y := 0) (by decide) ?_
  have hPc := hP.sub (ws' := [(h0, .inr (7, [.int 0, .int 0, .int 0, .int (-1), .int (-1), .int 0, .int 0, .ref m1, .ref m2, .ref m3, .ref m4, .ref m5, .int 0, .ref pg, .int 0, .int 0, .ref m6, .ref m7, .ref m8, .long 0, .int 0, .int 0, .int 0, .int 0, .int 0, .int 0, .ref m9, .ref m10, .ref m11, .ref m12, .long (31 * (31 * (31 * (31 * (31 * (31 * 719 + 0) + 0) + (-1)) + (-1)) + 0) + 0)]))]) [0] rfl
  have hDc := hD.sub (ws' := [(h0, .inr (7, [.int 0, .int 0, .int 0, .int (-1), .int (-1), .int 0, .int 0, .ref m1, .ref m2, .ref m3, .ref m4, .ref m5, .int 0, .ref pg, .int 0, .int 0, .ref m6, .ref m7, .ref m8, .long 0, .int 0, .int 0, .int 0, .int 0, .int 0, .int 0, .ref m9, .ref m10, .ref m11, .ref m12, .long (31 * (31 * (31 * (31 * (31 * (31 * 719 + 0) + 0) + (-1)) + (-1)) + 0) + 0)]))]) [0] (by decide) rfl
  have hFc := va_free (wc := [(h0, .inr (7, [.int 0, .int 0, .int 0, .int (-1), .int (-1), .int 0, .int 0, .ref m1, .ref m2, .ref m3, .ref m4, .ref m5, .int 0, .ref pg, .int 0, .int 0, .ref m6, .ref m7, .ref m8, .long 0, .int 0, .int 0, .int 0, .int 0, .int 0, .int 0, .ref m9, .ref m10, .ref m11, .ref m12, .long (31 * (31 * (31 * (31 * (31 * (31 * 719 + 0) + 0) + (-1)) + (-1)) + 0) + 0)]))]) hD hS hA [0] rfl
  refine va_callv (va_runV (As := [.long 0]) (rest := []) ⟨hx, hb, hml, hown, hts⟩ (c_X7_mix l dC dI cI cB h0 0 m1 m2 m3 m4 m5 pg m6 m7 m8 m9 m10 m11 m12 (31 * (31 * (31 * (31 * (31 * (31 * 719 + 0) + 0) + (-1)) + (-1)) + 0) + 0) H.size ) (cwV 1 hts gX7_digest_X7_mix rfl rfl rfl (by decide +kernel) ⟨Nat.le_of_ble_eq_true rfl, Nat.le_of_ble_eq_true rfl⟩) (cz_mV hPc hN hDc (va_recv hK hPc (ci := 7) (q0 := 0) rfl rfl)) rfl rfl hl.1 rfl (lv_room (Nat.le_of_ble_eq_true rfl)) dX7_digest_235 ⟨Nat.le_of_ble_eq_true rfl, Nat.le_of_ble_eq_true rfl⟩) hS (fun q _ h => hFc q h) hFc (fun u t H1 locs ht hvm hr_14 hB hz1 hk1 hS => ?_)
  obtain ⟨hP1, hD1⟩ := hB
  rw [ht] at hP1
  obtain ⟨hP, hD⟩ := va_join (wr := []) (w1 := [(h0, .inr (7, [.int 0, .int 0, .int 0, .int (-1), .int (-1), .int 0, .int 0, .ref m1, .ref m2, .ref m3, .ref m4, .ref m5, .int 0, .ref pg, .int 0, .int 0, .ref m6, .ref m7, .ref m8, .long 0, .int 0, .int 0, .int 0, .int 0, .int 0, .int 0, .ref m9, .ref m10, .ref m11, .ref m12, .long (31 * (31 * (31 * (31 * (31 * (31 * (31 * 719 + 0) + 0) + (-1)) + (-1)) + 0) + 0) + 0)]))]) hP hD [0] [] rfl rfl (by decide) (by decide) hk1 hFc hP1 hD1
  generalize H1 = H at hP hS ⊢
  have hP : va_P (dC, dI) vwCl [(h0, .inr (7, [.int 0, .int 0, .int 0, .int (-1), .int (-1), .int 0, .int 0, .ref m1, .ref m2, .ref m3, .ref m4, .ref m5, .int 0, .ref pg, .int 0, .int 0, .ref m6, .ref m7, .ref m8, .long 0, .int 0, .int 0, .int 0, .int 0, .int 0, .int 0, .ref m9, .ref m10, .ref m11, .ref m12, .long (31 * (31 * (31 * (31 * (31 * (31 * (31 * 719 + 0) + 0) + (-1)) + (-1)) + 0) + 0) + 0)]))] H := hP
  have hD : va_D A [(h0, .inr (7, [.int 0, .int 0, .int 0, .int (-1), .int (-1), .int 0, .int 0, .ref m1, .ref m2, .ref m3, .ref m4, .ref m5, .int 0, .ref pg, .int 0, .int 0, .ref m6, .ref m7, .ref m8, .long 0, .int 0, .int 0, .int 0, .int 0, .int 0, .int 0, .ref m9, .ref m10, .ref m11, .ref m12, .long (31 * (31 * (31 * (31 * (31 * (31 * (31 * 719 + 0) + 0) + (-1)) + (-1)) + 0) + 0) + 0)]))] := hD
  refine lv_iinc (v := 7) (lv' := [(1, .int 7), (0, .ref h0)]) hx hb dX7_digest_238 hl (k := 0) rfl (by decide) (by decide) rfl (fun ls hl => ?_)
  refine lv_goto (tgt := 222) hx hb dX7_digest_241 (by decide) ?_
  refine lv_iload_n hx hb dX7_digest_222 rfl (lv_at hl 0 rfl) ?_
  refine lv_bipush (v := 9) hx hb dX7_digest_223 (by decide) ?_
  refine lv_icmp_ge (tgt := 244) hx hb dX7_digest_225 (by decide) (fun c => absurd c (by decide)) (fun _ => ?_)
  refine lv_aload_n hx hb dX7_digest_228 rfl (lv_at hl 1 rfl) ?_
  refine lv_aload_n hx hb dX7_digest_229 rfl (lv_at hl 1 rfl) ?_
  refine lv_iload_n hx hb dX7_digest_230 rfl (lv_at hl 0 rfl) ?_
  refine vp_callSi (cz_run (va_runV (As := [.int 7]) (rest := [.ref h0]) ⟨hx, hb, hml, hown, hts⟩ (c_X7_howMany l dC dI cI cB h0 7 m1 m2 m3 m4 m5 pg m6 m7 m8 m9 m10 m11 m12 (31 * (31 * (31 * (31 * (31 * (31 * (31 * 719 + 0) + 0) + (-1)) + (-1)) + 0) + 0) + 0) ) (cwV 1 hts gX7_digest_X7_howMany rfl rfl rfl (by decide +kernel) ⟨Nat.le_of_ble_eq_true rfl, Nat.le_of_ble_eq_true rfl⟩) (cz_pV hP hN (va_recv hK hP (ci := 7) (q0 := 0) rfl rfl)) rfl rfl hl.1 rfl (lv_room (Nat.le_of_ble_eq_true rfl)) dX7_digest_231 ⟨Nat.le_of_ble_eq_true rfl, Nat.le_of_ble_eq_true rfl⟩)) (fun r_15 hr_15 => ?_)
  obtain rfl : r_15 = 0 := hr_15.trans (by decide)
  refine lv_i2l hx hb dX7_digest_234 rfl ?_
  refine cz_lg (y := 0) (by decide) ?_
  have hPc := hP.sub (ws' := [(h0, .inr (7, [.int 0, .int 0, .int 0, .int (-1), .int (-1), .int 0, .int 0, .ref m1, .ref m2, .ref m3, .ref m4, .ref m5, .int 0, .ref pg, .int 0, .int 0, .ref m6, .ref m7, .ref m8, .long 0, .int 0, .int 0, .int 0, .int 0, .int 0, .int 0, .ref m9, .ref m10, .ref m11, .ref m12, .long (31 * (31 * (31 * (31 * (31 * (31 * (31 * 719 + 0) + 0) + (-1)) + (-1)) + 0) + 0) + 0)]))]) [0] rfl
  have hDc := hD.sub (ws' := [(h0, .inr (7, [.int 0, .int 0, .int 0, .int (-1), .int (-1), .int 0, .int 0, .ref m1, .ref m2, .ref m3, .ref m4, .ref m5, .int 0, .ref pg, .int 0, .int 0, .ref m6, .ref m7, .ref m8, .long 0, .int 0, .int 0, .int 0, .int 0, .int 0, .int 0, .ref m9, .ref m10, .ref m11, .ref m12, .long (31 * (31 * (31 * (31 * (31 * (31 * (31 * 719 + 0) + 0) + (-1)) + (-1)) + 0) + 0) + 0)]))]) [0] (by decide) rfl
  have hFc := va_free (wc := [(h0, .inr (7, [.int 0, .int 0, .int 0, .int (-1), .int (-1), .int 0, .int 0, .ref m1, .ref m2, .ref m3, .ref m4, .ref m5, .int 0, .ref pg, .int 0, .int 0, .ref m6, .ref m7, .ref m8, .long 0, .int 0, .int 0, .int 0, .int 0, .int 0, .int 0, .ref m9, .ref m10, .ref m11, .ref m12, .long (31 * (31 * (31 * (31 * (31 * (31 * (31 * 719 + 0) + 0) + (-1)) + (-1)) + 0) + 0) + 0)]))]) hD hS hA [0] rfl
  refine va_callv (va_runV (As := [.long 0]) (rest := []) ⟨hx, hb, hml, hown, hts⟩ (c_X7_mix l dC dI cI cB h0 0 m1 m2 m3 m4 m5 pg m6 m7 m8 m9 m10 m11 m12 (31 * (31 * (31 * (31 * (31 * (31 * (31 * 719 + 0) + 0) + (-1)) + (-1)) + 0) + 0) + 0) H.size ) (cwV 1 hts gX7_digest_X7_mix rfl rfl rfl (by decide +kernel) ⟨Nat.le_of_ble_eq_true rfl, Nat.le_of_ble_eq_true rfl⟩) (cz_mV hPc hN hDc (va_recv hK hPc (ci := 7) (q0 := 0) rfl rfl)) rfl rfl hl.1 rfl (lv_room (Nat.le_of_ble_eq_true rfl)) dX7_digest_235 ⟨Nat.le_of_ble_eq_true rfl, Nat.le_of_ble_eq_true rfl⟩) hS (fun q _ h => hFc q h) hFc (fun u t H1 locs ht hvm hr_16 hB hz1 hk1 hS => ?_)
  obtain ⟨hP1, hD1⟩ := hB
  rw [ht] at hP1
  obtain ⟨hP, hD⟩ := va_join (wr := []) (w1 := [(h0, .inr (7, [.int 0, .int 0, .int 0, .int (-1), .int (-1), .int 0, .int 0, .ref m1, .ref m2, .ref m3, .ref m4, .ref m5, .int 0, .ref pg, .int 0, .int 0, .ref m6, .ref m7, .ref m8, .long 0, .int 0, .int 0, .int 0, .int 0, .int 0, .int 0, .ref m9, .ref m10, .ref m11, .ref m12, .long (31 * (31 * (31 * (31 * (31 * (31 * (31 * (31 * 719 + 0) + 0) + (-1)) + (-1)) + 0) + 0) + 0) + 0)]))]) hP hD [0] [] rfl rfl (by decide) (by decide) hk1 hFc hP1 hD1
  generalize H1 = H at hP hS ⊢
  have hP : va_P (dC, dI) vwCl [(h0, .inr (7, [.int 0, .int 0, .int 0, .int (-1), .int (-1), .int 0, .int 0, .ref m1, .ref m2, .ref m3, .ref m4, .ref m5, .int 0, .ref pg, .int 0, .int 0, .ref m6, .ref m7, .ref m8, .long 0, .int 0, .int 0, .int 0, .int 0, .int 0, .int 0, .ref m9, .ref m10, .ref m11, .ref m12, .long (31 * (31 * (31 * (31 * (31 * (31 * (31 * (31 * 719 + 0) + 0) + (-1)) + (-1)) + 0) + 0) + 0) + 0)]))] H := hP
  have hD : va_D A [(h0, .inr (7, [.int 0, .int 0, .int 0, .int (-1), .int (-1), .int 0, .int 0, .ref m1, .ref m2, .ref m3, .ref m4, .ref m5, .int 0, .ref pg, .int 0, .int 0, .ref m6, .ref m7, .ref m8, .long 0, .int 0, .int 0, .int 0, .int 0, .int 0, .int 0, .ref m9, .ref m10, .ref m11, .ref m12, .long (31 * (31 * (31 * (31 * (31 * (31 * (31 * (31 * 719 + 0) + 0) + (-1)) + (-1)) + 0) + 0) + 0) + 0)]))] := hD
  refine lv_iinc (v := 8) (lv' := [(1, .int 8), (0, .ref h0)]) hx hb dX7_digest_238 hl (k := 0) rfl (by decide) (by decide) rfl (fun ls hl => ?_)
  refine lv_goto (tgt := 222) hx hb dX7_digest_241 (by decide) ?_
  refine lv_iload_n hx hb dX7_digest_222 rfl (lv_at hl 0 rfl) ?_
  refine lv_bipush (v := 9) hx hb dX7_digest_223 (by decide) ?_
  refine lv_icmp_ge (tgt := 244) hx hb dX7_digest_225 (by decide) (fun c => absurd c (by decide)) (fun _ => ?_)
  refine lv_aload_n hx hb dX7_digest_228 rfl (lv_at hl 1 rfl) ?_
  refine lv_aload_n hx hb dX7_digest_229 rfl (lv_at hl 1 rfl) ?_
  refine lv_iload_n hx hb dX7_digest_230 rfl (lv_at hl 0 rfl) ?_
  refine vp_callSi (cz_run (va_runV (As := [.int 8]) (rest := [.ref h0]) ⟨hx, hb, hml, hown, hts⟩ (c_X7_howMany l dC dI cI cB h0 8 m1 m2 m3 m4 m5 pg m6 m7 m8 m9 m10 m11 m12 (31 * (31 * (31 * (31 * (31 * (31 * (31 * (31 * 719 + 0) + 0) + (-1)) + (-1)) + 0) + 0) + 0) + 0) ) (cwV 1 hts gX7_digest_X7_howMany rfl rfl rfl (by decide +kernel) ⟨Nat.le_of_ble_eq_true rfl, Nat.le_of_ble_eq_true rfl⟩) (cz_pV hP hN (va_recv hK hP (ci := 7) (q0 := 0) rfl rfl)) rfl rfl hl.1 rfl (lv_room (Nat.le_of_ble_eq_true rfl)) dX7_digest_231 ⟨Nat.le_of_ble_eq_true rfl, Nat.le_of_ble_eq_true rfl⟩)) (fun r_17 hr_17 => ?_)
  obtain rfl : r_17 = 0 := hr_17.trans (by decide)
  refine lv_i2l hx hb dX7_digest_234 rfl ?_
  refine cz_lg (y := 0) (by decide) ?_
  have hPc := hP.sub (ws' := [(h0, .inr (7, [.int 0, .int 0, .int 0, .int (-1), .int (-1), .int 0, .int 0, .ref m1, .ref m2, .ref m3, .ref m4, .ref m5, .int 0, .ref pg, .int 0, .int 0, .ref m6, .ref m7, .ref m8, .long 0, .int 0, .int 0, .int 0, .int 0, .int 0, .int 0, .ref m9, .ref m10, .ref m11, .ref m12, .long (31 * (31 * (31 * (31 * (31 * (31 * (31 * (31 * 719 + 0) + 0) + (-1)) + (-1)) + 0) + 0) + 0) + 0)]))]) [0] rfl
  have hDc := hD.sub (ws' := [(h0, .inr (7, [.int 0, .int 0, .int 0, .int (-1), .int (-1), .int 0, .int 0, .ref m1, .ref m2, .ref m3, .ref m4, .ref m5, .int 0, .ref pg, .int 0, .int 0, .ref m6, .ref m7, .ref m8, .long 0, .int 0, .int 0, .int 0, .int 0, .int 0, .int 0, .ref m9, .ref m10, .ref m11, .ref m12, .long (31 * (31 * (31 * (31 * (31 * (31 * (31 * (31 * 719 + 0) + 0) + (-1)) + (-1)) + 0) + 0) + 0) + 0)]))]) [0] (by decide) rfl
  have hFc := va_free (wc := [(h0, .inr (7, [.int 0, .int 0, .int 0, .int (-1), .int (-1), .int 0, .int 0, .ref m1, .ref m2, .ref m3, .ref m4, .ref m5, .int 0, .ref pg, .int 0, .int 0, .ref m6, .ref m7, .ref m8, .long 0, .int 0, .int 0, .int 0, .int 0, .int 0, .int 0, .ref m9, .ref m10, .ref m11, .ref m12, .long (31 * (31 * (31 * (31 * (31 * (31 * (31 * (31 * 719 + 0) + 0) + (-1)) + (-1)) + 0) + 0) + 0) + 0)]))]) hD hS hA [0] rfl
  refine va_callv (va_runV (As := [.long 0]) (rest := []) ⟨hx, hb, hml, hown, hts⟩ (c_X7_mix l dC dI cI cB h0 0 m1 m2 m3 m4 m5 pg m6 m7 m8 m9 m10 m11 m12 (31 * (31 * (31 * (31 * (31 * (31 * (31 * (31 * 719 + 0) + 0) + (-1)) + (-1)) + 0) + 0) + 0) + 0) H.size ) (cwV 1 hts gX7_digest_X7_mix rfl rfl rfl (by decide +kernel) ⟨Nat.le_of_ble_eq_true rfl, Nat.le_of_ble_eq_true rfl⟩) (cz_mV hPc hN hDc (va_recv hK hPc (ci := 7) (q0 := 0) rfl rfl)) rfl rfl hl.1 rfl (lv_room (Nat.le_of_ble_eq_true rfl)) dX7_digest_235 ⟨Nat.le_of_ble_eq_true rfl, Nat.le_of_ble_eq_true rfl⟩) hS (fun q _ h => hFc q h) hFc (fun u t H1 locs ht hvm hr_18 hB hz1 hk1 hS => ?_)
  obtain ⟨hP1, hD1⟩ := hB
  rw [ht] at hP1
  obtain ⟨hP, hD⟩ := va_join (wr := []) (w1 := [(h0, .inr (7, [.int 0, .int 0, .int 0, .int (-1), .int (-1), .int 0, .int 0, .ref m1, .ref m2, .ref m3, .ref m4, .ref m5, .int 0, .ref pg, .int 0, .int 0, .ref m6, .ref m7, .ref m8, .long 0, .int 0, .int 0, .int 0, .int 0, .int 0, .int 0, .ref m9, .ref m10, .ref m11, .ref m12, .long (31 * (31 * (31 * (31 * (31 * (31 * (31 * (31 * (31 * 719 + 0) + 0) + (-1)) + (-1)) + 0) + 0) + 0) + 0) + 0)]))]) hP hD [0] [] rfl rfl (by decide) (by decide) hk1 hFc hP1 hD1
  generalize H1 = H at hP hS ⊢
  have hP : va_P (dC, dI) vwCl [(h0, .inr (7, [.int 0, .int 0, .int 0, .int (-1), .int (-1), .int 0, .int 0, .ref m1, .ref m2, .ref m3, .ref m4, .ref m5, .int 0, .ref pg, .int 0, .int 0, .ref m6, .ref m7, .ref m8, .long 0, .int 0, .int 0, .int 0, .int 0, .int 0, .int 0, .ref m9, .ref m10, .ref m11, .ref m12, .long (31 * (31 * (31 * (31 * (31 * (31 * (31 * (31 * (31 * 719 + 0) + 0) + (-1)) + (-1)) + 0) + 0) + 0) + 0) + 0)]))] H := hP
  have hD : va_D A [(h0, .inr (7, [.int 0, .int 0, .int 0, .int (-1), .int (-1), .int 0, .int 0, .ref m1, .ref m2, .ref m3, .ref m4, .ref m5, .int 0, .ref pg, .int 0, .int 0, .ref m6, .ref m7, .ref m8, .long 0, .int 0, .int 0, .int 0, .int 0, .int 0, .int 0, .ref m9, .ref m10, .ref m11, .ref m12, .long (31 * (31 * (31 * (31 * (31 * (31 * (31 * (31 * (31 * 719 + 0) + 0) + (-1)) + (-1)) + 0) + 0) + 0) + 0) + 0)]))] := hD
  refine lv_iinc (v := 9) (lv' := [(1, .int 9), (0, .ref h0)]) hx hb dX7_digest_238 hl (k := 0) rfl (by decide) (by decide) rfl (fun ls hl => ?_)
  refine lv_goto (tgt := 222) hx hb dX7_digest_241 (by decide) ?_
  refine lv_iload_n hx hb dX7_digest_222 rfl (lv_at hl 0 rfl) ?_
  refine lv_bipush (v := 9) hx hb dX7_digest_223 (by decide) ?_
  refine lv_icmp_ge (tgt := 244) hx hb dX7_digest_225 (by decide) (fun _ => ?_) (fun c => absurd (by decide) c)
  refine lv_aload_n hx hb dX7_digest_244 rfl (lv_at hl 1 rfl) ?_
  refine va_get (D := (dC, dI)) (ci := 7) (v := .long (31 * (31 * (31 * (31 * (31 * (31 * (31 * (31 * (31 * 719 + 0) + 0) + (-1)) + (-1)) + 0) + 0) + 0) + 0) + 0)) (C := RX7) (T := TX7) (N := 31) hx hb hts hiX7 hown hK hP 0 rfl rfl 30 (by decide) (hts (.fieldLink RX7 236 "LeftProfileModel" "h" "J") (List.mem_of_getElem? (i := 2) rfl)) (fun _ h9 => h9) rfl dX7_digest_245 ?_
  refine W.widen (k := 0) (n := 0) (Nat.le_of_ble_eq_true rfl) (Nat.le_of_ble_eq_true rfl) ?_
  exact W.lret (v := (31 * (31 * (31 * (31 * (31 * (31 * (31 * (31 * (31 * 719 + 0) + 0) + (-1)) + (-1)) + 0) + 0) + 0) + 0) + 0)) hx hb hr (fun t ht hW => ⟨⟨(31 * (31 * (31 * (31 * (31 * (31 * (31 * (31 * (31 * 719 + 0) + 0) + (-1)) + (-1)) + 0) + 0) + 0) + 0) + 0), (), rfl, (by decide), trivial⟩, hS.F ht⟩) hS.2.2 dX7_digest_248
