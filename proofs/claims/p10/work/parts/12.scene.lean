set_option maxHeartbeats 4000000 in
set_option maxRecDepth 100000 in
theorem c_X5_seen (l : Launch) (dC : Nat → ClassId) (dI : Nat → Nat → Nat) (cI cB : ClassId) (si : Nat) (p0 : Int32) (p1 : Int32) (p2 : Int32) (p3 : Int32) (p4 : Int32) (tw : Nat) (tb : Nat) (ft : Nat → Int32) (fb : Nat → Int32) : Met l yX5_seen wsX5_seen ({ frames := 2, cells := 0, slots := 0, locals := 44 }) (cz_Pp dC dI cI cB [.ref si, .int p0, .int p1, .int p2, .int p3, .int p4] [(si, .inr (5, [.ref tw, .ref tb])), (tw, .inl (cI, 400, .inl ft)), (tb, .inl (cI, 400, .inl fb))]) (vp_Si (fun r : Int32 => True)) 0 0 (fun _ => False) := by
  refine cz_of (cc := cX5_seen) (maxL := 9) (ret := (some .int)) (by decide) rfl ?_
  intro p e s m args below meth c s₁ Q B hml hv hQ
  obtain ⟨rfl, hP, hN⟩ := hv
  have hx := B.exec
  have hb := B.bytes
  have hr := B.returns
  have hts := atoms_spec (ws := wsX5_seen) B.pre
  have hown : s.vm.findClass RX5 = some m.cls := findClass_of_methodNamed B.named
  have hlocks := B.notSynchronized
  have hK := hN.1
  have hiX5 : ∀ w ∈ wsX50, w ∈ wsX5_seen := (fun _ h => List.mem_cons_of_mem _ (List.mem_append_right _ h))
  have hl := lv_entry ([.ref si, .int p0, .int p1, .int p2, .int p3, .int p4]) (n := 9) (Nat.le_of_ble_eq_true rfl)
  rw [lg_entry_eq]
  generalize (lg_sl ([.ref si, .int p0, .int p1, .int p2, .int p3, .int p4]) ++ List.replicate (9 - (lg_sl ([.ref si, .int p0, .int p1, .int p2, .int p3, .int p4])).length) Slot.unset).toArray = ls at hl ⊢
  have hl : lv_has ls 9 [(0, .ref si), (1, .int p0), (2, .int p1), (3, .int p2), (4, .int p3), (5, .int p4)] := hl
  refine lv_iload_n hx hb dX5_seen_0 rfl (lv_at hl 3 rfl) ?_
  refine vp_callSi (cz_run (va_runSN (As := [.int p2]) (rest := []) ⟨hx, hb, hml, hown, hts⟩ (c_X6_placeOf l dC dI cI cB p2 ) ⟨(va_cnB 1 hts gX5_seen_X6_placeOf_n40 rfl rfl rfl (hN.2 (RX5, 40, yX6_placeOf) (by decide)) (hts (.initialized RX6) (List.mem_of_getElem? (i := 4) rfl)) (by decide +kernel) ⟨Nat.le_of_ble_eq_true rfl, Nat.le_of_ble_eq_true rfl⟩), hts (.static yX6_placeOf) (List.mem_of_getElem? (i := 3) rfl), trivial⟩ (cz_pS (hP.sub (ws' := []) [] rfl) hN) rfl rfl hl.1 rfl (lv_room (Nat.le_of_ble_eq_true rfl)) dX5_seen_1 ⟨Nat.le_of_ble_eq_true rfl, Nat.le_of_ble_eq_true rfl⟩)) (fun r_1 hr_1 => ?_)
  refine lv_istore (lv' := [(6, .int r_1), (0, .ref si), (1, .int p0), (2, .int p1), (3, .int p2), (4, .int p3), (5, .int p4)]) hx hb dX5_seen_4 hl (by decide) rfl (fun ls hl => ?_)
  refine lv_iload_n hx hb dX5_seen_6 rfl (lv_at hl 3 rfl) ?_
  refine vp_callSi (cz_run (va_runSN (As := [.int p1]) (rest := []) ⟨hx, hb, hml, hown, hts⟩ (c_X6_isPlace l dC dI cI cB p1 ) ⟨(va_cnB 1 hts gX5_seen_X6_isPlace_n32 rfl rfl rfl (hN.2 (RX5, 32, yX6_isPlace) (by decide)) (hts (.initialized RX6) (List.mem_of_getElem? (i := 4) rfl)) (by decide +kernel) ⟨Nat.le_of_ble_eq_true rfl, Nat.le_of_ble_eq_true rfl⟩), hts (.static yX6_isPlace) (List.mem_of_getElem? (i := 6) rfl), trivial⟩ (cz_pS (hP.sub (ws' := []) [] rfl) hN) rfl rfl hl.1 rfl (lv_room (Nat.le_of_ble_eq_true rfl)) dX5_seen_7 ⟨Nat.le_of_ble_eq_true rfl, Nat.le_of_ble_eq_true rfl⟩)) (fun r_2 hr_2 => ?_)
  rcases hr_2 with ⟨rfl, hr_2⟩ | ⟨rfl, hr_2⟩
  · refine lv_if_eq (tgt := 21) hx hb dX5_seen_10 (by decide) (fun _ => ?_) (fun c => absurd (by decide) c)
    refine lv_iconst (v := 0) hx hb dX5_seen_21 (by decide) ?_
    rw [hQ]; exact W.iret (v := 0) hx hb hr (fun t ht hW => ⟨0, rfl, trivial, ht⟩) (fun _ h => absurd h List.not_mem_nil) dX5_seen_22
  · refine lv_if_eq (tgt := 21) hx hb dX5_seen_10 (by decide) (fun c => absurd c (by decide)) (fun _ => ?_)
    refine lv_iload hx hb dX5_seen_13 (lv_at hl 0 rfl) ?_
    refine vp_callSi (cz_run (va_runSN (As := [.int r_1]) (rest := []) ⟨hx, hb, hml, hown, hts⟩ (c_X6_isPlace l dC dI cI cB r_1 ) ⟨(va_cnB 1 hts gX5_seen_X6_isPlace_n32 rfl rfl rfl (hN.2 (RX5, 32, yX6_isPlace) (by decide)) (hts (.initialized RX6) (List.mem_of_getElem? (i := 4) rfl)) (by decide +kernel) ⟨Nat.le_of_ble_eq_true rfl, Nat.le_of_ble_eq_true rfl⟩), hts (.static yX6_isPlace) (List.mem_of_getElem? (i := 6) rfl), trivial⟩ (cz_pS (hP.sub (ws' := []) [] rfl) hN) rfl rfl hl.1 rfl (lv_room (Nat.le_of_ble_eq_true rfl)) dX5_seen_15 ⟨Nat.le_of_ble_eq_true rfl, Nat.le_of_ble_eq_true rfl⟩)) (fun r_3 hr_3 => ?_)
    rcases hr_3 with ⟨rfl, hr_3⟩ | ⟨rfl, hr_3⟩
    · refine lv_if_ne (tgt := 23) hx hb dX5_seen_18 (by decide) (fun c => absurd (by decide) c) (fun _ => ?_)
      refine lv_iconst (v := 0) hx hb dX5_seen_21 (by decide) ?_
      rw [hQ]; exact W.iret (v := 0) hx hb hr (fun t ht hW => ⟨0, rfl, trivial, ht⟩) (fun _ h => absurd h List.not_mem_nil) dX5_seen_22
    · refine lv_if_ne (tgt := 23) hx hb dX5_seen_18 (by decide) (fun _ => ?_) (fun c => absurd c (by decide))
      refine lv_aload_n hx hb dX5_seen_23 rfl (lv_at hl 1 rfl) ?_
      refine va_get (D := (dC, dI)) (ci := 5) (v := .ref tw) (C := RX5) (T := TX5) (N := 2) hx hb hts hiX5 hown hK hP 0 rfl rfl 0 (by decide) (hts (.fieldLink RX5 9 "LeftProfile$Sight" "ways" "[I") (List.mem_of_getElem? (i := 1) rfl)) (fun _ h9 => h9) rfl dX5_seen_24 ?_
      refine lv_iload hx hb dX5_seen_27 (lv_at hl 0 rfl) ?_
      refine lv_bipush (v := 20) hx hb dX5_seen_29 (by decide) ?_
      refine lv_imul hx hb dX5_seen_31 ?_
      refine lv_topi (fun x_4 ex_4 => ?_)
      refine lv_iload_n hx hb dX5_seen_32 rfl (lv_at hl 3 rfl) ?_
      refine lv_iadd hx hb dX5_seen_33 ?_
      refine lv_topi (fun x_5 ex_5 => ?_)
      refine va_iald hx hb hK hP 1 0 rfl rfl (cz_ix hr_3 hr_2 ex_4 ex_5) dX5_seen_34 ?_
      refine lv_topi (fun x_6 ex_6 => ?_)
      refine lv_istore (lv' := [(7, .int x_6), (6, .int r_1), (0, .ref si), (1, .int p0), (2, .int p1), (3, .int p2), (4, .int p3), (5, .int p4)]) hx hb dX5_seen_35 hl (by decide) rfl (fun ls hl => ?_)
      refine lv_iload hx hb dX5_seen_37 (lv_at hl 0 rfl) ?_
      refine lv_iconst (v := (-1)) hx hb dX5_seen_39 (by decide) ?_
      refine lv_icmp_eq (tgt := 66) hx hb dX5_seen_40 (by decide) (fun c_7 => ?_) (fun c_7 => ?_)
      · refine lv_iconst (v := 0) hx hb dX5_seen_66 (by decide) ?_
        rw [hQ]; exact W.iret (v := 0) hx hb hr (fun t ht hW => ⟨0, rfl, trivial, ht⟩) (fun _ h => absurd h List.not_mem_nil) dX5_seen_67
      · refine lv_iload_n hx hb dX5_seen_43 rfl (lv_at hl 3 rfl) ?_
        refine lv_aload_n hx hb dX5_seen_44 rfl (lv_at hl 2 rfl) ?_
        refine va_get (D := (dC, dI)) (ci := 5) (v := .ref tb) (C := RX5) (T := TX5) (N := 2) hx hb hts hiX5 hown hK hP 0 rfl rfl 1 (by decide) (hts (.fieldLink RX5 15 "LeftProfile$Sight" "between" "[I") (List.mem_of_getElem? (i := 2) rfl)) (fun _ h9 => h9) rfl dX5_seen_45 ?_
        refine lv_iload hx hb dX5_seen_48 (lv_at hl 1 rfl) ?_
        refine lv_bipush (v := 20) hx hb dX5_seen_50 (by decide) ?_
        refine lv_imul hx hb dX5_seen_52 ?_
        refine lv_topi (fun x_8 ex_8 => ?_)
        refine lv_iload_n hx hb dX5_seen_53 rfl (lv_at hl 4 rfl) ?_
        refine lv_iadd hx hb dX5_seen_54 ?_
        refine lv_topi (fun x_9 ex_9 => ?_)
        refine va_iald hx hb hK hP 2 0 rfl rfl (cz_ix hr_3 hr_2 ex_8 ex_9) dX5_seen_55 ?_
        refine lv_topi (fun x_10 ex_10 => ?_)
        refine lv_iload hx hb dX5_seen_56 (lv_at hl 6 rfl) ?_
        refine lv_iload hx hb dX5_seen_58 (lv_at hl 7 rfl) ?_
        refine vp_callSi (cz_run (va_runS (As := [.int p0, .int x_10, .int p3, .int p4]) (rest := []) ⟨hx, hb, hml, hown, hts⟩ (c_X5_isBarred l dC dI cI cB p0 x_10 p3 p4 ) (va_cwS 4 hts gX5_seen_X5_isBarred rfl rfl rfl (by decide +kernel) ⟨Nat.le_of_ble_eq_true rfl, Nat.le_of_ble_eq_true rfl⟩) (cz_pS (hP.sub (ws' := []) [] rfl) hN) rfl rfl hl.1 rfl (lv_room (Nat.le_of_ble_eq_true rfl)) dX5_seen_60 ⟨Nat.le_of_ble_eq_true rfl, Nat.le_of_ble_eq_true rfl⟩)) (fun r_11 hr_11 => ?_)
        refine lv_if_eq (tgt := 68) hx hb dX5_seen_63 (by decide) (fun c_12 => ?_) (fun c_12 => ?_)
        · refine lv_iload hx hb dX5_seen_68 (lv_at hl 0 rfl) ?_
          refine lv_iconst (v := 2) hx hb dX5_seen_70 (by decide) ?_
          refine lv_iload_n hx hb dX5_seen_71 rfl (lv_at hl 5 rfl) ?_
          refine vp_callSi (cz_run (va_runSN (As := [.int p2]) (rest := [.int 2, .int x_6]) ⟨hx, hb, hml, hown, hts⟩ (c_X6_sideOf l dC dI cI cB p2 ) ⟨(va_cnB 1 hts gX5_seen_X6_sideOf_n47 rfl rfl rfl (hN.2 (RX5, 47, yX6_sideOf) (by decide)) (hts (.initialized RX6) (List.mem_of_getElem? (i := 4) rfl)) (by decide +kernel) ⟨Nat.le_of_ble_eq_true rfl, Nat.le_of_ble_eq_true rfl⟩), hts (.static yX6_sideOf) (List.mem_of_getElem? (i := 21) rfl), trivial⟩ (cz_pS (hP.sub (ws' := []) [] rfl) hN) rfl rfl hl.1 rfl (lv_room (Nat.le_of_ble_eq_true rfl)) dX5_seen_72 ⟨Nat.le_of_ble_eq_true rfl, Nat.le_of_ble_eq_true rfl⟩)) (fun r_13 hr_13 => ?_)
          refine lv_imul hx hb dX5_seen_75 ?_
          refine lv_topi (fun x_14 ex_14 => ?_)
          refine lv_isub hx hb dX5_seen_76 ?_
          refine lv_topi (fun x_15 ex_15 => ?_)
          refine lv_bipush (v := 8) hx hb dX5_seen_77 (by decide) ?_
          refine vp_callSi (cz_run (va_runS (As := [.int x_15, .int 8]) (rest := []) ⟨hx, hb, hml, hown, hts⟩ (c_J9_floorMod_7cf53 l dC dI cI cB x_15 ) (va_cwS 2 hts gX5_seen_J9_floorMod_7cf53 rfl rfl rfl (by decide +kernel) ⟨Nat.le_of_ble_eq_true rfl, Nat.le_of_ble_eq_true rfl⟩) (cz_pS (hP.sub (ws' := []) [] rfl) hN) rfl rfl hl.1 rfl (lv_room (Nat.le_of_ble_eq_true rfl)) dX5_seen_79 ⟨Nat.le_of_ble_eq_true rfl, Nat.le_of_ble_eq_true rfl⟩)) (fun r_16 hr_16 => ?_)
          refine vp_callSi (cz_run (va_runS (As := [.int r_16]) (rest := []) ⟨hx, hb, hml, hown, hts⟩ (c_X5_cheekFrom l dC dI cI cB r_16 ) (va_cwS 1 hts gX5_seen_X5_cheekFrom rfl rfl rfl (by decide +kernel) ⟨Nat.le_of_ble_eq_true rfl, Nat.le_of_ble_eq_true rfl⟩) (cz_pS (hP.sub (ws' := []) [] rfl) hN) rfl rfl hl.1 rfl (lv_room (Nat.le_of_ble_eq_true rfl)) dX5_seen_82 ⟨Nat.le_of_ble_eq_true rfl, Nat.le_of_ble_eq_true rfl⟩)) (fun r_17 hr_17 => ?_)
          refine lv_istore (lv' := [(8, .int r_17), (7, .int x_6), (6, .int r_1), (0, .ref si), (1, .int p0), (2, .int p1), (3, .int p2), (4, .int p3), (5, .int p4)]) hx hb dX5_seen_85 hl (by decide) rfl (fun ls hl => ?_)
          refine lv_iload_n hx hb dX5_seen_87 rfl (lv_at hl 4 rfl) ?_
          refine lv_iconst (v := 1) hx hb dX5_seen_88 (by decide) ?_
          refine lv_icmp_ne (tgt := 102) hx hb dX5_seen_89 (by decide) (fun c_18 => ?_) (fun c_18 => ?_)
          · refine lv_iload hx hb dX5_seen_102 (lv_at hl 0 rfl) ?_
            rw [hQ]; exact W.iret (v := r_17) hx hb hr (fun t ht hW => ⟨r_17, rfl, trivial, ht⟩) (fun _ h => absurd h List.not_mem_nil) dX5_seen_104
          · refine lv_iload hx hb dX5_seen_92 (lv_at hl 0 rfl) ?_
            refine lv_iconst (v := 3) hx hb dX5_seen_94 (by decide) ?_
            refine lv_icmp_ne (tgt := 102) hx hb dX5_seen_95 (by decide) (fun c_19 => ?_) (fun c_19 => ?_)
            · refine lv_iload hx hb dX5_seen_102 (lv_at hl 0 rfl) ?_
              rw [hQ]; exact W.iret (v := r_17) hx hb hr (fun t ht hW => ⟨r_17, rfl, trivial, ht⟩) (fun _ h => absurd h List.not_mem_nil) dX5_seen_104
            · refine lv_iconst (v := 0) hx hb dX5_seen_98 (by decide) ?_
              refine lv_goto (tgt := 104) hx hb dX5_seen_99 (by decide) ?_
              rw [hQ]; exact W.iret (v := 0) hx hb hr (fun t ht hW => ⟨0, rfl, trivial, ht⟩) (fun _ h => absurd h List.not_mem_nil) dX5_seen_104
        · refine lv_iconst (v := 0) hx hb dX5_seen_66 (by decide) ?_
          rw [hQ]; exact W.iret (v := 0) hx hb hr (fun t ht hW => ⟨0, rfl, trivial, ht⟩) (fun _ h => absurd h List.not_mem_nil) dX5_seen_67

set_option maxHeartbeats 4000000 in
set_option maxRecDepth 100000 in
theorem c_X5_isGuilty (l : Launch) (dC : Nat → ClassId) (dI : Nat → Nat → Nat) (cI cB : ClassId) (si : Nat) (p0 : Int32) (p1 : Int32) (p2 : Int32) (p3 : Int32) (p4 : Int32) (tw : Nat) (tb : Nat) (ft : Nat → Int32) (fb : Nat → Int32) : Met l yX5_isGuilty wsX5_isGuilty ({ frames := 3, cells := 0, slots := 0, locals := 72 }) (cz_Pp dC dI cI cB [.ref si, .int p0, .int p1, .int p2, .int p3, .int p4] [(si, .inr (5, [.ref tw, .ref tb])), (tw, .inl (cI, 400, .inl ft)), (tb, .inl (cI, 400, .inl fb))]) (vp_Si (fun r : Int32 => True)) 0 0 (fun _ => False) := by
  refine cz_of (cc := cX5_isGuilty) (maxL := 7) (ret := (some .boolean)) (by decide) rfl ?_
  intro p e s m args below meth c s₁ Q B hml hv hQ
  obtain ⟨rfl, hP, hN⟩ := hv
  have hx := B.exec
  have hb := B.bytes
  have hr := B.returns
  have hts := atoms_spec (ws := wsX5_isGuilty) B.pre
  have hown : s.vm.findClass RX5 = some m.cls := findClass_of_methodNamed B.named
  have hlocks := B.notSynchronized
  have hK := hN.1
  have hl := lv_entry ([.ref si, .int p0, .int p1, .int p2, .int p3, .int p4]) (n := 7) (Nat.le_of_ble_eq_true rfl)
  rw [lg_entry_eq]
  generalize (lg_sl ([.ref si, .int p0, .int p1, .int p2, .int p3, .int p4]) ++ List.replicate (7 - (lg_sl ([.ref si, .int p0, .int p1, .int p2, .int p3, .int p4])).length) Slot.unset).toArray = ls at hl ⊢
  have hl : lv_has ls 7 [(0, .ref si), (1, .int p0), (2, .int p1), (3, .int p2), (4, .int p3), (5, .int p4)] := hl
  refine lv_aload_n hx hb dX5_isGuilty_0 rfl (lv_at hl 0 rfl) ?_
  refine lv_iload_n hx hb dX5_isGuilty_1 rfl (lv_at hl 1 rfl) ?_
  refine lv_iload_n hx hb dX5_isGuilty_2 rfl (lv_at hl 2 rfl) ?_
  refine lv_iload_n hx hb dX5_isGuilty_3 rfl (lv_at hl 3 rfl) ?_
  refine lv_iload hx hb dX5_isGuilty_4 (lv_at hl 4 rfl) ?_
  refine lv_iload hx hb dX5_isGuilty_6 (lv_at hl 5 rfl) ?_
  refine vp_callSi (cz_run (va_runV (As := [.int p0, .int p1, .int p2, .int p3, .int p4]) (rest := []) ⟨hx, hb, hml, hown, hts⟩ (c_X5_seen l dC dI cI cB si p0 p1 p2 p3 p4 tw tb ft fb ) (cwV 5 hts gX5_isGuilty_X5_seen rfl rfl rfl (by decide +kernel) ⟨Nat.le_of_ble_eq_true rfl, Nat.le_of_ble_eq_true rfl⟩) (cz_pV hP hN (va_recv hK hP (ci := 5) (q0 := 0) rfl rfl)) rfl rfl hl.1 rfl (lv_room (Nat.le_of_ble_eq_true rfl)) dX5_isGuilty_8 ⟨Nat.le_of_ble_eq_true rfl, Nat.le_of_ble_eq_true rfl⟩)) (fun r_1 hr_1 => ?_)
  refine lv_istore (lv' := [(6, .int r_1), (0, .ref si), (1, .int p0), (2, .int p1), (3, .int p2), (4, .int p3), (5, .int p4)]) hx hb dX5_isGuilty_11 hl (by decide) rfl (fun ls hl => ?_)
  refine lv_iload_n hx hb dX5_isGuilty_13 rfl (lv_at hl 2 rfl) ?_
  refine lv_iconst (v := 4) hx hb dX5_isGuilty_14 (by decide) ?_
  refine lv_icmp_eq (tgt := 34) hx hb dX5_isGuilty_15 (by decide) (fun c_2 => ?_) (fun c_2 => ?_)
  · refine lv_iconst (v := 0) hx hb dX5_isGuilty_34 (by decide) ?_
    rw [hQ]; exact W.zret (v := 0) hx hb hr (by decide) (fun t ht hW => ⟨0, rfl, trivial, ht⟩) (fun _ h => absurd h List.not_mem_nil) dX5_isGuilty_35
  · refine lv_iload hx hb dX5_isGuilty_18 (lv_at hl 0 rfl) ?_
    refine lv_iconst (v := 2) hx hb dX5_isGuilty_20 (by decide) ?_
    refine lv_icmp_eq (tgt := 30) hx hb dX5_isGuilty_21 (by decide) (fun c_3 => ?_) (fun c_3 => ?_)
    · refine lv_iconst (v := 1) hx hb dX5_isGuilty_30 (by decide) ?_
      refine lv_goto (tgt := 35) hx hb dX5_isGuilty_31 (by decide) ?_
      rw [hQ]; exact W.zret (v := 1) hx hb hr (by decide) (fun t ht hW => ⟨1, rfl, trivial, ht⟩) (fun _ h => absurd h List.not_mem_nil) dX5_isGuilty_35
    · refine lv_iload hx hb dX5_isGuilty_24 (lv_at hl 0 rfl) ?_
      refine lv_iconst (v := 3) hx hb dX5_isGuilty_26 (by decide) ?_
      refine lv_icmp_ne (tgt := 34) hx hb dX5_isGuilty_27 (by decide) (fun c_4 => ?_) (fun c_4 => ?_)
      · refine lv_iconst (v := 0) hx hb dX5_isGuilty_34 (by decide) ?_
        rw [hQ]; exact W.zret (v := 0) hx hb hr (by decide) (fun t ht hW => ⟨0, rfl, trivial, ht⟩) (fun _ h => absurd h List.not_mem_nil) dX5_isGuilty_35
      · refine lv_iconst (v := 1) hx hb dX5_isGuilty_30 (by decide) ?_
        refine lv_goto (tgt := 35) hx hb dX5_isGuilty_31 (by decide) ?_
        rw [hQ]; exact W.zret (v := 1) hx hb hr (by decide) (fun t ht hW => ⟨1, rfl, trivial, ht⟩) (fun _ h => absurd h List.not_mem_nil) dX5_isGuilty_35

theorem c_X4_taken_a1 (w0 : Int32) (a0 : Int32) (k0 : Nat) (g2 : Nat → Int32) (r_1 : Int32) (x_2 : Int32) (r_4 : Int32) (r_5 : Int32) (x_6 : Int32) (hk6 : k0 ≤ 6) (hr_1 : r_1 = cz_pp g2 k0) (ex_2 : x_2 = w0 ||| r_1) (c_3 : ¬ a0 = (-1)) (hr_4 : r_4 = cz_plc a0) (hr_5 : r_5 = 1 <<< (r_4 &&& 31)) (ex_6 : x_6 = x_2 ||| r_5) : (x_6 : Int32) = cz_tk a0 w0 (cz_pp g2 k0) := by first | (subst_vars; rfl) | assumption | ((try subst_vars) <;> (try simp only [cz_tk]) <;> (repeat' split) <;> (first | rfl | contradiction | ((try simp only [cz_in, cz_du, cz_lt, cz_le, cz_eq, cz_l] at *) <;> (first | omega | (simp_all; done))))) | ((try subst_vars); simp only [cz_tk, cz_in, *, and_self, and_true, true_and, if_true, if_false])
theorem c_X4_taken_a2 (w0 : Int32) (a0 : Int32) (k0 : Nat) (g2 : Nat → Int32) (r_1 : Int32) (x_2 : Int32) (hk6 : k0 ≤ 6) (hr_1 : r_1 = cz_pp g2 k0) (ex_2 : x_2 = w0 ||| r_1) (c_3 : a0 = (-1)) : (x_2 : Int32) = cz_tk a0 w0 (cz_pp g2 k0) := by first | (subst_vars; rfl) | assumption | ((try subst_vars) <;> (try simp only [cz_tk]) <;> (repeat' split) <;> (first | rfl | contradiction | ((try simp only [cz_in, cz_du, cz_lt, cz_le, cz_eq, cz_l] at *) <;> (first | omega | (simp_all; done))))) | ((try subst_vars); simp only [cz_tk, cz_in, *, and_self, and_true, true_and, if_true, if_false])
set_option maxHeartbeats 4000000 in
set_option maxRecDepth 100000 in
theorem c_X4_taken (l : Launch) (dC : Nat → ClassId) (dI : Nat → Nat → Nat) (cI cB : ClassId) (hs : Nat) (hh : Nat) (hc : Nat) (si : Nat) (w0 : Int32) (w1 : Int32) (w2 : Int32) (a0 : Int32) (a1 : Int32) (k0 : Nat) (k1 : Nat) (k2 : Nat) (k3 : Nat) (k4 : Nat) (k5 : Nat) (g2 : Nat → Int32) (hk6 : k0 ≤ 6) : Met l yX4_taken wsX4_taken ({ frames := 2, cells := 0, slots := 0, locals := 42 }) (cz_Pp dC dI cI cB [.ref hs] [(hs, .inr (4, [.ref hh, .ref hc, .ref si])), (hh, .inr (1, [.int w0, .int w1, .int w2])), (hc, .inr (0, [.int a0, .int a1, .int (nI k0), .ref k1, .ref k2, .ref k3, .ref k4, .ref k5])), (k2, .inl (cI, 6, .inl g2))]) (vp_Si (fun r : Int32 => r = cz_tk a0 w0 (cz_pp g2 k0))) 0 0 (fun _ => False) := by
  refine cz_of (cc := cX4_taken) (maxL := 2) (ret := (some .int)) (by decide) rfl ?_
  intro p e s m args below meth c s₁ Q B hml hv hQ
  obtain ⟨rfl, hP, hN⟩ := hv
  have hx := B.exec
  have hb := B.bytes
  have hr := B.returns
  have hts := atoms_spec (ws := wsX4_taken) B.pre
  have hown : s.vm.findClass RX4 = some m.cls := findClass_of_methodNamed B.named
  have hlocks := B.notSynchronized
  have hK := hN.1
  have hiX0 : ∀ w ∈ wsX00, w ∈ wsX4_taken := (fun _ h => List.mem_cons_of_mem _ (List.mem_append_right _ h))
  have hiX1 : ∀ w ∈ wsX10, w ∈ wsX4_taken := (fun _ h => List.mem_cons_of_mem _ (List.mem_append_left _ (List.mem_append_right _ h)))
  have hiX4 : ∀ w ∈ wsX40, w ∈ wsX4_taken := (fun _ h => List.mem_cons_of_mem _ (List.mem_append_left _ (List.mem_append_left _ (List.mem_append_right _ h))))
  have hl := lv_entry ([.ref hs]) (n := 2) (Nat.le_of_ble_eq_true rfl)
  rw [lg_entry_eq]
  generalize (lg_sl ([.ref hs]) ++ List.replicate (2 - (lg_sl ([.ref hs])).length) Slot.unset).toArray = ls at hl ⊢
  have hl : lv_has ls 2 [(0, .ref hs)] := hl
  refine lv_aload_n hx hb dX4_taken_0 rfl (lv_at hl 0 rfl) ?_
  refine va_get (D := (dC, dI)) (ci := 4) (v := .ref hh) (C := RX4) (T := TX4) (N := 3) hx hb hts hiX4 hown hK hP 0 rfl rfl 0 (by decide) (hts (.fieldLink RX4 12 "LeftProfile$Scene" "hall" "LLeftProfile$Hall;") (List.mem_of_getElem? (i := 1) rfl)) (fun _ h9 => h9) rfl dX4_taken_1 ?_
  refine va_get (D := (dC, dI)) (ci := 1) (v := .int w0) (C := RX1) (T := TX1) (N := 3) hx hb hts hiX1 hown hK hP 1 rfl rfl 0 (by decide) (hts (.fieldLink RX4 32 "LeftProfile$Hall" "walls" "I") (List.mem_of_getElem? (i := 2) rfl)) (fun _ h9 => h9) rfl dX4_taken_4 ?_
  refine lv_aload_n hx hb dX4_taken_7 rfl (lv_at hl 0 rfl) ?_
  refine va_get (D := (dC, dI)) (ci := 4) (v := .ref hc) (C := RX4) (T := TX4) (N := 3) hx hb hts hiX4 hown hK hP 0 rfl rfl 1 (by decide) (hts (.fieldLink RX4 21 "LeftProfile$Scene" "court" "LLeftProfile$Court;") (List.mem_of_getElem? (i := 3) rfl)) (fun _ h9 => h9) rfl dX4_taken_8 ?_
  refine vp_callSi (cz_run (va_runV (As := []) (rest := [.int w0]) ⟨hx, hb, hml, hown, hts⟩ (c_X0_people l dC dI cI cB hc a0 a1 k0 k1 k2 k3 k4 k5 g2 hk6) (cwV 0 hts gX4_taken_X0_people rfl rfl rfl (by decide +kernel) ⟨Nat.le_of_ble_eq_true rfl, Nat.le_of_ble_eq_true rfl⟩) (cz_pV (hP.sub (ws' := [(hc, .inr (0, [.int a0, .int a1, .int (nI k0), .ref k1, .ref k2, .ref k3, .ref k4, .ref k5])), (k2, .inl (cI, 6, .inl g2))]) [2, 3] rfl) hN (va_recv hK (hP.sub (ws' := [(hc, .inr (0, [.int a0, .int a1, .int (nI k0), .ref k1, .ref k2, .ref k3, .ref k4, .ref k5])), (k2, .inl (cI, 6, .inl g2))]) [2, 3] rfl) (ci := 0) (q0 := 0) rfl rfl)) rfl rfl hl.1 rfl (lv_room (Nat.le_of_ble_eq_true rfl)) dX4_taken_11 ⟨Nat.le_of_ble_eq_true rfl, Nat.le_of_ble_eq_true rfl⟩)) (fun r_1 hr_1 => ?_)
  refine lv_ior hx hb dX4_taken_14 ?_
  refine lv_topi (fun x_2 ex_2 => ?_)
  refine lv_istore_n (lv' := [(1, .int x_2), (0, .ref hs)]) hx hb dX4_taken_15 rfl hl (by decide) rfl (fun ls hl => ?_)
  refine lv_aload_n hx hb dX4_taken_16 rfl (lv_at hl 1 rfl) ?_
  refine va_get (D := (dC, dI)) (ci := 4) (v := .ref hc) (C := RX4) (T := TX4) (N := 3) hx hb hts hiX4 hown hK hP 0 rfl rfl 1 (by decide) (hts (.fieldLink RX4 21 "LeftProfile$Scene" "court" "LLeftProfile$Court;") (List.mem_of_getElem? (i := 3) rfl)) (fun _ h9 => h9) rfl dX4_taken_17 ?_
  refine va_get (D := (dC, dI)) (ci := 0) (v := .int a0) (C := RX0) (T := TX0) (N := 8) hx hb hts hiX0 hown hK hP 2 rfl rfl 0 (by decide) (hts (.fieldLink RX4 40 "LeftProfile$Court" "stance" "I") (List.mem_of_getElem? (i := 4) rfl)) (fun _ h9 => h9) rfl dX4_taken_20 ?_
  refine lv_iconst (v := (-1)) hx hb dX4_taken_23 (by decide) ?_
  refine lv_icmp_ne (tgt := 31) hx hb dX4_taken_24 (by decide) (fun c_3 => ?_) (fun c_3 => ?_)
  · refine lv_iload_n hx hb dX4_taken_31 rfl (lv_at hl 0 rfl) ?_
    refine lv_aload_n hx hb dX4_taken_32 rfl (lv_at hl 1 rfl) ?_
    refine va_get (D := (dC, dI)) (ci := 4) (v := .ref hc) (C := RX4) (T := TX4) (N := 3) hx hb hts hiX4 hown hK hP 0 rfl rfl 1 (by decide) (hts (.fieldLink RX4 21 "LeftProfile$Scene" "court" "LLeftProfile$Court;") (List.mem_of_getElem? (i := 3) rfl)) (fun _ h9 => h9) rfl dX4_taken_33 ?_
    refine va_get (D := (dC, dI)) (ci := 0) (v := .int a0) (C := RX0) (T := TX0) (N := 8) hx hb hts hiX0 hown hK hP 2 rfl rfl 0 (by decide) (hts (.fieldLink RX4 40 "LeftProfile$Court" "stance" "I") (List.mem_of_getElem? (i := 4) rfl)) (fun _ h9 => h9) rfl dX4_taken_36 ?_
    refine vp_callSi (cz_run (va_runSN (As := [.int a0]) (rest := [.int x_2]) ⟨hx, hb, hml, hown, hts⟩ (c_X6_placeOf l dC dI cI cB a0 ) ⟨(va_cnB 1 hts gX4_taken_X6_placeOf_n43 rfl rfl rfl (hN.2 (RX4, 43, yX6_placeOf) (by decide)) (hts (.initialized RX6) (List.mem_of_getElem? (i := 13) rfl)) (by decide +kernel) ⟨Nat.le_of_ble_eq_true rfl, Nat.le_of_ble_eq_true rfl⟩), hts (.static yX6_placeOf) (List.mem_of_getElem? (i := 15) rfl), trivial⟩ (cz_pS (hP.sub (ws' := []) [] rfl) hN) rfl rfl hl.1 rfl (lv_room (Nat.le_of_ble_eq_true rfl)) dX4_taken_39 ⟨Nat.le_of_ble_eq_true rfl, Nat.le_of_ble_eq_true rfl⟩)) (fun r_4 hr_4 => ?_)
    refine vp_callSi (cz_run (va_runSN (As := [.int r_4]) (rest := [.int x_2]) ⟨hx, hb, hml, hown, hts⟩ (c_X6_bit l dC dI cI cB r_4 ) ⟨(va_cnB 1 hts gX4_taken_X6_bit_n47 rfl rfl rfl (hN.2 (RX4, 47, yX6_bit) (by decide)) (hts (.initialized RX6) (List.mem_of_getElem? (i := 13) rfl)) (by decide +kernel) ⟨Nat.le_of_ble_eq_true rfl, Nat.le_of_ble_eq_true rfl⟩), hts (.static yX6_bit) (List.mem_of_getElem? (i := 12) rfl), trivial⟩ (cz_pS (hP.sub (ws' := []) [] rfl) hN) rfl rfl hl.1 rfl (lv_room (Nat.le_of_ble_eq_true rfl)) dX4_taken_42 ⟨Nat.le_of_ble_eq_true rfl, Nat.le_of_ble_eq_true rfl⟩)) (fun r_5 hr_5 => ?_)
    refine lv_ior hx hb dX4_taken_45 ?_
    refine lv_topi (fun x_6 ex_6 => ?_)
    rw [hQ]; exact W.iret (v := x_6) hx hb hr (fun t ht hW => ⟨x_6, rfl, (c_X4_taken_a1 w0 a0 k0 g2 r_1 x_2 r_4 r_5 x_6 hk6 hr_1 ex_2 c_3 hr_4 hr_5 ex_6), ht⟩) (fun _ h => absurd h List.not_mem_nil) dX4_taken_46
  · refine lv_iload_n hx hb dX4_taken_27 rfl (lv_at hl 0 rfl) ?_
    refine lv_goto (tgt := 46) hx hb dX4_taken_28 (by decide) ?_
    rw [hQ]; exact W.iret (v := x_2) hx hb hr (fun t ht hW => ⟨x_2, rfl, (c_X4_taken_a2 w0 a0 k0 g2 r_1 x_2 hk6 hr_1 ex_2 c_3), ht⟩) (fun _ h => absurd h List.not_mem_nil) dX4_taken_46

set_option maxHeartbeats 4000000 in
set_option maxRecDepth 100000 in
theorem c_X4_seenIf (l : Launch) (dC : Nat → ClassId) (dI : Nat → Nat → Nat) (cI cB : ClassId) (hs : Nat) (p0 : Int32) (p1 : Int32) (p2 : Int32) (hh : Nat) (hc : Nat) (si : Nat) (w0 : Int32) (w1 : Int32) (w2 : Int32) (a0 : Int32) (a1 : Int32) (k0 : Nat) (k1 : Nat) (k2 : Nat) (k3 : Nat) (k4 : Nat) (k5 : Nat) (g1 : Nat → Int32) (g2 : Nat → Int32) (tw : Nat) (tb : Nat) (ft : Nat → Int32) (fb : Nat → Int32) (hk6 : k0 ≤ 6) : Met l yX4_seenIf wsX4_seenIf ({ frames := 3, cells := 0, slots := 0, locals := 72 }) (cz_Pp dC dI cI cB [.ref hs, .int p0, .int p1, .int p2] [(hs, .inr (4, [.ref hh, .ref hc, .ref si])), (hh, .inr (1, [.int w0, .int w1, .int w2])), (hc, .inr (0, [.int a0, .int a1, .int (nI k0), .ref k1, .ref k2, .ref k3, .ref k4, .ref k5])), (k1, .inl (cI, 6, .inl g1)), (k2, .inl (cI, 6, .inl g2)), (si, .inr (5, [.ref tw, .ref tb])), (tw, .inl (cI, 400, .inl ft)), (tb, .inl (cI, 400, .inl fb))]) (vp_Si (fun r : Int32 => True)) 0 0 (fun _ => False) := by
  refine cz_of (cc := cX4_seenIf) (maxL := 4) (ret := (some .int)) (by decide) rfl ?_
  intro p e s m args below meth c s₁ Q B hml hv hQ
  obtain ⟨rfl, hP, hN⟩ := hv
  have hx := B.exec
  have hb := B.bytes
  have hr := B.returns
  have hts := atoms_spec (ws := wsX4_seenIf) B.pre
  have hown : s.vm.findClass RX4 = some m.cls := findClass_of_methodNamed B.named
  have hlocks := B.notSynchronized
  have hK := hN.1
  have hiX0 : ∀ w ∈ wsX00, w ∈ wsX4_seenIf := (fun _ h => List.mem_cons_of_mem _ (List.mem_append_left _ (List.mem_append_left _ (List.mem_append_right _ h))))
  have hiX1 : ∀ w ∈ wsX10, w ∈ wsX4_seenIf := (fun _ h => List.mem_cons_of_mem _ (List.mem_append_left _ (List.mem_append_right _ h)))
  have hiX4 : ∀ w ∈ wsX40, w ∈ wsX4_seenIf := (fun _ h => List.mem_cons_of_mem _ (List.mem_append_left _ (List.mem_append_left _ (List.mem_append_left _ (List.mem_append_right _ h)))))
  have hl := lv_entry ([.ref hs, .int p0, .int p1, .int p2]) (n := 4) (Nat.le_of_ble_eq_true rfl)
  rw [lg_entry_eq]
  generalize (lg_sl ([.ref hs, .int p0, .int p1, .int p2]) ++ List.replicate (4 - (lg_sl ([.ref hs, .int p0, .int p1, .int p2])).length) Slot.unset).toArray = ls at hl ⊢
  have hl : lv_has ls 4 [(0, .ref hs), (1, .int p0), (2, .int p1), (3, .int p2)] := hl
  refine lv_iload_n hx hb dX4_seenIf_0 rfl (lv_at hl 1 rfl) ?_
  refine lv_iconst (v := (-1)) hx hb dX4_seenIf_1 (by decide) ?_
  refine lv_icmp_eq (tgt := 16) hx hb dX4_seenIf_2 (by decide) (fun c_1 => ?_) (fun c_1 => ?_)
  · refine lv_iconst (v := 0) hx hb dX4_seenIf_16 (by decide) ?_
    rw [hQ]; exact W.iret (v := 0) hx hb hr (fun t ht hW => ⟨0, rfl, trivial, ht⟩) (fun _ h => absurd h List.not_mem_nil) dX4_seenIf_17
  · refine lv_aload_n hx hb dX4_seenIf_5 rfl (lv_at hl 0 rfl) ?_
    refine va_get (D := (dC, dI)) (ci := 4) (v := .ref hc) (C := RX4) (T := TX4) (N := 3) hx hb hts hiX4 hown hK hP 0 rfl rfl 1 (by decide) (hts (.fieldLink RX4 21 "LeftProfile$Scene" "court" "LLeftProfile$Court;") (List.mem_of_getElem? (i := 1) rfl)) (fun _ h9 => h9) rfl dX4_seenIf_6 ?_
    refine lv_iload_n hx hb dX4_seenIf_9 rfl (lv_at hl 2 rfl) ?_
    refine vp_callSi (cz_run (va_runV (As := [.int p1]) (rest := []) ⟨hx, hb, hml, hown, hts⟩ (c_X0_has l dC dI cI cB hc p1 a0 a1 k0 k1 k2 k3 k4 k5 hk6) (cwV 1 hts gX4_seenIf_X0_has rfl rfl rfl (by decide +kernel) ⟨Nat.le_of_ble_eq_true rfl, Nat.le_of_ble_eq_true rfl⟩) (cz_pV (hP.sub (ws' := [(hc, .inr (0, [.int a0, .int a1, .int (nI k0), .ref k1, .ref k2, .ref k3, .ref k4, .ref k5]))]) [2] rfl) hN (va_recv hK (hP.sub (ws' := [(hc, .inr (0, [.int a0, .int a1, .int (nI k0), .ref k1, .ref k2, .ref k3, .ref k4, .ref k5]))]) [2] rfl) (ci := 0) (q0 := 0) rfl rfl)) rfl rfl hl.1 rfl (lv_room (Nat.le_of_ble_eq_true rfl)) dX4_seenIf_10 ⟨Nat.le_of_ble_eq_true rfl, Nat.le_of_ble_eq_true rfl⟩)) (fun r_2 hr_2 => ?_)
    rcases hr_2 with ⟨rfl, hr_2⟩ | ⟨rfl, j_3, hr_2, rfl⟩
    · refine lv_if_ne (tgt := 18) hx hb dX4_seenIf_13 (by decide) (fun c => absurd (by decide) c) (fun _ => ?_)
      refine lv_iconst (v := 0) hx hb dX4_seenIf_16 (by decide) ?_
      rw [hQ]; exact W.iret (v := 0) hx hb hr (fun t ht hW => ⟨0, rfl, trivial, ht⟩) (fun _ h => absurd h List.not_mem_nil) dX4_seenIf_17
    · refine lv_if_ne (tgt := 18) hx hb dX4_seenIf_13 (by decide) (fun _ => ?_) (fun c => absurd c (by decide))
      refine lv_aload_n hx hb dX4_seenIf_18 rfl (lv_at hl 0 rfl) ?_
      refine va_get (D := (dC, dI)) (ci := 4) (v := .ref si) (C := RX4) (T := TX4) (N := 3) hx hb hts hiX4 hown hK hP 0 rfl rfl 2 (by decide) (hts (.fieldLink RX4 28 "LeftProfile$Scene" "sight" "LLeftProfile$Sight;") (List.mem_of_getElem? (i := 2) rfl)) (fun _ h9 => h9) rfl dX4_seenIf_19 ?_
      refine lv_aload_n hx hb dX4_seenIf_22 rfl (lv_at hl 0 rfl) ?_
      refine va_get (D := (dC, dI)) (ci := 4) (v := .ref hc) (C := RX4) (T := TX4) (N := 3) hx hb hts hiX4 hown hK hP 0 rfl rfl 1 (by decide) (hts (.fieldLink RX4 21 "LeftProfile$Scene" "court" "LLeftProfile$Court;") (List.mem_of_getElem? (i := 1) rfl)) (fun _ h9 => h9) rfl dX4_seenIf_23 ?_
      refine va_get (D := (dC, dI)) (ci := 0) (v := .ref k1) (C := RX0) (T := TX0) (N := 8) hx hb hts hiX0 hown hK hP 2 rfl rfl 3 (by decide) (hts (.fieldLink RX4 58 "LeftProfile$Court" "kinds" "[I") (List.mem_of_getElem? (i := 3) rfl)) (fun _ h9 => h9) rfl dX4_seenIf_26 ?_
      refine lv_iload_n hx hb dX4_seenIf_29 rfl (lv_at hl 2 rfl) ?_
      refine va_iald hx hb hK hP 3 0 rfl rfl (vp_in_nI (n := j_3) (by omega) (by omega)) dX4_seenIf_30 ?_
      refine cz_i (y := (g1 j_3)) (congrArg g1 (nI_clamp (n := j_3) (by omega))) ?_
      refine lv_aload_n hx hb dX4_seenIf_31 rfl (lv_at hl 0 rfl) ?_
      refine va_get (D := (dC, dI)) (ci := 4) (v := .ref hc) (C := RX4) (T := TX4) (N := 3) hx hb hts hiX4 hown hK hP 0 rfl rfl 1 (by decide) (hts (.fieldLink RX4 21 "LeftProfile$Scene" "court" "LLeftProfile$Court;") (List.mem_of_getElem? (i := 1) rfl)) (fun _ h9 => h9) rfl dX4_seenIf_32 ?_
      refine va_get (D := (dC, dI)) (ci := 0) (v := .ref k2) (C := RX0) (T := TX0) (N := 8) hx hb hts hiX0 hown hK hP 2 rfl rfl 4 (by decide) (hts (.fieldLink RX4 62 "LeftProfile$Court" "places" "[I") (List.mem_of_getElem? (i := 4) rfl)) (fun _ h9 => h9) rfl dX4_seenIf_35 ?_
      refine lv_iload_n hx hb dX4_seenIf_38 rfl (lv_at hl 2 rfl) ?_
      refine va_iald hx hb hK hP 4 0 rfl rfl (vp_in_nI (n := j_3) (by omega) (by omega)) dX4_seenIf_39 ?_
      refine cz_i (y := (g2 j_3)) (congrArg g2 (nI_clamp (n := j_3) (by omega))) ?_
      refine lv_iload_n hx hb dX4_seenIf_40 rfl (lv_at hl 1 rfl) ?_
      refine lv_aload_n hx hb dX4_seenIf_41 rfl (lv_at hl 0 rfl) ?_
      refine va_get (D := (dC, dI)) (ci := 4) (v := .ref hh) (C := RX4) (T := TX4) (N := 3) hx hb hts hiX4 hown hK hP 0 rfl rfl 0 (by decide) (hts (.fieldLink RX4 12 "LeftProfile$Scene" "hall" "LLeftProfile$Hall;") (List.mem_of_getElem? (i := 5) rfl)) (fun _ h9 => h9) rfl dX4_seenIf_42 ?_
      refine va_get (D := (dC, dI)) (ci := 1) (v := .int w0) (C := RX1) (T := TX1) (N := 3) hx hb hts hiX1 hown hK hP 1 rfl rfl 0 (by decide) (hts (.fieldLink RX4 32 "LeftProfile$Hall" "walls" "I") (List.mem_of_getElem? (i := 6) rfl)) (fun _ h9 => h9) rfl dX4_seenIf_45 ?_
      refine lv_iload_n hx hb dX4_seenIf_48 rfl (lv_at hl 3 rfl) ?_
      refine vp_callSi (cz_run (va_runV (As := [.int (g1 j_3), .int (g2 j_3), .int p0, .int w0, .int p2]) (rest := []) ⟨hx, hb, hml, hown, hts⟩ (c_X5_seen l dC dI cI cB si (g1 j_3) (g2 j_3) p0 w0 p2 tw tb ft fb ) (cwV 5 hts gX4_seenIf_X5_seen rfl rfl rfl (by decide +kernel) ⟨Nat.le_of_ble_eq_true rfl, Nat.le_of_ble_eq_true rfl⟩) (cz_pV (hP.sub (ws' := [(si, .inr (5, [.ref tw, .ref tb])), (tw, .inl (cI, 400, .inl ft)), (tb, .inl (cI, 400, .inl fb))]) [5, 6, 7] rfl) hN (va_recv hK (hP.sub (ws' := [(si, .inr (5, [.ref tw, .ref tb])), (tw, .inl (cI, 400, .inl ft)), (tb, .inl (cI, 400, .inl fb))]) [5, 6, 7] rfl) (ci := 5) (q0 := 0) rfl rfl)) rfl rfl hl.1 rfl (lv_room (Nat.le_of_ble_eq_true rfl)) dX4_seenIf_49 ⟨Nat.le_of_ble_eq_true rfl, Nat.le_of_ble_eq_true rfl⟩)) (fun r_4 hr_4 => ?_)
      rw [hQ]; exact W.iret (v := r_4) hx hb hr (fun t ht hW => ⟨r_4, rfl, trivial, ht⟩) (fun _ h => absurd h List.not_mem_nil) dX4_seenIf_52

set_option maxHeartbeats 4000000 in
set_option maxRecDepth 100000 in
theorem c_X4_seenBy (l : Launch) (dC : Nat → ClassId) (dI : Nat → Nat → Nat) (cI cB : ClassId) (hs : Nat) (p0 : Int32) (hh : Nat) (hc : Nat) (si : Nat) (w0 : Int32) (w1 : Int32) (w2 : Int32) (a0 : Int32) (a1 : Int32) (k0 : Nat) (k1 : Nat) (k2 : Nat) (k3 : Nat) (k4 : Nat) (k5 : Nat) (g1 : Nat → Int32) (g2 : Nat → Int32) (tw : Nat) (tb : Nat) (ft : Nat → Int32) (fb : Nat → Int32) (hk6 : k0 ≤ 6) : Met l yX4_seenBy wsX4_seenBy ({ frames := 4, cells := 0, slots := 0, locals := 95 }) (cz_Pp dC dI cI cB [.ref hs, .int p0] [(hs, .inr (4, [.ref hh, .ref hc, .ref si])), (hh, .inr (1, [.int w0, .int w1, .int w2])), (hc, .inr (0, [.int a0, .int a1, .int (nI k0), .ref k1, .ref k2, .ref k3, .ref k4, .ref k5])), (k1, .inl (cI, 6, .inl g1)), (k2, .inl (cI, 6, .inl g2)), (si, .inr (5, [.ref tw, .ref tb])), (tw, .inl (cI, 400, .inl ft)), (tb, .inl (cI, 400, .inl fb))]) (vp_Si (fun r : Int32 => True)) 0 0 (fun _ => False) := by
  refine cz_of (cc := cX4_seenBy) (maxL := 2) (ret := (some .int)) (by decide) rfl ?_
  intro p e s m args below meth c s₁ Q B hml hv hQ
  obtain ⟨rfl, hP, hN⟩ := hv
  have hx := B.exec
  have hb := B.bytes
  have hr := B.returns
  have hts := atoms_spec (ws := wsX4_seenBy) B.pre
  have hown : s.vm.findClass RX4 = some m.cls := findClass_of_methodNamed B.named
  have hlocks := B.notSynchronized
  have hK := hN.1
  have hiX0 : ∀ w ∈ wsX00, w ∈ wsX4_seenBy := (fun _ h => List.mem_cons_of_mem _ (List.mem_append_left _ (List.mem_append_left _ (List.mem_append_right _ h))))
  have hiX4 : ∀ w ∈ wsX40, w ∈ wsX4_seenBy := (fun _ h => List.mem_cons_of_mem _ (List.mem_append_left _ (List.mem_append_left _ (List.mem_append_left _ (List.mem_append_right _ h)))))
  have hl := lv_entry ([.ref hs, .int p0]) (n := 2) (Nat.le_of_ble_eq_true rfl)
  rw [lg_entry_eq]
  generalize (lg_sl ([.ref hs, .int p0]) ++ List.replicate (2 - (lg_sl ([.ref hs, .int p0])).length) Slot.unset).toArray = ls at hl ⊢
  have hl : lv_has ls 2 [(0, .ref hs), (1, .int p0)] := hl
  refine lv_aload_n hx hb dX4_seenBy_0 rfl (lv_at hl 0 rfl) ?_
  refine lv_aload_n hx hb dX4_seenBy_1 rfl (lv_at hl 0 rfl) ?_
  refine va_get (D := (dC, dI)) (ci := 4) (v := .ref hc) (C := RX4) (T := TX4) (N := 3) hx hb hts hiX4 hown hK hP 0 rfl rfl 1 (by decide) (hts (.fieldLink RX4 21 "LeftProfile$Scene" "court" "LLeftProfile$Court;") (List.mem_of_getElem? (i := 1) rfl)) (fun _ h9 => h9) rfl dX4_seenBy_2 ?_
  refine va_get (D := (dC, dI)) (ci := 0) (v := .int a0) (C := RX0) (T := TX0) (N := 8) hx hb hts hiX0 hown hK hP 2 rfl rfl 0 (by decide) (hts (.fieldLink RX4 40 "LeftProfile$Court" "stance" "I") (List.mem_of_getElem? (i := 2) rfl)) (fun _ h9 => h9) rfl dX4_seenBy_5 ?_
  refine lv_iload_n hx hb dX4_seenBy_8 rfl (lv_at hl 1 rfl) ?_
  refine lv_aload_n hx hb dX4_seenBy_9 rfl (lv_at hl 0 rfl) ?_
  refine va_get (D := (dC, dI)) (ci := 4) (v := .ref hc) (C := RX4) (T := TX4) (N := 3) hx hb hts hiX4 hown hK hP 0 rfl rfl 1 (by decide) (hts (.fieldLink RX4 21 "LeftProfile$Scene" "court" "LLeftProfile$Court;") (List.mem_of_getElem? (i := 1) rfl)) (fun _ h9 => h9) rfl dX4_seenBy_10 ?_
  refine vp_callSi (cz_run (va_runV (As := []) (rest := [.int p0, .int a0, .ref hs]) ⟨hx, hb, hml, hown, hts⟩ (c_X0_people l dC dI cI cB hc a0 a1 k0 k1 k2 k3 k4 k5 g2 hk6) (cwV 0 hts gX4_seenBy_X0_people rfl rfl rfl (by decide +kernel) ⟨Nat.le_of_ble_eq_true rfl, Nat.le_of_ble_eq_true rfl⟩) (cz_pV (hP.sub (ws' := [(hc, .inr (0, [.int a0, .int a1, .int (nI k0), .ref k1, .ref k2, .ref k3, .ref k4, .ref k5])), (k2, .inl (cI, 6, .inl g2))]) [2, 4] rfl) hN (va_recv hK (hP.sub (ws' := [(hc, .inr (0, [.int a0, .int a1, .int (nI k0), .ref k1, .ref k2, .ref k3, .ref k4, .ref k5])), (k2, .inl (cI, 6, .inl g2))]) [2, 4] rfl) (ci := 0) (q0 := 0) rfl rfl)) rfl rfl hl.1 rfl (lv_room (Nat.le_of_ble_eq_true rfl)) dX4_seenBy_13 ⟨Nat.le_of_ble_eq_true rfl, Nat.le_of_ble_eq_true rfl⟩)) (fun r_1 hr_1 => ?_)
  refine vp_callSi (cz_run (va_runV (As := [.int a0, .int p0, .int r_1]) (rest := []) ⟨hx, hb, hml, hown, hts⟩ (c_X4_seenIf l dC dI cI cB hs a0 p0 r_1 hh hc si w0 w1 w2 a0 a1 k0 k1 k2 k3 k4 k5 g1 g2 tw tb ft fb hk6) (cwV 3 hts gX4_seenBy_X4_seenIf rfl rfl rfl (by decide +kernel) ⟨Nat.le_of_ble_eq_true rfl, Nat.le_of_ble_eq_true rfl⟩) (cz_pV hP hN (va_recv hK hP (ci := 4) (q0 := 0) rfl rfl)) rfl rfl hl.1 rfl (lv_room (Nat.le_of_ble_eq_true rfl)) dX4_seenBy_16 ⟨Nat.le_of_ble_eq_true rfl, Nat.le_of_ble_eq_true rfl⟩)) (fun r_2 hr_2 => ?_)
  rw [hQ]; exact W.iret (v := r_2) hx hb hr (fun t ht hW => ⟨r_2, rfl, trivial, ht⟩) (fun _ h => absurd h List.not_mem_nil) dX4_seenBy_19

set_option maxHeartbeats 4000000 in
set_option maxRecDepth 100000 in
theorem c_X4_everybodyLooks (l : Launch) (dC : Nat → ClassId) (dI : Nat → Nat → Nat) (cI cB : ClassId) (hs : Nat) (hh : Nat) (hc : Nat) (si : Nat) (w0 : Int32) (w1 : Int32) (w2 : Int32) (a0 : Int32) (a1 : Int32) (k0 : Nat) (k1 : Nat) (k2 : Nat) (k3 : Nat) (k4 : Nat) (k5 : Nat) (g1 : Nat → Int32) (g2 : Nat → Int32) (tw : Nat) (tb : Nat) (ft : Nat → Int32) (fb : Nat → Int32) (g3 : Nat → Int32) (g4 : Nat → Int32) (sz : Nat) (hk6 : k0 ≤ 6) : Met l yX4_everybodyLooks wsX4_everybodyLooks ({ frames := 4, cells := 0, slots := 0, locals := 95 }) (cz_Pm dC dI cI cB [.ref hs] [(hs, .inr (4, [.ref hh, .ref hc, .ref si])), (hh, .inr (1, [.int w0, .int w1, .int w2])), (hc, .inr (0, [.int a0, .int a1, .int (nI k0), .ref k1, .ref k2, .ref k3, .ref k4, .ref k5])), (k1, .inl (cI, 6, .inl g1)), (k2, .inl (cI, 6, .inl g2)), (si, .inr (5, [.ref tw, .ref tb])), (tw, .inl (cI, 400, .inl ft)), (tb, .inl (cI, 400, .inl fb)), (k3, .inl (cI, 6, .inl g3)), (k4, .inl (cI, 6, .inl g4))] sz) (va_Qv (fun _ : Unit => True) (fun _ t => ∃ (t3 : Nat → Int32) (t4 : Nat → Int32), va_P (dC, dI) vwCl [(hs, .inr (4, [.ref hh, .ref hc, .ref si])), (hh, .inr (1, [.int w0, .int w1, .int w2])), (hc, .inr (0, [.int a0, .int a1, .int (nI k0), .ref k1, .ref k2, .ref k3, .ref k4, .ref k5])), (k1, .inl (cI, 6, .inl g1)), (k2, .inl (cI, 6, .inl g2)), (si, .inr (5, [.ref tw, .ref tb])), (tw, .inl (cI, 400, .inl ft)), (tb, .inl (cI, 400, .inl fb)), (k3, .inl (cI, 6, .inl t3)), (k4, .inl (cI, 6, .inl t4))] t.heap ∧ va_D (va_A [(hs, .inr (4, [.ref hh, .ref hc, .ref si])), (hh, .inr (1, [.int w0, .int w1, .int w2])), (hc, .inr (0, [.int a0, .int a1, .int (nI k0), .ref k1, .ref k2, .ref k3, .ref k4, .ref k5])), (k1, .inl (cI, 6, .inl g1)), (k2, .inl (cI, 6, .inl g2)), (si, .inr (5, [.ref tw, .ref tb])), (tw, .inl (cI, 400, .inl ft)), (tb, .inl (cI, 400, .inl fb)), (k3, .inl (cI, 6, .inl g3)), (k4, .inl (cI, 6, .inl g4))] sz) [(hs, .inr (4, [.ref hh, .ref hc, .ref si])), (hh, .inr (1, [.int w0, .int w1, .int w2])), (hc, .inr (0, [.int a0, .int a1, .int (nI k0), .ref k1, .ref k2, .ref k3, .ref k4, .ref k5])), (k1, .inl (cI, 6, .inl g1)), (k2, .inl (cI, 6, .inl g2)), (si, .inr (5, [.ref tw, .ref tb])), (tw, .inl (cI, 400, .inl ft)), (tb, .inl (cI, 400, .inl fb)), (k3, .inl (cI, 6, .inl t3)), (k4, .inl (cI, 6, .inl t4))]) (va_A [(hs, .inr (4, [.ref hh, .ref hc, .ref si])), (hh, .inr (1, [.int w0, .int w1, .int w2])), (hc, .inr (0, [.int a0, .int a1, .int (nI k0), .ref k1, .ref k2, .ref k3, .ref k4, .ref k5])), (k1, .inl (cI, 6, .inl g1)), (k2, .inl (cI, 6, .inl g2)), (si, .inr (5, [.ref tw, .ref tb])), (tw, .inl (cI, 400, .inl ft)), (tb, .inl (cI, 400, .inl fb)), (k3, .inl (cI, 6, .inl g3)), (k4, .inl (cI, 6, .inl g4))] sz)) 0 0 (va_A [(hs, .inr (4, [.ref hh, .ref hc, .ref si])), (hh, .inr (1, [.int w0, .int w1, .int w2])), (hc, .inr (0, [.int a0, .int a1, .int (nI k0), .ref k1, .ref k2, .ref k3, .ref k4, .ref k5])), (k1, .inl (cI, 6, .inl g1)), (k2, .inl (cI, 6, .inl g2)), (si, .inr (5, [.ref tw, .ref tb])), (tw, .inl (cI, 400, .inl ft)), (tb, .inl (cI, 400, .inl fb)), (k3, .inl (cI, 6, .inl g3)), (k4, .inl (cI, 6, .inl g4))] sz) := by
  refine cz_of (cc := cX4_everybodyLooks) (maxL := 3) (ret := none) (by decide) rfl ?_
  intro p e s m args below meth c s₁ Q B hml hv hQ
  obtain ⟨rfl, hsz, hP, hN, hD0⟩ := hv
  have hx := B.exec
  have hb := B.bytes
  have hr := B.returns
  have hts := atoms_spec (ws := wsX4_everybodyLooks) B.pre
  have hown : s.vm.findClass RX4 = some m.cls := findClass_of_methodNamed B.named
  have hlocks := B.notSynchronized
  have hK := hN.1
  have hiX0 : ∀ w ∈ wsX00, w ∈ wsX4_everybodyLooks := (fun _ h => List.mem_cons_of_mem _ (List.mem_append_left _ (List.mem_append_left _ (List.mem_append_right _ h))))
  have hiX4 : ∀ w ∈ wsX40, w ∈ wsX4_everybodyLooks := (fun _ h => List.mem_cons_of_mem _ (List.mem_append_left _ (List.mem_append_left _ (List.mem_append_left _ (List.mem_append_right _ h)))))
  subst hsz
  have hD := hD0.self (sz := s.heap.size)
  generalize hAe : va_A [(hs, .inr (4, [.ref hh, .ref hc, .ref si])), (hh, .inr (1, [.int w0, .int w1, .int w2])), (hc, .inr (0, [.int a0, .int a1, .int (nI k0), .ref k1, .ref k2, .ref k3, .ref k4, .ref k5])), (k1, .inl (cI, 6, .inl g1)), (k2, .inl (cI, 6, .inl g2)), (si, .inr (5, [.ref tw, .ref tb])), (tw, .inl (cI, 400, .inl ft)), (tb, .inl (cI, 400, .inl fb)), (k3, .inl (cI, 6, .inl g3)), (k4, .inl (cI, 6, .inl g4))] s.heap.size = A at hD hQ ⊢
  have hA : ∀ q : Nat, s.heap.size ≤ q → A q := fun q h => by rw [← hAe]; exact Or.inr h
  have hS : va_S A s.heap s.heap [] := va_S.rf
  obtain ⟨H, eH⟩ : ∃ H, H = s.heap := ⟨_, rfl⟩
  have hP : va_P (dC, dI) vwCl [(hs, .inr (4, [.ref hh, .ref hc, .ref si])), (hh, .inr (1, [.int w0, .int w1, .int w2])), (hc, .inr (0, [.int a0, .int a1, .int (nI k0), .ref k1, .ref k2, .ref k3, .ref k4, .ref k5])), (k1, .inl (cI, 6, .inl g1)), (k2, .inl (cI, 6, .inl g2)), (si, .inr (5, [.ref tw, .ref tb])), (tw, .inl (cI, 400, .inl ft)), (tb, .inl (cI, 400, .inl fb)), (k3, .inl (cI, 6, .inl g3)), (k4, .inl (cI, 6, .inl g4))] s.heap := hP
  have hl := lv_entry ([.ref hs]) (n := 3) (Nat.le_of_ble_eq_true rfl)
  rw [lg_entry_eq]
  generalize (lg_sl ([.ref hs]) ++ List.replicate (3 - (lg_sl ([.ref hs])).length) Slot.unset).toArray = ls at hl ⊢
  have hl : lv_has ls 3 [(0, .ref hs)] := hl
  refine lv_aload_n hx hb dX4_everybodyLooks_0 rfl (lv_at hl 0 rfl) ?_
  refine va_get (D := (dC, dI)) (ci := 4) (v := .ref hc) (C := RX4) (T := TX4) (N := 3) hx hb hts hiX4 hown hK hP 0 rfl rfl 1 (by decide) (hts (.fieldLink RX4 21 "LeftProfile$Scene" "court" "LLeftProfile$Court;") (List.mem_of_getElem? (i := 1) rfl)) (fun _ h9 => h9) rfl dX4_everybodyLooks_1 ?_
  refine vp_callSi (cz_run (va_runV (As := []) (rest := []) ⟨hx, hb, hml, hown, hts⟩ (c_X0_people l dC dI cI cB hc a0 a1 k0 k1 k2 k3 k4 k5 g2 hk6) (cwV 0 hts gX4_everybodyLooks_X0_people rfl rfl rfl (by decide +kernel) ⟨Nat.le_of_ble_eq_true rfl, Nat.le_of_ble_eq_true rfl⟩) (cz_pV (hP.sub (ws' := [(hc, .inr (0, [.int a0, .int a1, .int (nI k0), .ref k1, .ref k2, .ref k3, .ref k4, .ref k5])), (k2, .inl (cI, 6, .inl g2))]) [2, 4] rfl) hN (va_recv hK (hP.sub (ws' := [(hc, .inr (0, [.int a0, .int a1, .int (nI k0), .ref k1, .ref k2, .ref k3, .ref k4, .ref k5])), (k2, .inl (cI, 6, .inl g2))]) [2, 4] rfl) (ci := 0) (q0 := 0) rfl rfl)) rfl rfl hl.1 rfl (lv_room (Nat.le_of_ble_eq_true rfl)) dX4_everybodyLooks_4 ⟨Nat.le_of_ble_eq_true rfl, Nat.le_of_ble_eq_true rfl⟩)) (fun r_1 hr_1 => ?_)
  refine lv_istore_n (lv' := [(1, .int r_1), (0, .ref hs)]) hx hb dX4_everybodyLooks_7 rfl hl (by decide) rfl (fun ls hl => ?_)
  refine lv_iconst (v := 0) hx hb dX4_everybodyLooks_8 (by decide) ?_
  refine lv_istore_n (lv' := [(2, .int 0), (1, .int r_1), (0, .ref hs)]) hx hb dX4_everybodyLooks_9 rfl hl (by decide) rfl (fun ls hl => ?_)
  have lp10 : ∀ (n10 : Nat) (i10 : Nat) (y3 : Nat → Int32) (y4 : Nat → Int32) (H : Heap) (locs : List Loc) (ls : Array Slot), i10 + n10 = k0 → va_P (dC, dI) vwCl [(hs, .inr (4, [.ref hh, .ref hc, .ref si])), (hh, .inr (1, [.int w0, .int w1, .int w2])), (hc, .inr (0, [.int a0, .int a1, .int (nI k0), .ref k1, .ref k2, .ref k3, .ref k4, .ref k5])), (k1, .inl (cI, 6, .inl g1)), (k2, .inl (cI, 6, .inl g2)), (si, .inr (5, [.ref tw, .ref tb])), (tw, .inl (cI, 400, .inl ft)), (tb, .inl (cI, 400, .inl fb)), (k3, .inl (cI, 6, .inl y3)), (k4, .inl (cI, 6, .inl y4))] H → va_D A [(hs, .inr (4, [.ref hh, .ref hc, .ref si])), (hh, .inr (1, [.int w0, .int w1, .int w2])), (hc, .inr (0, [.int a0, .int a1, .int (nI k0), .ref k1, .ref k2, .ref k3, .ref k4, .ref k5])), (k1, .inl (cI, 6, .inl g1)), (k2, .inl (cI, 6, .inl g2)), (si, .inr (5, [.ref tw, .ref tb])), (tw, .inl (cI, 400, .inl ft)), (tb, .inl (cI, 400, .inl fb)), (k3, .inl (cI, 6, .inl y3)), (k4, .inl (cI, 6, .inl y4))] → va_S A s.heap H locs → lv_has ls 3 [(0, .ref hs), (1, .int r_1), (2, .int (nI i10))] → W p l e ({ frames := 4, cells := 0, slots := 0, locals := 95 } : Room) s m #[Value.ref hs] below meth c H locs 0 0 Q (F0 m 10 ls []) := by
    intro n10
    induction n10 with
    | zero =>
      intro i10 y3 y4 H locs ls hi10  hP hD hS hl
      obtain rfl : k0 = i10 := by omega
      refine lv_iload_n hx hb dX4_everybodyLooks_10 rfl (lv_at hl 2 rfl) ?_
      refine lv_aload_n hx hb dX4_everybodyLooks_11 rfl (lv_at hl 0 rfl) ?_
      refine va_get (D := (dC, dI)) (ci := 4) (v := .ref hc) (C := RX4) (T := TX4) (N := 3) hx hb hts hiX4 hown hK hP 0 rfl rfl 1 (by decide) (hts (.fieldLink RX4 21 "LeftProfile$Scene" "court" "LLeftProfile$Court;") (List.mem_of_getElem? (i := 1) rfl)) (fun _ h9 => h9) rfl dX4_everybodyLooks_12 ?_
      refine va_get (D := (dC, dI)) (ci := 0) (v := .int (nI k0)) (C := RX0) (T := TX0) (N := 8) hx hb hts hiX0 hown hK hP 2 rfl rfl 2 (by decide) (hts (.fieldLink RX4 69 "LeftProfile$Court" "size" "I") (List.mem_of_getElem? (i := 2) rfl)) (fun _ h9 => h9) rfl dX4_everybodyLooks_15 ?_
      refine lv_icmp_ge (tgt := 48) hx hb dX4_everybodyLooks_18 (by decide) (fun c_2 => ?_) (fun c_2 => ?_)
      · refine W.widen (k := 0) (n := 0) (Nat.le_of_ble_eq_true rfl) (Nat.le_of_ble_eq_true rfl) ?_
        have hP9 := hP.sub (ws' := [(hs, .inr (4, [.ref hh, .ref hc, .ref si])), (hh, .inr (1, [.int w0, .int w1, .int w2])), (hc, .inr (0, [.int a0, .int a1, .int (nI k0), .ref k1, .ref k2, .ref k3, .ref k4, .ref k5])), (k1, .inl (cI, 6, .inl g1)), (k2, .inl (cI, 6, .inl g2)), (si, .inr (5, [.ref tw, .ref tb])), (tw, .inl (cI, 400, .inl ft)), (tb, .inl (cI, 400, .inl fb)), (k3, .inl (cI, 6, .inl y3)), (k4, .inl (cI, 6, .inl y4))]) [0, 1, 2, 3, 4, 5, 6, 7, 8, 9] rfl
        have hD9 := hD.sub (ws' := [(hs, .inr (4, [.ref hh, .ref hc, .ref si])), (hh, .inr (1, [.int w0, .int w1, .int w2])), (hc, .inr (0, [.int a0, .int a1, .int (nI k0), .ref k1, .ref k2, .ref k3, .ref k4, .ref k5])), (k1, .inl (cI, 6, .inl g1)), (k2, .inl (cI, 6, .inl g2)), (si, .inr (5, [.ref tw, .ref tb])), (tw, .inl (cI, 400, .inl ft)), (tb, .inl (cI, 400, .inl fb)), (k3, .inl (cI, 6, .inl y3)), (k4, .inl (cI, 6, .inl y4))]) [0, 1, 2, 3, 4, 5, 6, 7, 8, 9] (by decide) rfl
        rw [hQ]; exact W.vret hx hb hr (fun t ht hW => ⟨⟨(), rfl, trivial, ⟨y3, y4, by rw [ht]; exact hP9, hD9⟩⟩, hS.F ht⟩) hS.2.2 dX4_everybodyLooks_48
      · exact absurd (show nI k0 ≤ nI k0 from nI_le (a := k0) (b := k0) (by omega) (by omega)) c_2
    | succ n10 ih10 =>
      intro i10 y3 y4 H locs ls hi10  hP hD hS hl
      refine lv_iload_n hx hb dX4_everybodyLooks_10 rfl (lv_at hl 2 rfl) ?_
      refine lv_aload_n hx hb dX4_everybodyLooks_11 rfl (lv_at hl 0 rfl) ?_
      refine va_get (D := (dC, dI)) (ci := 4) (v := .ref hc) (C := RX4) (T := TX4) (N := 3) hx hb hts hiX4 hown hK hP 0 rfl rfl 1 (by decide) (hts (.fieldLink RX4 21 "LeftProfile$Scene" "court" "LLeftProfile$Court;") (List.mem_of_getElem? (i := 1) rfl)) (fun _ h9 => h9) rfl dX4_everybodyLooks_12 ?_
      refine va_get (D := (dC, dI)) (ci := 0) (v := .int (nI k0)) (C := RX0) (T := TX0) (N := 8) hx hb hts hiX0 hown hK hP 2 rfl rfl 2 (by decide) (hts (.fieldLink RX4 69 "LeftProfile$Court" "size" "I") (List.mem_of_getElem? (i := 2) rfl)) (fun _ h9 => h9) rfl dX4_everybodyLooks_15 ?_
      refine lv_icmp_ge (tgt := 48) hx hb dX4_everybodyLooks_18 (by decide) (fun c_3 => ?_) (fun c_3 => ?_)
      · exact absurd c_3 (show ¬ nI k0 ≤ nI i10 from nI_ge (a := i10) (b := k0) (by omega) (by omega))
      · refine lv_aload_n hx hb dX4_everybodyLooks_21 rfl (lv_at hl 0 rfl) ?_
        refine va_get (D := (dC, dI)) (ci := 4) (v := .ref hc) (C := RX4) (T := TX4) (N := 3) hx hb hts hiX4 hown hK hP 0 rfl rfl 1 (by decide) (hts (.fieldLink RX4 21 "LeftProfile$Scene" "court" "LLeftProfile$Court;") (List.mem_of_getElem? (i := 1) rfl)) (fun _ h9 => h9) rfl dX4_everybodyLooks_22 ?_
        refine lv_iload_n hx hb dX4_everybodyLooks_25 rfl (lv_at hl 2 rfl) ?_
        refine lv_aload_n hx hb dX4_everybodyLooks_26 rfl (lv_at hl 0 rfl) ?_
        refine lv_aload_n hx hb dX4_everybodyLooks_27 rfl (lv_at hl 0 rfl) ?_
        refine va_get (D := (dC, dI)) (ci := 4) (v := .ref hc) (C := RX4) (T := TX4) (N := 3) hx hb hts hiX4 hown hK hP 0 rfl rfl 1 (by decide) (hts (.fieldLink RX4 21 "LeftProfile$Scene" "court" "LLeftProfile$Court;") (List.mem_of_getElem? (i := 1) rfl)) (fun _ h9 => h9) rfl dX4_everybodyLooks_28 ?_
        refine va_get (D := (dC, dI)) (ci := 0) (v := .int a0) (C := RX0) (T := TX0) (N := 8) hx hb hts hiX0 hown hK hP 2 rfl rfl 0 (by decide) (hts (.fieldLink RX4 40 "LeftProfile$Court" "stance" "I") (List.mem_of_getElem? (i := 3) rfl)) (fun _ h9 => h9) rfl dX4_everybodyLooks_31 ?_
        refine lv_iload_n hx hb dX4_everybodyLooks_34 rfl (lv_at hl 2 rfl) ?_
        refine lv_iload_n hx hb dX4_everybodyLooks_35 rfl (lv_at hl 1 rfl) ?_
        refine vp_callSi (cz_run (va_runV (As := [.int a0, .int (nI i10), .int r_1]) (rest := [.int (nI i10), .ref hc]) ⟨hx, hb, hml, hown, hts⟩ (c_X4_seenIf l dC dI cI cB hs a0 (nI i10) r_1 hh hc si w0 w1 w2 a0 a1 k0 k1 k2 k3 k4 k5 g1 g2 tw tb ft fb hk6) (cwV 3 hts gX4_everybodyLooks_X4_seenIf rfl rfl rfl (by decide +kernel) ⟨Nat.le_of_ble_eq_true rfl, Nat.le_of_ble_eq_true rfl⟩) (cz_pV (hP.sub (ws' := [(hs, .inr (4, [.ref hh, .ref hc, .ref si])), (hh, .inr (1, [.int w0, .int w1, .int w2])), (hc, .inr (0, [.int a0, .int a1, .int (nI k0), .ref k1, .ref k2, .ref k3, .ref k4, .ref k5])), (k1, .inl (cI, 6, .inl g1)), (k2, .inl (cI, 6, .inl g2)), (si, .inr (5, [.ref tw, .ref tb])), (tw, .inl (cI, 400, .inl ft)), (tb, .inl (cI, 400, .inl fb))]) [0, 1, 2, 3, 4, 5, 6, 7] rfl) hN (va_recv hK (hP.sub (ws' := [(hs, .inr (4, [.ref hh, .ref hc, .ref si])), (hh, .inr (1, [.int w0, .int w1, .int w2])), (hc, .inr (0, [.int a0, .int a1, .int (nI k0), .ref k1, .ref k2, .ref k3, .ref k4, .ref k5])), (k1, .inl (cI, 6, .inl g1)), (k2, .inl (cI, 6, .inl g2)), (si, .inr (5, [.ref tw, .ref tb])), (tw, .inl (cI, 400, .inl ft)), (tb, .inl (cI, 400, .inl fb))]) [0, 1, 2, 3, 4, 5, 6, 7] rfl) (ci := 4) (q0 := 0) rfl rfl)) rfl rfl hl.1 rfl (lv_room (Nat.le_of_ble_eq_true rfl)) dX4_everybodyLooks_36 ⟨Nat.le_of_ble_eq_true rfl, Nat.le_of_ble_eq_true rfl⟩)) (fun r_4 hr_4 => ?_)
        have hPc := hP.sub (ws' := [(hc, .inr (0, [.int a0, .int a1, .int (nI k0), .ref k1, .ref k2, .ref k3, .ref k4, .ref k5])), (k3, .inl (cI, 6, .inl y3)), (k4, .inl (cI, 6, .inl y4))]) [2, 8, 9] rfl
        have hDc := hD.sub (ws' := [(hc, .inr (0, [.int a0, .int a1, .int (nI k0), .ref k1, .ref k2, .ref k3, .ref k4, .ref k5])), (k3, .inl (cI, 6, .inl y3)), (k4, .inl (cI, 6, .inl y4))]) [2, 8, 9] (by decide) rfl
        have hFc := va_free (wc := [(hc, .inr (0, [.int a0, .int a1, .int (nI k0), .ref k1, .ref k2, .ref k3, .ref k4, .ref k5])), (k3, .inl (cI, 6, .inl y3)), (k4, .inl (cI, 6, .inl y4))]) hD hS hA [2, 8, 9] rfl
        refine va_callv (va_runV (As := [.int (nI i10), .int r_4]) (rest := []) ⟨hx, hb, hml, hown, hts⟩ (c_X0_look l dC dI cI cB hc (nI i10) r_4 a0 a1 k0 k1 k2 k3 k4 k5 y3 y4 H.size hk6) (cwV 2 hts gX4_everybodyLooks_X0_look rfl rfl rfl (by decide +kernel) ⟨Nat.le_of_ble_eq_true rfl, Nat.le_of_ble_eq_true rfl⟩) (cz_mV hPc hN hDc (va_recv hK hPc (ci := 0) (q0 := 0) rfl rfl)) rfl rfl hl.1 rfl (lv_room (Nat.le_of_ble_eq_true rfl)) dX4_everybodyLooks_39 ⟨Nat.le_of_ble_eq_true rfl, Nat.le_of_ble_eq_true rfl⟩) hS (fun q _ h => hFc q h) hFc (fun u t H1 locs ht hvm hr_5 hB hz1 hk1 hS => ?_)
        obtain ⟨f_6, f_7, hP1, hD1⟩ := hB
        rw [ht] at hP1
        obtain ⟨hP, hD⟩ := va_join (wr := [(hs, .inr (4, [.ref hh, .ref hc, .ref si])), (hh, .inr (1, [.int w0, .int w1, .int w2])), (k1, .inl (cI, 6, .inl g1)), (k2, .inl (cI, 6, .inl g2)), (si, .inr (5, [.ref tw, .ref tb])), (tw, .inl (cI, 400, .inl ft)), (tb, .inl (cI, 400, .inl fb))]) (w1 := [(hc, .inr (0, [.int a0, .int a1, .int (nI k0), .ref k1, .ref k2, .ref k3, .ref k4, .ref k5])), (k3, .inl (cI, 6, .inl f_6)), (k4, .inl (cI, 6, .inl f_7))]) hP hD [2, 8, 9] [0, 1, 3, 4, 5, 6, 7] rfl rfl (by decide) (by decide) hk1 hFc hP1 hD1
        generalize H1 = H at hP hS ⊢
        have hP : va_P (dC, dI) vwCl [(hs, .inr (4, [.ref hh, .ref hc, .ref si])), (hh, .inr (1, [.int w0, .int w1, .int w2])), (k1, .inl (cI, 6, .inl g1)), (k2, .inl (cI, 6, .inl g2)), (si, .inr (5, [.ref tw, .ref tb])), (tw, .inl (cI, 400, .inl ft)), (tb, .inl (cI, 400, .inl fb)), (hc, .inr (0, [.int a0, .int a1, .int (nI k0), .ref k1, .ref k2, .ref k3, .ref k4, .ref k5])), (k3, .inl (cI, 6, .inl f_6)), (k4, .inl (cI, 6, .inl f_7))] H := hP
        have hD : va_D A [(hs, .inr (4, [.ref hh, .ref hc, .ref si])), (hh, .inr (1, [.int w0, .int w1, .int w2])), (k1, .inl (cI, 6, .inl g1)), (k2, .inl (cI, 6, .inl g2)), (si, .inr (5, [.ref tw, .ref tb])), (tw, .inl (cI, 400, .inl ft)), (tb, .inl (cI, 400, .inl fb)), (hc, .inr (0, [.int a0, .int a1, .int (nI k0), .ref k1, .ref k2, .ref k3, .ref k4, .ref k5])), (k3, .inl (cI, 6, .inl f_6)), (k4, .inl (cI, 6, .inl f_7))] := hD
        refine lv_iinc (v := (nI (i10 + 1))) (lv' := [(2, .int (nI (i10 + 1))), (0, .ref hs), (1, .int r_1)]) hx hb dX4_everybodyLooks_42 hl (k := 2) rfl (nI_add i10 1) (by decide) rfl (fun ls hl => ?_)
        refine lv_goto (tgt := 10) hx hb dX4_everybodyLooks_45 (by decide) ?_
        have hP := hP.sub (ws' := [(hs, .inr (4, [.ref hh, .ref hc, .ref si])), (hh, .inr (1, [.int w0, .int w1, .int w2])), (hc, .inr (0, [.int a0, .int a1, .int (nI k0), .ref k1, .ref k2, .ref k3, .ref k4, .ref k5])), (k1, .inl (cI, 6, .inl g1)), (k2, .inl (cI, 6, .inl g2)), (si, .inr (5, [.ref tw, .ref tb])), (tw, .inl (cI, 400, .inl ft)), (tb, .inl (cI, 400, .inl fb)), (k3, .inl (cI, 6, .inl f_6)), (k4, .inl (cI, 6, .inl f_7))]) [0, 1, 7, 2, 3, 4, 5, 6, 8, 9] rfl
        have hD := hD.sub (ws' := [(hs, .inr (4, [.ref hh, .ref hc, .ref si])), (hh, .inr (1, [.int w0, .int w1, .int w2])), (hc, .inr (0, [.int a0, .int a1, .int (nI k0), .ref k1, .ref k2, .ref k3, .ref k4, .ref k5])), (k1, .inl (cI, 6, .inl g1)), (k2, .inl (cI, 6, .inl g2)), (si, .inr (5, [.ref tw, .ref tb])), (tw, .inl (cI, 400, .inl ft)), (tb, .inl (cI, 400, .inl fb)), (k3, .inl (cI, 6, .inl f_6)), (k4, .inl (cI, 6, .inl f_7))]) [0, 1, 7, 2, 3, 4, 5, 6, 8, 9] (by decide) rfl
        exact ih10 (i10 + 1) f_6 f_7 H locs ls (by omega)  hP hD hS (lv_sub hl [1, 2, 0] rfl)
  exact lp10 k0 0 g3 g4 s.heap [] ls (by omega)  hP hD hS (lv_sub hl [2, 1, 0] rfl)

set_option maxHeartbeats 4000000 in
set_option maxRecDepth 100000 in
theorem c_X4_guiltyIf (l : Launch) (dC : Nat → ClassId) (dI : Nat → Nat → Nat) (cI cB : ClassId) (hs : Nat) (p0 : Int32) (p1 : Int32) (hh : Nat) (hc : Nat) (si : Nat) (w0 : Int32) (w1 : Int32) (w2 : Int32) (a0 : Int32) (a1 : Int32) (k0 : Nat) (k1 : Nat) (k2 : Nat) (k3 : Nat) (k4 : Nat) (k5 : Nat) (g1 : Nat → Int32) (g2 : Nat → Int32) (tw : Nat) (tb : Nat) (ft : Nat → Int32) (fb : Nat → Int32) (hk6 : k0 ≤ 6) : Met l yX4_guiltyIf wsX4_guiltyIf ({ frames := 4, cells := 0, slots := 0, locals := 98 }) (cz_Pp dC dI cI cB [.ref hs, .int p0, .int p1] [(hs, .inr (4, [.ref hh, .ref hc, .ref si])), (hh, .inr (1, [.int w0, .int w1, .int w2])), (hc, .inr (0, [.int a0, .int a1, .int (nI k0), .ref k1, .ref k2, .ref k3, .ref k4, .ref k5])), (k1, .inl (cI, 6, .inl g1)), (k2, .inl (cI, 6, .inl g2)), (si, .inr (5, [.ref tw, .ref tb])), (tw, .inl (cI, 400, .inl ft)), (tb, .inl (cI, 400, .inl fb))]) (vp_Si (fun r : Int32 => True)) 0 0 (fun _ => False) := by
  refine cz_of (cc := cX4_guiltyIf) (maxL := 6) (ret := (some .int)) (by decide) rfl ?_
  intro p e s m args below meth c s₁ Q B hml hv hQ
  obtain ⟨rfl, hP, hN⟩ := hv
  have hx := B.exec
  have hb := B.bytes
  have hr := B.returns
  have hts := atoms_spec (ws := wsX4_guiltyIf) B.pre
  have hown : s.vm.findClass RX4 = some m.cls := findClass_of_methodNamed B.named
  have hlocks := B.notSynchronized
  have hK := hN.1
  have hiX0 : ∀ w ∈ wsX00, w ∈ wsX4_guiltyIf := (fun _ h => List.mem_cons_of_mem _ (List.mem_append_left _ (List.mem_append_right _ h)))
  have hiX4 : ∀ w ∈ wsX40, w ∈ wsX4_guiltyIf := (fun _ h => List.mem_cons_of_mem _ (List.mem_append_left _ (List.mem_append_left _ (List.mem_append_right _ h))))
  have hl := lv_entry ([.ref hs, .int p0, .int p1]) (n := 6) (Nat.le_of_ble_eq_true rfl)
  rw [lg_entry_eq]
  generalize (lg_sl ([.ref hs, .int p0, .int p1]) ++ List.replicate (6 - (lg_sl ([.ref hs, .int p0, .int p1])).length) Slot.unset).toArray = ls at hl ⊢
  have hl : lv_has ls 6 [(0, .ref hs), (1, .int p0), (2, .int p1)] := hl
  refine lv_aload_n hx hb dX4_guiltyIf_0 rfl (lv_at hl 0 rfl) ?_
  refine va_get (D := (dC, dI)) (ci := 4) (v := .ref hc) (C := RX4) (T := TX4) (N := 3) hx hb hts hiX4 hown hK hP 0 rfl rfl 1 (by decide) (hts (.fieldLink RX4 21 "LeftProfile$Scene" "court" "LLeftProfile$Court;") (List.mem_of_getElem? (i := 1) rfl)) (fun _ h9 => h9) rfl dX4_guiltyIf_1 ?_
  refine vp_callSi (cz_run (va_runV (As := []) (rest := []) ⟨hx, hb, hml, hown, hts⟩ (c_X0_people l dC dI cI cB hc a0 a1 k0 k1 k2 k3 k4 k5 g2 hk6) (cwV 0 hts gX4_guiltyIf_X0_people rfl rfl rfl (by decide +kernel) ⟨Nat.le_of_ble_eq_true rfl, Nat.le_of_ble_eq_true rfl⟩) (cz_pV (hP.sub (ws' := [(hc, .inr (0, [.int a0, .int a1, .int (nI k0), .ref k1, .ref k2, .ref k3, .ref k4, .ref k5])), (k2, .inl (cI, 6, .inl g2))]) [2, 4] rfl) hN (va_recv hK (hP.sub (ws' := [(hc, .inr (0, [.int a0, .int a1, .int (nI k0), .ref k1, .ref k2, .ref k3, .ref k4, .ref k5])), (k2, .inl (cI, 6, .inl g2))]) [2, 4] rfl) (ci := 0) (q0 := 0) rfl rfl)) rfl rfl hl.1 rfl (lv_room (Nat.le_of_ble_eq_true rfl)) dX4_guiltyIf_4 ⟨Nat.le_of_ble_eq_true rfl, Nat.le_of_ble_eq_true rfl⟩)) (fun r_1 hr_1 => ?_)
  refine lv_istore_n (lv' := [(3, .int r_1), (0, .ref hs), (1, .int p0), (2, .int p1)]) hx hb dX4_guiltyIf_7 rfl hl (by decide) rfl (fun ls hl => ?_)
  refine lv_iconst (v := 0) hx hb dX4_guiltyIf_8 (by decide) ?_
  refine lv_istore (lv' := [(4, .int 0), (3, .int r_1), (0, .ref hs), (1, .int p0), (2, .int p1)]) hx hb dX4_guiltyIf_9 hl (by decide) rfl (fun ls hl => ?_)
  refine lv_iconst (v := 0) hx hb dX4_guiltyIf_11 (by decide) ?_
  refine lv_istore (lv' := [(5, .int 0), (4, .int 0), (3, .int r_1), (0, .ref hs), (1, .int p0), (2, .int p1)]) hx hb dX4_guiltyIf_12 hl (by decide) rfl (fun ls hl => ?_)
  have lp14 : ∀ (n14 : Nat) (i14 : Nat) (y4 : Int32) (ls : Array Slot), i14 + n14 = k0 → lv_has ls 6 [(0, .ref hs), (1, .int p0), (2, .int p1), (3, .int r_1), (4, .int y4), (5, .int (nI i14))] → W p l e ({ frames := 4, cells := 0, slots := 0, locals := 98 } : Room) s m #[Value.ref hs, Value.int p0, Value.int p1] below meth c s.heap [] 0 0 Q (F0 m 14 ls []) := by
    intro n14
    induction n14 with
    | zero =>
      intro i14 y4 ls hi14  hl
      obtain rfl : k0 = i14 := by omega
      refine lv_iload hx hb dX4_guiltyIf_14 (lv_at hl 5 rfl) ?_
      refine lv_aload_n hx hb dX4_guiltyIf_16 rfl (lv_at hl 0 rfl) ?_
      refine va_get (D := (dC, dI)) (ci := 4) (v := .ref hc) (C := RX4) (T := TX4) (N := 3) hx hb hts hiX4 hown hK hP 0 rfl rfl 1 (by decide) (hts (.fieldLink RX4 21 "LeftProfile$Scene" "court" "LLeftProfile$Court;") (List.mem_of_getElem? (i := 1) rfl)) (fun _ h9 => h9) rfl dX4_guiltyIf_17 ?_
      refine va_get (D := (dC, dI)) (ci := 0) (v := .int (nI k0)) (C := RX0) (T := TX0) (N := 8) hx hb hts hiX0 hown hK hP 2 rfl rfl 2 (by decide) (hts (.fieldLink RX4 69 "LeftProfile$Court" "size" "I") (List.mem_of_getElem? (i := 2) rfl)) (fun _ h9 => h9) rfl dX4_guiltyIf_20 ?_
      refine lv_icmp_ge (tgt := 75) hx hb dX4_guiltyIf_23 (by decide) (fun c_2 => ?_) (fun c_2 => ?_)
      · refine lv_iload hx hb dX4_guiltyIf_75 (lv_at hl 4 rfl) ?_
        rw [hQ]; exact W.iret (v := y4) hx hb hr (fun t ht hW => ⟨y4, rfl, trivial, ht⟩) (fun _ h => absurd h List.not_mem_nil) dX4_guiltyIf_77
      · exact absurd (show nI k0 ≤ nI k0 from nI_le (a := k0) (b := k0) (by omega) (by omega)) c_2
    | succ n14 ih14 =>
      intro i14 y4 ls hi14  hl
      refine lv_iload hx hb dX4_guiltyIf_14 (lv_at hl 5 rfl) ?_
      refine lv_aload_n hx hb dX4_guiltyIf_16 rfl (lv_at hl 0 rfl) ?_
      refine va_get (D := (dC, dI)) (ci := 4) (v := .ref hc) (C := RX4) (T := TX4) (N := 3) hx hb hts hiX4 hown hK hP 0 rfl rfl 1 (by decide) (hts (.fieldLink RX4 21 "LeftProfile$Scene" "court" "LLeftProfile$Court;") (List.mem_of_getElem? (i := 1) rfl)) (fun _ h9 => h9) rfl dX4_guiltyIf_17 ?_
      refine va_get (D := (dC, dI)) (ci := 0) (v := .int (nI k0)) (C := RX0) (T := TX0) (N := 8) hx hb hts hiX0 hown hK hP 2 rfl rfl 2 (by decide) (hts (.fieldLink RX4 69 "LeftProfile$Court" "size" "I") (List.mem_of_getElem? (i := 2) rfl)) (fun _ h9 => h9) rfl dX4_guiltyIf_20 ?_
      refine lv_icmp_ge (tgt := 75) hx hb dX4_guiltyIf_23 (by decide) (fun c_3 => ?_) (fun c_3 => ?_)
      · exact absurd c_3 (show ¬ nI k0 ≤ nI i14 from nI_ge (a := i14) (b := k0) (by omega) (by omega))
      · refine lv_aload_n hx hb dX4_guiltyIf_26 rfl (lv_at hl 0 rfl) ?_
        refine va_get (D := (dC, dI)) (ci := 4) (v := .ref si) (C := RX4) (T := TX4) (N := 3) hx hb hts hiX4 hown hK hP 0 rfl rfl 2 (by decide) (hts (.fieldLink RX4 28 "LeftProfile$Scene" "sight" "LLeftProfile$Sight;") (List.mem_of_getElem? (i := 3) rfl)) (fun _ h9 => h9) rfl dX4_guiltyIf_27 ?_
        refine lv_aload_n hx hb dX4_guiltyIf_30 rfl (lv_at hl 0 rfl) ?_
        refine va_get (D := (dC, dI)) (ci := 4) (v := .ref hc) (C := RX4) (T := TX4) (N := 3) hx hb hts hiX4 hown hK hP 0 rfl rfl 1 (by decide) (hts (.fieldLink RX4 21 "LeftProfile$Scene" "court" "LLeftProfile$Court;") (List.mem_of_getElem? (i := 1) rfl)) (fun _ h9 => h9) rfl dX4_guiltyIf_31 ?_
        refine va_get (D := (dC, dI)) (ci := 0) (v := .ref k1) (C := RX0) (T := TX0) (N := 8) hx hb hts hiX0 hown hK hP 2 rfl rfl 3 (by decide) (hts (.fieldLink RX4 58 "LeftProfile$Court" "kinds" "[I") (List.mem_of_getElem? (i := 4) rfl)) (fun _ h9 => h9) rfl dX4_guiltyIf_34 ?_
        refine lv_iload hx hb dX4_guiltyIf_37 (lv_at hl 5 rfl) ?_
        refine va_iald hx hb hK hP 3 0 rfl rfl (vp_in_nI (n := i14) (by omega) (by omega)) dX4_guiltyIf_39 ?_
        refine cz_i (y := (g1 i14)) (congrArg g1 (nI_clamp (n := i14) (by omega))) ?_
        refine lv_aload_n hx hb dX4_guiltyIf_40 rfl (lv_at hl 0 rfl) ?_
        refine va_get (D := (dC, dI)) (ci := 4) (v := .ref hc) (C := RX4) (T := TX4) (N := 3) hx hb hts hiX4 hown hK hP 0 rfl rfl 1 (by decide) (hts (.fieldLink RX4 21 "LeftProfile$Scene" "court" "LLeftProfile$Court;") (List.mem_of_getElem? (i := 1) rfl)) (fun _ h9 => h9) rfl dX4_guiltyIf_41 ?_
        refine va_get (D := (dC, dI)) (ci := 0) (v := .ref k2) (C := RX0) (T := TX0) (N := 8) hx hb hts hiX0 hown hK hP 2 rfl rfl 4 (by decide) (hts (.fieldLink RX4 62 "LeftProfile$Court" "places" "[I") (List.mem_of_getElem? (i := 5) rfl)) (fun _ h9 => h9) rfl dX4_guiltyIf_44 ?_
        refine lv_iload hx hb dX4_guiltyIf_47 (lv_at hl 5 rfl) ?_
        refine va_iald hx hb hK hP 4 0 rfl rfl (vp_in_nI (n := i14) (by omega) (by omega)) dX4_guiltyIf_49 ?_
        refine cz_i (y := (g2 i14)) (congrArg g2 (nI_clamp (n := i14) (by omega))) ?_
        refine lv_iload_n hx hb dX4_guiltyIf_50 rfl (lv_at hl 1 rfl) ?_
        refine lv_iload_n hx hb dX4_guiltyIf_51 rfl (lv_at hl 2 rfl) ?_
        refine lv_iload_n hx hb dX4_guiltyIf_52 rfl (lv_at hl 3 rfl) ?_
        refine vp_callSi (cz_run (va_runV (As := [.int (g1 i14), .int (g2 i14), .int p0, .int p1, .int r_1]) (rest := []) ⟨hx, hb, hml, hown, hts⟩ (c_X5_isGuilty l dC dI cI cB si (g1 i14) (g2 i14) p0 p1 r_1 tw tb ft fb ) (cwV 5 hts gX4_guiltyIf_X5_isGuilty rfl rfl rfl (by decide +kernel) ⟨Nat.le_of_ble_eq_true rfl, Nat.le_of_ble_eq_true rfl⟩) (cz_pV (hP.sub (ws' := [(si, .inr (5, [.ref tw, .ref tb])), (tw, .inl (cI, 400, .inl ft)), (tb, .inl (cI, 400, .inl fb))]) [5, 6, 7] rfl) hN (va_recv hK (hP.sub (ws' := [(si, .inr (5, [.ref tw, .ref tb])), (tw, .inl (cI, 400, .inl ft)), (tb, .inl (cI, 400, .inl fb))]) [5, 6, 7] rfl) (ci := 5) (q0 := 0) rfl rfl)) rfl rfl hl.1 rfl (lv_room (Nat.le_of_ble_eq_true rfl)) dX4_guiltyIf_53 ⟨Nat.le_of_ble_eq_true rfl, Nat.le_of_ble_eq_true rfl⟩)) (fun r_4 hr_4 => ?_)
        refine lv_if_eq (tgt := 69) hx hb dX4_guiltyIf_56 (by decide) (fun c_5 => ?_) (fun c_5 => ?_)
        · refine lv_iinc (v := (nI (i14 + 1))) (lv' := [(5, .int (nI (i14 + 1))), (0, .ref hs), (1, .int p0), (2, .int p1), (3, .int r_1), (4, .int y4)]) hx hb dX4_guiltyIf_69 hl (k := 5) rfl (nI_add i14 1) (by decide) rfl (fun ls hl => ?_)
          refine lv_goto (tgt := 14) hx hb dX4_guiltyIf_72 (by decide) ?_
          exact ih14 (i14 + 1) y4 ls (by omega)  (lv_sub hl [1, 2, 3, 4, 5, 0] rfl)
        · refine lv_iload hx hb dX4_guiltyIf_59 (lv_at hl 4 rfl) ?_
          refine lv_iload hx hb dX4_guiltyIf_61 (lv_at hl 5 rfl) ?_
          refine vp_callSi (cz_run (va_runSN (As := [.int (nI i14)]) (rest := [.int y4]) ⟨hx, hb, hml, hown, hts⟩ (c_X6_bit l dC dI cI cB (nI i14) ) ⟨(va_cnB 1 hts gX4_guiltyIf_X6_bit_n47 rfl rfl rfl (hN.2 (RX4, 47, yX6_bit) (by decide)) (hts (.initialized RX6) (List.mem_of_getElem? (i := 14) rfl)) (by decide +kernel) ⟨Nat.le_of_ble_eq_true rfl, Nat.le_of_ble_eq_true rfl⟩), hts (.static yX6_bit) (List.mem_of_getElem? (i := 13) rfl), trivial⟩ (cz_pS (hP.sub (ws' := []) [] rfl) hN) rfl rfl hl.1 rfl (lv_room (Nat.le_of_ble_eq_true rfl)) dX4_guiltyIf_63 ⟨Nat.le_of_ble_eq_true rfl, Nat.le_of_ble_eq_true rfl⟩)) (fun r_6 hr_6 => ?_)
          refine lv_ior hx hb dX4_guiltyIf_66 ?_
          refine lv_topi (fun x_7 ex_7 => ?_)
          refine lv_istore (lv' := [(4, .int x_7), (0, .ref hs), (1, .int p0), (2, .int p1), (3, .int r_1), (5, .int (nI i14))]) hx hb dX4_guiltyIf_67 hl (by decide) rfl (fun ls hl => ?_)
          refine lv_iinc (v := (nI (i14 + 1))) (lv' := [(5, .int (nI (i14 + 1))), (4, .int x_7), (0, .ref hs), (1, .int p0), (2, .int p1), (3, .int r_1)]) hx hb dX4_guiltyIf_69 hl (k := 5) rfl (nI_add i14 1) (by decide) rfl (fun ls hl => ?_)
          refine lv_goto (tgt := 14) hx hb dX4_guiltyIf_72 (by decide) ?_
          exact ih14 (i14 + 1) x_7 ls (by omega)  (lv_sub hl [2, 3, 4, 5, 1, 0] rfl)
  exact lp14 k0 0 0 ls (by omega)  (lv_sub hl [3, 4, 5, 2, 1, 0] rfl)

theorem c_X4_after_a1 (p0 : Int32) (p1 : Int32) (w0 : Int32) (k0 : Nat) (g2 : Nat → Int32) (r_2 : Int32) (r_3 : Int32) (x_6 : Int32) (r_7 : Int32) (hk6 : k0 ≤ 6) (c_1 : ¬ p0 = (-1)) (hr_2 : r_2 = cz_plc p0) (hr_3 : r_3 = cz_sid p0) (c_4 : ¬ p1 = 0) (c_5 : ¬ p1 = 1) (ex_6 : x_6 = 2 * r_3) (hr_7 : r_7 = cz_nb r_2 x_6) (c_8 : ¬ p1 = 2) : ((-1) : Int32) = cz_aft p0 p1 (w0 ||| cz_pp g2 k0) := by first | (subst_vars; rfl) | assumption | ((try subst_vars) <;> (try simp only [cz_aft]) <;> (repeat' split) <;> (first | rfl | contradiction | ((try simp only [cz_in, cz_du, cz_lt, cz_le, cz_eq, cz_l] at *) <;> (first | omega | (simp_all; done))))) | ((try subst_vars); simp only [cz_aft, cz_in, *, and_self, and_true, true_and, if_true, if_false])
theorem c_X4_after_a2 (p0 : Int32) (p1 : Int32) (w0 : Int32) (k0 : Nat) (g2 : Nat → Int32) (r_2 : Int32) (r_3 : Int32) (x_6 : Int32) (r_7 : Int32) (r_9 : Int32) (x_10 : Int32) (hk6 : k0 ≤ 6) (c_1 : ¬ p0 = (-1)) (hr_2 : r_2 = cz_plc p0) (hr_3 : r_3 = cz_sid p0) (c_4 : ¬ p1 = 0) (c_5 : ¬ p1 = 1) (ex_6 : x_6 = 2 * r_3) (hr_7 : r_7 = cz_nb r_2 x_6) (c_8 : p1 = 2) (hr_9 : r_9 = cz_pp g2 k0) (ex_10 : x_10 = w0 ||| r_9) (hr_11 : ¬ cz_op r_7 x_10) : ((-1) : Int32) = cz_aft p0 p1 (w0 ||| cz_pp g2 k0) := by first | (subst_vars; rfl) | assumption | ((try subst_vars) <;> (try simp only [cz_aft]) <;> (repeat' split) <;> (first | rfl | contradiction | ((try simp only [cz_in, cz_du, cz_lt, cz_le, cz_eq, cz_l] at *) <;> (first | omega | (simp_all; done))))) | ((try subst_vars); simp only [cz_aft, cz_in, *, and_self, and_true, true_and, if_true, if_false])
theorem c_X4_after_a3 (p0 : Int32) (p1 : Int32) (w0 : Int32) (k0 : Nat) (g2 : Nat → Int32) (r_2 : Int32) (r_3 : Int32) (x_6 : Int32) (r_7 : Int32) (r_9 : Int32) (x_10 : Int32) (r_12 : Int32) (hk6 : k0 ≤ 6) (c_1 : ¬ p0 = (-1)) (hr_2 : r_2 = cz_plc p0) (hr_3 : r_3 = cz_sid p0) (c_4 : ¬ p1 = 0) (c_5 : ¬ p1 = 1) (ex_6 : x_6 = 2 * r_3) (hr_7 : r_7 = cz_nb r_2 x_6) (c_8 : p1 = 2) (hr_9 : r_9 = cz_pp g2 k0) (ex_10 : x_10 = w0 ||| r_9) (hr_11 : cz_op r_7 x_10) (hr_12 : r_12 = r_7 * 4 + r_3) : (r_12 : Int32) = cz_aft p0 p1 (w0 ||| cz_pp g2 k0) := by first | (subst_vars; rfl) | assumption | ((try subst_vars) <;> (try simp only [cz_aft]) <;> (repeat' split) <;> (first | rfl | contradiction | ((try simp only [cz_in, cz_du, cz_lt, cz_le, cz_eq, cz_l] at *) <;> (first | omega | (simp_all; done))))) | ((try subst_vars); simp only [cz_aft, cz_in, *, and_self, and_true, true_and, if_true, if_false])
theorem c_X4_after_a4 (p0 : Int32) (p1 : Int32) (w0 : Int32) (k0 : Nat) (g2 : Nat → Int32) (r_2 : Int32) (r_3 : Int32) (x_13 : Int32) (x_14 : Int32) (r_15 : Int32) (hk6 : k0 ≤ 6) (c_1 : ¬ p0 = (-1)) (hr_2 : r_2 = cz_plc p0) (hr_3 : r_3 = cz_sid p0) (c_4 : ¬ p1 = 0) (c_5 : p1 = 1) (ex_13 : x_13 = r_3 + 1) (ex_14 : x_14 = x_13 - x_13 / 4 * 4) (hr_15 : r_15 = r_2 * 4 + x_14) : (r_15 : Int32) = cz_aft p0 p1 (w0 ||| cz_pp g2 k0) := by first | (subst_vars; rfl) | assumption | ((try subst_vars) <;> (try simp only [cz_aft]) <;> (repeat' split) <;> (first | rfl | contradiction | ((try simp only [cz_in, cz_du, cz_lt, cz_le, cz_eq, cz_l] at *) <;> (first | omega | (simp_all; done))))) | ((try subst_vars); simp only [cz_aft, cz_in, *, and_self, and_true, true_and, if_true, if_false])
theorem c_X4_after_a5 (p0 : Int32) (p1 : Int32) (w0 : Int32) (k0 : Nat) (g2 : Nat → Int32) (r_2 : Int32) (r_3 : Int32) (x_16 : Int32) (x_17 : Int32) (x_18 : Int32) (r_19 : Int32) (hk6 : k0 ≤ 6) (c_1 : ¬ p0 = (-1)) (hr_2 : r_2 = cz_plc p0) (hr_3 : r_3 = cz_sid p0) (c_4 : p1 = 0) (ex_16 : x_16 = r_3 + 4) (ex_17 : x_17 = x_16 - 1) (ex_18 : x_18 = x_17 - x_17 / 4 * 4) (hr_19 : r_19 = r_2 * 4 + x_18) : (r_19 : Int32) = cz_aft p0 p1 (w0 ||| cz_pp g2 k0) := by first | (subst_vars; rfl) | assumption | ((try subst_vars) <;> (try simp only [cz_aft]) <;> (repeat' split) <;> (first | rfl | contradiction | ((try simp only [cz_in, cz_du, cz_lt, cz_le, cz_eq, cz_l] at *) <;> (first | omega | (simp_all; done))))) | ((try subst_vars); simp only [cz_aft, cz_in, *, and_self, and_true, true_and, if_true, if_false])
theorem c_X4_after_a6 (p0 : Int32) (p1 : Int32) (w0 : Int32) (k0 : Nat) (g2 : Nat → Int32) (hk6 : k0 ≤ 6) (c_1 : p0 = (-1)) : ((-1) : Int32) = cz_aft p0 p1 (w0 ||| cz_pp g2 k0) := by first | (subst_vars; rfl) | assumption | ((try subst_vars) <;> (try simp only [cz_aft]) <;> (repeat' split) <;> (first | rfl | contradiction | ((try simp only [cz_in, cz_du, cz_lt, cz_le, cz_eq, cz_l] at *) <;> (first | omega | (simp_all; done))))) | ((try subst_vars); simp only [cz_aft, cz_in, *, and_self, and_true, true_and, if_true, if_false])
set_option maxHeartbeats 4000000 in
set_option maxRecDepth 100000 in
theorem c_X4_after (l : Launch) (dC : Nat → ClassId) (dI : Nat → Nat → Nat) (cI cB : ClassId) (tR tC : Nat) (hs : Nat) (p0 : Int32) (p1 : Int32) (hh : Nat) (hc : Nat) (si : Nat) (w0 : Int32) (w1 : Int32) (w2 : Int32) (a0 : Int32) (a1 : Int32) (k0 : Nat) (k1 : Nat) (k2 : Nat) (k3 : Nat) (k4 : Nat) (k5 : Nat) (g2 : Nat → Int32) (hk6 : k0 ≤ 6) : Met l yX4_after wsX4_after ({ frames := 2, cells := 0, slots := 0, locals := 43 }) (cz_PpT dC dI cI cB tR tC [.ref hs, .int p0, .int p1] [(hs, .inr (4, [.ref hh, .ref hc, .ref si])), (hh, .inr (1, [.int w0, .int w1, .int w2])), (hc, .inr (0, [.int a0, .int a1, .int (nI k0), .ref k1, .ref k2, .ref k3, .ref k4, .ref k5])), (k2, .inl (cI, 6, .inl g2))]) (vp_Si (fun r : Int32 => r = cz_aft p0 p1 (w0 ||| cz_pp g2 k0))) 0 0 (fun _ => False) := by
  refine cz_of (cc := cX4_after) (maxL := 7) (ret := (some .int)) (by decide) rfl ?_
  intro p e s m args below meth c s₁ Q B hml hv hQ
  obtain ⟨rfl, hP, hN, hSt⟩ := hv
  have hx := B.exec
  have hb := B.bytes
  have hr := B.returns
  have hts := atoms_spec (ws := wsX4_after) B.pre
  have hown : s.vm.findClass RX4 = some m.cls := findClass_of_methodNamed B.named
  have hlocks := B.notSynchronized
  have hK := hN.1
  have hiX1 : ∀ w ∈ wsX10, w ∈ wsX4_after := (fun _ h => List.mem_cons_of_mem _ (List.mem_append_left _ (List.mem_append_right _ h)))
  have hiX4 : ∀ w ∈ wsX40, w ∈ wsX4_after := (fun _ h => List.mem_cons_of_mem _ (List.mem_append_left _ (List.mem_append_left _ (List.mem_append_right _ h))))
  have hl := lv_entry ([.ref hs, .int p0, .int p1]) (n := 7) (Nat.le_of_ble_eq_true rfl)
  rw [lg_entry_eq]
  generalize (lg_sl ([.ref hs, .int p0, .int p1]) ++ List.replicate (7 - (lg_sl ([.ref hs, .int p0, .int p1])).length) Slot.unset).toArray = ls at hl ⊢
  have hl : lv_has ls 7 [(0, .ref hs), (1, .int p0), (2, .int p1)] := hl
  refine lv_iload_n hx hb dX4_after_0 rfl (lv_at hl 1 rfl) ?_
  refine lv_iconst (v := (-1)) hx hb dX4_after_1 (by decide) ?_
  refine lv_icmp_ne (tgt := 7) hx hb dX4_after_2 (by decide) (fun c_1 => ?_) (fun c_1 => ?_)
  · refine lv_iload_n hx hb dX4_after_7 rfl (lv_at hl 1 rfl) ?_
    refine vp_callSi (cz_run (va_runSN (As := [.int p0]) (rest := []) ⟨hx, hb, hml, hown, hts⟩ (c_X6_placeOf l dC dI cI cB p0 ) ⟨(va_cnB 1 hts gX4_after_X6_placeOf_n43 rfl rfl rfl (hN.2 (RX4, 43, yX6_placeOf) (by decide)) (hts (.initialized RX6) (List.mem_of_getElem? (i := 5) rfl)) (by decide +kernel) ⟨Nat.le_of_ble_eq_true rfl, Nat.le_of_ble_eq_true rfl⟩), hts (.static yX6_placeOf) (List.mem_of_getElem? (i := 4) rfl), trivial⟩ (cz_pS (hP.sub (ws' := []) [] rfl) hN) rfl rfl hl.1 rfl (lv_room (Nat.le_of_ble_eq_true rfl)) dX4_after_8 ⟨Nat.le_of_ble_eq_true rfl, Nat.le_of_ble_eq_true rfl⟩)) (fun r_2 hr_2 => ?_)
    refine lv_istore_n (lv' := [(3, .int r_2), (0, .ref hs), (1, .int p0), (2, .int p1)]) hx hb dX4_after_11 rfl hl (by decide) rfl (fun ls hl => ?_)
    refine lv_iload_n hx hb dX4_after_12 rfl (lv_at hl 2 rfl) ?_
    refine vp_callSi (cz_run (va_runSN (As := [.int p0]) (rest := []) ⟨hx, hb, hml, hown, hts⟩ (c_X6_sideOf l dC dI cI cB p0 ) ⟨(va_cnB 1 hts gX4_after_X6_sideOf_n80 rfl rfl rfl (hN.2 (RX4, 80, yX6_sideOf) (by decide)) (hts (.initialized RX6) (List.mem_of_getElem? (i := 5) rfl)) (by decide +kernel) ⟨Nat.le_of_ble_eq_true rfl, Nat.le_of_ble_eq_true rfl⟩), hts (.static yX6_sideOf) (List.mem_of_getElem? (i := 7) rfl), trivial⟩ (cz_pS (hP.sub (ws' := []) [] rfl) hN) rfl rfl hl.1 rfl (lv_room (Nat.le_of_ble_eq_true rfl)) dX4_after_13 ⟨Nat.le_of_ble_eq_true rfl, Nat.le_of_ble_eq_true rfl⟩)) (fun r_3 hr_3 => ?_)
    refine lv_istore (lv' := [(4, .int r_3), (3, .int r_2), (0, .ref hs), (1, .int p0), (2, .int p1)]) hx hb dX4_after_16 hl (by decide) rfl (fun ls hl => ?_)
    refine lv_iload_n hx hb dX4_after_18 rfl (lv_at hl 4 rfl) ?_
    refine lv_if_ne (tgt := 35) hx hb dX4_after_19 (by decide) (fun c_4 => ?_) (fun c_4 => ?_)
    · refine lv_iload_n hx hb dX4_after_35 rfl (lv_at hl 4 rfl) ?_
      refine lv_iconst (v := 1) hx hb dX4_after_36 (by decide) ?_
      refine lv_icmp_ne (tgt := 51) hx hb dX4_after_37 (by decide) (fun c_5 => ?_) (fun c_5 => ?_)
      · refine lv_iload_n hx hb dX4_after_51 rfl (lv_at hl 1 rfl) ?_
        refine lv_iconst (v := 2) hx hb dX4_after_52 (by decide) ?_
        refine lv_iload hx hb dX4_after_53 (lv_at hl 0 rfl) ?_
        refine lv_imul hx hb dX4_after_55 ?_
        refine lv_topi (fun x_6 ex_6 => ?_)
        refine vp_callSi (cz_run (va_runSN (As := [.int r_2, .int x_6]) (rest := []) ⟨hx, hb, hml, hown, hts⟩ (c_X6_neighbour l dC dI cI cB tR tC r_2 x_6 ) ⟨(va_cnB 2 hts gX4_after_X6_neighbour_n87 rfl rfl rfl (hN.2 (RX4, 87, yX6_neighbour) (by decide)) (hts (.initialized RX6) (List.mem_of_getElem? (i := 5) rfl)) (by decide +kernel) ⟨Nat.le_of_ble_eq_true rfl, Nat.le_of_ble_eq_true rfl⟩), hts (.static yX6_neighbour) (List.mem_of_getElem? (i := 11) rfl), trivial⟩ (cz_pT (hP.sub (ws' := []) [] rfl) hN (hSt.any)) rfl rfl hl.1 rfl (lv_room (Nat.le_of_ble_eq_true rfl)) dX4_after_56 ⟨Nat.le_of_ble_eq_true rfl, Nat.le_of_ble_eq_true rfl⟩)) (fun r_7 hr_7 => ?_)
        refine lv_istore (lv' := [(5, .int r_7), (4, .int r_3), (3, .int r_2), (0, .ref hs), (1, .int p0), (2, .int p1)]) hx hb dX4_after_59 hl (by decide) rfl (fun ls hl => ?_)
        refine lv_iload_n hx hb dX4_after_61 rfl (lv_at hl 5 rfl) ?_
        refine lv_iconst (v := 2) hx hb dX4_after_62 (by decide) ?_
        refine lv_icmp_ne (tgt := 93) hx hb dX4_after_63 (by decide) (fun c_8 => ?_) (fun c_8 => ?_)
        · refine lv_iconst (v := 0) hx hb dX4_after_93 (by decide) ?_
          refine lv_istore (lv' := [(6, .int 0), (5, .int r_7), (4, .int r_3), (3, .int r_2), (0, .ref hs), (1, .int p0), (2, .int p1)]) hx hb dX4_after_94 hl (by decide) rfl (fun ls hl => ?_)
          refine lv_iload hx hb dX4_after_96 (lv_at hl 0 rfl) ?_
          refine lv_if_eq (tgt := 111) hx hb dX4_after_98 (by decide) (fun _ => ?_) (fun c => absurd (by decide) c)
          refine lv_iconst (v := (-1)) hx hb dX4_after_111 (by decide) ?_
          rw [hQ]; exact W.iret (v := (-1)) hx hb hr (fun t ht hW => ⟨(-1), rfl, (c_X4_after_a1 p0 p1 w0 k0 g2 r_2 r_3 x_6 r_7 hk6 c_1 hr_2 hr_3 c_4 c_5 ex_6 hr_7 c_8), ht⟩) (fun _ h => absurd h List.not_mem_nil) dX4_after_112
        · refine lv_iload hx hb dX4_after_66 (lv_at hl 0 rfl) ?_
          refine lv_aload_n hx hb dX4_after_68 rfl (lv_at hl 3 rfl) ?_
          refine va_get (D := (dC, dI)) (ci := 4) (v := .ref hh) (C := RX4) (T := TX4) (N := 3) hx hb hts hiX4 hown hK hP 0 rfl rfl 0 (by decide) (hts (.fieldLink RX4 12 "LeftProfile$Scene" "hall" "LLeftProfile$Hall;") (List.mem_of_getElem? (i := 1) rfl)) (fun _ h9 => h9) rfl dX4_after_69 ?_
          refine va_get (D := (dC, dI)) (ci := 1) (v := .int w0) (C := RX1) (T := TX1) (N := 3) hx hb hts hiX1 hown hK hP 1 rfl rfl 0 (by decide) (hts (.fieldLink RX4 32 "LeftProfile$Hall" "walls" "I") (List.mem_of_getElem? (i := 2) rfl)) (fun _ h9 => h9) rfl dX4_after_72 ?_
          refine lv_aload_n hx hb dX4_after_75 rfl (lv_at hl 3 rfl) ?_
          refine va_get (D := (dC, dI)) (ci := 4) (v := .ref hc) (C := RX4) (T := TX4) (N := 3) hx hb hts hiX4 hown hK hP 0 rfl rfl 1 (by decide) (hts (.fieldLink RX4 21 "LeftProfile$Scene" "court" "LLeftProfile$Court;") (List.mem_of_getElem? (i := 3) rfl)) (fun _ h9 => h9) rfl dX4_after_76 ?_
          refine vp_callSi (cz_run (va_runV (As := []) (rest := [.int w0, .int r_7]) ⟨hx, hb, hml, hown, hts⟩ (c_X0_people l dC dI cI cB hc a0 a1 k0 k1 k2 k3 k4 k5 g2 hk6) (cwV 0 hts gX4_after_X0_people rfl rfl rfl (by decide +kernel) ⟨Nat.le_of_ble_eq_true rfl, Nat.le_of_ble_eq_true rfl⟩) (cz_pV (hP.sub (ws' := [(hc, .inr (0, [.int a0, .int a1, .int (nI k0), .ref k1, .ref k2, .ref k3, .ref k4, .ref k5])), (k2, .inl (cI, 6, .inl g2))]) [2, 3] rfl) hN (va_recv hK (hP.sub (ws' := [(hc, .inr (0, [.int a0, .int a1, .int (nI k0), .ref k1, .ref k2, .ref k3, .ref k4, .ref k5])), (k2, .inl (cI, 6, .inl g2))]) [2, 3] rfl) (ci := 0) (q0 := 0) rfl rfl)) rfl rfl hl.1 rfl (lv_room (Nat.le_of_ble_eq_true rfl)) dX4_after_79 ⟨Nat.le_of_ble_eq_true rfl, Nat.le_of_ble_eq_true rfl⟩)) (fun r_9 hr_9 => ?_)
          refine lv_ior hx hb dX4_after_82 ?_
          refine lv_topi (fun x_10 ex_10 => ?_)
          refine vp_callSi (cz_run (va_runSN (As := [.int r_7, .int x_10]) (rest := []) ⟨hx, hb, hml, hown, hts⟩ (c_X6_isOpen l dC dI cI cB r_7 x_10 ) ⟨(va_cnB 2 hts gX4_after_X6_isOpen_n90 rfl rfl rfl (hN.2 (RX4, 90, yX6_isOpen) (by decide)) (hts (.initialized RX6) (List.mem_of_getElem? (i := 5) rfl)) (by decide +kernel) ⟨Nat.le_of_ble_eq_true rfl, Nat.le_of_ble_eq_true rfl⟩), hts (.static yX6_isOpen) (List.mem_of_getElem? (i := 27) rfl), trivial⟩ (cz_pS (hP.sub (ws' := []) [] rfl) hN) rfl rfl hl.1 rfl (lv_room (Nat.le_of_ble_eq_true rfl)) dX4_after_83 ⟨Nat.le_of_ble_eq_true rfl, Nat.le_of_ble_eq_true rfl⟩)) (fun r_11 hr_11 => ?_)
          rcases hr_11 with ⟨rfl, hr_11⟩ | ⟨rfl, hr_11⟩
          · refine lv_if_eq (tgt := 93) hx hb dX4_after_86 (by decide) (fun _ => ?_) (fun c => absurd (by decide) c)
            refine lv_iconst (v := 0) hx hb dX4_after_93 (by decide) ?_
            refine lv_istore (lv' := [(6, .int 0), (5, .int r_7), (4, .int r_3), (3, .int r_2), (0, .ref hs), (1, .int p0), (2, .int p1)]) hx hb dX4_after_94 hl (by decide) rfl (fun ls hl => ?_)
            refine lv_iload hx hb dX4_after_96 (lv_at hl 0 rfl) ?_
            refine lv_if_eq (tgt := 111) hx hb dX4_after_98 (by decide) (fun _ => ?_) (fun c => absurd (by decide) c)
            refine lv_iconst (v := (-1)) hx hb dX4_after_111 (by decide) ?_
            rw [hQ]; exact W.iret (v := (-1)) hx hb hr (fun t ht hW => ⟨(-1), rfl, (c_X4_after_a2 p0 p1 w0 k0 g2 r_2 r_3 x_6 r_7 r_9 x_10 hk6 c_1 hr_2 hr_3 c_4 c_5 ex_6 hr_7 c_8 hr_9 ex_10 hr_11), ht⟩) (fun _ h => absurd h List.not_mem_nil) dX4_after_112
          · refine lv_if_eq (tgt := 93) hx hb dX4_after_86 (by decide) (fun c => absurd c (by decide)) (fun _ => ?_)
            refine lv_iconst (v := 1) hx hb dX4_after_89 (by decide) ?_
            refine lv_goto (tgt := 94) hx hb dX4_after_90 (by decide) ?_
            refine lv_istore (lv' := [(6, .int 1), (5, .int r_7), (4, .int r_3), (3, .int r_2), (0, .ref hs), (1, .int p0), (2, .int p1)]) hx hb dX4_after_94 hl (by decide) rfl (fun ls hl => ?_)
            refine lv_iload hx hb dX4_after_96 (lv_at hl 0 rfl) ?_
            refine lv_if_eq (tgt := 111) hx hb dX4_after_98 (by decide) (fun c => absurd c (by decide)) (fun _ => ?_)
            refine lv_iload hx hb dX4_after_101 (lv_at hl 1 rfl) ?_
            refine lv_iload hx hb dX4_after_103 (lv_at hl 2 rfl) ?_
            refine vp_callSi (cz_run (va_runSN (As := [.int r_7, .int r_3]) (rest := []) ⟨hx, hb, hml, hown, hts⟩ (c_X6_stanceOf l dC dI cI cB r_7 r_3 ) ⟨(va_cnB 2 hts gX4_after_X6_stanceOf_n83 rfl rfl rfl (hN.2 (RX4, 83, yX6_stanceOf) (by decide)) (hts (.initialized RX6) (List.mem_of_getElem? (i := 5) rfl)) (by decide +kernel) ⟨Nat.le_of_ble_eq_true rfl, Nat.le_of_ble_eq_true rfl⟩), hts (.static yX6_stanceOf) (List.mem_of_getElem? (i := 9) rfl), trivial⟩ (cz_pS (hP.sub (ws' := []) [] rfl) hN) rfl rfl hl.1 rfl (lv_room (Nat.le_of_ble_eq_true rfl)) dX4_after_105 ⟨Nat.le_of_ble_eq_true rfl, Nat.le_of_ble_eq_true rfl⟩)) (fun r_12 hr_12 => ?_)
            refine lv_goto (tgt := 112) hx hb dX4_after_108 (by decide) ?_
            rw [hQ]; exact W.iret (v := r_12) hx hb hr (fun t ht hW => ⟨r_12, rfl, (c_X4_after_a3 p0 p1 w0 k0 g2 r_2 r_3 x_6 r_7 r_9 x_10 r_12 hk6 c_1 hr_2 hr_3 c_4 c_5 ex_6 hr_7 c_8 hr_9 ex_10 hr_11 hr_12), ht⟩) (fun _ h => absurd h List.not_mem_nil) dX4_after_112
      · refine lv_iload_n hx hb dX4_after_40 rfl (lv_at hl 1 rfl) ?_
        refine lv_iload hx hb dX4_after_41 (lv_at hl 0 rfl) ?_
        refine lv_iconst (v := 1) hx hb dX4_after_43 (by decide) ?_
        refine lv_iadd hx hb dX4_after_44 ?_
        refine lv_topi (fun x_13 ex_13 => ?_)
        refine lv_iconst (v := 4) hx hb dX4_after_45 (by decide) ?_
        refine lv_irem hx hb dX4_after_46 (by decide) ?_
        refine lv_topi (fun x_14 ex_14 => ?_)
        refine vp_callSi (cz_run (va_runSN (As := [.int r_2, .int x_14]) (rest := []) ⟨hx, hb, hml, hown, hts⟩ (c_X6_stanceOf l dC dI cI cB r_2 x_14 ) ⟨(va_cnB 2 hts gX4_after_X6_stanceOf_n83 rfl rfl rfl (hN.2 (RX4, 83, yX6_stanceOf) (by decide)) (hts (.initialized RX6) (List.mem_of_getElem? (i := 5) rfl)) (by decide +kernel) ⟨Nat.le_of_ble_eq_true rfl, Nat.le_of_ble_eq_true rfl⟩), hts (.static yX6_stanceOf) (List.mem_of_getElem? (i := 9) rfl), trivial⟩ (cz_pS (hP.sub (ws' := []) [] rfl) hN) rfl rfl hl.1 rfl (lv_room (Nat.le_of_ble_eq_true rfl)) dX4_after_47 ⟨Nat.le_of_ble_eq_true rfl, Nat.le_of_ble_eq_true rfl⟩)) (fun r_15 hr_15 => ?_)
        rw [hQ]; exact W.iret (v := r_15) hx hb hr (fun t ht hW => ⟨r_15, rfl, (c_X4_after_a4 p0 p1 w0 k0 g2 r_2 r_3 x_13 x_14 r_15 hk6 c_1 hr_2 hr_3 c_4 c_5 ex_13 ex_14 hr_15), ht⟩) (fun _ h => absurd h List.not_mem_nil) dX4_after_50
    · refine lv_iload_n hx hb dX4_after_22 rfl (lv_at hl 1 rfl) ?_
      refine lv_iload hx hb dX4_after_23 (lv_at hl 0 rfl) ?_
      refine lv_iconst (v := 4) hx hb dX4_after_25 (by decide) ?_
      refine lv_iadd hx hb dX4_after_26 ?_
      refine lv_topi (fun x_16 ex_16 => ?_)
      refine lv_iconst (v := 1) hx hb dX4_after_27 (by decide) ?_
      refine lv_isub hx hb dX4_after_28 ?_
      refine lv_topi (fun x_17 ex_17 => ?_)
      refine lv_iconst (v := 4) hx hb dX4_after_29 (by decide) ?_
      refine lv_irem hx hb dX4_after_30 (by decide) ?_
      refine lv_topi (fun x_18 ex_18 => ?_)
      refine vp_callSi (cz_run (va_runSN (As := [.int r_2, .int x_18]) (rest := []) ⟨hx, hb, hml, hown, hts⟩ (c_X6_stanceOf l dC dI cI cB r_2 x_18 ) ⟨(va_cnB 2 hts gX4_after_X6_stanceOf_n83 rfl rfl rfl (hN.2 (RX4, 83, yX6_stanceOf) (by decide)) (hts (.initialized RX6) (List.mem_of_getElem? (i := 5) rfl)) (by decide +kernel) ⟨Nat.le_of_ble_eq_true rfl, Nat.le_of_ble_eq_true rfl⟩), hts (.static yX6_stanceOf) (List.mem_of_getElem? (i := 9) rfl), trivial⟩ (cz_pS (hP.sub (ws' := []) [] rfl) hN) rfl rfl hl.1 rfl (lv_room (Nat.le_of_ble_eq_true rfl)) dX4_after_31 ⟨Nat.le_of_ble_eq_true rfl, Nat.le_of_ble_eq_true rfl⟩)) (fun r_19 hr_19 => ?_)
      rw [hQ]; exact W.iret (v := r_19) hx hb hr (fun t ht hW => ⟨r_19, rfl, (c_X4_after_a5 p0 p1 w0 k0 g2 r_2 r_3 x_16 x_17 x_18 r_19 hk6 c_1 hr_2 hr_3 c_4 ex_16 ex_17 ex_18 hr_19), ht⟩) (fun _ h => absurd h List.not_mem_nil) dX4_after_34
  · refine lv_iconst (v := (-1)) hx hb dX4_after_5 (by decide) ?_
    rw [hQ]; exact W.iret (v := (-1)) hx hb hr (fun t ht hW => ⟨(-1), rfl, (c_X4_after_a6 p0 p1 w0 k0 g2 hk6 c_1), ht⟩) (fun _ h => absurd h List.not_mem_nil) dX4_after_6

set_option maxHeartbeats 4000000 in
set_option maxRecDepth 100000 in
theorem c_X4_roomFor (l : Launch) (dC : Nat → ClassId) (dI : Nat → Nat → Nat) (cI cB : ClassId) (hs : Nat) (p0 : Int32) (hh : Nat) (hc : Nat) (si : Nat) (w0 : Int32) (w1 : Int32) (w2 : Int32) (a0 : Int32) (a1 : Int32) (k0 : Nat) (k1 : Nat) (k2 : Nat) (k3 : Nat) (k4 : Nat) (k5 : Nat) (g1 : Nat → Int32) (g2 : Nat → Int32) (tw : Nat) (tb : Nat) (ft : Nat → Int32) (fb : Nat → Int32) (hk6 : k0 ≤ 6) : Met l yX4_roomFor wsX4_roomFor ({ frames := 5, cells := 0, slots := 0, locals := 123 }) (cz_Pp dC dI cI cB [.ref hs, .int p0] [(hs, .inr (4, [.ref hh, .ref hc, .ref si])), (hh, .inr (1, [.int w0, .int w1, .int w2])), (hc, .inr (0, [.int a0, .int a1, .int (nI k0), .ref k1, .ref k2, .ref k3, .ref k4, .ref k5])), (k1, .inl (cI, 6, .inl g1)), (k2, .inl (cI, 6, .inl g2)), (si, .inr (5, [.ref tw, .ref tb])), (tw, .inl (cI, 400, .inl ft)), (tb, .inl (cI, 400, .inl fb))]) (vp_Si (fun r : Int32 => True)) 0 0 (fun _ => False) := by
  refine cz_of (cc := cX4_roomFor) (maxL := 7) (ret := (some .int)) (by decide) rfl ?_
  intro p e s m args below meth c s₁ Q B hml hv hQ
  obtain ⟨rfl, hP, hN⟩ := hv
  have hx := B.exec
  have hb := B.bytes
  have hr := B.returns
  have hts := atoms_spec (ws := wsX4_roomFor) B.pre
  have hown : s.vm.findClass RX4 = some m.cls := findClass_of_methodNamed B.named
  have hlocks := B.notSynchronized
  have hK := hN.1
  have hiX0 : ∀ w ∈ wsX00, w ∈ wsX4_roomFor := (fun _ h => List.mem_cons_of_mem _ (List.mem_append_left _ (List.mem_append_left _ (List.mem_append_right _ h))))
  have hiX1 : ∀ w ∈ wsX10, w ∈ wsX4_roomFor := (fun _ h => List.mem_cons_of_mem _ (List.mem_append_left _ (List.mem_append_right _ h)))
  have hiX4 : ∀ w ∈ wsX40, w ∈ wsX4_roomFor := (fun _ h => List.mem_cons_of_mem _ (List.mem_append_left _ (List.mem_append_left _ (List.mem_append_left _ (List.mem_append_right _ h)))))
  have hl := lv_entry ([.ref hs, .int p0]) (n := 7) (Nat.le_of_ble_eq_true rfl)
  rw [lg_entry_eq]
  generalize (lg_sl ([.ref hs, .int p0]) ++ List.replicate (7 - (lg_sl ([.ref hs, .int p0])).length) Slot.unset).toArray = ls at hl ⊢
  have hl : lv_has ls 7 [(0, .ref hs), (1, .int p0)] := hl
  refine lv_aload_n hx hb dX4_roomFor_0 rfl (lv_at hl 0 rfl) ?_
  refine lv_aload_n hx hb dX4_roomFor_1 rfl (lv_at hl 0 rfl) ?_
  refine va_get (D := (dC, dI)) (ci := 4) (v := .ref hc) (C := RX4) (T := TX4) (N := 3) hx hb hts hiX4 hown hK hP 0 rfl rfl 1 (by decide) (hts (.fieldLink RX4 21 "LeftProfile$Scene" "court" "LLeftProfile$Court;") (List.mem_of_getElem? (i := 1) rfl)) (fun _ h9 => h9) rfl dX4_roomFor_2 ?_
  refine va_get (D := (dC, dI)) (ci := 0) (v := .int a0) (C := RX0) (T := TX0) (N := 8) hx hb hts hiX0 hown hK hP 2 rfl rfl 0 (by decide) (hts (.fieldLink RX4 40 "LeftProfile$Court" "stance" "I") (List.mem_of_getElem? (i := 2) rfl)) (fun _ h9 => h9) rfl dX4_roomFor_5 ?_
  refine lv_aload_n hx hb dX4_roomFor_8 rfl (lv_at hl 0 rfl) ?_
  refine va_get (D := (dC, dI)) (ci := 4) (v := .ref hh) (C := RX4) (T := TX4) (N := 3) hx hb hts hiX4 hown hK hP 0 rfl rfl 0 (by decide) (hts (.fieldLink RX4 12 "LeftProfile$Scene" "hall" "LLeftProfile$Hall;") (List.mem_of_getElem? (i := 3) rfl)) (fun _ h9 => h9) rfl dX4_roomFor_9 ?_
  refine va_get (D := (dC, dI)) (ci := 1) (v := .int w0) (C := RX1) (T := TX1) (N := 3) hx hb hts hiX1 hown hK hP 1 rfl rfl 0 (by decide) (hts (.fieldLink RX4 32 "LeftProfile$Hall" "walls" "I") (List.mem_of_getElem? (i := 4) rfl)) (fun _ h9 => h9) rfl dX4_roomFor_12 ?_
  refine vp_callSi (cz_run (va_runV (As := [.int a0, .int w0]) (rest := []) ⟨hx, hb, hml, hown, hts⟩ (c_X4_guiltyIf l dC dI cI cB hs a0 w0 hh hc si w0 w1 w2 a0 a1 k0 k1 k2 k3 k4 k5 g1 g2 tw tb ft fb hk6) (cwV 2 hts gX4_roomFor_X4_guiltyIf rfl rfl rfl (by decide +kernel) ⟨Nat.le_of_ble_eq_true rfl, Nat.le_of_ble_eq_true rfl⟩) (cz_pV hP hN (va_recv hK hP (ci := 4) (q0 := 0) rfl rfl)) rfl rfl hl.1 rfl (lv_room (Nat.le_of_ble_eq_true rfl)) dX4_roomFor_15 ⟨Nat.le_of_ble_eq_true rfl, Nat.le_of_ble_eq_true rfl⟩)) (fun r_1 hr_1 => ?_)
  refine lv_if_eq (tgt := 23) hx hb dX4_roomFor_18 (by decide) (fun c_2 => ?_) (fun c_2 => ?_)
  · refine lv_aload_n hx hb dX4_roomFor_23 rfl (lv_at hl 0 rfl) ?_
    refine vp_callSi (cz_run (va_runV (As := []) (rest := []) ⟨hx, hb, hml, hown, hts⟩ (c_X4_taken l dC dI cI cB hs hh hc si w0 w1 w2 a0 a1 k0 k1 k2 k3 k4 k5 g2 hk6) (cwV 0 hts gX4_roomFor_X4_taken rfl rfl rfl (by decide +kernel) ⟨Nat.le_of_ble_eq_true rfl, Nat.le_of_ble_eq_true rfl⟩) (cz_pV (hP.sub (ws' := [(hs, .inr (4, [.ref hh, .ref hc, .ref si])), (hh, .inr (1, [.int w0, .int w1, .int w2])), (hc, .inr (0, [.int a0, .int a1, .int (nI k0), .ref k1, .ref k2, .ref k3, .ref k4, .ref k5])), (k2, .inl (cI, 6, .inl g2))]) [0, 1, 2, 4] rfl) hN (va_recv hK (hP.sub (ws' := [(hs, .inr (4, [.ref hh, .ref hc, .ref si])), (hh, .inr (1, [.int w0, .int w1, .int w2])), (hc, .inr (0, [.int a0, .int a1, .int (nI k0), .ref k1, .ref k2, .ref k3, .ref k4, .ref k5])), (k2, .inl (cI, 6, .inl g2))]) [0, 1, 2, 4] rfl) (ci := 4) (q0 := 0) rfl rfl)) rfl rfl hl.1 rfl (lv_room (Nat.le_of_ble_eq_true rfl)) dX4_roomFor_24 ⟨Nat.le_of_ble_eq_true rfl, Nat.le_of_ble_eq_true rfl⟩)) (fun r_3 hr_3 => ?_)
    refine lv_istore_n (lv' := [(2, .int r_3), (0, .ref hs), (1, .int p0)]) hx hb dX4_roomFor_27 rfl hl (by decide) rfl (fun ls hl => ?_)
    refine lv_aload_n hx hb dX4_roomFor_28 rfl (lv_at hl 1 rfl) ?_
    refine va_get (D := (dC, dI)) (ci := 4) (v := .ref hc) (C := RX4) (T := TX4) (N := 3) hx hb hts hiX4 hown hK hP 0 rfl rfl 1 (by decide) (hts (.fieldLink RX4 21 "LeftProfile$Scene" "court" "LLeftProfile$Court;") (List.mem_of_getElem? (i := 1) rfl)) (fun _ h9 => h9) rfl dX4_roomFor_29 ?_
    refine vp_callSi (cz_run (va_runV (As := []) (rest := []) ⟨hx, hb, hml, hown, hts⟩ (c_X0_people l dC dI cI cB hc a0 a1 k0 k1 k2 k3 k4 k5 g2 hk6) (cwV 0 hts gX4_roomFor_X0_people rfl rfl rfl (by decide +kernel) ⟨Nat.le_of_ble_eq_true rfl, Nat.le_of_ble_eq_true rfl⟩) (cz_pV (hP.sub (ws' := [(hc, .inr (0, [.int a0, .int a1, .int (nI k0), .ref k1, .ref k2, .ref k3, .ref k4, .ref k5])), (k2, .inl (cI, 6, .inl g2))]) [2, 4] rfl) hN (va_recv hK (hP.sub (ws' := [(hc, .inr (0, [.int a0, .int a1, .int (nI k0), .ref k1, .ref k2, .ref k3, .ref k4, .ref k5])), (k2, .inl (cI, 6, .inl g2))]) [2, 4] rfl) (ci := 0) (q0 := 0) rfl rfl)) rfl rfl hl.1 rfl (lv_room (Nat.le_of_ble_eq_true rfl)) dX4_roomFor_32 ⟨Nat.le_of_ble_eq_true rfl, Nat.le_of_ble_eq_true rfl⟩)) (fun r_4 hr_4 => ?_)
    refine lv_istore_n (lv' := [(3, .int r_4), (2, .int r_3), (0, .ref hs), (1, .int p0)]) hx hb dX4_roomFor_35 rfl hl (by decide) rfl (fun ls hl => ?_)
    refine lv_iload_n hx hb dX4_roomFor_36 rfl (lv_at hl 3 rfl) ?_
    refine lv_istore (lv' := [(4, .int p0), (3, .int r_4), (2, .int r_3), (0, .ref hs), (1, .int p0)]) hx hb dX4_roomFor_37 hl (by decide) rfl (fun ls hl => ?_)
    refine lv_iconst (v := 0) hx hb dX4_roomFor_39 (by decide) ?_
    refine lv_istore (lv' := [(5, .int 0), (4, .int p0), (3, .int r_4), (2, .int r_3), (0, .ref hs), (1, .int p0)]) hx hb dX4_roomFor_40 hl (by decide) rfl (fun ls hl => ?_)
    refine lv_iconst (v := 0) hx hb dX4_roomFor_42 (by decide) ?_
    refine lv_istore (lv' := [(6, .int 0), (5, .int 0), (4, .int p0), (3, .int r_4), (2, .int r_3), (0, .ref hs), (1, .int p0)]) hx hb dX4_roomFor_43 hl (by decide) rfl (fun ls hl => ?_)
    have hex113 : ∀ (i45 : Nat) (y4 : Int32) (y5 : Int32) (ls : Array Slot), lv_has ls 7 [(4, .int y4), (5, .int y5)] → W p l e ({ frames := 5, cells := 0, slots := 0, locals := 123 } : Room) s m #[Value.ref hs, Value.int p0] below meth c s.heap [] 0 0 Q (F0 m 113 ls []) := by
      intro i45 y4 y5 ls  hl
      refine lv_iload hx hb dX4_roomFor_113 (lv_at hl 0 rfl) ?_
      refine lv_if_le (tgt := 122) hx hb dX4_roomFor_115 (by decide) (fun c_5 => ?_) (fun c_5 => ?_)
      · refine lv_iload hx hb dX4_roomFor_122 (lv_at hl 1 rfl) ?_
        rw [hQ]; exact W.iret (v := y5) hx hb hr (fun t ht hW => ⟨y5, rfl, trivial, ht⟩) (fun _ h => absurd h List.not_mem_nil) dX4_roomFor_124
      · refine lv_iconst (v := 0) hx hb dX4_roomFor_118 (by decide) ?_
        refine lv_goto (tgt := 124) hx hb dX4_roomFor_119 (by decide) ?_
        rw [hQ]; exact W.iret (v := 0) hx hb hr (fun t ht hW => ⟨0, rfl, trivial, ht⟩) (fun _ h => absurd h List.not_mem_nil) dX4_roomFor_124
    have lp45 : ∀ (n45 : Nat) (i45 : Nat) (y4 : Int32) (y5 : Int32) (ls : Array Slot), i45 + n45 = 20 → lv_has ls 7 [(0, .ref hs), (1, .int p0), (2, .int r_3), (3, .int r_4), (4, .int y4), (5, .int y5), (6, .int (nI i45))] → W p l e ({ frames := 5, cells := 0, slots := 0, locals := 123 } : Room) s m #[Value.ref hs, Value.int p0] below meth c s.heap [] 0 0 Q (F0 m 45 ls []) := by
      intro n45
      induction n45 with
      | zero =>
        intro i45 y4 y5 ls hi45  hl
        refine lv_iload hx hb dX4_roomFor_45 (lv_at hl 6 rfl) ?_
        refine lv_bipush (v := 20) hx hb dX4_roomFor_47 (by decide) ?_
        refine lv_icmp_ge (tgt := 113) hx hb dX4_roomFor_49 (by decide) (fun c_6 => ?_) (fun c_6 => ?_)
        · exact hex113 i45 y4 y5 ls  (lv_sub hl [4, 5] rfl)
        · exact absurd (show (20 : Int32) ≤ nI i45 from nI_le (a := 20) (b := i45) (by omega) (by omega)) c_6
      | succ n45 ih45 =>
        intro i45 y4 y5 ls hi45  hl
        refine lv_iload hx hb dX4_roomFor_45 (lv_at hl 6 rfl) ?_
        refine lv_bipush (v := 20) hx hb dX4_roomFor_47 (by decide) ?_
        refine lv_icmp_ge (tgt := 113) hx hb dX4_roomFor_49 (by decide) (fun c_7 => ?_) (fun c_7 => ?_)
        · exact absurd c_7 (show ¬ (20 : Int32) ≤ nI i45 from nI_ge (a := i45) (b := 20) (by omega) (by omega))
        · refine lv_iload hx hb dX4_roomFor_52 (lv_at hl 4 rfl) ?_
          refine lv_if_le (tgt := 113) hx hb dX4_roomFor_54 (by decide) (fun c_8 => ?_) (fun c_8 => ?_)
          · exact hex113 i45 y4 y5 ls  (lv_sub hl [4, 5] rfl)
          · refine lv_iload hx hb dX4_roomFor_57 (lv_at hl 6 rfl) ?_
            refine lv_iload_n hx hb dX4_roomFor_59 rfl (lv_at hl 2 rfl) ?_
            refine vp_callSi (cz_run (va_runSN (As := [.int (nI i45), .int r_3]) (rest := []) ⟨hx, hb, hml, hown, hts⟩ (c_X6_isOpen l dC dI cI cB (nI i45) r_3 ) ⟨(va_cnB 2 hts gX4_roomFor_X6_isOpen_n90 rfl rfl rfl (hN.2 (RX4, 90, yX6_isOpen) (by decide)) (hts (.initialized RX6) (List.mem_of_getElem? (i := 22) rfl)) (by decide +kernel) ⟨Nat.le_of_ble_eq_true rfl, Nat.le_of_ble_eq_true rfl⟩), hts (.static yX6_isOpen) (List.mem_of_getElem? (i := 64) rfl), trivial⟩ (cz_pS (hP.sub (ws' := []) [] rfl) hN) rfl rfl hl.1 rfl (lv_room (Nat.le_of_ble_eq_true rfl)) dX4_roomFor_60 ⟨Nat.le_of_ble_eq_true rfl, Nat.le_of_ble_eq_true rfl⟩)) (fun r_9 hr_9 => ?_)
            rcases hr_9 with ⟨rfl, hr_9⟩ | ⟨rfl, hr_9⟩
            · refine lv_if_eq (tgt := 107) hx hb dX4_roomFor_63 (by decide) (fun _ => ?_) (fun c => absurd (by decide) c)
              refine lv_iinc (v := (nI (i45 + 1))) (lv' := [(6, .int (nI (i45 + 1))), (0, .ref hs), (1, .int p0), (2, .int r_3), (3, .int r_4), (4, .int y4), (5, .int y5)]) hx hb dX4_roomFor_107 hl (k := 6) rfl (nI_add i45 1) (by decide) rfl (fun ls hl => ?_)
              refine lv_goto (tgt := 45) hx hb dX4_roomFor_110 (by decide) ?_
              exact ih45 (i45 + 1) y4 y5 ls (by omega)  (lv_sub hl [1, 2, 3, 4, 5, 6, 0] rfl)
            · refine lv_if_eq (tgt := 107) hx hb dX4_roomFor_63 (by decide) (fun c => absurd c (by decide)) (fun _ => ?_)
              refine lv_aload_n hx hb dX4_roomFor_66 rfl (lv_at hl 0 rfl) ?_
              refine va_get (D := (dC, dI)) (ci := 4) (v := .ref si) (C := RX4) (T := TX4) (N := 3) hx hb hts hiX4 hown hK hP 0 rfl rfl 2 (by decide) (hts (.fieldLink RX4 28 "LeftProfile$Scene" "sight" "LLeftProfile$Sight;") (List.mem_of_getElem? (i := 5) rfl)) (fun _ h9 => h9) rfl dX4_roomFor_67 ?_
              refine lv_iconst (v := 0) hx hb dX4_roomFor_70 (by decide) ?_
              refine lv_iload hx hb dX4_roomFor_71 (lv_at hl 6 rfl) ?_
              refine lv_aload_n hx hb dX4_roomFor_73 rfl (lv_at hl 0 rfl) ?_
              refine va_get (D := (dC, dI)) (ci := 4) (v := .ref hc) (C := RX4) (T := TX4) (N := 3) hx hb hts hiX4 hown hK hP 0 rfl rfl 1 (by decide) (hts (.fieldLink RX4 21 "LeftProfile$Scene" "court" "LLeftProfile$Court;") (List.mem_of_getElem? (i := 1) rfl)) (fun _ h9 => h9) rfl dX4_roomFor_74 ?_
              refine va_get (D := (dC, dI)) (ci := 0) (v := .int a0) (C := RX0) (T := TX0) (N := 8) hx hb hts hiX0 hown hK hP 2 rfl rfl 0 (by decide) (hts (.fieldLink RX4 40 "LeftProfile$Court" "stance" "I") (List.mem_of_getElem? (i := 2) rfl)) (fun _ h9 => h9) rfl dX4_roomFor_77 ?_
              refine lv_aload_n hx hb dX4_roomFor_80 rfl (lv_at hl 0 rfl) ?_
              refine va_get (D := (dC, dI)) (ci := 4) (v := .ref hh) (C := RX4) (T := TX4) (N := 3) hx hb hts hiX4 hown hK hP 0 rfl rfl 0 (by decide) (hts (.fieldLink RX4 12 "LeftProfile$Scene" "hall" "LLeftProfile$Hall;") (List.mem_of_getElem? (i := 3) rfl)) (fun _ h9 => h9) rfl dX4_roomFor_81 ?_
              refine va_get (D := (dC, dI)) (ci := 1) (v := .int w0) (C := RX1) (T := TX1) (N := 3) hx hb hts hiX1 hown hK hP 1 rfl rfl 0 (by decide) (hts (.fieldLink RX4 32 "LeftProfile$Hall" "walls" "I") (List.mem_of_getElem? (i := 4) rfl)) (fun _ h9 => h9) rfl dX4_roomFor_84 ?_
              refine lv_iload_n hx hb dX4_roomFor_87 rfl (lv_at hl 3 rfl) ?_
              refine vp_callSi (cz_run (va_runV (As := [.int 0, .int (nI i45), .int a0, .int w0, .int r_4]) (rest := []) ⟨hx, hb, hml, hown, hts⟩ (c_X5_isGuilty l dC dI cI cB si 0 (nI i45) a0 w0 r_4 tw tb ft fb ) (cwV 5 hts gX4_roomFor_X5_isGuilty rfl rfl rfl (by decide +kernel) ⟨Nat.le_of_ble_eq_true rfl, Nat.le_of_ble_eq_true rfl⟩) (cz_pV (hP.sub (ws' := [(si, .inr (5, [.ref tw, .ref tb])), (tw, .inl (cI, 400, .inl ft)), (tb, .inl (cI, 400, .inl fb))]) [5, 6, 7] rfl) hN (va_recv hK (hP.sub (ws' := [(si, .inr (5, [.ref tw, .ref tb])), (tw, .inl (cI, 400, .inl ft)), (tb, .inl (cI, 400, .inl fb))]) [5, 6, 7] rfl) (ci := 5) (q0 := 0) rfl rfl)) rfl rfl hl.1 rfl (lv_room (Nat.le_of_ble_eq_true rfl)) dX4_roomFor_88 ⟨Nat.le_of_ble_eq_true rfl, Nat.le_of_ble_eq_true rfl⟩)) (fun r_10 hr_10 => ?_)
              refine lv_if_ne (tgt := 107) hx hb dX4_roomFor_91 (by decide) (fun c_11 => ?_) (fun c_11 => ?_)
              · refine lv_iinc (v := (nI (i45 + 1))) (lv' := [(6, .int (nI (i45 + 1))), (0, .ref hs), (1, .int p0), (2, .int r_3), (3, .int r_4), (4, .int y4), (5, .int y5)]) hx hb dX4_roomFor_107 hl (k := 6) rfl (nI_add i45 1) (by decide) rfl (fun ls hl => ?_)
                refine lv_goto (tgt := 45) hx hb dX4_roomFor_110 (by decide) ?_
                exact ih45 (i45 + 1) y4 y5 ls (by omega)  (lv_sub hl [1, 2, 3, 4, 5, 6, 0] rfl)
              · refine lv_iload hx hb dX4_roomFor_94 (lv_at hl 5 rfl) ?_
                refine lv_iload hx hb dX4_roomFor_96 (lv_at hl 6 rfl) ?_
                refine vp_callSi (cz_run (va_runSN (As := [.int (nI i45)]) (rest := [.int y5]) ⟨hx, hb, hml, hown, hts⟩ (c_X6_bit l dC dI cI cB (nI i45) ) ⟨(va_cnB 1 hts gX4_roomFor_X6_bit_n47 rfl rfl rfl (hN.2 (RX4, 47, yX6_bit) (by decide)) (hts (.initialized RX6) (List.mem_of_getElem? (i := 22) rfl)) (by decide +kernel) ⟨Nat.le_of_ble_eq_true rfl, Nat.le_of_ble_eq_true rfl⟩), hts (.static yX6_bit) (List.mem_of_getElem? (i := 21) rfl), trivial⟩ (cz_pS (hP.sub (ws' := []) [] rfl) hN) rfl rfl hl.1 rfl (lv_room (Nat.le_of_ble_eq_true rfl)) dX4_roomFor_98 ⟨Nat.le_of_ble_eq_true rfl, Nat.le_of_ble_eq_true rfl⟩)) (fun r_12 hr_12 => ?_)
                refine lv_ior hx hb dX4_roomFor_101 ?_
                refine lv_topi (fun x_13 ex_13 => ?_)
                refine lv_istore (lv' := [(5, .int x_13), (0, .ref hs), (1, .int p0), (2, .int r_3), (3, .int r_4), (4, .int y4), (6, .int (nI i45))]) hx hb dX4_roomFor_102 hl (by decide) rfl (fun ls hl => ?_)
                obtain ⟨x_14, ex_14⟩ : ∃ y : Int32, y = y4 + (-1) := ⟨_, rfl⟩
                refine lv_iinc (v := x_14) (lv' := [(4, .int x_14), (5, .int x_13), (0, .ref hs), (1, .int p0), (2, .int r_3), (3, .int r_4), (6, .int (nI i45))]) hx hb dX4_roomFor_104 hl (k := 5) rfl (by rw [ex_14]; rfl) (by decide) rfl (fun ls hl => ?_)
                refine lv_iinc (v := (nI (i45 + 1))) (lv' := [(6, .int (nI (i45 + 1))), (4, .int x_14), (5, .int x_13), (0, .ref hs), (1, .int p0), (2, .int r_3), (3, .int r_4)]) hx hb dX4_roomFor_107 hl (k := 6) rfl (nI_add i45 1) (by decide) rfl (fun ls hl => ?_)
                refine lv_goto (tgt := 45) hx hb dX4_roomFor_110 (by decide) ?_
                exact ih45 (i45 + 1) x_14 x_13 ls (by omega)  (lv_sub hl [3, 4, 5, 6, 1, 2, 0] rfl)
    exact lp45 20 0 p0 0 ls (by omega)  (lv_sub hl [5, 6, 4, 3, 2, 1, 0] rfl)
  · refine lv_iconst (v := 0) hx hb dX4_roomFor_21 (by decide) ?_
    rw [hQ]; exact W.iret (v := 0) hx hb hr (fun t ht hW => ⟨0, rfl, trivial, ht⟩) (fun _ h => absurd h List.not_mem_nil) dX4_roomFor_22

set_option maxHeartbeats 4000000 in
set_option maxRecDepth 100000 in
theorem c_X4_bestBrick (l : Launch) (dC : Nat → ClassId) (dI : Nat → Nat → Nat) (cI cB : ClassId) (hs : Nat) (hh : Nat) (hc : Nat) (si : Nat) (w0 : Int32) (w1 : Int32) (w2 : Int32) (a0 : Int32) (a1 : Int32) (k0 : Nat) (k1 : Nat) (k2 : Nat) (k3 : Nat) (k4 : Nat) (k5 : Nat) (g1 : Nat → Int32) (g2 : Nat → Int32) (tw : Nat) (tb : Nat) (ft : Nat → Int32) (fb : Nat → Int32) (hk6 : k0 ≤ 6) : Met l yX4_bestBrick wsX4_bestBrick ({ frames := 5, cells := 0, slots := 0, locals := 123 }) (cz_Pp dC dI cI cB [.ref hs] [(hs, .inr (4, [.ref hh, .ref hc, .ref si])), (hh, .inr (1, [.int w0, .int w1, .int w2])), (hc, .inr (0, [.int a0, .int a1, .int (nI k0), .ref k1, .ref k2, .ref k3, .ref k4, .ref k5])), (k1, .inl (cI, 6, .inl g1)), (k2, .inl (cI, 6, .inl g2)), (si, .inr (5, [.ref tw, .ref tb])), (tw, .inl (cI, 400, .inl ft)), (tb, .inl (cI, 400, .inl fb))]) (vp_Si (fun r : Int32 => True)) 0 0 (fun _ => False) := by
  refine cz_of (cc := cX4_bestBrick) (maxL := 6) (ret := (some .int)) (by decide) rfl ?_
  intro p e s m args below meth c s₁ Q B hml hv hQ
  obtain ⟨rfl, hP, hN⟩ := hv
  have hx := B.exec
  have hb := B.bytes
  have hr := B.returns
  have hts := atoms_spec (ws := wsX4_bestBrick) B.pre
  have hown : s.vm.findClass RX4 = some m.cls := findClass_of_methodNamed B.named
  have hlocks := B.notSynchronized
  have hK := hN.1
  have hiX0 : ∀ w ∈ wsX00, w ∈ wsX4_bestBrick := (fun _ h => List.mem_cons_of_mem _ (List.mem_append_left _ (List.mem_append_left _ (List.mem_append_right _ h))))
  have hiX1 : ∀ w ∈ wsX10, w ∈ wsX4_bestBrick := (fun _ h => List.mem_cons_of_mem _ (List.mem_append_left _ (List.mem_append_right _ h)))
  have hiX4 : ∀ w ∈ wsX40, w ∈ wsX4_bestBrick := (fun _ h => List.mem_cons_of_mem _ (List.mem_append_left _ (List.mem_append_left _ (List.mem_append_left _ (List.mem_append_right _ h)))))
  have hl := lv_entry ([.ref hs]) (n := 6) (Nat.le_of_ble_eq_true rfl)
  rw [lg_entry_eq]
  generalize (lg_sl ([.ref hs]) ++ List.replicate (6 - (lg_sl ([.ref hs])).length) Slot.unset).toArray = ls at hl ⊢
  have hl : lv_has ls 6 [(0, .ref hs)] := hl
  refine lv_aload_n hx hb dX4_bestBrick_0 rfl (lv_at hl 0 rfl) ?_
  refine vp_callSi (cz_run (va_runV (As := []) (rest := []) ⟨hx, hb, hml, hown, hts⟩ (c_X4_taken l dC dI cI cB hs hh hc si w0 w1 w2 a0 a1 k0 k1 k2 k3 k4 k5 g2 hk6) (cwV 0 hts gX4_bestBrick_X4_taken rfl rfl rfl (by decide +kernel) ⟨Nat.le_of_ble_eq_true rfl, Nat.le_of_ble_eq_true rfl⟩) (cz_pV (hP.sub (ws' := [(hs, .inr (4, [.ref hh, .ref hc, .ref si])), (hh, .inr (1, [.int w0, .int w1, .int w2])), (hc, .inr (0, [.int a0, .int a1, .int (nI k0), .ref k1, .ref k2, .ref k3, .ref k4, .ref k5])), (k2, .inl (cI, 6, .inl g2))]) [0, 1, 2, 4] rfl) hN (va_recv hK (hP.sub (ws' := [(hs, .inr (4, [.ref hh, .ref hc, .ref si])), (hh, .inr (1, [.int w0, .int w1, .int w2])), (hc, .inr (0, [.int a0, .int a1, .int (nI k0), .ref k1, .ref k2, .ref k3, .ref k4, .ref k5])), (k2, .inl (cI, 6, .inl g2))]) [0, 1, 2, 4] rfl) (ci := 4) (q0 := 0) rfl rfl)) rfl rfl hl.1 rfl (lv_room (Nat.le_of_ble_eq_true rfl)) dX4_bestBrick_1 ⟨Nat.le_of_ble_eq_true rfl, Nat.le_of_ble_eq_true rfl⟩)) (fun r_1 hr_1 => ?_)
  refine lv_istore_n (lv' := [(1, .int r_1), (0, .ref hs)]) hx hb dX4_bestBrick_4 rfl hl (by decide) rfl (fun ls hl => ?_)
  refine lv_iconst (v := (-1)) hx hb dX4_bestBrick_5 (by decide) ?_
  refine lv_istore_n (lv' := [(2, .int (-1)), (1, .int r_1), (0, .ref hs)]) hx hb dX4_bestBrick_6 rfl hl (by decide) rfl (fun ls hl => ?_)
  refine lv_bipush (v := 7) hx hb dX4_bestBrick_7 (by decide) ?_
  refine lv_istore_n (lv' := [(3, .int 7), (2, .int (-1)), (1, .int r_1), (0, .ref hs)]) hx hb dX4_bestBrick_9 rfl hl (by decide) rfl (fun ls hl => ?_)
  refine lv_iconst (v := 0) hx hb dX4_bestBrick_10 (by decide) ?_
  refine lv_istore (lv' := [(4, .int 0), (3, .int 7), (2, .int (-1)), (1, .int r_1), (0, .ref hs)]) hx hb dX4_bestBrick_11 hl (by decide) rfl (fun ls hl => ?_)
  have lp13 : ∀ (n13 : Nat) (i13 : Nat) (y2 : Int32) (y3 : Int32) (ls : Array Slot), i13 + n13 = 20 → lv_has ls 6 [(0, .ref hs), (1, .int r_1), (2, .int y2), (3, .int y3), (4, .int (nI i13))] → W p l e ({ frames := 5, cells := 0, slots := 0, locals := 123 } : Room) s m #[Value.ref hs] below meth c s.heap [] 0 0 Q (F0 m 13 ls []) := by
    intro n13
    induction n13 with
    | zero =>
      intro i13 y2 y3 ls hi13  hl
      obtain rfl : i13 = 20 := by omega
      have hl : lv_has ls 6 [(0, .ref hs), (1, .int r_1), (2, .int y2), (3, .int y3), (4, .int 20)] := hl
      refine lv_iload hx hb dX4_bestBrick_13 (lv_at hl 4 rfl) ?_
      refine lv_bipush (v := 20) hx hb dX4_bestBrick_15 (by decide) ?_
      refine lv_icmp_ge (tgt := 76) hx hb dX4_bestBrick_17 (by decide) (fun _ => ?_) (fun c => absurd (by decide) c)
      refine lv_iload_n hx hb dX4_bestBrick_76 rfl (lv_at hl 2 rfl) ?_
      rw [hQ]; exact W.iret (v := y2) hx hb hr (fun t ht hW => ⟨y2, rfl, trivial, ht⟩) (fun _ h => absurd h List.not_mem_nil) dX4_bestBrick_77
    | succ n13 ih13 =>
      intro i13 y2 y3 ls hi13  hl
      refine lv_iload hx hb dX4_bestBrick_13 (lv_at hl 4 rfl) ?_
      refine lv_bipush (v := 20) hx hb dX4_bestBrick_15 (by decide) ?_
      refine lv_icmp_ge (tgt := 76) hx hb dX4_bestBrick_17 (by decide) (fun c_2 => ?_) (fun c_2 => ?_)
      · exact absurd c_2 (show ¬ (20 : Int32) ≤ nI i13 from nI_ge (a := i13) (b := 20) (by omega) (by omega))
      · refine lv_aload_n hx hb dX4_bestBrick_20 rfl (lv_at hl 0 rfl) ?_
        refine lv_aload_n hx hb dX4_bestBrick_21 rfl (lv_at hl 0 rfl) ?_
        refine va_get (D := (dC, dI)) (ci := 4) (v := .ref hc) (C := RX4) (T := TX4) (N := 3) hx hb hts hiX4 hown hK hP 0 rfl rfl 1 (by decide) (hts (.fieldLink RX4 21 "LeftProfile$Scene" "court" "LLeftProfile$Court;") (List.mem_of_getElem? (i := 1) rfl)) (fun _ h9 => h9) rfl dX4_bestBrick_22 ?_
        refine va_get (D := (dC, dI)) (ci := 0) (v := .int a0) (C := RX0) (T := TX0) (N := 8) hx hb hts hiX0 hown hK hP 2 rfl rfl 0 (by decide) (hts (.fieldLink RX4 40 "LeftProfile$Court" "stance" "I") (List.mem_of_getElem? (i := 2) rfl)) (fun _ h9 => h9) rfl dX4_bestBrick_25 ?_
        refine lv_aload_n hx hb dX4_bestBrick_28 rfl (lv_at hl 0 rfl) ?_
        refine va_get (D := (dC, dI)) (ci := 4) (v := .ref hh) (C := RX4) (T := TX4) (N := 3) hx hb hts hiX4 hown hK hP 0 rfl rfl 0 (by decide) (hts (.fieldLink RX4 12 "LeftProfile$Scene" "hall" "LLeftProfile$Hall;") (List.mem_of_getElem? (i := 3) rfl)) (fun _ h9 => h9) rfl dX4_bestBrick_29 ?_
        refine va_get (D := (dC, dI)) (ci := 1) (v := .int w0) (C := RX1) (T := TX1) (N := 3) hx hb hts hiX1 hown hK hP 1 rfl rfl 0 (by decide) (hts (.fieldLink RX4 32 "LeftProfile$Hall" "walls" "I") (List.mem_of_getElem? (i := 4) rfl)) (fun _ h9 => h9) rfl dX4_bestBrick_32 ?_
        refine lv_iload hx hb dX4_bestBrick_35 (lv_at hl 4 rfl) ?_
        refine vp_callSi (cz_run (va_runSN (As := [.int (nI i13)]) (rest := [.int w0, .int a0, .ref hs]) ⟨hx, hb, hml, hown, hts⟩ (c_X6_bit l dC dI cI cB (nI i13) ) ⟨(va_cnB 1 hts gX4_bestBrick_X6_bit_n47 rfl rfl rfl (hN.2 (RX4, 47, yX6_bit) (by decide)) (hts (.initialized RX6) (List.mem_of_getElem? (i := 18) rfl)) (by decide +kernel) ⟨Nat.le_of_ble_eq_true rfl, Nat.le_of_ble_eq_true rfl⟩), hts (.static yX6_bit) (List.mem_of_getElem? (i := 17) rfl), trivial⟩ (cz_pS (hP.sub (ws' := []) [] rfl) hN) rfl rfl hl.1 rfl (lv_room (Nat.le_of_ble_eq_true rfl)) dX4_bestBrick_37 ⟨Nat.le_of_ble_eq_true rfl, Nat.le_of_ble_eq_true rfl⟩)) (fun r_3 hr_3 => ?_)
        refine lv_ior hx hb dX4_bestBrick_40 ?_
        refine lv_topi (fun x_4 ex_4 => ?_)
        refine vp_callSi (cz_run (va_runV (As := [.int a0, .int x_4]) (rest := []) ⟨hx, hb, hml, hown, hts⟩ (c_X4_guiltyIf l dC dI cI cB hs a0 x_4 hh hc si w0 w1 w2 a0 a1 k0 k1 k2 k3 k4 k5 g1 g2 tw tb ft fb hk6) (cwV 2 hts gX4_bestBrick_X4_guiltyIf rfl rfl rfl (by decide +kernel) ⟨Nat.le_of_ble_eq_true rfl, Nat.le_of_ble_eq_true rfl⟩) (cz_pV hP hN (va_recv hK hP (ci := 4) (q0 := 0) rfl rfl)) rfl rfl hl.1 rfl (lv_room (Nat.le_of_ble_eq_true rfl)) dX4_bestBrick_41 ⟨Nat.le_of_ble_eq_true rfl, Nat.le_of_ble_eq_true rfl⟩)) (fun r_5 hr_5 => ?_)
        refine vp_callSi (cz_run (va_runS (As := [.int r_5]) (rest := []) ⟨hx, hb, hml, hown, hts⟩ (c_J6_bitCount_0f7a4 l dC dI cI cB r_5 ) (va_cwS 1 hts gX4_bestBrick_J6_bitCount_0f7a4 rfl rfl rfl (by decide +kernel) ⟨Nat.le_of_ble_eq_true rfl, Nat.le_of_ble_eq_true rfl⟩) (cz_pS (hP.sub (ws' := []) [] rfl) hN) rfl rfl hl.1 rfl (lv_room (Nat.le_of_ble_eq_true rfl)) dX4_bestBrick_44 ⟨Nat.le_of_ble_eq_true rfl, Nat.le_of_ble_eq_true rfl⟩)) (fun r_6 hr_6 => ?_)
        refine lv_istore (lv' := [(5, .int r_6), (0, .ref hs), (1, .int r_1), (2, .int y2), (3, .int y3), (4, .int (nI i13))]) hx hb dX4_bestBrick_47 hl (by decide) rfl (fun ls hl => ?_)
        refine lv_iload hx hb dX4_bestBrick_49 (lv_at hl 0 rfl) ?_
        refine lv_iload_n hx hb dX4_bestBrick_51 rfl (lv_at hl 4 rfl) ?_
        refine lv_icmp_ge (tgt := 70) hx hb dX4_bestBrick_52 (by decide) (fun c_7 => ?_) (fun c_7 => ?_)
        · refine lv_iinc (v := (nI (i13 + 1))) (lv' := [(4, .int (nI (i13 + 1))), (5, .int r_6), (0, .ref hs), (1, .int r_1), (2, .int y2), (3, .int y3)]) hx hb dX4_bestBrick_70 hl (k := 5) rfl (nI_add i13 1) (by decide) rfl (fun ls hl => ?_)
          refine lv_goto (tgt := 13) hx hb dX4_bestBrick_73 (by decide) ?_
          exact ih13 (i13 + 1) y2 y3 ls (by omega)  (lv_sub hl [2, 3, 4, 5, 0] rfl)
        · refine lv_iload hx hb dX4_bestBrick_55 (lv_at hl 5 rfl) ?_
          refine lv_iload_n hx hb dX4_bestBrick_57 rfl (lv_at hl 2 rfl) ?_
          refine vp_callSi (cz_run (va_runSN (As := [.int (nI i13), .int r_1]) (rest := []) ⟨hx, hb, hml, hown, hts⟩ (c_X6_isOpen l dC dI cI cB (nI i13) r_1 ) ⟨(va_cnB 2 hts gX4_bestBrick_X6_isOpen_n90 rfl rfl rfl (hN.2 (RX4, 90, yX6_isOpen) (by decide)) (hts (.initialized RX6) (List.mem_of_getElem? (i := 18) rfl)) (by decide +kernel) ⟨Nat.le_of_ble_eq_true rfl, Nat.le_of_ble_eq_true rfl⟩), hts (.static yX6_isOpen) (List.mem_of_getElem? (i := 65) rfl), trivial⟩ (cz_pS (hP.sub (ws' := []) [] rfl) hN) rfl rfl hl.1 rfl (lv_room (Nat.le_of_ble_eq_true rfl)) dX4_bestBrick_58 ⟨Nat.le_of_ble_eq_true rfl, Nat.le_of_ble_eq_true rfl⟩)) (fun r_8 hr_8 => ?_)
          rcases hr_8 with ⟨rfl, hr_8⟩ | ⟨rfl, hr_8⟩
          · refine lv_if_eq (tgt := 70) hx hb dX4_bestBrick_61 (by decide) (fun _ => ?_) (fun c => absurd (by decide) c)
            refine lv_iinc (v := (nI (i13 + 1))) (lv' := [(4, .int (nI (i13 + 1))), (5, .int r_6), (0, .ref hs), (1, .int r_1), (2, .int y2), (3, .int y3)]) hx hb dX4_bestBrick_70 hl (k := 5) rfl (nI_add i13 1) (by decide) rfl (fun ls hl => ?_)
            refine lv_goto (tgt := 13) hx hb dX4_bestBrick_73 (by decide) ?_
            exact ih13 (i13 + 1) y2 y3 ls (by omega)  (lv_sub hl [2, 3, 4, 5, 0] rfl)
          · refine lv_if_eq (tgt := 70) hx hb dX4_bestBrick_61 (by decide) (fun c => absurd c (by decide)) (fun _ => ?_)
            refine lv_iload hx hb dX4_bestBrick_64 (lv_at hl 0 rfl) ?_
            refine lv_istore_n (lv' := [(3, .int r_6), (5, .int r_6), (0, .ref hs), (1, .int r_1), (2, .int y2), (4, .int (nI i13))]) hx hb dX4_bestBrick_66 rfl hl (by decide) rfl (fun ls hl => ?_)
            refine lv_iload hx hb dX4_bestBrick_67 (lv_at hl 5 rfl) ?_
            refine lv_istore_n (lv' := [(2, .int (nI i13)), (3, .int r_6), (5, .int r_6), (0, .ref hs), (1, .int r_1), (4, .int (nI i13))]) hx hb dX4_bestBrick_69 rfl hl (by decide) rfl (fun ls hl => ?_)
            refine lv_iinc (v := (nI (i13 + 1))) (lv' := [(4, .int (nI (i13 + 1))), (2, .int (nI i13)), (3, .int r_6), (5, .int r_6), (0, .ref hs), (1, .int r_1)]) hx hb dX4_bestBrick_70 hl (k := 5) rfl (nI_add i13 1) (by decide) rfl (fun ls hl => ?_)
            refine lv_goto (tgt := 13) hx hb dX4_bestBrick_73 (by decide) ?_
            exact ih13 (i13 + 1) (nI i13) r_6 ls (by omega)  (lv_sub hl [4, 5, 1, 2, 0] rfl)
  exact lp13 20 0 (-1) 7 ls (by omega)  (lv_sub hl [4, 3, 2, 1, 0] rfl)

set_option maxHeartbeats 4000000 in
set_option maxRecDepth 100000 in
theorem c_X4_isAsTold (l : Launch) (dC : Nat → ClassId) (dI : Nat → Nat → Nat) (cI cB : ClassId) (hs : Nat) (p0 : Int32) (hh : Nat) (hc : Nat) (si : Nat) (w0 : Int32) (w1 : Int32) (w2 : Int32) (a0 : Int32) (a1 : Int32) (k0 : Nat) (k1 : Nat) (k2 : Nat) (k3 : Nat) (k4 : Nat) (k5 : Nat) (g1 : Nat → Int32) (g2 : Nat → Int32) (tw : Nat) (tb : Nat) (ft : Nat → Int32) (fb : Nat → Int32) (g5 : Nat → Int32) (hk6 : k0 ≤ 6) : Met l yX4_isAsTold wsX4_isAsTold ({ frames := 4, cells := 0, slots := 0, locals := 95 }) (cz_Pp dC dI cI cB [.ref hs, .int p0] [(hs, .inr (4, [.ref hh, .ref hc, .ref si])), (hh, .inr (1, [.int w0, .int w1, .int w2])), (hc, .inr (0, [.int a0, .int a1, .int (nI k0), .ref k1, .ref k2, .ref k3, .ref k4, .ref k5])), (k1, .inl (cI, 6, .inl g1)), (k2, .inl (cI, 6, .inl g2)), (si, .inr (5, [.ref tw, .ref tb])), (tw, .inl (cI, 400, .inl ft)), (tb, .inl (cI, 400, .inl fb)), (k5, .inl (cI, 6, .inl g5))]) (vp_Si (fun r : Int32 => True)) 0 0 (fun _ => False) := by
  refine cz_of (cc := cX4_isAsTold) (maxL := 4) (ret := (some .boolean)) (by decide) rfl ?_
  intro p e s m args below meth c s₁ Q B hml hv hQ
  obtain ⟨rfl, hP, hN⟩ := hv
  have hx := B.exec
  have hb := B.bytes
  have hr := B.returns
  have hts := atoms_spec (ws := wsX4_isAsTold) B.pre
  have hown : s.vm.findClass RX4 = some m.cls := findClass_of_methodNamed B.named
  have hlocks := B.notSynchronized
  have hK := hN.1
  have hiX0 : ∀ w ∈ wsX00, w ∈ wsX4_isAsTold := (fun _ h => List.mem_cons_of_mem _ (List.mem_append_left _ (List.mem_append_left _ (List.mem_append_right _ h))))
  have hiX4 : ∀ w ∈ wsX40, w ∈ wsX4_isAsTold := (fun _ h => List.mem_cons_of_mem _ (List.mem_append_left _ (List.mem_append_left _ (List.mem_append_left _ (List.mem_append_right _ h)))))
  have hl := lv_entry ([.ref hs, .int p0]) (n := 4) (Nat.le_of_ble_eq_true rfl)
  rw [lg_entry_eq]
  generalize (lg_sl ([.ref hs, .int p0]) ++ List.replicate (4 - (lg_sl ([.ref hs, .int p0])).length) Slot.unset).toArray = ls at hl ⊢
  have hl : lv_has ls 4 [(0, .ref hs), (1, .int p0)] := hl
  refine lv_aload_n hx hb dX4_isAsTold_0 rfl (lv_at hl 0 rfl) ?_
  refine va_get (D := (dC, dI)) (ci := 4) (v := .ref hc) (C := RX4) (T := TX4) (N := 3) hx hb hts hiX4 hown hK hP 0 rfl rfl 1 (by decide) (hts (.fieldLink RX4 21 "LeftProfile$Scene" "court" "LLeftProfile$Court;") (List.mem_of_getElem? (i := 1) rfl)) (fun _ h9 => h9) rfl dX4_isAsTold_1 ?_
  refine vp_callSi (cz_run (va_runV (As := []) (rest := []) ⟨hx, hb, hml, hown, hts⟩ (c_X0_people l dC dI cI cB hc a0 a1 k0 k1 k2 k3 k4 k5 g2 hk6) (cwV 0 hts gX4_isAsTold_X0_people rfl rfl rfl (by decide +kernel) ⟨Nat.le_of_ble_eq_true rfl, Nat.le_of_ble_eq_true rfl⟩) (cz_pV (hP.sub (ws' := [(hc, .inr (0, [.int a0, .int a1, .int (nI k0), .ref k1, .ref k2, .ref k3, .ref k4, .ref k5])), (k2, .inl (cI, 6, .inl g2))]) [2, 4] rfl) hN (va_recv hK (hP.sub (ws' := [(hc, .inr (0, [.int a0, .int a1, .int (nI k0), .ref k1, .ref k2, .ref k3, .ref k4, .ref k5])), (k2, .inl (cI, 6, .inl g2))]) [2, 4] rfl) (ci := 0) (q0 := 0) rfl rfl)) rfl rfl hl.1 rfl (lv_room (Nat.le_of_ble_eq_true rfl)) dX4_isAsTold_4 ⟨Nat.le_of_ble_eq_true rfl, Nat.le_of_ble_eq_true rfl⟩)) (fun r_1 hr_1 => ?_)
  refine lv_istore_n (lv' := [(2, .int r_1), (0, .ref hs), (1, .int p0)]) hx hb dX4_isAsTold_7 rfl hl (by decide) rfl (fun ls hl => ?_)
  refine lv_iconst (v := 0) hx hb dX4_isAsTold_8 (by decide) ?_
  refine lv_istore_n (lv' := [(3, .int 0), (2, .int r_1), (0, .ref hs), (1, .int p0)]) hx hb dX4_isAsTold_9 rfl hl (by decide) rfl (fun ls hl => ?_)
  have lp10 : ∀ (n10 : Nat) (i10 : Nat) (ls : Array Slot), i10 + n10 = k0 → lv_has ls 4 [(0, .ref hs), (1, .int p0), (2, .int r_1), (3, .int (nI i10))] → W p l e ({ frames := 4, cells := 0, slots := 0, locals := 95 } : Room) s m #[Value.ref hs, Value.int p0] below meth c s.heap [] 0 0 Q (F0 m 10 ls []) := by
    intro n10
    induction n10 with
    | zero =>
      intro i10 ls hi10  hl
      obtain rfl : k0 = i10 := by omega
      refine lv_iload_n hx hb dX4_isAsTold_10 rfl (lv_at hl 3 rfl) ?_
      refine lv_aload_n hx hb dX4_isAsTold_11 rfl (lv_at hl 0 rfl) ?_
      refine va_get (D := (dC, dI)) (ci := 4) (v := .ref hc) (C := RX4) (T := TX4) (N := 3) hx hb hts hiX4 hown hK hP 0 rfl rfl 1 (by decide) (hts (.fieldLink RX4 21 "LeftProfile$Scene" "court" "LLeftProfile$Court;") (List.mem_of_getElem? (i := 1) rfl)) (fun _ h9 => h9) rfl dX4_isAsTold_12 ?_
      refine va_get (D := (dC, dI)) (ci := 0) (v := .int (nI k0)) (C := RX0) (T := TX0) (N := 8) hx hb hts hiX0 hown hK hP 2 rfl rfl 2 (by decide) (hts (.fieldLink RX4 69 "LeftProfile$Court" "size" "I") (List.mem_of_getElem? (i := 2) rfl)) (fun _ h9 => h9) rfl dX4_isAsTold_15 ?_
      refine lv_icmp_ge (tgt := 61) hx hb dX4_isAsTold_18 (by decide) (fun c_2 => ?_) (fun c_2 => ?_)
      · refine lv_iconst (v := 1) hx hb dX4_isAsTold_61 (by decide) ?_
        rw [hQ]; exact W.zret (v := 1) hx hb hr (by decide) (fun t ht hW => ⟨1, rfl, trivial, ht⟩) (fun _ h => absurd h List.not_mem_nil) dX4_isAsTold_62
      · exact absurd (show nI k0 ≤ nI k0 from nI_le (a := k0) (b := k0) (by omega) (by omega)) c_2
    | succ n10 ih10 =>
      intro i10 ls hi10  hl
      refine lv_iload_n hx hb dX4_isAsTold_10 rfl (lv_at hl 3 rfl) ?_
      refine lv_aload_n hx hb dX4_isAsTold_11 rfl (lv_at hl 0 rfl) ?_
      refine va_get (D := (dC, dI)) (ci := 4) (v := .ref hc) (C := RX4) (T := TX4) (N := 3) hx hb hts hiX4 hown hK hP 0 rfl rfl 1 (by decide) (hts (.fieldLink RX4 21 "LeftProfile$Scene" "court" "LLeftProfile$Court;") (List.mem_of_getElem? (i := 1) rfl)) (fun _ h9 => h9) rfl dX4_isAsTold_12 ?_
      refine va_get (D := (dC, dI)) (ci := 0) (v := .int (nI k0)) (C := RX0) (T := TX0) (N := 8) hx hb hts hiX0 hown hK hP 2 rfl rfl 2 (by decide) (hts (.fieldLink RX4 69 "LeftProfile$Court" "size" "I") (List.mem_of_getElem? (i := 2) rfl)) (fun _ h9 => h9) rfl dX4_isAsTold_15 ?_
      refine lv_icmp_ge (tgt := 61) hx hb dX4_isAsTold_18 (by decide) (fun c_3 => ?_) (fun c_3 => ?_)
      · exact absurd c_3 (show ¬ nI k0 ≤ nI i10 from nI_ge (a := i10) (b := k0) (by omega) (by omega))
      · refine lv_aload_n hx hb dX4_isAsTold_21 rfl (lv_at hl 0 rfl) ?_
        refine va_get (D := (dC, dI)) (ci := 4) (v := .ref hc) (C := RX4) (T := TX4) (N := 3) hx hb hts hiX4 hown hK hP 0 rfl rfl 1 (by decide) (hts (.fieldLink RX4 21 "LeftProfile$Scene" "court" "LLeftProfile$Court;") (List.mem_of_getElem? (i := 1) rfl)) (fun _ h9 => h9) rfl dX4_isAsTold_22 ?_
        refine va_get (D := (dC, dI)) (ci := 0) (v := .ref k5) (C := RX0) (T := TX0) (N := 8) hx hb hts hiX0 hown hK hP 2 rfl rfl 7 (by decide) (hts (.fieldLink RX4 108 "LeftProfile$Court" "told" "[I") (List.mem_of_getElem? (i := 3) rfl)) (fun _ h9 => h9) rfl dX4_isAsTold_25 ?_
        refine lv_iload_n hx hb dX4_isAsTold_28 rfl (lv_at hl 3 rfl) ?_
        refine va_iald hx hb hK hP 8 0 rfl rfl (vp_in_nI (n := i10) (by omega) (by omega)) dX4_isAsTold_29 ?_
        refine cz_i (y := (g5 i10)) (congrArg g5 (nI_clamp (n := i10) (by omega))) ?_
        refine lv_iconst (v := (-1)) hx hb dX4_isAsTold_30 (by decide) ?_
        refine lv_icmp_eq (tgt := 55) hx hb dX4_isAsTold_31 (by decide) (fun c_4 => ?_) (fun c_4 => ?_)
        · refine lv_iinc (v := (nI (i10 + 1))) (lv' := [(3, .int (nI (i10 + 1))), (0, .ref hs), (1, .int p0), (2, .int r_1)]) hx hb dX4_isAsTold_55 hl (k := 3) rfl (nI_add i10 1) (by decide) rfl (fun ls hl => ?_)
          refine lv_goto (tgt := 10) hx hb dX4_isAsTold_58 (by decide) ?_
          exact ih10 (i10 + 1) ls (by omega)  (lv_sub hl [1, 2, 3, 0] rfl)
        · refine lv_aload_n hx hb dX4_isAsTold_34 rfl (lv_at hl 0 rfl) ?_
          refine va_get (D := (dC, dI)) (ci := 4) (v := .ref hc) (C := RX4) (T := TX4) (N := 3) hx hb hts hiX4 hown hK hP 0 rfl rfl 1 (by decide) (hts (.fieldLink RX4 21 "LeftProfile$Scene" "court" "LLeftProfile$Court;") (List.mem_of_getElem? (i := 1) rfl)) (fun _ h9 => h9) rfl dX4_isAsTold_35 ?_
          refine va_get (D := (dC, dI)) (ci := 0) (v := .ref k5) (C := RX0) (T := TX0) (N := 8) hx hb hts hiX0 hown hK hP 2 rfl rfl 7 (by decide) (hts (.fieldLink RX4 108 "LeftProfile$Court" "told" "[I") (List.mem_of_getElem? (i := 3) rfl)) (fun _ h9 => h9) rfl dX4_isAsTold_38 ?_
          refine lv_iload_n hx hb dX4_isAsTold_41 rfl (lv_at hl 3 rfl) ?_
          refine va_iald hx hb hK hP 8 0 rfl rfl (vp_in_nI (n := i10) (by omega) (by omega)) dX4_isAsTold_42 ?_
          refine cz_i (y := (g5 i10)) (congrArg g5 (nI_clamp (n := i10) (by omega))) ?_
          refine lv_aload_n hx hb dX4_isAsTold_43 rfl (lv_at hl 0 rfl) ?_
          refine lv_iload_n hx hb dX4_isAsTold_44 rfl (lv_at hl 1 rfl) ?_
          refine lv_iload_n hx hb dX4_isAsTold_45 rfl (lv_at hl 3 rfl) ?_
          refine lv_iload_n hx hb dX4_isAsTold_46 rfl (lv_at hl 2 rfl) ?_
          refine vp_callSi (cz_run (va_runV (As := [.int p0, .int (nI i10), .int r_1]) (rest := [.int (g5 i10)]) ⟨hx, hb, hml, hown, hts⟩ (c_X4_seenIf l dC dI cI cB hs p0 (nI i10) r_1 hh hc si w0 w1 w2 a0 a1 k0 k1 k2 k3 k4 k5 g1 g2 tw tb ft fb hk6) (cwV 3 hts gX4_isAsTold_X4_seenIf rfl rfl rfl (by decide +kernel) ⟨Nat.le_of_ble_eq_true rfl, Nat.le_of_ble_eq_true rfl⟩) (cz_pV (hP.sub (ws' := [(hs, .inr (4, [.ref hh, .ref hc, .ref si])), (hh, .inr (1, [.int w0, .int w1, .int w2])), (hc, .inr (0, [.int a0, .int a1, .int (nI k0), .ref k1, .ref k2, .ref k3, .ref k4, .ref k5])), (k1, .inl (cI, 6, .inl g1)), (k2, .inl (cI, 6, .inl g2)), (si, .inr (5, [.ref tw, .ref tb])), (tw, .inl (cI, 400, .inl ft)), (tb, .inl (cI, 400, .inl fb))]) [0, 1, 2, 3, 4, 5, 6, 7] rfl) hN (va_recv hK (hP.sub (ws' := [(hs, .inr (4, [.ref hh, .ref hc, .ref si])), (hh, .inr (1, [.int w0, .int w1, .int w2])), (hc, .inr (0, [.int a0, .int a1, .int (nI k0), .ref k1, .ref k2, .ref k3, .ref k4, .ref k5])), (k1, .inl (cI, 6, .inl g1)), (k2, .inl (cI, 6, .inl g2)), (si, .inr (5, [.ref tw, .ref tb])), (tw, .inl (cI, 400, .inl ft)), (tb, .inl (cI, 400, .inl fb))]) [0, 1, 2, 3, 4, 5, 6, 7] rfl) (ci := 4) (q0 := 0) rfl rfl)) rfl rfl hl.1 rfl (lv_room (Nat.le_of_ble_eq_true rfl)) dX4_isAsTold_47 ⟨Nat.le_of_ble_eq_true rfl, Nat.le_of_ble_eq_true rfl⟩)) (fun r_5 hr_5 => ?_)
          refine lv_icmp_eq (tgt := 55) hx hb dX4_isAsTold_50 (by decide) (fun c_6 => ?_) (fun c_6 => ?_)
          · refine lv_iinc (v := (nI (i10 + 1))) (lv' := [(3, .int (nI (i10 + 1))), (0, .ref hs), (1, .int p0), (2, .int r_1)]) hx hb dX4_isAsTold_55 hl (k := 3) rfl (nI_add i10 1) (by decide) rfl (fun ls hl => ?_)
            refine lv_goto (tgt := 10) hx hb dX4_isAsTold_58 (by decide) ?_
            exact ih10 (i10 + 1) ls (by omega)  (lv_sub hl [1, 2, 3, 0] rfl)
          · refine lv_iconst (v := 0) hx hb dX4_isAsTold_53 (by decide) ?_
            rw [hQ]; exact W.zret (v := 0) hx hb hr (by decide) (fun t ht hW => ⟨0, rfl, trivial, ht⟩) (fun _ h => absurd h List.not_mem_nil) dX4_isAsTold_54
  exact lp10 k0 0 ls (by omega)  (lv_sub hl [2, 3, 1, 0] rfl)

set_option maxHeartbeats 4000000 in
set_option maxRecDepth 100000 in
theorem c_X4_whereHeStood (l : Launch) (dC : Nat → ClassId) (dI : Nat → Nat → Nat) (cI cB : ClassId) (hs : Nat) (p0 : Int32) (hh : Nat) (hc : Nat) (si : Nat) (w0 : Int32) (w1 : Int32) (w2 : Int32) (a0 : Int32) (a1 : Int32) (k0 : Nat) (k1 : Nat) (k2 : Nat) (k3 : Nat) (k4 : Nat) (k5 : Nat) (g1 : Nat → Int32) (g2 : Nat → Int32) (tw : Nat) (tb : Nat) (ft : Nat → Int32) (fb : Nat → Int32) (g5 : Nat → Int32) (hk6 : k0 ≤ 6) : Met l yX4_whereHeStood wsX4_whereHeStood ({ frames := 5, cells := 0, slots := 0, locals := 118 }) (cz_Pp dC dI cI cB [.ref hs, .int p0] [(hs, .inr (4, [.ref hh, .ref hc, .ref si])), (hh, .inr (1, [.int w0, .int w1, .int w2])), (hc, .inr (0, [.int a0, .int a1, .int (nI k0), .ref k1, .ref k2, .ref k3, .ref k4, .ref k5])), (k1, .inl (cI, 6, .inl g1)), (k2, .inl (cI, 6, .inl g2)), (si, .inr (5, [.ref tw, .ref tb])), (tw, .inl (cI, 400, .inl ft)), (tb, .inl (cI, 400, .inl fb)), (k5, .inl (cI, 6, .inl g5))]) (vp_Si (fun r : Int32 => True)) 0 0 (fun _ => False) := by
  refine cz_of (cc := cX4_whereHeStood) (maxL := 7) (ret := (some .int)) (by decide) rfl ?_
  intro p e s m args below meth c s₁ Q B hml hv hQ
  obtain ⟨rfl, hP, hN⟩ := hv
  have hx := B.exec
  have hb := B.bytes
  have hr := B.returns
  have hts := atoms_spec (ws := wsX4_whereHeStood) B.pre
  have hown : s.vm.findClass RX4 = some m.cls := findClass_of_methodNamed B.named
  have hlocks := B.notSynchronized
  have hK := hN.1
  have hiX1 : ∀ w ∈ wsX10, w ∈ wsX4_whereHeStood := (fun _ h => List.mem_cons_of_mem _ (List.mem_append_left _ (List.mem_append_left _ (List.mem_append_right _ h))))
  have hiX4 : ∀ w ∈ wsX40, w ∈ wsX4_whereHeStood := (fun _ h => List.mem_cons_of_mem _ (List.mem_append_left _ (List.mem_append_left _ (List.mem_append_left _ (List.mem_append_right _ h)))))
  have hl := lv_entry ([.ref hs, .int p0]) (n := 7) (Nat.le_of_ble_eq_true rfl)
  rw [lg_entry_eq]
  generalize (lg_sl ([.ref hs, .int p0]) ++ List.replicate (7 - (lg_sl ([.ref hs, .int p0])).length) Slot.unset).toArray = ls at hl ⊢
  have hl : lv_has ls 7 [(0, .ref hs), (1, .int p0)] := hl
  refine lv_aload_n hx hb dX4_whereHeStood_0 rfl (lv_at hl 0 rfl) ?_
  refine va_get (D := (dC, dI)) (ci := 4) (v := .ref hh) (C := RX4) (T := TX4) (N := 3) hx hb hts hiX4 hown hK hP 0 rfl rfl 0 (by decide) (hts (.fieldLink RX4 12 "LeftProfile$Scene" "hall" "LLeftProfile$Hall;") (List.mem_of_getElem? (i := 1) rfl)) (fun _ h9 => h9) rfl dX4_whereHeStood_1 ?_
  refine va_get (D := (dC, dI)) (ci := 1) (v := .int w0) (C := RX1) (T := TX1) (N := 3) hx hb hts hiX1 hown hK hP 1 rfl rfl 0 (by decide) (hts (.fieldLink RX4 32 "LeftProfile$Hall" "walls" "I") (List.mem_of_getElem? (i := 2) rfl)) (fun _ h9 => h9) rfl dX4_whereHeStood_4 ?_
  refine lv_aload_n hx hb dX4_whereHeStood_7 rfl (lv_at hl 0 rfl) ?_
  refine va_get (D := (dC, dI)) (ci := 4) (v := .ref hc) (C := RX4) (T := TX4) (N := 3) hx hb hts hiX4 hown hK hP 0 rfl rfl 1 (by decide) (hts (.fieldLink RX4 21 "LeftProfile$Scene" "court" "LLeftProfile$Court;") (List.mem_of_getElem? (i := 3) rfl)) (fun _ h9 => h9) rfl dX4_whereHeStood_8 ?_
  refine vp_callSi (cz_run (va_runV (As := []) (rest := [.int w0]) ⟨hx, hb, hml, hown, hts⟩ (c_X0_people l dC dI cI cB hc a0 a1 k0 k1 k2 k3 k4 k5 g2 hk6) (cwV 0 hts gX4_whereHeStood_X0_people rfl rfl rfl (by decide +kernel) ⟨Nat.le_of_ble_eq_true rfl, Nat.le_of_ble_eq_true rfl⟩) (cz_pV (hP.sub (ws' := [(hc, .inr (0, [.int a0, .int a1, .int (nI k0), .ref k1, .ref k2, .ref k3, .ref k4, .ref k5])), (k2, .inl (cI, 6, .inl g2))]) [2, 4] rfl) hN (va_recv hK (hP.sub (ws' := [(hc, .inr (0, [.int a0, .int a1, .int (nI k0), .ref k1, .ref k2, .ref k3, .ref k4, .ref k5])), (k2, .inl (cI, 6, .inl g2))]) [2, 4] rfl) (ci := 0) (q0 := 0) rfl rfl)) rfl rfl hl.1 rfl (lv_room (Nat.le_of_ble_eq_true rfl)) dX4_whereHeStood_11 ⟨Nat.le_of_ble_eq_true rfl, Nat.le_of_ble_eq_true rfl⟩)) (fun r_1 hr_1 => ?_)
  refine lv_ior hx hb dX4_whereHeStood_14 ?_
  refine lv_topi (fun x_2 ex_2 => ?_)
  refine lv_istore_n (lv' := [(2, .int x_2), (0, .ref hs), (1, .int p0)]) hx hb dX4_whereHeStood_15 rfl hl (by decide) rfl (fun ls hl => ?_)
  refine lv_iconst (v := 0) hx hb dX4_whereHeStood_16 (by decide) ?_
  refine lv_istore_n (lv' := [(3, .int 0), (2, .int x_2), (0, .ref hs), (1, .int p0)]) hx hb dX4_whereHeStood_17 rfl hl (by decide) rfl (fun ls hl => ?_)
  refine lv_iconst (v := (-1)) hx hb dX4_whereHeStood_18 (by decide) ?_
  refine lv_istore (lv' := [(4, .int (-1)), (3, .int 0), (2, .int x_2), (0, .ref hs), (1, .int p0)]) hx hb dX4_whereHeStood_19 hl (by decide) rfl (fun ls hl => ?_)
  refine lv_iconst (v := (-1)) hx hb dX4_whereHeStood_21 (by decide) ?_
  refine lv_istore (lv' := [(5, .int (-1)), (4, .int (-1)), (3, .int 0), (2, .int x_2), (0, .ref hs), (1, .int p0)]) hx hb dX4_whereHeStood_22 hl (by decide) rfl (fun ls hl => ?_)
  refine lv_iconst (v := 0) hx hb dX4_whereHeStood_24 (by decide) ?_
  refine lv_istore (lv' := [(6, .int 0), (5, .int (-1)), (4, .int (-1)), (3, .int 0), (2, .int x_2), (0, .ref hs), (1, .int p0)]) hx hb dX4_whereHeStood_25 hl (by decide) rfl (fun ls hl => ?_)
  have lp27 : ∀ (n27 : Nat) (i27 : Nat) (y3 : Int32) (y4 : Int32) (y5 : Int32) (ls : Array Slot), i27 + n27 = 80 → lv_has ls 7 [(0, .ref hs), (1, .int p0), (2, .int x_2), (3, .int y3), (4, .int y4), (5, .int y5), (6, .int (nI i27))] → W p l e ({ frames := 5, cells := 0, slots := 0, locals := 118 } : Room) s m #[Value.ref hs, Value.int p0] below meth c s.heap [] 0 0 Q (F0 m 27 ls []) := by
    intro n27
    induction n27 with
    | zero =>
      intro i27 y3 y4 y5 ls hi27  hl
      obtain rfl : i27 = 80 := by omega
      have hl : lv_has ls 7 [(0, .ref hs), (1, .int p0), (2, .int x_2), (3, .int y3), (4, .int y4), (5, .int y5), (6, .int 80)] := hl
      refine lv_iload hx hb dX4_whereHeStood_27 (lv_at hl 6 rfl) ?_
      refine lv_bipush (v := 80) hx hb dX4_whereHeStood_29 (by decide) ?_
      refine lv_icmp_ge (tgt := 114) hx hb dX4_whereHeStood_31 (by decide) (fun _ => ?_) (fun c => absurd (by decide) c)
      refine lv_iload_n hx hb dX4_whereHeStood_114 rfl (lv_at hl 1 rfl) ?_
      refine lv_if_ne (tgt := 120) hx hb dX4_whereHeStood_115 (by decide) (fun c_3 => ?_) (fun c_3 => ?_)
      · refine lv_iload_n hx hb dX4_whereHeStood_120 rfl (lv_at hl 1 rfl) ?_
        refine lv_iconst (v := 1) hx hb dX4_whereHeStood_121 (by decide) ?_
        refine lv_icmp_ne (tgt := 130) hx hb dX4_whereHeStood_122 (by decide) (fun c_4 => ?_) (fun c_4 => ?_)
        · refine lv_iload hx hb dX4_whereHeStood_130 (lv_at hl 5 rfl) ?_
          rw [hQ]; exact W.iret (v := y5) hx hb hr (fun t ht hW => ⟨y5, rfl, trivial, ht⟩) (fun _ h => absurd h List.not_mem_nil) dX4_whereHeStood_132
        · refine lv_iload hx hb dX4_whereHeStood_125 (lv_at hl 4 rfl) ?_
          refine lv_goto (tgt := 132) hx hb dX4_whereHeStood_127 (by decide) ?_
          rw [hQ]; exact W.iret (v := y4) hx hb hr (fun t ht hW => ⟨y4, rfl, trivial, ht⟩) (fun _ h => absurd h List.not_mem_nil) dX4_whereHeStood_132
      · refine lv_iload_n hx hb dX4_whereHeStood_118 rfl (lv_at hl 3 rfl) ?_
        rw [hQ]; exact W.iret (v := y3) hx hb hr (fun t ht hW => ⟨y3, rfl, trivial, ht⟩) (fun _ h => absurd h List.not_mem_nil) dX4_whereHeStood_119
    | succ n27 ih27 =>
      intro i27 y3 y4 y5 ls hi27  hl
      refine lv_iload hx hb dX4_whereHeStood_27 (lv_at hl 6 rfl) ?_
      refine lv_bipush (v := 80) hx hb dX4_whereHeStood_29 (by decide) ?_
      refine lv_icmp_ge (tgt := 114) hx hb dX4_whereHeStood_31 (by decide) (fun c_5 => ?_) (fun c_5 => ?_)
      · exact absurd c_5 (show ¬ (80 : Int32) ≤ nI i27 from nI_ge (a := i27) (b := 80) (by omega) (by omega))
      · refine lv_iload hx hb dX4_whereHeStood_34 (lv_at hl 6 rfl) ?_
        refine vp_callSi (cz_run (va_runSN (As := [.int (nI i27)]) (rest := []) ⟨hx, hb, hml, hown, hts⟩ (c_X6_placeOf l dC dI cI cB (nI i27) ) ⟨(va_cnB 1 hts gX4_whereHeStood_X6_placeOf_n43 rfl rfl rfl (hN.2 (RX4, 43, yX6_placeOf) (by decide)) (hts (.initialized RX6) (List.mem_of_getElem? (i := 12) rfl)) (by decide +kernel) ⟨Nat.le_of_ble_eq_true rfl, Nat.le_of_ble_eq_true rfl⟩), hts (.static yX6_placeOf) (List.mem_of_getElem? (i := 14) rfl), trivial⟩ (cz_pS (hP.sub (ws' := []) [] rfl) hN) rfl rfl hl.1 rfl (lv_room (Nat.le_of_ble_eq_true rfl)) dX4_whereHeStood_36 ⟨Nat.le_of_ble_eq_true rfl, Nat.le_of_ble_eq_true rfl⟩)) (fun r_6 hr_6 => ?_)
        refine lv_iload_n hx hb dX4_whereHeStood_39 rfl (lv_at hl 2 rfl) ?_
        refine vp_callSi (cz_run (va_runSN (As := [.int r_6, .int x_2]) (rest := []) ⟨hx, hb, hml, hown, hts⟩ (c_X6_isOpen l dC dI cI cB r_6 x_2 ) ⟨(va_cnB 2 hts gX4_whereHeStood_X6_isOpen_n90 rfl rfl rfl (hN.2 (RX4, 90, yX6_isOpen) (by decide)) (hts (.initialized RX6) (List.mem_of_getElem? (i := 12) rfl)) (by decide +kernel) ⟨Nat.le_of_ble_eq_true rfl, Nat.le_of_ble_eq_true rfl⟩), hts (.static yX6_isOpen) (List.mem_of_getElem? (i := 16) rfl), trivial⟩ (cz_pS (hP.sub (ws' := []) [] rfl) hN) rfl rfl hl.1 rfl (lv_room (Nat.le_of_ble_eq_true rfl)) dX4_whereHeStood_40 ⟨Nat.le_of_ble_eq_true rfl, Nat.le_of_ble_eq_true rfl⟩)) (fun r_7 hr_7 => ?_)
        rcases hr_7 with ⟨rfl, hr_7⟩ | ⟨rfl, hr_7⟩
        · refine lv_if_eq (tgt := 108) hx hb dX4_whereHeStood_43 (by decide) (fun _ => ?_) (fun c => absurd (by decide) c)
          refine lv_iinc (v := (nI (i27 + 1))) (lv' := [(6, .int (nI (i27 + 1))), (0, .ref hs), (1, .int p0), (2, .int x_2), (3, .int y3), (4, .int y4), (5, .int y5)]) hx hb dX4_whereHeStood_108 hl (k := 6) rfl (nI_add i27 1) (by decide) rfl (fun ls hl => ?_)
          refine lv_goto (tgt := 27) hx hb dX4_whereHeStood_111 (by decide) ?_
          exact ih27 (i27 + 1) y3 y4 y5 ls (by omega)  (lv_sub hl [1, 2, 3, 4, 5, 6, 0] rfl)
        · refine lv_if_eq (tgt := 108) hx hb dX4_whereHeStood_43 (by decide) (fun c => absurd c (by decide)) (fun _ => ?_)
          refine lv_aload_n hx hb dX4_whereHeStood_46 rfl (lv_at hl 0 rfl) ?_
          refine lv_iload hx hb dX4_whereHeStood_47 (lv_at hl 6 rfl) ?_
          refine vp_callSi (cz_run (va_runV (As := [.int (nI i27)]) (rest := []) ⟨hx, hb, hml, hown, hts⟩ (c_X4_isAsTold l dC dI cI cB hs (nI i27) hh hc si w0 w1 w2 a0 a1 k0 k1 k2 k3 k4 k5 g1 g2 tw tb ft fb g5 hk6) (cwV 1 hts gX4_whereHeStood_X4_isAsTold rfl rfl rfl (by decide +kernel) ⟨Nat.le_of_ble_eq_true rfl, Nat.le_of_ble_eq_true rfl⟩) (cz_pV hP hN (va_recv hK hP (ci := 4) (q0 := 0) rfl rfl)) rfl rfl hl.1 rfl (lv_room (Nat.le_of_ble_eq_true rfl)) dX4_whereHeStood_49 ⟨Nat.le_of_ble_eq_true rfl, Nat.le_of_ble_eq_true rfl⟩)) (fun r_8 hr_8 => ?_)
          refine lv_if_eq (tgt := 108) hx hb dX4_whereHeStood_52 (by decide) (fun c_9 => ?_) (fun c_9 => ?_)
          · refine lv_iinc (v := (nI (i27 + 1))) (lv' := [(6, .int (nI (i27 + 1))), (0, .ref hs), (1, .int p0), (2, .int x_2), (3, .int y3), (4, .int y4), (5, .int y5)]) hx hb dX4_whereHeStood_108 hl (k := 6) rfl (nI_add i27 1) (by decide) rfl (fun ls hl => ?_)
            refine lv_goto (tgt := 27) hx hb dX4_whereHeStood_111 (by decide) ?_
            exact ih27 (i27 + 1) y3 y4 y5 ls (by omega)  (lv_sub hl [1, 2, 3, 4, 5, 6, 0] rfl)
          · refine lv_iload_n hx hb dX4_whereHeStood_55 rfl (lv_at hl 3 rfl) ?_
            refine lv_if_eq (tgt := 69) hx hb dX4_whereHeStood_56 (by decide) (fun c_10 => ?_) (fun c_10 => ?_)
            · refine lv_iload hx hb dX4_whereHeStood_69 (lv_at hl 6 rfl) ?_
              refine vp_callSi (cz_run (va_runSN (As := [.int (nI i27)]) (rest := []) ⟨hx, hb, hml, hown, hts⟩ (c_X6_placeOf l dC dI cI cB (nI i27) ) ⟨(va_cnB 1 hts gX4_whereHeStood_X6_placeOf_n43 rfl rfl rfl (hN.2 (RX4, 43, yX6_placeOf) (by decide)) (hts (.initialized RX6) (List.mem_of_getElem? (i := 12) rfl)) (by decide +kernel) ⟨Nat.le_of_ble_eq_true rfl, Nat.le_of_ble_eq_true rfl⟩), hts (.static yX6_placeOf) (List.mem_of_getElem? (i := 14) rfl), trivial⟩ (cz_pS (hP.sub (ws' := []) [] rfl) hN) rfl rfl hl.1 rfl (lv_room (Nat.le_of_ble_eq_true rfl)) dX4_whereHeStood_71 ⟨Nat.le_of_ble_eq_true rfl, Nat.le_of_ble_eq_true rfl⟩)) (fun r_11 hr_11 => ?_)
              refine lv_goto (tgt := 78) hx hb dX4_whereHeStood_74 (by decide) ?_
              refine lv_istore (lv' := [(4, .int r_11), (0, .ref hs), (1, .int p0), (2, .int x_2), (3, .int y3), (5, .int y5), (6, .int (nI i27))]) hx hb dX4_whereHeStood_78 hl (by decide) rfl (fun ls hl => ?_)
              refine lv_iload_n hx hb dX4_whereHeStood_80 rfl (lv_at hl 4 rfl) ?_
              refine lv_if_eq (tgt := 94) hx hb dX4_whereHeStood_81 (by decide) (fun c_12 => ?_) (fun c_12 => ?_)
              · refine lv_iload hx hb dX4_whereHeStood_94 (lv_at hl 6 rfl) ?_
                refine vp_callSi (cz_run (va_runSN (As := [.int (nI i27)]) (rest := []) ⟨hx, hb, hml, hown, hts⟩ (c_X6_sideOf l dC dI cI cB (nI i27) ) ⟨(va_cnB 1 hts gX4_whereHeStood_X6_sideOf_n80 rfl rfl rfl (hN.2 (RX4, 80, yX6_sideOf) (by decide)) (hts (.initialized RX6) (List.mem_of_getElem? (i := 12) rfl)) (by decide +kernel) ⟨Nat.le_of_ble_eq_true rfl, Nat.le_of_ble_eq_true rfl⟩), hts (.static yX6_sideOf) (List.mem_of_getElem? (i := 59) rfl), trivial⟩ (cz_pS (hP.sub (ws' := []) [] rfl) hN) rfl rfl hl.1 rfl (lv_room (Nat.le_of_ble_eq_true rfl)) dX4_whereHeStood_96 ⟨Nat.le_of_ble_eq_true rfl, Nat.le_of_ble_eq_true rfl⟩)) (fun r_13 hr_13 => ?_)
                refine lv_goto (tgt := 103) hx hb dX4_whereHeStood_99 (by decide) ?_
                refine lv_istore (lv' := [(5, .int r_13), (4, .int r_11), (0, .ref hs), (1, .int p0), (2, .int x_2), (3, .int y3), (6, .int (nI i27))]) hx hb dX4_whereHeStood_103 hl (by decide) rfl (fun ls hl => ?_)
                obtain ⟨x_14, ex_14⟩ : ∃ y : Int32, y = y3 + 1 := ⟨_, rfl⟩
                refine lv_iinc (v := x_14) (lv' := [(3, .int x_14), (5, .int r_13), (4, .int r_11), (0, .ref hs), (1, .int p0), (2, .int x_2), (6, .int (nI i27))]) hx hb dX4_whereHeStood_105 hl (k := 5) rfl (by rw [ex_14]; rfl) (by decide) rfl (fun ls hl => ?_)
                refine lv_iinc (v := (nI (i27 + 1))) (lv' := [(6, .int (nI (i27 + 1))), (3, .int x_14), (5, .int r_13), (4, .int r_11), (0, .ref hs), (1, .int p0), (2, .int x_2)]) hx hb dX4_whereHeStood_108 hl (k := 6) rfl (nI_add i27 1) (by decide) rfl (fun ls hl => ?_)
                refine lv_goto (tgt := 27) hx hb dX4_whereHeStood_111 (by decide) ?_
                exact ih27 (i27 + 1) x_14 r_11 r_13 ls (by omega)  (lv_sub hl [4, 5, 6, 1, 3, 2, 0] rfl)
              · refine lv_iload hx hb dX4_whereHeStood_84 (lv_at hl 5 rfl) ?_
                refine lv_iload hx hb dX4_whereHeStood_86 (lv_at hl 6 rfl) ?_
                refine vp_callSi (cz_run (va_runSN (As := [.int (nI i27)]) (rest := [.int y5]) ⟨hx, hb, hml, hown, hts⟩ (c_X6_sideOf l dC dI cI cB (nI i27) ) ⟨(va_cnB 1 hts gX4_whereHeStood_X6_sideOf_n80 rfl rfl rfl (hN.2 (RX4, 80, yX6_sideOf) (by decide)) (hts (.initialized RX6) (List.mem_of_getElem? (i := 12) rfl)) (by decide +kernel) ⟨Nat.le_of_ble_eq_true rfl, Nat.le_of_ble_eq_true rfl⟩), hts (.static yX6_sideOf) (List.mem_of_getElem? (i := 59) rfl), trivial⟩ (cz_pS (hP.sub (ws' := []) [] rfl) hN) rfl rfl hl.1 rfl (lv_room (Nat.le_of_ble_eq_true rfl)) dX4_whereHeStood_88 ⟨Nat.le_of_ble_eq_true rfl, Nat.le_of_ble_eq_true rfl⟩)) (fun r_15 hr_15 => ?_)
                refine lv_icmp_ne (tgt := 102) hx hb dX4_whereHeStood_91 (by decide) (fun c_16 => ?_) (fun c_16 => ?_)
                · refine lv_iconst (v := (-1)) hx hb dX4_whereHeStood_102 (by decide) ?_
                  refine lv_istore (lv' := [(5, .int (-1)), (4, .int r_11), (0, .ref hs), (1, .int p0), (2, .int x_2), (3, .int y3), (6, .int (nI i27))]) hx hb dX4_whereHeStood_103 hl (by decide) rfl (fun ls hl => ?_)
                  obtain ⟨x_17, ex_17⟩ : ∃ y : Int32, y = y3 + 1 := ⟨_, rfl⟩
                  refine lv_iinc (v := x_17) (lv' := [(3, .int x_17), (5, .int (-1)), (4, .int r_11), (0, .ref hs), (1, .int p0), (2, .int x_2), (6, .int (nI i27))]) hx hb dX4_whereHeStood_105 hl (k := 5) rfl (by rw [ex_17]; rfl) (by decide) rfl (fun ls hl => ?_)
                  refine lv_iinc (v := (nI (i27 + 1))) (lv' := [(6, .int (nI (i27 + 1))), (3, .int x_17), (5, .int (-1)), (4, .int r_11), (0, .ref hs), (1, .int p0), (2, .int x_2)]) hx hb dX4_whereHeStood_108 hl (k := 6) rfl (nI_add i27 1) (by decide) rfl (fun ls hl => ?_)
                  refine lv_goto (tgt := 27) hx hb dX4_whereHeStood_111 (by decide) ?_
                  exact ih27 (i27 + 1) x_17 r_11 (-1) ls (by omega)  (lv_sub hl [4, 5, 6, 1, 3, 2, 0] rfl)
                · refine lv_iload hx hb dX4_whereHeStood_94 (lv_at hl 6 rfl) ?_
                  refine vp_callSi (cz_run (va_runSN (As := [.int (nI i27)]) (rest := []) ⟨hx, hb, hml, hown, hts⟩ (c_X6_sideOf l dC dI cI cB (nI i27) ) ⟨(va_cnB 1 hts gX4_whereHeStood_X6_sideOf_n80 rfl rfl rfl (hN.2 (RX4, 80, yX6_sideOf) (by decide)) (hts (.initialized RX6) (List.mem_of_getElem? (i := 12) rfl)) (by decide +kernel) ⟨Nat.le_of_ble_eq_true rfl, Nat.le_of_ble_eq_true rfl⟩), hts (.static yX6_sideOf) (List.mem_of_getElem? (i := 59) rfl), trivial⟩ (cz_pS (hP.sub (ws' := []) [] rfl) hN) rfl rfl hl.1 rfl (lv_room (Nat.le_of_ble_eq_true rfl)) dX4_whereHeStood_96 ⟨Nat.le_of_ble_eq_true rfl, Nat.le_of_ble_eq_true rfl⟩)) (fun r_18 hr_18 => ?_)
                  refine lv_goto (tgt := 103) hx hb dX4_whereHeStood_99 (by decide) ?_
                  refine lv_istore (lv' := [(5, .int r_18), (4, .int r_11), (0, .ref hs), (1, .int p0), (2, .int x_2), (3, .int y3), (6, .int (nI i27))]) hx hb dX4_whereHeStood_103 hl (by decide) rfl (fun ls hl => ?_)
                  obtain ⟨x_19, ex_19⟩ : ∃ y : Int32, y = y3 + 1 := ⟨_, rfl⟩
                  refine lv_iinc (v := x_19) (lv' := [(3, .int x_19), (5, .int r_18), (4, .int r_11), (0, .ref hs), (1, .int p0), (2, .int x_2), (6, .int (nI i27))]) hx hb dX4_whereHeStood_105 hl (k := 5) rfl (by rw [ex_19]; rfl) (by decide) rfl (fun ls hl => ?_)
                  refine lv_iinc (v := (nI (i27 + 1))) (lv' := [(6, .int (nI (i27 + 1))), (3, .int x_19), (5, .int r_18), (4, .int r_11), (0, .ref hs), (1, .int p0), (2, .int x_2)]) hx hb dX4_whereHeStood_108 hl (k := 6) rfl (nI_add i27 1) (by decide) rfl (fun ls hl => ?_)
                  refine lv_goto (tgt := 27) hx hb dX4_whereHeStood_111 (by decide) ?_
                  exact ih27 (i27 + 1) x_19 r_11 r_18 ls (by omega)  (lv_sub hl [4, 5, 6, 1, 3, 2, 0] rfl)
            · refine lv_iload hx hb dX4_whereHeStood_59 (lv_at hl 4 rfl) ?_
              refine lv_iload hx hb dX4_whereHeStood_61 (lv_at hl 6 rfl) ?_
              refine vp_callSi (cz_run (va_runSN (As := [.int (nI i27)]) (rest := [.int y4]) ⟨hx, hb, hml, hown, hts⟩ (c_X6_placeOf l dC dI cI cB (nI i27) ) ⟨(va_cnB 1 hts gX4_whereHeStood_X6_placeOf_n43 rfl rfl rfl (hN.2 (RX4, 43, yX6_placeOf) (by decide)) (hts (.initialized RX6) (List.mem_of_getElem? (i := 12) rfl)) (by decide +kernel) ⟨Nat.le_of_ble_eq_true rfl, Nat.le_of_ble_eq_true rfl⟩), hts (.static yX6_placeOf) (List.mem_of_getElem? (i := 14) rfl), trivial⟩ (cz_pS (hP.sub (ws' := []) [] rfl) hN) rfl rfl hl.1 rfl (lv_room (Nat.le_of_ble_eq_true rfl)) dX4_whereHeStood_63 ⟨Nat.le_of_ble_eq_true rfl, Nat.le_of_ble_eq_true rfl⟩)) (fun r_20 hr_20 => ?_)
              refine lv_icmp_ne (tgt := 77) hx hb dX4_whereHeStood_66 (by decide) (fun c_21 => ?_) (fun c_21 => ?_)
              · refine lv_iconst (v := (-1)) hx hb dX4_whereHeStood_77 (by decide) ?_
                refine lv_istore (lv' := [(4, .int (-1)), (0, .ref hs), (1, .int p0), (2, .int x_2), (3, .int y3), (5, .int y5), (6, .int (nI i27))]) hx hb dX4_whereHeStood_78 hl (by decide) rfl (fun ls hl => ?_)
                refine lv_iload_n hx hb dX4_whereHeStood_80 rfl (lv_at hl 4 rfl) ?_
                refine lv_if_eq (tgt := 94) hx hb dX4_whereHeStood_81 (by decide) (fun c_22 => ?_) (fun c_22 => ?_)
                · refine lv_iload hx hb dX4_whereHeStood_94 (lv_at hl 6 rfl) ?_
                  refine vp_callSi (cz_run (va_runSN (As := [.int (nI i27)]) (rest := []) ⟨hx, hb, hml, hown, hts⟩ (c_X6_sideOf l dC dI cI cB (nI i27) ) ⟨(va_cnB 1 hts gX4_whereHeStood_X6_sideOf_n80 rfl rfl rfl (hN.2 (RX4, 80, yX6_sideOf) (by decide)) (hts (.initialized RX6) (List.mem_of_getElem? (i := 12) rfl)) (by decide +kernel) ⟨Nat.le_of_ble_eq_true rfl, Nat.le_of_ble_eq_true rfl⟩), hts (.static yX6_sideOf) (List.mem_of_getElem? (i := 59) rfl), trivial⟩ (cz_pS (hP.sub (ws' := []) [] rfl) hN) rfl rfl hl.1 rfl (lv_room (Nat.le_of_ble_eq_true rfl)) dX4_whereHeStood_96 ⟨Nat.le_of_ble_eq_true rfl, Nat.le_of_ble_eq_true rfl⟩)) (fun r_23 hr_23 => ?_)
                  refine lv_goto (tgt := 103) hx hb dX4_whereHeStood_99 (by decide) ?_
                  refine lv_istore (lv' := [(5, .int r_23), (4, .int (-1)), (0, .ref hs), (1, .int p0), (2, .int x_2), (3, .int y3), (6, .int (nI i27))]) hx hb dX4_whereHeStood_103 hl (by decide) rfl (fun ls hl => ?_)
                  obtain ⟨x_24, ex_24⟩ : ∃ y : Int32, y = y3 + 1 := ⟨_, rfl⟩
                  refine lv_iinc (v := x_24) (lv' := [(3, .int x_24), (5, .int r_23), (4, .int (-1)), (0, .ref hs), (1, .int p0), (2, .int x_2), (6, .int (nI i27))]) hx hb dX4_whereHeStood_105 hl (k := 5) rfl (by rw [ex_24]; rfl) (by decide) rfl (fun ls hl => ?_)
                  refine lv_iinc (v := (nI (i27 + 1))) (lv' := [(6, .int (nI (i27 + 1))), (3, .int x_24), (5, .int r_23), (4, .int (-1)), (0, .ref hs), (1, .int p0), (2, .int x_2)]) hx hb dX4_whereHeStood_108 hl (k := 6) rfl (nI_add i27 1) (by decide) rfl (fun ls hl => ?_)
                  refine lv_goto (tgt := 27) hx hb dX4_whereHeStood_111 (by decide) ?_
                  exact ih27 (i27 + 1) x_24 (-1) r_23 ls (by omega)  (lv_sub hl [4, 5, 6, 1, 3, 2, 0] rfl)
                · refine lv_iload hx hb dX4_whereHeStood_84 (lv_at hl 5 rfl) ?_
                  refine lv_iload hx hb dX4_whereHeStood_86 (lv_at hl 6 rfl) ?_
                  refine vp_callSi (cz_run (va_runSN (As := [.int (nI i27)]) (rest := [.int y5]) ⟨hx, hb, hml, hown, hts⟩ (c_X6_sideOf l dC dI cI cB (nI i27) ) ⟨(va_cnB 1 hts gX4_whereHeStood_X6_sideOf_n80 rfl rfl rfl (hN.2 (RX4, 80, yX6_sideOf) (by decide)) (hts (.initialized RX6) (List.mem_of_getElem? (i := 12) rfl)) (by decide +kernel) ⟨Nat.le_of_ble_eq_true rfl, Nat.le_of_ble_eq_true rfl⟩), hts (.static yX6_sideOf) (List.mem_of_getElem? (i := 59) rfl), trivial⟩ (cz_pS (hP.sub (ws' := []) [] rfl) hN) rfl rfl hl.1 rfl (lv_room (Nat.le_of_ble_eq_true rfl)) dX4_whereHeStood_88 ⟨Nat.le_of_ble_eq_true rfl, Nat.le_of_ble_eq_true rfl⟩)) (fun r_25 hr_25 => ?_)
                  refine lv_icmp_ne (tgt := 102) hx hb dX4_whereHeStood_91 (by decide) (fun c_26 => ?_) (fun c_26 => ?_)
                  · refine lv_iconst (v := (-1)) hx hb dX4_whereHeStood_102 (by decide) ?_
                    refine lv_istore (lv' := [(5, .int (-1)), (4, .int (-1)), (0, .ref hs), (1, .int p0), (2, .int x_2), (3, .int y3), (6, .int (nI i27))]) hx hb dX4_whereHeStood_103 hl (by decide) rfl (fun ls hl => ?_)
                    obtain ⟨x_27, ex_27⟩ : ∃ y : Int32, y = y3 + 1 := ⟨_, rfl⟩
                    refine lv_iinc (v := x_27) (lv' := [(3, .int x_27), (5, .int (-1)), (4, .int (-1)), (0, .ref hs), (1, .int p0), (2, .int x_2), (6, .int (nI i27))]) hx hb dX4_whereHeStood_105 hl (k := 5) rfl (by rw [ex_27]; rfl) (by decide) rfl (fun ls hl => ?_)
                    refine lv_iinc (v := (nI (i27 + 1))) (lv' := [(6, .int (nI (i27 + 1))), (3, .int x_27), (5, .int (-1)), (4, .int (-1)), (0, .ref hs), (1, .int p0), (2, .int x_2)]) hx hb dX4_whereHeStood_108 hl (k := 6) rfl (nI_add i27 1) (by decide) rfl (fun ls hl => ?_)
                    refine lv_goto (tgt := 27) hx hb dX4_whereHeStood_111 (by decide) ?_
                    exact ih27 (i27 + 1) x_27 (-1) (-1) ls (by omega)  (lv_sub hl [4, 5, 6, 1, 3, 2, 0] rfl)
                  · refine lv_iload hx hb dX4_whereHeStood_94 (lv_at hl 6 rfl) ?_
                    refine vp_callSi (cz_run (va_runSN (As := [.int (nI i27)]) (rest := []) ⟨hx, hb, hml, hown, hts⟩ (c_X6_sideOf l dC dI cI cB (nI i27) ) ⟨(va_cnB 1 hts gX4_whereHeStood_X6_sideOf_n80 rfl rfl rfl (hN.2 (RX4, 80, yX6_sideOf) (by decide)) (hts (.initialized RX6) (List.mem_of_getElem? (i := 12) rfl)) (by decide +kernel) ⟨Nat.le_of_ble_eq_true rfl, Nat.le_of_ble_eq_true rfl⟩), hts (.static yX6_sideOf) (List.mem_of_getElem? (i := 59) rfl), trivial⟩ (cz_pS (hP.sub (ws' := []) [] rfl) hN) rfl rfl hl.1 rfl (lv_room (Nat.le_of_ble_eq_true rfl)) dX4_whereHeStood_96 ⟨Nat.le_of_ble_eq_true rfl, Nat.le_of_ble_eq_true rfl⟩)) (fun r_28 hr_28 => ?_)
                    refine lv_goto (tgt := 103) hx hb dX4_whereHeStood_99 (by decide) ?_
                    refine lv_istore (lv' := [(5, .int r_28), (4, .int (-1)), (0, .ref hs), (1, .int p0), (2, .int x_2), (3, .int y3), (6, .int (nI i27))]) hx hb dX4_whereHeStood_103 hl (by decide) rfl (fun ls hl => ?_)
                    obtain ⟨x_29, ex_29⟩ : ∃ y : Int32, y = y3 + 1 := ⟨_, rfl⟩
                    refine lv_iinc (v := x_29) (lv' := [(3, .int x_29), (5, .int r_28), (4, .int (-1)), (0, .ref hs), (1, .int p0), (2, .int x_2), (6, .int (nI i27))]) hx hb dX4_whereHeStood_105 hl (k := 5) rfl (by rw [ex_29]; rfl) (by decide) rfl (fun ls hl => ?_)
                    refine lv_iinc (v := (nI (i27 + 1))) (lv' := [(6, .int (nI (i27 + 1))), (3, .int x_29), (5, .int r_28), (4, .int (-1)), (0, .ref hs), (1, .int p0), (2, .int x_2)]) hx hb dX4_whereHeStood_108 hl (k := 6) rfl (nI_add i27 1) (by decide) rfl (fun ls hl => ?_)
                    refine lv_goto (tgt := 27) hx hb dX4_whereHeStood_111 (by decide) ?_
                    exact ih27 (i27 + 1) x_29 (-1) r_28 ls (by omega)  (lv_sub hl [4, 5, 6, 1, 3, 2, 0] rfl)
              · refine lv_iload hx hb dX4_whereHeStood_69 (lv_at hl 6 rfl) ?_
                refine vp_callSi (cz_run (va_runSN (As := [.int (nI i27)]) (rest := []) ⟨hx, hb, hml, hown, hts⟩ (c_X6_placeOf l dC dI cI cB (nI i27) ) ⟨(va_cnB 1 hts gX4_whereHeStood_X6_placeOf_n43 rfl rfl rfl (hN.2 (RX4, 43, yX6_placeOf) (by decide)) (hts (.initialized RX6) (List.mem_of_getElem? (i := 12) rfl)) (by decide +kernel) ⟨Nat.le_of_ble_eq_true rfl, Nat.le_of_ble_eq_true rfl⟩), hts (.static yX6_placeOf) (List.mem_of_getElem? (i := 14) rfl), trivial⟩ (cz_pS (hP.sub (ws' := []) [] rfl) hN) rfl rfl hl.1 rfl (lv_room (Nat.le_of_ble_eq_true rfl)) dX4_whereHeStood_71 ⟨Nat.le_of_ble_eq_true rfl, Nat.le_of_ble_eq_true rfl⟩)) (fun r_30 hr_30 => ?_)
                refine lv_goto (tgt := 78) hx hb dX4_whereHeStood_74 (by decide) ?_
                refine lv_istore (lv' := [(4, .int r_30), (0, .ref hs), (1, .int p0), (2, .int x_2), (3, .int y3), (5, .int y5), (6, .int (nI i27))]) hx hb dX4_whereHeStood_78 hl (by decide) rfl (fun ls hl => ?_)
                refine lv_iload_n hx hb dX4_whereHeStood_80 rfl (lv_at hl 4 rfl) ?_
                refine lv_if_eq (tgt := 94) hx hb dX4_whereHeStood_81 (by decide) (fun c_31 => ?_) (fun c_31 => ?_)
                · refine lv_iload hx hb dX4_whereHeStood_94 (lv_at hl 6 rfl) ?_
                  refine vp_callSi (cz_run (va_runSN (As := [.int (nI i27)]) (rest := []) ⟨hx, hb, hml, hown, hts⟩ (c_X6_sideOf l dC dI cI cB (nI i27) ) ⟨(va_cnB 1 hts gX4_whereHeStood_X6_sideOf_n80 rfl rfl rfl (hN.2 (RX4, 80, yX6_sideOf) (by decide)) (hts (.initialized RX6) (List.mem_of_getElem? (i := 12) rfl)) (by decide +kernel) ⟨Nat.le_of_ble_eq_true rfl, Nat.le_of_ble_eq_true rfl⟩), hts (.static yX6_sideOf) (List.mem_of_getElem? (i := 59) rfl), trivial⟩ (cz_pS (hP.sub (ws' := []) [] rfl) hN) rfl rfl hl.1 rfl (lv_room (Nat.le_of_ble_eq_true rfl)) dX4_whereHeStood_96 ⟨Nat.le_of_ble_eq_true rfl, Nat.le_of_ble_eq_true rfl⟩)) (fun r_32 hr_32 => ?_)
                  refine lv_goto (tgt := 103) hx hb dX4_whereHeStood_99 (by decide) ?_
                  refine lv_istore (lv' := [(5, .int r_32), (4, .int r_30), (0, .ref hs), (1, .int p0), (2, .int x_2), (3, .int y3), (6, .int (nI i27))]) hx hb dX4_whereHeStood_103 hl (by decide) rfl (fun ls hl => ?_)
                  obtain ⟨x_33, ex_33⟩ : ∃ y : Int32, y = y3 + 1 := ⟨_, rfl⟩
                  refine lv_iinc (v := x_33) (lv' := [(3, .int x_33), (5, .int r_32), (4, .int r_30), (0, .ref hs), (1, .int p0), (2, .int x_2), (6, .int (nI i27))]) hx hb dX4_whereHeStood_105 hl (k := 5) rfl (by rw [ex_33]; rfl) (by decide) rfl (fun ls hl => ?_)
                  refine lv_iinc (v := (nI (i27 + 1))) (lv' := [(6, .int (nI (i27 + 1))), (3, .int x_33), (5, .int r_32), (4, .int r_30), (0, .ref hs), (1, .int p0), (2, .int x_2)]) hx hb dX4_whereHeStood_108 hl (k := 6) rfl (nI_add i27 1) (by decide) rfl (fun ls hl => ?_)
                  refine lv_goto (tgt := 27) hx hb dX4_whereHeStood_111 (by decide) ?_
                  exact ih27 (i27 + 1) x_33 r_30 r_32 ls (by omega)  (lv_sub hl [4, 5, 6, 1, 3, 2, 0] rfl)
                · refine lv_iload hx hb dX4_whereHeStood_84 (lv_at hl 5 rfl) ?_
                  refine lv_iload hx hb dX4_whereHeStood_86 (lv_at hl 6 rfl) ?_
                  refine vp_callSi (cz_run (va_runSN (As := [.int (nI i27)]) (rest := [.int y5]) ⟨hx, hb, hml, hown, hts⟩ (c_X6_sideOf l dC dI cI cB (nI i27) ) ⟨(va_cnB 1 hts gX4_whereHeStood_X6_sideOf_n80 rfl rfl rfl (hN.2 (RX4, 80, yX6_sideOf) (by decide)) (hts (.initialized RX6) (List.mem_of_getElem? (i := 12) rfl)) (by decide +kernel) ⟨Nat.le_of_ble_eq_true rfl, Nat.le_of_ble_eq_true rfl⟩), hts (.static yX6_sideOf) (List.mem_of_getElem? (i := 59) rfl), trivial⟩ (cz_pS (hP.sub (ws' := []) [] rfl) hN) rfl rfl hl.1 rfl (lv_room (Nat.le_of_ble_eq_true rfl)) dX4_whereHeStood_88 ⟨Nat.le_of_ble_eq_true rfl, Nat.le_of_ble_eq_true rfl⟩)) (fun r_34 hr_34 => ?_)
                  refine lv_icmp_ne (tgt := 102) hx hb dX4_whereHeStood_91 (by decide) (fun c_35 => ?_) (fun c_35 => ?_)
                  · refine lv_iconst (v := (-1)) hx hb dX4_whereHeStood_102 (by decide) ?_
                    refine lv_istore (lv' := [(5, .int (-1)), (4, .int r_30), (0, .ref hs), (1, .int p0), (2, .int x_2), (3, .int y3), (6, .int (nI i27))]) hx hb dX4_whereHeStood_103 hl (by decide) rfl (fun ls hl => ?_)
                    obtain ⟨x_36, ex_36⟩ : ∃ y : Int32, y = y3 + 1 := ⟨_, rfl⟩
                    refine lv_iinc (v := x_36) (lv' := [(3, .int x_36), (5, .int (-1)), (4, .int r_30), (0, .ref hs), (1, .int p0), (2, .int x_2), (6, .int (nI i27))]) hx hb dX4_whereHeStood_105 hl (k := 5) rfl (by rw [ex_36]; rfl) (by decide) rfl (fun ls hl => ?_)
                    refine lv_iinc (v := (nI (i27 + 1))) (lv' := [(6, .int (nI (i27 + 1))), (3, .int x_36), (5, .int (-1)), (4, .int r_30), (0, .ref hs), (1, .int p0), (2, .int x_2)]) hx hb dX4_whereHeStood_108 hl (k := 6) rfl (nI_add i27 1) (by decide) rfl (fun ls hl => ?_)
                    refine lv_goto (tgt := 27) hx hb dX4_whereHeStood_111 (by decide) ?_
                    exact ih27 (i27 + 1) x_36 r_30 (-1) ls (by omega)  (lv_sub hl [4, 5, 6, 1, 3, 2, 0] rfl)
                  · refine lv_iload hx hb dX4_whereHeStood_94 (lv_at hl 6 rfl) ?_
                    refine vp_callSi (cz_run (va_runSN (As := [.int (nI i27)]) (rest := []) ⟨hx, hb, hml, hown, hts⟩ (c_X6_sideOf l dC dI cI cB (nI i27) ) ⟨(va_cnB 1 hts gX4_whereHeStood_X6_sideOf_n80 rfl rfl rfl (hN.2 (RX4, 80, yX6_sideOf) (by decide)) (hts (.initialized RX6) (List.mem_of_getElem? (i := 12) rfl)) (by decide +kernel) ⟨Nat.le_of_ble_eq_true rfl, Nat.le_of_ble_eq_true rfl⟩), hts (.static yX6_sideOf) (List.mem_of_getElem? (i := 59) rfl), trivial⟩ (cz_pS (hP.sub (ws' := []) [] rfl) hN) rfl rfl hl.1 rfl (lv_room (Nat.le_of_ble_eq_true rfl)) dX4_whereHeStood_96 ⟨Nat.le_of_ble_eq_true rfl, Nat.le_of_ble_eq_true rfl⟩)) (fun r_37 hr_37 => ?_)
                    refine lv_goto (tgt := 103) hx hb dX4_whereHeStood_99 (by decide) ?_
                    refine lv_istore (lv' := [(5, .int r_37), (4, .int r_30), (0, .ref hs), (1, .int p0), (2, .int x_2), (3, .int y3), (6, .int (nI i27))]) hx hb dX4_whereHeStood_103 hl (by decide) rfl (fun ls hl => ?_)
                    obtain ⟨x_38, ex_38⟩ : ∃ y : Int32, y = y3 + 1 := ⟨_, rfl⟩
                    refine lv_iinc (v := x_38) (lv' := [(3, .int x_38), (5, .int r_37), (4, .int r_30), (0, .ref hs), (1, .int p0), (2, .int x_2), (6, .int (nI i27))]) hx hb dX4_whereHeStood_105 hl (k := 5) rfl (by rw [ex_38]; rfl) (by decide) rfl (fun ls hl => ?_)
                    refine lv_iinc (v := (nI (i27 + 1))) (lv' := [(6, .int (nI (i27 + 1))), (3, .int x_38), (5, .int r_37), (4, .int r_30), (0, .ref hs), (1, .int p0), (2, .int x_2)]) hx hb dX4_whereHeStood_108 hl (k := 6) rfl (nI_add i27 1) (by decide) rfl (fun ls hl => ?_)
                    refine lv_goto (tgt := 27) hx hb dX4_whereHeStood_111 (by decide) ?_
                    exact ih27 (i27 + 1) x_38 r_30 r_37 ls (by omega)  (lv_sub hl [4, 5, 6, 1, 3, 2, 0] rfl)
  exact lp27 80 0 0 (-1) (-1) ls (by omega)  (lv_sub hl [5, 6, 4, 3, 2, 1, 0] rfl)

set_option maxHeartbeats 4000000 in
set_option maxRecDepth 100000 in
theorem c_X4_afterWalk (l : Launch) (dC : Nat → ClassId) (dI : Nat → Nat → Nat) (cI cB : ClassId) (tR tC : Nat) (hs : Nat) (t0 : Nat) (p1 : Int32) (p2 : Int32) (hh : Nat) (hc : Nat) (si : Nat) (w0 : Int32) (w1 : Int32) (w2 : Int32) (a0 : Int32) (a1 : Int32) (k0 : Nat) (k1 : Nat) (k2 : Nat) (k3 : Nat) (k4 : Nat) (k5 : Nat) (g1 : Nat → Int32) (g2 : Nat → Int32) (tw : Nat) (tb : Nat) (ft : Nat → Int32) (fb : Nat → Int32) (hk6 : k0 ≤ 6) (ht0 : t0 ≤ 60) : Met l yX4_afterWalk wsX4_afterWalk ({ frames := 5, cells := 0, slots := 0, locals := 123 }) (cz_PpT dC dI cI cB tR tC [.ref hs, .int (nI t0), .int p1, .int p2] [(hs, .inr (4, [.ref hh, .ref hc, .ref si])), (hh, .inr (1, [.int w0, .int w1, .int w2])), (hc, .inr (0, [.int a0, .int a1, .int (nI k0), .ref k1, .ref k2, .ref k3, .ref k4, .ref k5])), (k1, .inl (cI, 6, .inl g1)), (k2, .inl (cI, 6, .inl g2)), (si, .inr (5, [.ref tw, .ref tb])), (tw, .inl (cI, 400, .inl ft)), (tb, .inl (cI, 400, .inl fb))]) (vp_Si (fun r : Int32 => True)) 0 0 (fun _ => False) := by
  refine cz_of (cc := cX4_afterWalk) (maxL := 9) (ret := (some .int)) (by decide) rfl ?_
  intro p e s m args below meth c s₁ Q B hml hv hQ
  obtain ⟨rfl, hP, hN, hSt⟩ := hv
  have hx := B.exec
  have hb := B.bytes
  have hr := B.returns
  have hts := atoms_spec (ws := wsX4_afterWalk) B.pre
  have hown : s.vm.findClass RX4 = some m.cls := findClass_of_methodNamed B.named
  have hlocks := B.notSynchronized
  have hK := hN.1
  have hiX0 : ∀ w ∈ wsX00, w ∈ wsX4_afterWalk := (fun _ h => List.mem_cons_of_mem _ (List.mem_append_left _ (List.mem_append_left _ (List.mem_append_right _ h))))
  have hiX1 : ∀ w ∈ wsX10, w ∈ wsX4_afterWalk := (fun _ h => List.mem_cons_of_mem _ (List.mem_append_left _ (List.mem_append_right _ h)))
  have hiX4 : ∀ w ∈ wsX40, w ∈ wsX4_afterWalk := (fun _ h => List.mem_cons_of_mem _ (List.mem_append_left _ (List.mem_append_left _ (List.mem_append_left _ (List.mem_append_right _ h)))))
  have hl := lv_entry ([.ref hs, .int (nI t0), .int p1, .int p2]) (n := 9) (Nat.le_of_ble_eq_true rfl)
  rw [lg_entry_eq]
  generalize (lg_sl ([.ref hs, .int (nI t0), .int p1, .int p2]) ++ List.replicate (9 - (lg_sl ([.ref hs, .int (nI t0), .int p1, .int p2])).length) Slot.unset).toArray = ls at hl ⊢
  have hl : lv_has ls 9 [(0, .ref hs), (1, .int (nI t0)), (2, .int p1), (3, .int p2)] := hl
  refine lv_aload_n hx hb dX4_afterWalk_0 rfl (lv_at hl 0 rfl) ?_
  refine va_get (D := (dC, dI)) (ci := 4) (v := .ref hc) (C := RX4) (T := TX4) (N := 3) hx hb hts hiX4 hown hK hP 0 rfl rfl 1 (by decide) (hts (.fieldLink RX4 21 "LeftProfile$Scene" "court" "LLeftProfile$Court;") (List.mem_of_getElem? (i := 1) rfl)) (fun _ h9 => h9) rfl dX4_afterWalk_1 ?_
  refine va_get (D := (dC, dI)) (ci := 0) (v := .int a0) (C := RX0) (T := TX0) (N := 8) hx hb hts hiX0 hown hK hP 2 rfl rfl 0 (by decide) (hts (.fieldLink RX4 40 "LeftProfile$Court" "stance" "I") (List.mem_of_getElem? (i := 2) rfl)) (fun _ h9 => h9) rfl dX4_afterWalk_4 ?_
  refine lv_istore (lv' := [(4, .int a0), (0, .ref hs), (1, .int (nI t0)), (2, .int p1), (3, .int p2)]) hx hb dX4_afterWalk_7 hl (by decide) rfl (fun ls hl => ?_)
  refine lv_iload_n hx hb dX4_afterWalk_9 rfl (lv_at hl 3 rfl) ?_
  refine lv_istore (lv' := [(5, .int p1), (4, .int a0), (0, .ref hs), (1, .int (nI t0)), (2, .int p1), (3, .int p2)]) hx hb dX4_afterWalk_10 hl (by decide) rfl (fun ls hl => ?_)
  refine lv_iconst (v := 0) hx hb dX4_afterWalk_12 (by decide) ?_
  refine lv_istore (lv' := [(6, .int 0), (5, .int p1), (4, .int a0), (0, .ref hs), (1, .int (nI t0)), (2, .int p1), (3, .int p2)]) hx hb dX4_afterWalk_13 hl (by decide) rfl (fun ls hl => ?_)
  refine lv_iconst (v := 0) hx hb dX4_afterWalk_15 (by decide) ?_
  refine lv_istore (lv' := [(7, .int 0), (6, .int 0), (5, .int p1), (4, .int a0), (0, .ref hs), (1, .int (nI t0)), (2, .int p1), (3, .int p2)]) hx hb dX4_afterWalk_16 hl (by decide) rfl (fun ls hl => ?_)
  have lp18 : ∀ (n18 : Nat) (i18 : Nat) (y4 : Int32) (y5 : Int32) (y6 : Int32) (ls : Array Slot), i18 + n18 = t0 → lv_has ls 9 [(0, .ref hs), (1, .int (nI t0)), (2, .int p1), (3, .int p2), (4, .int y4), (5, .int y5), (6, .int y6), (7, .int (nI i18))] → W p l e ({ frames := 5, cells := 0, slots := 0, locals := 123 } : Room) s m #[Value.ref hs, Value.int (nI t0), Value.int p1, Value.int p2] below meth c s.heap [] 0 0 Q (F0 m 18 ls []) := by
    intro n18
    induction n18 with
    | zero =>
      intro i18 y4 y5 y6 ls hi18  hl
      obtain rfl : t0 = i18 := by omega
      refine lv_iload hx hb dX4_afterWalk_18 (lv_at hl 7 rfl) ?_
      refine lv_iload_n hx hb dX4_afterWalk_20 rfl (lv_at hl 1 rfl) ?_
      refine lv_icmp_ge (tgt := 83) hx hb dX4_afterWalk_21 (by decide) (fun c_1 => ?_) (fun c_1 => ?_)
      · refine lv_iload_n hx hb dX4_afterWalk_83 rfl (lv_at hl 3 rfl) ?_
        rcases cz_sw_0_2 p2 with c_2 | c_2 | c_2 | c_2
        · refine lv_tableIn (off := 28) (tgt := 112) hx hb dX4_afterWalk_84 (by rw [c_2]; decide) (by rw [c_2]; decide) (by rw [c_2]; decide) (by decide) ?_
          refine lv_iload hx hb dX4_afterWalk_112 (lv_at hl 4 rfl) ?_
          refine vp_callSi (cz_run (va_runSN (As := [.int y4]) (rest := []) ⟨hx, hb, hml, hown, hts⟩ (c_X6_placeOf l dC dI cI cB y4 ) ⟨(va_cnB 1 hts gX4_afterWalk_X6_placeOf_n43 rfl rfl rfl (hN.2 (RX4, 43, yX6_placeOf) (by decide)) (hts (.initialized RX6) (List.mem_of_getElem? (i := 18) rfl)) (by decide +kernel) ⟨Nat.le_of_ble_eq_true rfl, Nat.le_of_ble_eq_true rfl⟩), hts (.static yX6_placeOf) (List.mem_of_getElem? (i := 17) rfl), trivial⟩ (cz_pS (hP.sub (ws' := []) [] rfl) hN) rfl rfl hl.1 rfl (lv_room (Nat.le_of_ble_eq_true rfl)) dX4_afterWalk_114 ⟨Nat.le_of_ble_eq_true rfl, Nat.le_of_ble_eq_true rfl⟩)) (fun r_3 hr_3 => ?_)
          rw [hQ]; exact W.iret (v := r_3) hx hb hr (fun t ht hW => ⟨r_3, rfl, trivial, ht⟩) (fun _ h => absurd h List.not_mem_nil) dX4_afterWalk_117
        · refine lv_tableIn (off := 34) (tgt := 118) hx hb dX4_afterWalk_84 (by rw [c_2]; decide) (by rw [c_2]; decide) (by rw [c_2]; decide) (by decide) ?_
          refine lv_iload hx hb dX4_afterWalk_118 (lv_at hl 4 rfl) ?_
          refine vp_callSi (cz_run (va_runSN (As := [.int y4]) (rest := []) ⟨hx, hb, hml, hown, hts⟩ (c_X6_sideOf l dC dI cI cB y4 ) ⟨(va_cnB 1 hts gX4_afterWalk_X6_sideOf_n80 rfl rfl rfl (hN.2 (RX4, 80, yX6_sideOf) (by decide)) (hts (.initialized RX6) (List.mem_of_getElem? (i := 18) rfl)) (by decide +kernel) ⟨Nat.le_of_ble_eq_true rfl, Nat.le_of_ble_eq_true rfl⟩), hts (.static yX6_sideOf) (List.mem_of_getElem? (i := 20) rfl), trivial⟩ (cz_pS (hP.sub (ws' := []) [] rfl) hN) rfl rfl hl.1 rfl (lv_room (Nat.le_of_ble_eq_true rfl)) dX4_afterWalk_120 ⟨Nat.le_of_ble_eq_true rfl, Nat.le_of_ble_eq_true rfl⟩)) (fun r_4 hr_4 => ?_)
          rw [hQ]; exact W.iret (v := r_4) hx hb hr (fun t ht hW => ⟨r_4, rfl, trivial, ht⟩) (fun _ h => absurd h List.not_mem_nil) dX4_afterWalk_123
        · refine lv_tableIn (off := 40) (tgt := 124) hx hb dX4_afterWalk_84 (by rw [c_2]; decide) (by rw [c_2]; decide) (by rw [c_2]; decide) (by decide) ?_
          refine lv_iload hx hb dX4_afterWalk_124 (lv_at hl 6 rfl) ?_
          rw [hQ]; exact W.iret (v := y6) hx hb hr (fun t ht hW => ⟨y6, rfl, trivial, ht⟩) (fun _ h => absurd h List.not_mem_nil) dX4_afterWalk_126
        · refine lv_tableOut (tgt := 127) hx hb dX4_afterWalk_84 c_2 (by decide) ?_
          refine lv_iload hx hb dX4_afterWalk_127 (lv_at hl 5 rfl) ?_
          rw [hQ]; exact W.iret (v := y5) hx hb hr (fun t ht hW => ⟨y5, rfl, trivial, ht⟩) (fun _ h => absurd h List.not_mem_nil) dX4_afterWalk_129
      · exact absurd (show nI t0 ≤ nI t0 from nI_le (a := t0) (b := t0) (by omega) (by omega)) c_1
    | succ n18 ih18 =>
      intro i18 y4 y5 y6 ls hi18  hl
      refine lv_iload hx hb dX4_afterWalk_18 (lv_at hl 7 rfl) ?_
      refine lv_iload_n hx hb dX4_afterWalk_20 rfl (lv_at hl 1 rfl) ?_
      refine lv_icmp_ge (tgt := 83) hx hb dX4_afterWalk_21 (by decide) (fun c_5 => ?_) (fun c_5 => ?_)
      · exact absurd c_5 (show ¬ nI t0 ≤ nI i18 from nI_ge (a := i18) (b := t0) (by omega) (by omega))
      · refine lv_iload hx hb dX4_afterWalk_24 (lv_at hl 5 rfl) ?_
        refine vp_callSi (cz_run (va_runS (As := [.int y5]) (rest := []) ⟨hx, hb, hml, hown, hts⟩ (c_X4_nextSeed l dC dI cI cB y5 ) (va_cwS 1 hts gX4_afterWalk_X4_nextSeed rfl rfl rfl (by decide +kernel) ⟨Nat.le_of_ble_eq_true rfl, Nat.le_of_ble_eq_true rfl⟩) (cz_pS (hP.sub (ws' := []) [] rfl) hN) rfl rfl hl.1 rfl (lv_room (Nat.le_of_ble_eq_true rfl)) dX4_afterWalk_26 ⟨Nat.le_of_ble_eq_true rfl, Nat.le_of_ble_eq_true rfl⟩)) (fun r_6 hr_6 => ?_)
        refine lv_istore (lv' := [(5, .int r_6), (0, .ref hs), (1, .int (nI t0)), (2, .int p1), (3, .int p2), (4, .int y4), (6, .int y6), (7, .int (nI i18))]) hx hb dX4_afterWalk_29 hl (by decide) rfl (fun ls hl => ?_)
        refine lv_aload_n hx hb dX4_afterWalk_31 rfl (lv_at hl 1 rfl) ?_
        refine lv_iload hx hb dX4_afterWalk_32 (lv_at hl 5 rfl) ?_
        refine lv_iload hx hb dX4_afterWalk_34 (lv_at hl 0 rfl) ?_
        refine lv_ldc (v := 65536) hx hb hown (hts (.constant RX4 114 (65536)) (List.mem_of_getElem? (i := 3) rfl)) dX4_afterWalk_36 ?_
        refine lv_idiv hx hb dX4_afterWalk_38 (by decide) ?_
        refine lv_topi (fun x_7 ex_7 => ?_)
        refine lv_iconst (v := 3) hx hb dX4_afterWalk_39 (by decide) ?_
        refine lv_irem hx hb dX4_afterWalk_40 (by decide) ?_
        refine lv_topi (fun x_8 ex_8 => ?_)
        refine vp_callSi (cz_run (va_runV (As := [.int y4, .int x_8]) (rest := []) ⟨hx, hb, hml, hown, hts⟩ (c_X4_after l dC dI cI cB tR tC hs y4 x_8 hh hc si w0 w1 w2 a0 a1 k0 k1 k2 k3 k4 k5 g2 hk6) (cwV 2 hts gX4_afterWalk_X4_after rfl rfl rfl (by decide +kernel) ⟨Nat.le_of_ble_eq_true rfl, Nat.le_of_ble_eq_true rfl⟩) (cz_pVT (hP.sub (ws' := [(hs, .inr (4, [.ref hh, .ref hc, .ref si])), (hh, .inr (1, [.int w0, .int w1, .int w2])), (hc, .inr (0, [.int a0, .int a1, .int (nI k0), .ref k1, .ref k2, .ref k3, .ref k4, .ref k5])), (k2, .inl (cI, 6, .inl g2))]) [0, 1, 2, 4] rfl) hN (hSt.any) (va_recv hK (hP.sub (ws' := [(hs, .inr (4, [.ref hh, .ref hc, .ref si])), (hh, .inr (1, [.int w0, .int w1, .int w2])), (hc, .inr (0, [.int a0, .int a1, .int (nI k0), .ref k1, .ref k2, .ref k3, .ref k4, .ref k5])), (k2, .inl (cI, 6, .inl g2))]) [0, 1, 2, 4] rfl) (ci := 4) (q0 := 0) rfl rfl)) rfl rfl hl.1 rfl (lv_room (Nat.le_of_ble_eq_true rfl)) dX4_afterWalk_41 ⟨Nat.le_of_ble_eq_true rfl, Nat.le_of_ble_eq_true rfl⟩)) (fun r_9 hr_9 => ?_)
        refine lv_istore (lv' := [(8, .int r_9), (5, .int r_6), (0, .ref hs), (1, .int (nI t0)), (2, .int p1), (3, .int p2), (4, .int y4), (6, .int y6), (7, .int (nI i18))]) hx hb dX4_afterWalk_44 hl (by decide) rfl (fun ls hl => ?_)
        refine lv_iload hx hb dX4_afterWalk_46 (lv_at hl 0 rfl) ?_
        refine lv_iconst (v := (-1)) hx hb dX4_afterWalk_48 (by decide) ?_
        refine lv_icmp_eq (tgt := 77) hx hb dX4_afterWalk_49 (by decide) (fun c_10 => ?_) (fun c_10 => ?_)
        · refine lv_iinc (v := (nI (i18 + 1))) (lv' := [(7, .int (nI (i18 + 1))), (8, .int r_9), (5, .int r_6), (0, .ref hs), (1, .int (nI t0)), (2, .int p1), (3, .int p2), (4, .int y4), (6, .int y6)]) hx hb dX4_afterWalk_77 hl (k := 8) rfl (nI_add i18 1) (by decide) rfl (fun ls hl => ?_)
          refine lv_goto (tgt := 18) hx hb dX4_afterWalk_80 (by decide) ?_
          exact ih18 (i18 + 1) y4 r_6 y6 ls (by omega)  (lv_sub hl [3, 4, 5, 6, 7, 2, 8, 0] rfl)
        · refine lv_iload hx hb dX4_afterWalk_52 (lv_at hl 0 rfl) ?_
          refine lv_istore (lv' := [(4, .int r_9), (8, .int r_9), (5, .int r_6), (0, .ref hs), (1, .int (nI t0)), (2, .int p1), (3, .int p2), (6, .int y6), (7, .int (nI i18))]) hx hb dX4_afterWalk_54 hl (by decide) rfl (fun ls hl => ?_)
          refine lv_iload hx hb dX4_afterWalk_56 (lv_at hl 7 rfl) ?_
          refine lv_aload_n hx hb dX4_afterWalk_58 rfl (lv_at hl 3 rfl) ?_
          refine lv_iload hx hb dX4_afterWalk_59 (lv_at hl 0 rfl) ?_
          refine lv_aload_n hx hb dX4_afterWalk_61 rfl (lv_at hl 3 rfl) ?_
          refine va_get (D := (dC, dI)) (ci := 4) (v := .ref hh) (C := RX4) (T := TX4) (N := 3) hx hb hts hiX4 hown hK hP 0 rfl rfl 0 (by decide) (hts (.fieldLink RX4 12 "LeftProfile$Scene" "hall" "LLeftProfile$Hall;") (List.mem_of_getElem? (i := 4) rfl)) (fun _ h9 => h9) rfl dX4_afterWalk_62 ?_
          refine va_get (D := (dC, dI)) (ci := 1) (v := .int w0) (C := RX1) (T := TX1) (N := 3) hx hb hts hiX1 hown hK hP 1 rfl rfl 0 (by decide) (hts (.fieldLink RX4 32 "LeftProfile$Hall" "walls" "I") (List.mem_of_getElem? (i := 5) rfl)) (fun _ h9 => h9) rfl dX4_afterWalk_65 ?_
          refine vp_callSi (cz_run (va_runV (As := [.int r_9, .int w0]) (rest := [.int y6]) ⟨hx, hb, hml, hown, hts⟩ (c_X4_guiltyIf l dC dI cI cB hs r_9 w0 hh hc si w0 w1 w2 a0 a1 k0 k1 k2 k3 k4 k5 g1 g2 tw tb ft fb hk6) (cwV 2 hts gX4_afterWalk_X4_guiltyIf rfl rfl rfl (by decide +kernel) ⟨Nat.le_of_ble_eq_true rfl, Nat.le_of_ble_eq_true rfl⟩) (cz_pV hP hN (va_recv hK hP (ci := 4) (q0 := 0) rfl rfl)) rfl rfl hl.1 rfl (lv_room (Nat.le_of_ble_eq_true rfl)) dX4_afterWalk_68 ⟨Nat.le_of_ble_eq_true rfl, Nat.le_of_ble_eq_true rfl⟩)) (fun r_11 hr_11 => ?_)
          refine vp_callSi (cz_run (va_runS (As := [.int r_11]) (rest := [.int y6]) ⟨hx, hb, hml, hown, hts⟩ (c_J6_bitCount_0f7a4 l dC dI cI cB r_11 ) (va_cwS 1 hts gX4_afterWalk_J6_bitCount_0f7a4 rfl rfl rfl (by decide +kernel) ⟨Nat.le_of_ble_eq_true rfl, Nat.le_of_ble_eq_true rfl⟩) (cz_pS (hP.sub (ws' := []) [] rfl) hN) rfl rfl hl.1 rfl (lv_room (Nat.le_of_ble_eq_true rfl)) dX4_afterWalk_71 ⟨Nat.le_of_ble_eq_true rfl, Nat.le_of_ble_eq_true rfl⟩)) (fun r_12 hr_12 => ?_)
          refine lv_iadd hx hb dX4_afterWalk_74 ?_
          refine lv_topi (fun x_13 ex_13 => ?_)
          refine lv_istore (lv' := [(6, .int x_13), (4, .int r_9), (8, .int r_9), (5, .int r_6), (0, .ref hs), (1, .int (nI t0)), (2, .int p1), (3, .int p2), (7, .int (nI i18))]) hx hb dX4_afterWalk_75 hl (by decide) rfl (fun ls hl => ?_)
          refine lv_iinc (v := (nI (i18 + 1))) (lv' := [(7, .int (nI (i18 + 1))), (6, .int x_13), (4, .int r_9), (8, .int r_9), (5, .int r_6), (0, .ref hs), (1, .int (nI t0)), (2, .int p1), (3, .int p2)]) hx hb dX4_afterWalk_77 hl (k := 8) rfl (nI_add i18 1) (by decide) rfl (fun ls hl => ?_)
          refine lv_goto (tgt := 18) hx hb dX4_afterWalk_80 (by decide) ?_
          exact ih18 (i18 + 1) r_9 r_6 x_13 ls (by omega)  (lv_sub hl [5, 6, 7, 8, 2, 4, 1, 0] rfl)
  exact lp18 t0 0 a0 p1 0 ls (by omega)  (lv_sub hl [4, 5, 6, 7, 3, 2, 1, 0] rfl)
