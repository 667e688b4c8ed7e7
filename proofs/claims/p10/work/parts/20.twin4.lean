set_option maxHeartbeats 4000000 in
set_option maxRecDepth 100000 in
theorem c_X7_isRoom (l : Launch) (dC : Nat → ClassId) (dI : Nat → Nat → Nat) (cI cB : ClassId) (h0 : Nat) (t0 : Nat) (ih : Int32) (hn : Int32) (fl : Int32) (da : Int32) (ds : Int32) (ac : Int32) (kc : Nat) (m1 : Nat) (m2 : Nat) (m3 : Nat) (m4 : Nat) (m5 : Nat) (pl : Nat) (pg : Nat) (fa : Int32) (nf : Int32) (m6 : Nat) (m7 : Nat) (m8 : Nat) (sd : Int64) (ik : Int32) (kh : Int32) (km : Nat) (ka : Int32) (ks : Int32) (kac : Int32) (m9 : Nat) (m10 : Nat) (m11 : Nat) (m12 : Nat) (hv : Int64) (g1 : Nat → Int32) (g2 : Nat → Int32) (g6 : Nat → Int32) (hkc : kc ≤ 6) (hpl : cz_pl g2) (hda : cz_in 0 da 19) (ht3 : t0 ≤ 3) (hrm : cz_rm g6 t0) : Met l yX7_isRoom wsX7_isRoom ({ frames := 3, cells := 0, slots := 0, locals := 76 }) (cz_Pp dC dI cI cB [.ref h0, .int (nI t0)] [(h0, .inr (7, [.int ih, .int hn, .int fl, .int da, .int ds, .int ac, .int (nI kc), .ref m1, .ref m2, .ref m3, .ref m4, .ref m5, .int (nI pl), .ref pg, .int fa, .int nf, .ref m6, .ref m7, .ref m8, .long sd, .int ik, .int kh, .int (nI km), .int ka, .int ks, .int kac, .ref m9, .ref m10, .ref m11, .ref m12, .long hv])), (m1, .inl (cI, 6, .inl g1)), (m2, .inl (cI, 6, .inl g2)), (m6, .inl (cI, 3, .inl g6))]) (vp_Si (fun r : Int32 => True)) 0 0 (fun _ => False) := by
  refine cz_of (cc := cX7_isRoom) (maxL := 6) (ret := (some .boolean)) (by decide) rfl ?_
  intro p e s m args below meth c s₁ Q B hml hv hQ
  obtain ⟨rfl, hP, hN⟩ := hv
  have hx := B.exec
  have hb := B.bytes
  have hr := B.returns
  have hts := atoms_spec (ws := wsX7_isRoom) B.pre
  have hown : s.vm.findClass RX7 = some m.cls := findClass_of_methodNamed B.named
  have hlocks := B.notSynchronized
  have hK := hN.1
  have hiX7 : ∀ w ∈ wsX70, w ∈ wsX7_isRoom := (fun _ h => List.mem_cons_of_mem _ (List.mem_append_right _ h))
  have hl := lv_entry ([.ref h0, .int (nI t0)]) (n := 6) (Nat.le_of_ble_eq_true rfl)
  rw [lg_entry_eq]
  generalize (lg_sl ([.ref h0, .int (nI t0)]) ++ List.replicate (6 - (lg_sl ([.ref h0, .int (nI t0)])).length) Slot.unset).toArray = ls at hl ⊢
  have hl : lv_has ls 6 [(0, .ref h0), (1, .int (nI t0))] := hl
  refine lv_iconst (v := 1) hx hb dX7_isRoom_0 (by decide) ?_
  refine lv_istore_n (lv' := [(2, .int 1), (0, .ref h0), (1, .int (nI t0))]) hx hb dX7_isRoom_1 rfl hl (by decide) rfl (fun ls hl => ?_)
  refine lv_iconst (v := 0) hx hb dX7_isRoom_2 (by decide) ?_
  refine lv_istore_n (lv' := [(3, .int 0), (2, .int 1), (0, .ref h0), (1, .int (nI t0))]) hx hb dX7_isRoom_3 rfl hl (by decide) rfl (fun ls hl => ?_)
  have lp4 : ∀ (n4 : Nat) (i4 : Nat) (y2 : Int32) (ls : Array Slot), i4 + n4 = (kc + t0) → y2 = 0 ∨ y2 = 1 → lv_has ls 6 [(0, .ref h0), (1, .int (nI t0)), (2, .int y2), (3, .int (nI i4))] → W p l e ({ frames := 3, cells := 0, slots := 0, locals := 76 } : Room) s m #[Value.ref h0, Value.int (nI t0)] below meth c s.heap [] 0 0 Q (F0 m 4 ls []) := by
    intro n4
    induction n4 with
    | zero =>
      intro i4 y2 ls hi4 h01 hl
      refine lv_iload_n hx hb dX7_isRoom_4 rfl (lv_at hl 3 rfl) ?_
      refine lv_aload_n hx hb dX7_isRoom_5 rfl (lv_at hl 0 rfl) ?_
      refine va_get (D := (dC, dI)) (ci := 7) (v := .int (nI kc)) (C := RX7) (T := TX7) (N := 31) hx hb hts hiX7 hown hK hP 0 rfl rfl 6 (by decide) (hts (.fieldLink RX7 86 "LeftProfileModel" "courtiers" "I") (List.mem_of_getElem? (i := 1) rfl)) (fun _ h9 => h9) rfl dX7_isRoom_6 ?_
      refine lv_iload_n hx hb dX7_isRoom_9 rfl (lv_at hl 1 rfl) ?_
      refine lv_iadd hx hb dX7_isRoom_10 ?_
      refine cz_i (y := (nI (kc + t0))) (nI_add kc t0) ?_
      refine lv_icmp_ge (tgt := 92) hx hb dX7_isRoom_11 (by decide) (fun c_1 => ?_) (fun c_1 => ?_)
      · refine lv_iload_n hx hb dX7_isRoom_92 rfl (lv_at hl 2 rfl) ?_
        rw [hQ]; exact W.zret (v := y2) hx hb hr (cz_nar h01) (fun t ht hW => ⟨y2, rfl, trivial, ht⟩) (fun _ h => absurd h List.not_mem_nil) dX7_isRoom_93
      · exact absurd (show nI (kc + t0) ≤ nI i4 from nI_le (a := (kc + t0)) (b := i4) (by omega) (by omega)) c_1
    | succ n4 ih4 =>
      intro i4 y2 ls hi4 h01 hl
      refine lv_iload_n hx hb dX7_isRoom_4 rfl (lv_at hl 3 rfl) ?_
      refine lv_aload_n hx hb dX7_isRoom_5 rfl (lv_at hl 0 rfl) ?_
      refine va_get (D := (dC, dI)) (ci := 7) (v := .int (nI kc)) (C := RX7) (T := TX7) (N := 31) hx hb hts hiX7 hown hK hP 0 rfl rfl 6 (by decide) (hts (.fieldLink RX7 86 "LeftProfileModel" "courtiers" "I") (List.mem_of_getElem? (i := 1) rfl)) (fun _ h9 => h9) rfl dX7_isRoom_6 ?_
      refine lv_iload_n hx hb dX7_isRoom_9 rfl (lv_at hl 1 rfl) ?_
      refine lv_iadd hx hb dX7_isRoom_10 ?_
      refine cz_i (y := (nI (kc + t0))) (nI_add kc t0) ?_
      refine lv_icmp_ge (tgt := 92) hx hb dX7_isRoom_11 (by decide) (fun c_2 => ?_) (fun c_2 => ?_)
      · exact absurd c_2 (show ¬ nI (kc + t0) ≤ nI i4 from nI_ge (a := i4) (b := (kc + t0)) (by omega) (by omega))
      · refine lv_iload_n hx hb dX7_isRoom_14 rfl (lv_at hl 3 rfl) ?_
        refine lv_aload_n hx hb dX7_isRoom_15 rfl (lv_at hl 0 rfl) ?_
        refine va_get (D := (dC, dI)) (ci := 7) (v := .int (nI kc)) (C := RX7) (T := TX7) (N := 31) hx hb hts hiX7 hown hK hP 0 rfl rfl 6 (by decide) (hts (.fieldLink RX7 86 "LeftProfileModel" "courtiers" "I") (List.mem_of_getElem? (i := 1) rfl)) (fun _ h9 => h9) rfl dX7_isRoom_16 ?_
        refine lv_icmp_ge (tgt := 31) hx hb dX7_isRoom_19 (by decide) (fun c_3 => ?_) (fun c_3 => ?_)
        · have c_3 : kc ≤ i4 := (nI_leI (a := kc) (b := i4) (by omega) (by omega)).mp c_3
          refine lv_iconst (v := 0) hx hb dX7_isRoom_31 (by decide) ?_
          refine lv_istore (lv' := [(4, .int 0), (0, .ref h0), (1, .int (nI t0)), (2, .int y2), (3, .int (nI i4))]) hx hb dX7_isRoom_32 hl (by decide) rfl (fun ls hl => ?_)
          refine lv_iload_n hx hb dX7_isRoom_34 rfl (lv_at hl 4 rfl) ?_
          refine lv_aload_n hx hb dX7_isRoom_35 rfl (lv_at hl 1 rfl) ?_
          refine va_get (D := (dC, dI)) (ci := 7) (v := .int (nI kc)) (C := RX7) (T := TX7) (N := 31) hx hb hts hiX7 hown hK hP 0 rfl rfl 6 (by decide) (hts (.fieldLink RX7 86 "LeftProfileModel" "courtiers" "I") (List.mem_of_getElem? (i := 1) rfl)) (fun _ h9 => h9) rfl dX7_isRoom_36 ?_
          refine lv_icmp_ge (tgt := 51) hx hb dX7_isRoom_39 (by decide) (fun c_4 => ?_) (fun c_4 => ?_)
          · have c_4 : kc ≤ i4 := (nI_leI (a := kc) (b := i4) (by omega) (by omega)).mp c_4
            refine lv_aload_n hx hb dX7_isRoom_51 rfl (lv_at hl 1 rfl) ?_
            refine va_get (D := (dC, dI)) (ci := 7) (v := .ref m6) (C := RX7) (T := TX7) (N := 31) hx hb hts hiX7 hown hK hP 0 rfl rfl 16 (by decide) (hts (.fieldLink RX7 36 "LeftProfileModel" "roomAt" "[I") (List.mem_of_getElem? (i := 4) rfl)) (fun _ h9 => h9) rfl dX7_isRoom_52 ?_
            refine lv_iload_n hx hb dX7_isRoom_55 rfl (lv_at hl 4 rfl) ?_
            refine lv_aload_n hx hb dX7_isRoom_56 rfl (lv_at hl 1 rfl) ?_
            refine va_get (D := (dC, dI)) (ci := 7) (v := .int (nI kc)) (C := RX7) (T := TX7) (N := 31) hx hb hts hiX7 hown hK hP 0 rfl rfl 6 (by decide) (hts (.fieldLink RX7 86 "LeftProfileModel" "courtiers" "I") (List.mem_of_getElem? (i := 1) rfl)) (fun _ h9 => h9) rfl dX7_isRoom_57 ?_
            refine lv_isub hx hb dX7_isRoom_60 ?_
            refine cz_i (y := (nI (i4 - kc))) (pk_sub (a := i4) (b := kc) (by omega)) ?_
            refine va_iald hx hb hK hP 3 0 rfl rfl (vp_in_nI (n := (i4 - kc)) (by omega) (by omega)) dX7_isRoom_61 ?_
            refine cz_i (y := (g6 (i4 - kc))) (congrArg g6 (nI_clamp (n := (i4 - kc)) (by omega))) ?_
            refine lv_istore (lv' := [(5, .int (g6 (i4 - kc))), (4, .int 0), (0, .ref h0), (1, .int (nI t0)), (2, .int y2), (3, .int (nI i4))]) hx hb dX7_isRoom_62 hl (by decide) rfl (fun ls hl => ?_)
            refine lv_iload_n hx hb dX7_isRoom_64 rfl (lv_at hl 4 rfl) ?_
            refine lv_if_eq (tgt := 84) hx hb dX7_isRoom_65 (by decide) (fun c_5 => ?_) (fun c_5 => ?_)
            · refine lv_iconst (v := 0) hx hb dX7_isRoom_84 (by decide) ?_
              refine lv_istore_n (lv' := [(2, .int 0), (5, .int (g6 (i4 - kc))), (4, .int 0), (0, .ref h0), (1, .int (nI t0)), (3, .int (nI i4))]) hx hb dX7_isRoom_85 rfl hl (by decide) rfl (fun ls hl => ?_)
              refine lv_iinc (v := (nI (i4 + 1))) (lv' := [(3, .int (nI (i4 + 1))), (2, .int 0), (5, .int (g6 (i4 - kc))), (4, .int 0), (0, .ref h0), (1, .int (nI t0))]) hx hb dX7_isRoom_86 hl (k := 5) rfl (nI_add i4 1) (by decide) rfl (fun ls hl => ?_)
              refine lv_goto (tgt := 4) hx hb dX7_isRoom_89 (by decide) ?_
              exact ih4 (i4 + 1) 0 ls (by omega) (Or.inl rfl) (lv_sub hl [4, 5, 1, 0] rfl)
            · refine lv_aload_n hx hb dX7_isRoom_68 rfl (lv_at hl 2 rfl) ?_
              refine lv_iload hx hb dX7_isRoom_69 (lv_at hl 1 rfl) ?_
              refine lv_iload hx hb dX7_isRoom_71 (lv_at hl 0 rfl) ?_
              refine lv_iload_n hx hb dX7_isRoom_73 rfl (lv_at hl 3 rfl) ?_
              refine vp_callSi (cz_run (va_runV (As := [.int 0, .int (g6 (i4 - kc)), .int (nI t0)]) (rest := []) ⟨hx, hb, hml, hown, hts⟩ (c_X7_isGuiltyAt l dC dI cI cB h0 0 (g6 (i4 - kc)) t0 ih hn fl da ds ac kc m1 m2 m3 m4 m5 pl pg fa nf m6 m7 m8 sd ik kh km ka ks kac m9 m10 m11 m12 hv g2 g6 hkc hda ht3 (hrm (i4 - kc) (by omega))) (cwV 3 hts gX7_isRoom_X7_isGuiltyAt rfl rfl rfl (by decide +kernel) ⟨Nat.le_of_ble_eq_true rfl, Nat.le_of_ble_eq_true rfl⟩) (cz_pV (hP.sub (ws' := [(h0, .inr (7, [.int ih, .int hn, .int fl, .int da, .int ds, .int ac, .int (nI kc), .ref m1, .ref m2, .ref m3, .ref m4, .ref m5, .int (nI pl), .ref pg, .int fa, .int nf, .ref m6, .ref m7, .ref m8, .long sd, .int ik, .int kh, .int (nI km), .int ka, .int ks, .int kac, .ref m9, .ref m10, .ref m11, .ref m12, .long hv])), (m2, .inl (cI, 6, .inl g2)), (m6, .inl (cI, 3, .inl g6))]) [0, 2, 3] rfl) hN (va_recv hK (hP.sub (ws' := [(h0, .inr (7, [.int ih, .int hn, .int fl, .int da, .int ds, .int ac, .int (nI kc), .ref m1, .ref m2, .ref m3, .ref m4, .ref m5, .int (nI pl), .ref pg, .int fa, .int nf, .ref m6, .ref m7, .ref m8, .long sd, .int ik, .int kh, .int (nI km), .int ka, .int ks, .int kac, .ref m9, .ref m10, .ref m11, .ref m12, .long hv])), (m2, .inl (cI, 6, .inl g2)), (m6, .inl (cI, 3, .inl g6))]) [0, 2, 3] rfl) (ci := 7) (q0 := 0) rfl rfl)) rfl rfl hl.1 rfl (lv_room (Nat.le_of_ble_eq_true rfl)) dX7_isRoom_74 ⟨Nat.le_of_ble_eq_true rfl, Nat.le_of_ble_eq_true rfl⟩)) (fun r_6 hr_6 => ?_)
              refine lv_if_ne (tgt := 84) hx hb dX7_isRoom_77 (by decide) (fun c_7 => ?_) (fun c_7 => ?_)
              · refine lv_iconst (v := 0) hx hb dX7_isRoom_84 (by decide) ?_
                refine lv_istore_n (lv' := [(2, .int 0), (5, .int (g6 (i4 - kc))), (4, .int 0), (0, .ref h0), (1, .int (nI t0)), (3, .int (nI i4))]) hx hb dX7_isRoom_85 rfl hl (by decide) rfl (fun ls hl => ?_)
                refine lv_iinc (v := (nI (i4 + 1))) (lv' := [(3, .int (nI (i4 + 1))), (2, .int 0), (5, .int (g6 (i4 - kc))), (4, .int 0), (0, .ref h0), (1, .int (nI t0))]) hx hb dX7_isRoom_86 hl (k := 5) rfl (nI_add i4 1) (by decide) rfl (fun ls hl => ?_)
                refine lv_goto (tgt := 4) hx hb dX7_isRoom_89 (by decide) ?_
                exact ih4 (i4 + 1) 0 ls (by omega) (Or.inl rfl) (lv_sub hl [4, 5, 1, 0] rfl)
              · refine lv_iconst (v := 1) hx hb dX7_isRoom_80 (by decide) ?_
                refine lv_goto (tgt := 85) hx hb dX7_isRoom_81 (by decide) ?_
                refine lv_istore_n (lv' := [(2, .int 1), (5, .int (g6 (i4 - kc))), (4, .int 0), (0, .ref h0), (1, .int (nI t0)), (3, .int (nI i4))]) hx hb dX7_isRoom_85 rfl hl (by decide) rfl (fun ls hl => ?_)
                refine lv_iinc (v := (nI (i4 + 1))) (lv' := [(3, .int (nI (i4 + 1))), (2, .int 1), (5, .int (g6 (i4 - kc))), (4, .int 0), (0, .ref h0), (1, .int (nI t0))]) hx hb dX7_isRoom_86 hl (k := 5) rfl (nI_add i4 1) (by decide) rfl (fun ls hl => ?_)
                refine lv_goto (tgt := 4) hx hb dX7_isRoom_89 (by decide) ?_
                exact ih4 (i4 + 1) 1 ls (by omega) (Or.inr rfl) (lv_sub hl [4, 5, 1, 0] rfl)
          · have c_4 : ¬ kc ≤ i4 := fun h => c_4 ((nI_leI (a := kc) (b := i4) (by omega) (by omega)).mpr h)
            refine lv_aload_n hx hb dX7_isRoom_42 rfl (lv_at hl 1 rfl) ?_
            refine va_get (D := (dC, dI)) (ci := 7) (v := .ref m2) (C := RX7) (T := TX7) (N := 31) hx hb hts hiX7 hown hK hP 0 rfl rfl 8 (by decide) (hts (.fieldLink RX7 20 "LeftProfileModel" "placeOf" "[I") (List.mem_of_getElem? (i := 3) rfl)) (fun _ h9 => h9) rfl dX7_isRoom_43 ?_
            refine lv_iload_n hx hb dX7_isRoom_46 rfl (lv_at hl 4 rfl) ?_
            refine va_iald hx hb hK hP 2 0 rfl rfl (vp_in_nI (n := i4) (by omega) (by omega)) dX7_isRoom_47 ?_
            refine cz_i (y := (g2 i4)) (congrArg g2 (nI_clamp (n := i4) (by omega))) ?_
            refine lv_goto (tgt := 62) hx hb dX7_isRoom_48 (by decide) ?_
            refine lv_istore (lv' := [(5, .int (g2 i4)), (4, .int 0), (0, .ref h0), (1, .int (nI t0)), (2, .int y2), (3, .int (nI i4))]) hx hb dX7_isRoom_62 hl (by decide) rfl (fun ls hl => ?_)
            refine lv_iload_n hx hb dX7_isRoom_64 rfl (lv_at hl 4 rfl) ?_
            refine lv_if_eq (tgt := 84) hx hb dX7_isRoom_65 (by decide) (fun c_8 => ?_) (fun c_8 => ?_)
            · refine lv_iconst (v := 0) hx hb dX7_isRoom_84 (by decide) ?_
              refine lv_istore_n (lv' := [(2, .int 0), (5, .int (g2 i4)), (4, .int 0), (0, .ref h0), (1, .int (nI t0)), (3, .int (nI i4))]) hx hb dX7_isRoom_85 rfl hl (by decide) rfl (fun ls hl => ?_)
              refine lv_iinc (v := (nI (i4 + 1))) (lv' := [(3, .int (nI (i4 + 1))), (2, .int 0), (5, .int (g2 i4)), (4, .int 0), (0, .ref h0), (1, .int (nI t0))]) hx hb dX7_isRoom_86 hl (k := 5) rfl (nI_add i4 1) (by decide) rfl (fun ls hl => ?_)
              refine lv_goto (tgt := 4) hx hb dX7_isRoom_89 (by decide) ?_
              exact ih4 (i4 + 1) 0 ls (by omega) (Or.inl rfl) (lv_sub hl [4, 5, 1, 0] rfl)
            · refine lv_aload_n hx hb dX7_isRoom_68 rfl (lv_at hl 2 rfl) ?_
              refine lv_iload hx hb dX7_isRoom_69 (lv_at hl 1 rfl) ?_
              refine lv_iload hx hb dX7_isRoom_71 (lv_at hl 0 rfl) ?_
              refine lv_iload_n hx hb dX7_isRoom_73 rfl (lv_at hl 3 rfl) ?_
              refine vp_callSi (cz_run (va_runV (As := [.int 0, .int (g2 i4), .int (nI t0)]) (rest := []) ⟨hx, hb, hml, hown, hts⟩ (c_X7_isGuiltyAt l dC dI cI cB h0 0 (g2 i4) t0 ih hn fl da ds ac kc m1 m2 m3 m4 m5 pl pg fa nf m6 m7 m8 sd ik kh km ka ks kac m9 m10 m11 m12 hv g2 g6 hkc hda ht3 (hpl i4 (by omega))) (cwV 3 hts gX7_isRoom_X7_isGuiltyAt rfl rfl rfl (by decide +kernel) ⟨Nat.le_of_ble_eq_true rfl, Nat.le_of_ble_eq_true rfl⟩) (cz_pV (hP.sub (ws' := [(h0, .inr (7, [.int ih, .int hn, .int fl, .int da, .int ds, .int ac, .int (nI kc), .ref m1, .ref m2, .ref m3, .ref m4, .ref m5, .int (nI pl), .ref pg, .int fa, .int nf, .ref m6, .ref m7, .ref m8, .long sd, .int ik, .int kh, .int (nI km), .int ka, .int ks, .int kac, .ref m9, .ref m10, .ref m11, .ref m12, .long hv])), (m2, .inl (cI, 6, .inl g2)), (m6, .inl (cI, 3, .inl g6))]) [0, 2, 3] rfl) hN (va_recv hK (hP.sub (ws' := [(h0, .inr (7, [.int ih, .int hn, .int fl, .int da, .int ds, .int ac, .int (nI kc), .ref m1, .ref m2, .ref m3, .ref m4, .ref m5, .int (nI pl), .ref pg, .int fa, .int nf, .ref m6, .ref m7, .ref m8, .long sd, .int ik, .int kh, .int (nI km), .int ka, .int ks, .int kac, .ref m9, .ref m10, .ref m11, .ref m12, .long hv])), (m2, .inl (cI, 6, .inl g2)), (m6, .inl (cI, 3, .inl g6))]) [0, 2, 3] rfl) (ci := 7) (q0 := 0) rfl rfl)) rfl rfl hl.1 rfl (lv_room (Nat.le_of_ble_eq_true rfl)) dX7_isRoom_74 ⟨Nat.le_of_ble_eq_true rfl, Nat.le_of_ble_eq_true rfl⟩)) (fun r_9 hr_9 => ?_)
              refine lv_if_ne (tgt := 84) hx hb dX7_isRoom_77 (by decide) (fun c_10 => ?_) (fun c_10 => ?_)
              · refine lv_iconst (v := 0) hx hb dX7_isRoom_84 (by decide) ?_
                refine lv_istore_n (lv' := [(2, .int 0), (5, .int (g2 i4)), (4, .int 0), (0, .ref h0), (1, .int (nI t0)), (3, .int (nI i4))]) hx hb dX7_isRoom_85 rfl hl (by decide) rfl (fun ls hl => ?_)
                refine lv_iinc (v := (nI (i4 + 1))) (lv' := [(3, .int (nI (i4 + 1))), (2, .int 0), (5, .int (g2 i4)), (4, .int 0), (0, .ref h0), (1, .int (nI t0))]) hx hb dX7_isRoom_86 hl (k := 5) rfl (nI_add i4 1) (by decide) rfl (fun ls hl => ?_)
                refine lv_goto (tgt := 4) hx hb dX7_isRoom_89 (by decide) ?_
                exact ih4 (i4 + 1) 0 ls (by omega) (Or.inl rfl) (lv_sub hl [4, 5, 1, 0] rfl)
              · refine lv_iconst (v := 1) hx hb dX7_isRoom_80 (by decide) ?_
                refine lv_goto (tgt := 85) hx hb dX7_isRoom_81 (by decide) ?_
                refine lv_istore_n (lv' := [(2, .int 1), (5, .int (g2 i4)), (4, .int 0), (0, .ref h0), (1, .int (nI t0)), (3, .int (nI i4))]) hx hb dX7_isRoom_85 rfl hl (by decide) rfl (fun ls hl => ?_)
                refine lv_iinc (v := (nI (i4 + 1))) (lv' := [(3, .int (nI (i4 + 1))), (2, .int 1), (5, .int (g2 i4)), (4, .int 0), (0, .ref h0), (1, .int (nI t0))]) hx hb dX7_isRoom_86 hl (k := 5) rfl (nI_add i4 1) (by decide) rfl (fun ls hl => ?_)
                refine lv_goto (tgt := 4) hx hb dX7_isRoom_89 (by decide) ?_
                exact ih4 (i4 + 1) 1 ls (by omega) (Or.inr rfl) (lv_sub hl [4, 5, 1, 0] rfl)
        · have c_3 : ¬ kc ≤ i4 := fun h => c_3 ((nI_leI (a := kc) (b := i4) (by omega) (by omega)).mpr h)
          refine lv_aload_n hx hb dX7_isRoom_22 rfl (lv_at hl 0 rfl) ?_
          refine va_get (D := (dC, dI)) (ci := 7) (v := .ref m1) (C := RX7) (T := TX7) (N := 31) hx hb hts hiX7 hown hK hP 0 rfl rfl 7 (by decide) (hts (.fieldLink RX7 16 "LeftProfileModel" "kindOf" "[I") (List.mem_of_getElem? (i := 2) rfl)) (fun _ h9 => h9) rfl dX7_isRoom_23 ?_
          refine lv_iload_n hx hb dX7_isRoom_26 rfl (lv_at hl 3 rfl) ?_
          refine va_iald hx hb hK hP 1 0 rfl rfl (vp_in_nI (n := i4) (by omega) (by omega)) dX7_isRoom_27 ?_
          refine cz_i (y := (g1 i4)) (congrArg g1 (nI_clamp (n := i4) (by omega))) ?_
          refine lv_goto (tgt := 32) hx hb dX7_isRoom_28 (by decide) ?_
          refine lv_istore (lv' := [(4, .int (g1 i4)), (0, .ref h0), (1, .int (nI t0)), (2, .int y2), (3, .int (nI i4))]) hx hb dX7_isRoom_32 hl (by decide) rfl (fun ls hl => ?_)
          refine lv_iload_n hx hb dX7_isRoom_34 rfl (lv_at hl 4 rfl) ?_
          refine lv_aload_n hx hb dX7_isRoom_35 rfl (lv_at hl 1 rfl) ?_
          refine va_get (D := (dC, dI)) (ci := 7) (v := .int (nI kc)) (C := RX7) (T := TX7) (N := 31) hx hb hts hiX7 hown hK hP 0 rfl rfl 6 (by decide) (hts (.fieldLink RX7 86 "LeftProfileModel" "courtiers" "I") (List.mem_of_getElem? (i := 1) rfl)) (fun _ h9 => h9) rfl dX7_isRoom_36 ?_
          refine lv_icmp_ge (tgt := 51) hx hb dX7_isRoom_39 (by decide) (fun c_11 => ?_) (fun c_11 => ?_)
          · have c_11 : kc ≤ i4 := (nI_leI (a := kc) (b := i4) (by omega) (by omega)).mp c_11
            refine lv_aload_n hx hb dX7_isRoom_51 rfl (lv_at hl 1 rfl) ?_
            refine va_get (D := (dC, dI)) (ci := 7) (v := .ref m6) (C := RX7) (T := TX7) (N := 31) hx hb hts hiX7 hown hK hP 0 rfl rfl 16 (by decide) (hts (.fieldLink RX7 36 "LeftProfileModel" "roomAt" "[I") (List.mem_of_getElem? (i := 4) rfl)) (fun _ h9 => h9) rfl dX7_isRoom_52 ?_
            refine lv_iload_n hx hb dX7_isRoom_55 rfl (lv_at hl 4 rfl) ?_
            refine lv_aload_n hx hb dX7_isRoom_56 rfl (lv_at hl 1 rfl) ?_
            refine va_get (D := (dC, dI)) (ci := 7) (v := .int (nI kc)) (C := RX7) (T := TX7) (N := 31) hx hb hts hiX7 hown hK hP 0 rfl rfl 6 (by decide) (hts (.fieldLink RX7 86 "LeftProfileModel" "courtiers" "I") (List.mem_of_getElem? (i := 1) rfl)) (fun _ h9 => h9) rfl dX7_isRoom_57 ?_
            refine lv_isub hx hb dX7_isRoom_60 ?_
            refine cz_i (y := (nI (i4 - kc))) (pk_sub (a := i4) (b := kc) (by omega)) ?_
            refine va_iald hx hb hK hP 3 0 rfl rfl (vp_in_nI (n := (i4 - kc)) (by omega) (by omega)) dX7_isRoom_61 ?_
            refine cz_i (y := (g6 (i4 - kc))) (congrArg g6 (nI_clamp (n := (i4 - kc)) (by omega))) ?_
            refine lv_istore (lv' := [(5, .int (g6 (i4 - kc))), (4, .int (g1 i4)), (0, .ref h0), (1, .int (nI t0)), (2, .int y2), (3, .int (nI i4))]) hx hb dX7_isRoom_62 hl (by decide) rfl (fun ls hl => ?_)
            refine lv_iload_n hx hb dX7_isRoom_64 rfl (lv_at hl 4 rfl) ?_
            refine lv_if_eq (tgt := 84) hx hb dX7_isRoom_65 (by decide) (fun c_12 => ?_) (fun c_12 => ?_)
            · refine lv_iconst (v := 0) hx hb dX7_isRoom_84 (by decide) ?_
              refine lv_istore_n (lv' := [(2, .int 0), (5, .int (g6 (i4 - kc))), (4, .int (g1 i4)), (0, .ref h0), (1, .int (nI t0)), (3, .int (nI i4))]) hx hb dX7_isRoom_85 rfl hl (by decide) rfl (fun ls hl => ?_)
              refine lv_iinc (v := (nI (i4 + 1))) (lv' := [(3, .int (nI (i4 + 1))), (2, .int 0), (5, .int (g6 (i4 - kc))), (4, .int (g1 i4)), (0, .ref h0), (1, .int (nI t0))]) hx hb dX7_isRoom_86 hl (k := 5) rfl (nI_add i4 1) (by decide) rfl (fun ls hl => ?_)
              refine lv_goto (tgt := 4) hx hb dX7_isRoom_89 (by decide) ?_
              exact ih4 (i4 + 1) 0 ls (by omega) (Or.inl rfl) (lv_sub hl [4, 5, 1, 0] rfl)
            · refine lv_aload_n hx hb dX7_isRoom_68 rfl (lv_at hl 2 rfl) ?_
              refine lv_iload hx hb dX7_isRoom_69 (lv_at hl 1 rfl) ?_
              refine lv_iload hx hb dX7_isRoom_71 (lv_at hl 0 rfl) ?_
              refine lv_iload_n hx hb dX7_isRoom_73 rfl (lv_at hl 3 rfl) ?_
              refine vp_callSi (cz_run (va_runV (As := [.int (g1 i4), .int (g6 (i4 - kc)), .int (nI t0)]) (rest := []) ⟨hx, hb, hml, hown, hts⟩ (c_X7_isGuiltyAt l dC dI cI cB h0 (g1 i4) (g6 (i4 - kc)) t0 ih hn fl da ds ac kc m1 m2 m3 m4 m5 pl pg fa nf m6 m7 m8 sd ik kh km ka ks kac m9 m10 m11 m12 hv g2 g6 hkc hda ht3 (hrm (i4 - kc) (by omega))) (cwV 3 hts gX7_isRoom_X7_isGuiltyAt rfl rfl rfl (by decide +kernel) ⟨Nat.le_of_ble_eq_true rfl, Nat.le_of_ble_eq_true rfl⟩) (cz_pV (hP.sub (ws' := [(h0, .inr (7, [.int ih, .int hn, .int fl, .int da, .int ds, .int ac, .int (nI kc), .ref m1, .ref m2, .ref m3, .ref m4, .ref m5, .int (nI pl), .ref pg, .int fa, .int nf, .ref m6, .ref m7, .ref m8, .long sd, .int ik, .int kh, .int (nI km), .int ka, .int ks, .int kac, .ref m9, .ref m10, .ref m11, .ref m12, .long hv])), (m2, .inl (cI, 6, .inl g2)), (m6, .inl (cI, 3, .inl g6))]) [0, 2, 3] rfl) hN (va_recv hK (hP.sub (ws' := [(h0, .inr (7, [.int ih, .int hn, .int fl, .int da, .int ds, .int ac, .int (nI kc), .ref m1, .ref m2, .ref m3, .ref m4, .ref m5, .int (nI pl), .ref pg, .int fa, .int nf, .ref m6, .ref m7, .ref m8, .long sd, .int ik, .int kh, .int (nI km), .int ka, .int ks, .int kac, .ref m9, .ref m10, .ref m11, .ref m12, .long hv])), (m2, .inl (cI, 6, .inl g2)), (m6, .inl (cI, 3, .inl g6))]) [0, 2, 3] rfl) (ci := 7) (q0 := 0) rfl rfl)) rfl rfl hl.1 rfl (lv_room (Nat.le_of_ble_eq_true rfl)) dX7_isRoom_74 ⟨Nat.le_of_ble_eq_true rfl, Nat.le_of_ble_eq_true rfl⟩)) (fun r_13 hr_13 => ?_)
              refine lv_if_ne (tgt := 84) hx hb dX7_isRoom_77 (by decide) (fun c_14 => ?_) (fun c_14 => ?_)
              · refine lv_iconst (v := 0) hx hb dX7_isRoom_84 (by decide) ?_
                refine lv_istore_n (lv' := [(2, .int 0), (5, .int (g6 (i4 - kc))), (4, .int (g1 i4)), (0, .ref h0), (1, .int (nI t0)), (3, .int (nI i4))]) hx hb dX7_isRoom_85 rfl hl (by decide) rfl (fun ls hl => ?_)
                refine lv_iinc (v := (nI (i4 + 1))) (lv' := [(3, .int (nI (i4 + 1))), (2, .int 0), (5, .int (g6 (i4 - kc))), (4, .int (g1 i4)), (0, .ref h0), (1, .int (nI t0))]) hx hb dX7_isRoom_86 hl (k := 5) rfl (nI_add i4 1) (by decide) rfl (fun ls hl => ?_)
                refine lv_goto (tgt := 4) hx hb dX7_isRoom_89 (by decide) ?_
                exact ih4 (i4 + 1) 0 ls (by omega) (Or.inl rfl) (lv_sub hl [4, 5, 1, 0] rfl)
              · refine lv_iconst (v := 1) hx hb dX7_isRoom_80 (by decide) ?_
                refine lv_goto (tgt := 85) hx hb dX7_isRoom_81 (by decide) ?_
                refine lv_istore_n (lv' := [(2, .int 1), (5, .int (g6 (i4 - kc))), (4, .int (g1 i4)), (0, .ref h0), (1, .int (nI t0)), (3, .int (nI i4))]) hx hb dX7_isRoom_85 rfl hl (by decide) rfl (fun ls hl => ?_)
                refine lv_iinc (v := (nI (i4 + 1))) (lv' := [(3, .int (nI (i4 + 1))), (2, .int 1), (5, .int (g6 (i4 - kc))), (4, .int (g1 i4)), (0, .ref h0), (1, .int (nI t0))]) hx hb dX7_isRoom_86 hl (k := 5) rfl (nI_add i4 1) (by decide) rfl (fun ls hl => ?_)
                refine lv_goto (tgt := 4) hx hb dX7_isRoom_89 (by decide) ?_
                exact ih4 (i4 + 1) 1 ls (by omega) (Or.inr rfl) (lv_sub hl [4, 5, 1, 0] rfl)
          · have c_11 : ¬ kc ≤ i4 := fun h => c_11 ((nI_leI (a := kc) (b := i4) (by omega) (by omega)).mpr h)
            refine lv_aload_n hx hb dX7_isRoom_42 rfl (lv_at hl 1 rfl) ?_
            refine va_get (D := (dC, dI)) (ci := 7) (v := .ref m2) (C := RX7) (T := TX7) (N := 31) hx hb hts hiX7 hown hK hP 0 rfl rfl 8 (by decide) (hts (.fieldLink RX7 20 "LeftProfileModel" "placeOf" "[I") (List.mem_of_getElem? (i := 3) rfl)) (fun _ h9 => h9) rfl dX7_isRoom_43 ?_
            refine lv_iload_n hx hb dX7_isRoom_46 rfl (lv_at hl 4 rfl) ?_
            refine va_iald hx hb hK hP 2 0 rfl rfl (vp_in_nI (n := i4) (by omega) (by omega)) dX7_isRoom_47 ?_
            refine cz_i (y := (g2 i4)) (congrArg g2 (nI_clamp (n := i4) (by omega))) ?_
            refine lv_goto (tgt := 62) hx hb dX7_isRoom_48 (by decide) ?_
            refine lv_istore (lv' := [(5, .int (g2 i4)), (4, .int (g1 i4)), (0, .ref h0), (1, .int (nI t0)), (2, .int y2), (3, .int (nI i4))]) hx hb dX7_isRoom_62 hl (by decide) rfl (fun ls hl => ?_)
            refine lv_iload_n hx hb dX7_isRoom_64 rfl (lv_at hl 4 rfl) ?_
            refine lv_if_eq (tgt := 84) hx hb dX7_isRoom_65 (by decide) (fun c_15 => ?_) (fun c_15 => ?_)
            · refine lv_iconst (v := 0) hx hb dX7_isRoom_84 (by decide) ?_
              refine lv_istore_n (lv' := [(2, .int 0), (5, .int (g2 i4)), (4, .int (g1 i4)), (0, .ref h0), (1, .int (nI t0)), (3, .int (nI i4))]) hx hb dX7_isRoom_85 rfl hl (by decide) rfl (fun ls hl => ?_)
              refine lv_iinc (v := (nI (i4 + 1))) (lv' := [(3, .int (nI (i4 + 1))), (2, .int 0), (5, .int (g2 i4)), (4, .int (g1 i4)), (0, .ref h0), (1, .int (nI t0))]) hx hb dX7_isRoom_86 hl (k := 5) rfl (nI_add i4 1) (by decide) rfl (fun ls hl => ?_)
              refine lv_goto (tgt := 4) hx hb dX7_isRoom_89 (by decide) ?_
              exact ih4 (i4 + 1) 0 ls (by omega) (Or.inl rfl) (lv_sub hl [4, 5, 1, 0] rfl)
            · refine lv_aload_n hx hb dX7_isRoom_68 rfl (lv_at hl 2 rfl) ?_
              refine lv_iload hx hb dX7_isRoom_69 (lv_at hl 1 rfl) ?_
              refine lv_iload hx hb dX7_isRoom_71 (lv_at hl 0 rfl) ?_
              refine lv_iload_n hx hb dX7_isRoom_73 rfl (lv_at hl 3 rfl) ?_
              refine vp_callSi (cz_run (va_runV (As := [.int (g1 i4), .int (g2 i4), .int (nI t0)]) (rest := []) ⟨hx, hb, hml, hown, hts⟩ (c_X7_isGuiltyAt l dC dI cI cB h0 (g1 i4) (g2 i4) t0 ih hn fl da ds ac kc m1 m2 m3 m4 m5 pl pg fa nf m6 m7 m8 sd ik kh km ka ks kac m9 m10 m11 m12 hv g2 g6 hkc hda ht3 (hpl i4 (by omega))) (cwV 3 hts gX7_isRoom_X7_isGuiltyAt rfl rfl rfl (by decide +kernel) ⟨Nat.le_of_ble_eq_true rfl, Nat.le_of_ble_eq_true rfl⟩) (cz_pV (hP.sub (ws' := [(h0, .inr (7, [.int ih, .int hn, .int fl, .int da, .int ds, .int ac, .int (nI kc), .ref m1, .ref m2, .ref m3, .ref m4, .ref m5, .int (nI pl), .ref pg, .int fa, .int nf, .ref m6, .ref m7, .ref m8, .long sd, .int ik, .int kh, .int (nI km), .int ka, .int ks, .int kac, .ref m9, .ref m10, .ref m11, .ref m12, .long hv])), (m2, .inl (cI, 6, .inl g2)), (m6, .inl (cI, 3, .inl g6))]) [0, 2, 3] rfl) hN (va_recv hK (hP.sub (ws' := [(h0, .inr (7, [.int ih, .int hn, .int fl, .int da, .int ds, .int ac, .int (nI kc), .ref m1, .ref m2, .ref m3, .ref m4, .ref m5, .int (nI pl), .ref pg, .int fa, .int nf, .ref m6, .ref m7, .ref m8, .long sd, .int ik, .int kh, .int (nI km), .int ka, .int ks, .int kac, .ref m9, .ref m10, .ref m11, .ref m12, .long hv])), (m2, .inl (cI, 6, .inl g2)), (m6, .inl (cI, 3, .inl g6))]) [0, 2, 3] rfl) (ci := 7) (q0 := 0) rfl rfl)) rfl rfl hl.1 rfl (lv_room (Nat.le_of_ble_eq_true rfl)) dX7_isRoom_74 ⟨Nat.le_of_ble_eq_true rfl, Nat.le_of_ble_eq_true rfl⟩)) (fun r_16 hr_16 => ?_)
              refine lv_if_ne (tgt := 84) hx hb dX7_isRoom_77 (by decide) (fun c_17 => ?_) (fun c_17 => ?_)
              · refine lv_iconst (v := 0) hx hb dX7_isRoom_84 (by decide) ?_
                refine lv_istore_n (lv' := [(2, .int 0), (5, .int (g2 i4)), (4, .int (g1 i4)), (0, .ref h0), (1, .int (nI t0)), (3, .int (nI i4))]) hx hb dX7_isRoom_85 rfl hl (by decide) rfl (fun ls hl => ?_)
                refine lv_iinc (v := (nI (i4 + 1))) (lv' := [(3, .int (nI (i4 + 1))), (2, .int 0), (5, .int (g2 i4)), (4, .int (g1 i4)), (0, .ref h0), (1, .int (nI t0))]) hx hb dX7_isRoom_86 hl (k := 5) rfl (nI_add i4 1) (by decide) rfl (fun ls hl => ?_)
                refine lv_goto (tgt := 4) hx hb dX7_isRoom_89 (by decide) ?_
                exact ih4 (i4 + 1) 0 ls (by omega) (Or.inl rfl) (lv_sub hl [4, 5, 1, 0] rfl)
              · refine lv_iconst (v := 1) hx hb dX7_isRoom_80 (by decide) ?_
                refine lv_goto (tgt := 85) hx hb dX7_isRoom_81 (by decide) ?_
                refine lv_istore_n (lv' := [(2, .int 1), (5, .int (g2 i4)), (4, .int (g1 i4)), (0, .ref h0), (1, .int (nI t0)), (3, .int (nI i4))]) hx hb dX7_isRoom_85 rfl hl (by decide) rfl (fun ls hl => ?_)
                refine lv_iinc (v := (nI (i4 + 1))) (lv' := [(3, .int (nI (i4 + 1))), (2, .int 1), (5, .int (g2 i4)), (4, .int (g1 i4)), (0, .ref h0), (1, .int (nI t0))]) hx hb dX7_isRoom_86 hl (k := 5) rfl (nI_add i4 1) (by decide) rfl (fun ls hl => ?_)
                refine lv_goto (tgt := 4) hx hb dX7_isRoom_89 (by decide) ?_
                exact ih4 (i4 + 1) 1 ls (by omega) (Or.inr rfl) (lv_sub hl [4, 5, 1, 0] rfl)
  exact lp4 (kc + t0) 0 1 ls (by omega) (Or.inr rfl) (lv_sub hl [2, 3, 1, 0] rfl)

set_option maxHeartbeats 4000000 in
set_option maxRecDepth 100000 in
theorem c_findRoom1 (l : Launch) (dC : Nat → ClassId) (dI : Nat → Nat → Nat) (cI cB : ClassId) (h0 : Nat) (ih : Int32) (hn : Int32) (fl : Int32) (da : Int32) (ds : Int32) (ac : Int32) (kc : Nat) (m1 : Nat) (m2 : Nat) (m3 : Nat) (m4 : Nat) (m5 : Nat) (pl : Nat) (pg : Nat) (fa : Int32) (nf : Int32) (m6 : Nat) (m7 : Nat) (m8 : Nat) (sd : Int64) (ik : Int32) (kh : Int32) (km : Nat) (ka : Int32) (ks : Int32) (kac : Int32) (m9 : Nat) (m10 : Nat) (m11 : Nat) (m12 : Nat) (hv : Int64) (g1 : Nat → Int32) (g2 : Nat → Int32) (g6 : Nat → Int32) (sz : Nat) (hkc : kc ≤ 6) (hpl : cz_pl g2) (hda : cz_in 0 da 19) : Met l yX7_findRoom wsX7_findRoom ({ frames := 4, cells := 0, slots := 0, locals := 101 }) (cz_Pm dC dI cI cB [.ref h0, .int 1] [(h0, .inr (7, [.int ih, .int hn, .int fl, .int da, .int ds, .int ac, .int (nI kc), .ref m1, .ref m2, .ref m3, .ref m4, .ref m5, .int (nI pl), .ref pg, .int fa, .int nf, .ref m6, .ref m7, .ref m8, .long sd, .int ik, .int kh, .int (nI km), .int ka, .int ks, .int kac, .ref m9, .ref m10, .ref m11, .ref m12, .long hv])), (m1, .inl (cI, 6, .inl g1)), (m2, .inl (cI, 6, .inl g2)), (m6, .inl (cI, 3, .inl g6))] sz) (va_Qi (fun (r : Int32) (_ : Unit) => True) (fun _ t => ∃ (t6 : Nat → Int32), va_P (dC, dI) vwCl [(h0, .inr (7, [.int ih, .int hn, .int fl, .int da, .int ds, .int ac, .int (nI kc), .ref m1, .ref m2, .ref m3, .ref m4, .ref m5, .int (nI pl), .ref pg, .int fa, .int nf, .ref m6, .ref m7, .ref m8, .long sd, .int ik, .int kh, .int (nI km), .int ka, .int ks, .int kac, .ref m9, .ref m10, .ref m11, .ref m12, .long hv])), (m1, .inl (cI, 6, .inl g1)), (m2, .inl (cI, 6, .inl g2)), (m6, .inl (cI, 3, .inl t6))] t.heap ∧ va_D (va_A [(h0, .inr (7, [.int ih, .int hn, .int fl, .int da, .int ds, .int ac, .int (nI kc), .ref m1, .ref m2, .ref m3, .ref m4, .ref m5, .int (nI pl), .ref pg, .int fa, .int nf, .ref m6, .ref m7, .ref m8, .long sd, .int ik, .int kh, .int (nI km), .int ka, .int ks, .int kac, .ref m9, .ref m10, .ref m11, .ref m12, .long hv])), (m1, .inl (cI, 6, .inl g1)), (m2, .inl (cI, 6, .inl g2)), (m6, .inl (cI, 3, .inl g6))] sz) [(h0, .inr (7, [.int ih, .int hn, .int fl, .int da, .int ds, .int ac, .int (nI kc), .ref m1, .ref m2, .ref m3, .ref m4, .ref m5, .int (nI pl), .ref pg, .int fa, .int nf, .ref m6, .ref m7, .ref m8, .long sd, .int ik, .int kh, .int (nI km), .int ka, .int ks, .int kac, .ref m9, .ref m10, .ref m11, .ref m12, .long hv])), (m1, .inl (cI, 6, .inl g1)), (m2, .inl (cI, 6, .inl g2)), (m6, .inl (cI, 3, .inl t6))]) (va_A [(h0, .inr (7, [.int ih, .int hn, .int fl, .int da, .int ds, .int ac, .int (nI kc), .ref m1, .ref m2, .ref m3, .ref m4, .ref m5, .int (nI pl), .ref pg, .int fa, .int nf, .ref m6, .ref m7, .ref m8, .long sd, .int ik, .int kh, .int (nI km), .int ka, .int ks, .int kac, .ref m9, .ref m10, .ref m11, .ref m12, .long hv])), (m1, .inl (cI, 6, .inl g1)), (m2, .inl (cI, 6, .inl g2)), (m6, .inl (cI, 3, .inl g6))] sz)) 0 0 (va_A [(h0, .inr (7, [.int ih, .int hn, .int fl, .int da, .int ds, .int ac, .int (nI kc), .ref m1, .ref m2, .ref m3, .ref m4, .ref m5, .int (nI pl), .ref pg, .int fa, .int nf, .ref m6, .ref m7, .ref m8, .long sd, .int ik, .int kh, .int (nI km), .int ka, .int ks, .int kac, .ref m9, .ref m10, .ref m11, .ref m12, .long hv])), (m1, .inl (cI, 6, .inl g1)), (m2, .inl (cI, 6, .inl g2)), (m6, .inl (cI, 3, .inl g6))] sz) := by
  refine cz_of (cc := cX7_findRoom) (maxL := 6) (ret := (some .boolean)) (by decide) rfl ?_
  intro p e s m args below meth c s₁ Q B hml hv hQ
  obtain ⟨rfl, hsz, hP, hN, hD0⟩ := hv
  have hx := B.exec
  have hb := B.bytes
  have hr := B.returns
  have hts := atoms_spec (ws := wsX7_findRoom) B.pre
  have hown : s.vm.findClass RX7 = some m.cls := findClass_of_methodNamed B.named
  have hlocks := B.notSynchronized
  have hK := hN.1
  have hiX7 : ∀ w ∈ wsX70, w ∈ wsX7_findRoom := (fun _ h => List.mem_cons_of_mem _ (List.mem_append_right _ h))
  subst hsz
  have hD := hD0.self (sz := s.heap.size)
  generalize hAe : va_A [(h0, .inr (7, [.int ih, .int hn, .int fl, .int da, .int ds, .int ac, .int (nI kc), .ref m1, .ref m2, .ref m3, .ref m4, .ref m5, .int (nI pl), .ref pg, .int fa, .int nf, .ref m6, .ref m7, .ref m8, .long sd, .int ik, .int kh, .int (nI km), .int ka, .int ks, .int kac, .ref m9, .ref m10, .ref m11, .ref m12, .long hv])), (m1, .inl (cI, 6, .inl g1)), (m2, .inl (cI, 6, .inl g2)), (m6, .inl (cI, 3, .inl g6))] s.heap.size = A at hD hQ ⊢
  have hA : ∀ q : Nat, s.heap.size ≤ q → A q := fun q h => by rw [← hAe]; exact Or.inr h
  have hS : va_S A s.heap s.heap [] := va_S.rf
  obtain ⟨H, eH⟩ : ∃ H, H = s.heap := ⟨_, rfl⟩
  have hP : va_P (dC, dI) vwCl [(h0, .inr (7, [.int ih, .int hn, .int fl, .int da, .int ds, .int ac, .int (nI kc), .ref m1, .ref m2, .ref m3, .ref m4, .ref m5, .int (nI pl), .ref pg, .int fa, .int nf, .ref m6, .ref m7, .ref m8, .long sd, .int ik, .int kh, .int (nI km), .int ka, .int ks, .int kac, .ref m9, .ref m10, .ref m11, .ref m12, .long hv])), (m1, .inl (cI, 6, .inl g1)), (m2, .inl (cI, 6, .inl g2)), (m6, .inl (cI, 3, .inl g6))] s.heap := hP
  have hl := lv_entry ([.ref h0, .int 1]) (n := 6) (Nat.le_of_ble_eq_true rfl)
  rw [lg_entry_eq]
  generalize (lg_sl ([.ref h0, .int 1]) ++ List.replicate (6 - (lg_sl ([.ref h0, .int 1])).length) Slot.unset).toArray = ls at hl ⊢
  have hl : lv_has ls 6 [(0, .ref h0), (1, .int 1)] := hl
  refine lv_iload_n hx hb dX7_findRoom_0 rfl (lv_at hl 1 rfl) ?_
  refine lv_iconst (v := 1) hx hb dX7_findRoom_1 (by decide) ?_
  refine lv_icmp_ne (tgt := 10) hx hb dX7_findRoom_2 (by decide) (fun c => absurd (by decide) c) (fun _ => ?_)
  refine lv_bipush (v := 20) hx hb dX7_findRoom_5 (by decide) ?_
  refine lv_goto (tgt := 24) hx hb dX7_findRoom_7 (by decide) ?_
  refine lv_istore_n (lv' := [(2, .int 20), (0, .ref h0), (1, .int 1)]) hx hb dX7_findRoom_24 rfl hl (by decide) rfl (fun ls hl => ?_)
  refine lv_iconst (v := 0) hx hb dX7_findRoom_25 (by decide) ?_
  refine lv_istore_n (lv' := [(3, .int 0), (2, .int 20), (0, .ref h0), (1, .int 1)]) hx hb dX7_findRoom_26 rfl hl (by decide) rfl (fun ls hl => ?_)
  have lp27 : ∀ (n27 : Nat) (i27 : Nat) (y6 : Nat → Int32) (H : Heap) (locs : List Loc) (ls : Array Slot), i27 + n27 = 20 → va_P (dC, dI) vwCl [(h0, .inr (7, [.int ih, .int hn, .int fl, .int da, .int ds, .int ac, .int (nI kc), .ref m1, .ref m2, .ref m3, .ref m4, .ref m5, .int (nI pl), .ref pg, .int fa, .int nf, .ref m6, .ref m7, .ref m8, .long sd, .int ik, .int kh, .int (nI km), .int ka, .int ks, .int kac, .ref m9, .ref m10, .ref m11, .ref m12, .long hv])), (m1, .inl (cI, 6, .inl g1)), (m2, .inl (cI, 6, .inl g2)), (m6, .inl (cI, 3, .inl y6))] H → va_D A [(h0, .inr (7, [.int ih, .int hn, .int fl, .int da, .int ds, .int ac, .int (nI kc), .ref m1, .ref m2, .ref m3, .ref m4, .ref m5, .int (nI pl), .ref pg, .int fa, .int nf, .ref m6, .ref m7, .ref m8, .long sd, .int ik, .int kh, .int (nI km), .int ka, .int ks, .int kac, .ref m9, .ref m10, .ref m11, .ref m12, .long hv])), (m1, .inl (cI, 6, .inl g1)), (m2, .inl (cI, 6, .inl g2)), (m6, .inl (cI, 3, .inl y6))] → va_S A s.heap H locs → lv_has ls 6 [(0, .ref h0), (1, .int 1), (2, .int 20), (3, .int (nI i27))] → W p l e ({ frames := 4, cells := 0, slots := 0, locals := 101 } : Room) s m #[Value.ref h0, Value.int 1] below meth c H locs 0 0 Q (F0 m 27 ls []) := by
    intro n27
    induction n27 with
    | zero =>
      intro i27 y6 H locs ls hi27  hP hD hS hl
      obtain rfl : i27 = 20 := by omega
      have hl : lv_has ls 6 [(0, .ref h0), (1, .int 1), (2, .int 20), (3, .int 20)] := hl
      refine lv_iload_n hx hb dX7_findRoom_27 rfl (lv_at hl 3 rfl) ?_
      refine lv_iload_n hx hb dX7_findRoom_28 rfl (lv_at hl 2 rfl) ?_
      refine lv_icmp_ge (tgt := 210) hx hb dX7_findRoom_29 (by decide) (fun _ => ?_) (fun c => absurd (by decide) c)
      refine lv_iconst (v := 0) hx hb dX7_findRoom_210 (by decide) ?_
      refine W.widen (k := 0) (n := 0) (Nat.le_of_ble_eq_true rfl) (Nat.le_of_ble_eq_true rfl) ?_
      have hP9 := hP.sub (ws' := [(h0, .inr (7, [.int ih, .int hn, .int fl, .int da, .int ds, .int ac, .int (nI kc), .ref m1, .ref m2, .ref m3, .ref m4, .ref m5, .int (nI pl), .ref pg, .int fa, .int nf, .ref m6, .ref m7, .ref m8, .long sd, .int ik, .int kh, .int (nI km), .int ka, .int ks, .int kac, .ref m9, .ref m10, .ref m11, .ref m12, .long hv])), (m1, .inl (cI, 6, .inl g1)), (m2, .inl (cI, 6, .inl g2)), (m6, .inl (cI, 3, .inl y6))]) [0, 1, 2, 3] rfl
      have hD9 := hD.sub (ws' := [(h0, .inr (7, [.int ih, .int hn, .int fl, .int da, .int ds, .int ac, .int (nI kc), .ref m1, .ref m2, .ref m3, .ref m4, .ref m5, .int (nI pl), .ref pg, .int fa, .int nf, .ref m6, .ref m7, .ref m8, .long sd, .int ik, .int kh, .int (nI km), .int ka, .int ks, .int kac, .ref m9, .ref m10, .ref m11, .ref m12, .long hv])), (m1, .inl (cI, 6, .inl g1)), (m2, .inl (cI, 6, .inl g2)), (m6, .inl (cI, 3, .inl y6))]) [0, 1, 2, 3] (by decide) rfl
      rw [hQ]; exact W.zret (v := 0) hx hb hr (by decide) (fun t ht hW => ⟨⟨0, (), rfl, trivial, ⟨y6, by rw [ht]; exact hP9, hD9⟩⟩, hS.F ht⟩) hS.2.2 dX7_findRoom_211
    | succ n27 ih27 =>
      intro i27 y6 H locs ls hi27  hP hD hS hl
      refine lv_iload_n hx hb dX7_findRoom_27 rfl (lv_at hl 3 rfl) ?_
      refine lv_iload_n hx hb dX7_findRoom_28 rfl (lv_at hl 2 rfl) ?_
      refine lv_icmp_ge (tgt := 210) hx hb dX7_findRoom_29 (by decide) (fun c_1 => ?_) (fun c_1 => ?_)
      · exact absurd c_1 (show ¬ (20 : Int32) ≤ nI i27 from nI_ge (a := i27) (b := 20) (by omega) (by omega))
      · refine lv_aload_n hx hb dX7_findRoom_32 rfl (lv_at hl 0 rfl) ?_
        refine va_get (D := (dC, dI)) (ci := 7) (v := .ref m6) (C := RX7) (T := TX7) (N := 31) hx hb hts hiX7 hown hK hP 0 rfl rfl 16 (by decide) (hts (.fieldLink RX7 36 "LeftProfileModel" "roomAt" "[I") (List.mem_of_getElem? (i := 1) rfl)) (fun _ h9 => h9) rfl dX7_findRoom_33 ?_
        refine lv_iconst (v := 0) hx hb dX7_findRoom_36 (by decide) ?_
        refine lv_iload_n hx hb dX7_findRoom_37 rfl (lv_at hl 1 rfl) ?_
        refine lv_iconst (v := 1) hx hb dX7_findRoom_38 (by decide) ?_
        refine lv_icmp_ne (tgt := 46) hx hb dX7_findRoom_39 (by decide) (fun c => absurd (by decide) c) (fun _ => ?_)
        refine lv_iload_n hx hb dX7_findRoom_42 rfl (lv_at hl 3 rfl) ?_
        refine lv_goto (tgt := 63) hx hb dX7_findRoom_43 (by decide) ?_
        refine va_iast hx hb hK hP hD hS 3 0 rfl rfl (vp_in_nI (n := 0) (by omega) (by omega)) dX7_findRoom_63 (fun H locs hP hD hS => ?_)
        rw [show (0 : Int32).toNatClampNeg = 0 by decide] at hP hD
        have hP : va_P (dC, dI) vwCl [(h0, .inr (7, [.int ih, .int hn, .int fl, .int da, .int ds, .int ac, .int (nI kc), .ref m1, .ref m2, .ref m3, .ref m4, .ref m5, .int (nI pl), .ref pg, .int fa, .int nf, .ref m6, .ref m7, .ref m8, .long sd, .int ik, .int kh, .int (nI km), .int ka, .int ks, .int kac, .ref m9, .ref m10, .ref m11, .ref m12, .long hv])), (m1, .inl (cI, 6, .inl g1)), (m2, .inl (cI, 6, .inl g2)), (m6, .inl (cI, 3, .inl (upd y6 0 (nI i27))))] H := hP
        have hD : va_D A [(h0, .inr (7, [.int ih, .int hn, .int fl, .int da, .int ds, .int ac, .int (nI kc), .ref m1, .ref m2, .ref m3, .ref m4, .ref m5, .int (nI pl), .ref pg, .int fa, .int nf, .ref m6, .ref m7, .ref m8, .long sd, .int ik, .int kh, .int (nI km), .int ka, .int ks, .int kac, .ref m9, .ref m10, .ref m11, .ref m12, .long hv])), (m1, .inl (cI, 6, .inl g1)), (m2, .inl (cI, 6, .inl g2)), (m6, .inl (cI, 3, .inl (upd y6 0 (nI i27))))] := hD
        refine lv_aload_n hx hb dX7_findRoom_64 rfl (lv_at hl 0 rfl) ?_
        refine va_get (D := (dC, dI)) (ci := 7) (v := .ref m6) (C := RX7) (T := TX7) (N := 31) hx hb hts hiX7 hown hK hP 0 rfl rfl 16 (by decide) (hts (.fieldLink RX7 36 "LeftProfileModel" "roomAt" "[I") (List.mem_of_getElem? (i := 1) rfl)) (fun _ h9 => h9) rfl dX7_findRoom_65 ?_
        refine lv_iconst (v := 1) hx hb dX7_findRoom_68 (by decide) ?_
        refine lv_iload_n hx hb dX7_findRoom_69 rfl (lv_at hl 1 rfl) ?_
        refine lv_iconst (v := 1) hx hb dX7_findRoom_70 (by decide) ?_
        refine lv_icmp_ne (tgt := 79) hx hb dX7_findRoom_71 (by decide) (fun c => absurd (by decide) c) (fun _ => ?_)
        refine lv_bipush (v := 20) hx hb dX7_findRoom_74 (by decide) ?_
        refine lv_goto (tgt := 98) hx hb dX7_findRoom_76 (by decide) ?_
        refine va_iast hx hb hK hP hD hS 3 0 rfl rfl (vp_in_nI (n := 1) (by omega) (by omega)) dX7_findRoom_98 (fun H locs hP hD hS => ?_)
        rw [show (1 : Int32).toNatClampNeg = 1 by decide] at hP hD
        have hP : va_P (dC, dI) vwCl [(h0, .inr (7, [.int ih, .int hn, .int fl, .int da, .int ds, .int ac, .int (nI kc), .ref m1, .ref m2, .ref m3, .ref m4, .ref m5, .int (nI pl), .ref pg, .int fa, .int nf, .ref m6, .ref m7, .ref m8, .long sd, .int ik, .int kh, .int (nI km), .int ka, .int ks, .int kac, .ref m9, .ref m10, .ref m11, .ref m12, .long hv])), (m1, .inl (cI, 6, .inl g1)), (m2, .inl (cI, 6, .inl g2)), (m6, .inl (cI, 3, .inl (upd (upd y6 0 (nI i27)) 1 20)))] H := hP
        have hD : va_D A [(h0, .inr (7, [.int ih, .int hn, .int fl, .int da, .int ds, .int ac, .int (nI kc), .ref m1, .ref m2, .ref m3, .ref m4, .ref m5, .int (nI pl), .ref pg, .int fa, .int nf, .ref m6, .ref m7, .ref m8, .long sd, .int ik, .int kh, .int (nI km), .int ka, .int ks, .int kac, .ref m9, .ref m10, .ref m11, .ref m12, .long hv])), (m1, .inl (cI, 6, .inl g1)), (m2, .inl (cI, 6, .inl g2)), (m6, .inl (cI, 3, .inl (upd (upd y6 0 (nI i27)) 1 20)))] := hD
        refine lv_aload_n hx hb dX7_findRoom_99 rfl (lv_at hl 0 rfl) ?_
        refine va_get (D := (dC, dI)) (ci := 7) (v := .ref m6) (C := RX7) (T := TX7) (N := 31) hx hb hts hiX7 hown hK hP 0 rfl rfl 16 (by decide) (hts (.fieldLink RX7 36 "LeftProfileModel" "roomAt" "[I") (List.mem_of_getElem? (i := 1) rfl)) (fun _ h9 => h9) rfl dX7_findRoom_100 ?_
        refine lv_iconst (v := 2) hx hb dX7_findRoom_103 (by decide) ?_
        refine lv_iload_n hx hb dX7_findRoom_104 rfl (lv_at hl 1 rfl) ?_
        refine lv_iconst (v := 3) hx hb dX7_findRoom_105 (by decide) ?_
        refine lv_icmp_ge (tgt := 114) hx hb dX7_findRoom_106 (by decide) (fun c => absurd c (by decide)) (fun _ => ?_)
        refine lv_bipush (v := 21) hx hb dX7_findRoom_109 (by decide) ?_
        refine lv_goto (tgt := 118) hx hb dX7_findRoom_111 (by decide) ?_
        refine va_iast hx hb hK hP hD hS 3 0 rfl rfl (vp_in_nI (n := 2) (by omega) (by omega)) dX7_findRoom_118 (fun H locs hP hD hS => ?_)
        rw [show (2 : Int32).toNatClampNeg = 2 by decide] at hP hD
        have hP : va_P (dC, dI) vwCl [(h0, .inr (7, [.int ih, .int hn, .int fl, .int da, .int ds, .int ac, .int (nI kc), .ref m1, .ref m2, .ref m3, .ref m4, .ref m5, .int (nI pl), .ref pg, .int fa, .int nf, .ref m6, .ref m7, .ref m8, .long sd, .int ik, .int kh, .int (nI km), .int ka, .int ks, .int kac, .ref m9, .ref m10, .ref m11, .ref m12, .long hv])), (m1, .inl (cI, 6, .inl g1)), (m2, .inl (cI, 6, .inl g2)), (m6, .inl (cI, 3, .inl (upd (upd (upd y6 0 (nI i27)) 1 20) 2 21)))] H := hP
        have hD : va_D A [(h0, .inr (7, [.int ih, .int hn, .int fl, .int da, .int ds, .int ac, .int (nI kc), .ref m1, .ref m2, .ref m3, .ref m4, .ref m5, .int (nI pl), .ref pg, .int fa, .int nf, .ref m6, .ref m7, .ref m8, .long sd, .int ik, .int kh, .int (nI km), .int ka, .int ks, .int kac, .ref m9, .ref m10, .ref m11, .ref m12, .long hv])), (m1, .inl (cI, 6, .inl g1)), (m2, .inl (cI, 6, .inl g2)), (m6, .inl (cI, 3, .inl (upd (upd (upd y6 0 (nI i27)) 1 20) 2 21)))] := hD
        refine lv_aload_n hx hb dX7_findRoom_119 rfl (lv_at hl 0 rfl) ?_
        refine va_get (D := (dC, dI)) (ci := 7) (v := .ref m6) (C := RX7) (T := TX7) (N := 31) hx hb hts hiX7 hown hK hP 0 rfl rfl 16 (by decide) (hts (.fieldLink RX7 36 "LeftProfileModel" "roomAt" "[I") (List.mem_of_getElem? (i := 1) rfl)) (fun _ h9 => h9) rfl dX7_findRoom_120 ?_
        refine lv_iconst (v := 0) hx hb dX7_findRoom_123 (by decide) ?_
        refine va_iald hx hb hK hP 3 0 rfl rfl (vp_in_nI (n := 0) (by omega) (by omega)) dX7_findRoom_124 ?_
        refine cz_i (y := ((upd (upd (upd y6 0 (nI i27)) 1 20) 2 21) 0)) (congrArg (upd (upd (upd y6 0 (nI i27)) 1 20) 2 21) (nI_clamp (n := 0) (by omega))) ?_
        refine lv_aload_n hx hb dX7_findRoom_125 rfl (lv_at hl 0 rfl) ?_
        refine va_get (D := (dC, dI)) (ci := 7) (v := .ref m6) (C := RX7) (T := TX7) (N := 31) hx hb hts hiX7 hown hK hP 0 rfl rfl 16 (by decide) (hts (.fieldLink RX7 36 "LeftProfileModel" "roomAt" "[I") (List.mem_of_getElem? (i := 1) rfl)) (fun _ h9 => h9) rfl dX7_findRoom_126 ?_
        refine lv_iconst (v := 1) hx hb dX7_findRoom_129 (by decide) ?_
        refine va_iald hx hb hK hP 3 0 rfl rfl (vp_in_nI (n := 1) (by omega) (by omega)) dX7_findRoom_130 ?_
        refine cz_i (y := ((upd (upd (upd y6 0 (nI i27)) 1 20) 2 21) 1)) (congrArg (upd (upd (upd y6 0 (nI i27)) 1 20) 2 21) (nI_clamp (n := 1) (by omega))) ?_
        refine lv_icmp_ge (tgt := 153) hx hb dX7_findRoom_131 (by decide) (fun c_2 => ?_) (fun c_2 => ?_)
        · refine lv_iconst (v := 0) hx hb dX7_findRoom_153 (by decide) ?_
          refine lv_istore (lv' := [(4, .int 0), (0, .ref h0), (1, .int 1), (2, .int 20), (3, .int (nI i27))]) hx hb dX7_findRoom_154 hl (by decide) rfl (fun ls hl => ?_)
          refine lv_iconst (v := 0) hx hb dX7_findRoom_156 (by decide) ?_
          refine lv_istore (lv' := [(5, .int 0), (4, .int 0), (0, .ref h0), (1, .int 1), (2, .int 20), (3, .int (nI i27))]) hx hb dX7_findRoom_157 hl (by decide) rfl (fun ls hl => ?_)
          have hex189 : ∀ (i159 : Nat) (y4 : Int32) (H : Heap) (locs : List Loc) (ls : Array Slot), va_P (dC, dI) vwCl [(h0, .inr (7, [.int ih, .int hn, .int fl, .int da, .int ds, .int ac, .int (nI kc), .ref m1, .ref m2, .ref m3, .ref m4, .ref m5, .int (nI pl), .ref pg, .int fa, .int nf, .ref m6, .ref m7, .ref m8, .long sd, .int ik, .int kh, .int (nI km), .int ka, .int ks, .int kac, .ref m9, .ref m10, .ref m11, .ref m12, .long hv])), (m1, .inl (cI, 6, .inl g1)), (m2, .inl (cI, 6, .inl g2)), (m6, .inl (cI, 3, .inl (upd (upd (upd y6 0 (nI i27)) 1 20) 2 21)))] H → va_D A [(h0, .inr (7, [.int ih, .int hn, .int fl, .int da, .int ds, .int ac, .int (nI kc), .ref m1, .ref m2, .ref m3, .ref m4, .ref m5, .int (nI pl), .ref pg, .int fa, .int nf, .ref m6, .ref m7, .ref m8, .long sd, .int ik, .int kh, .int (nI km), .int ka, .int ks, .int kac, .ref m9, .ref m10, .ref m11, .ref m12, .long hv])), (m1, .inl (cI, 6, .inl g1)), (m2, .inl (cI, 6, .inl g2)), (m6, .inl (cI, 3, .inl (upd (upd (upd y6 0 (nI i27)) 1 20) 2 21)))] → va_S A s.heap H locs → lv_has ls 6 [(0, .ref h0), (1, .int 1), (2, .int 20), (3, .int (nI i27)), (4, .int y4)] → W p l e ({ frames := 4, cells := 0, slots := 0, locals := 101 } : Room) s m #[Value.ref h0, Value.int 1] below meth c H locs 0 0 Q (F0 m 189 ls []) := by
            intro i159 y4 H locs ls  hP hD hS hl
            refine lv_iload hx hb dX7_findRoom_189 (lv_at hl 4 rfl) ?_
            refine lv_if_eq (tgt := 204) hx hb dX7_findRoom_191 (by decide) (fun c_3 => ?_) (fun c_3 => ?_)
            · refine lv_iinc (v := (nI (i27 + 1))) (lv' := [(3, .int (nI (i27 + 1))), (0, .ref h0), (1, .int 1), (2, .int 20), (4, .int y4)]) hx hb dX7_findRoom_204 hl (k := 3) rfl (nI_add i27 1) (by decide) rfl (fun ls hl => ?_)
              refine lv_goto (tgt := 27) hx hb dX7_findRoom_207 (by decide) ?_
              exact ih27 (i27 + 1) (upd (upd (upd y6 0 (nI i27)) 1 20) 2 21) H locs ls (by omega)  hP hD hS (lv_sub hl [1, 2, 3, 0] rfl)
            · refine lv_aload_n hx hb dX7_findRoom_194 rfl (lv_at hl 0 rfl) ?_
              refine lv_iload_n hx hb dX7_findRoom_195 rfl (lv_at hl 1 rfl) ?_
              refine vp_callSi (cz_run (va_runV (As := [.int 1]) (rest := []) ⟨hx, hb, hml, hown, hts⟩ (c_X7_isRoom l dC dI cI cB h0 1 ih hn fl da ds ac kc m1 m2 m3 m4 m5 pl pg fa nf m6 m7 m8 sd ik kh km ka ks kac m9 m10 m11 m12 hv g1 g2 (upd (upd (upd y6 0 (nI i27)) 1 20) 2 21) hkc hpl hda (by omega) (cz_rm_of (by decide) (fun _ => (cz_in_nI (i := i27) (by omega))) (fun h => absurd h (by decide)) (fun h => absurd h (by decide)))) (cwV 1 hts gX7_findRoom_X7_isRoom rfl rfl rfl (by decide +kernel) ⟨Nat.le_of_ble_eq_true rfl, Nat.le_of_ble_eq_true rfl⟩) (cz_pV hP hN (va_recv hK hP (ci := 7) (q0 := 0) rfl rfl)) rfl rfl hl.1 rfl (lv_room (Nat.le_of_ble_eq_true rfl)) dX7_findRoom_196 ⟨Nat.le_of_ble_eq_true rfl, Nat.le_of_ble_eq_true rfl⟩)) (fun r_4 hr_4 => ?_)
              refine lv_if_eq (tgt := 204) hx hb dX7_findRoom_199 (by decide) (fun c_5 => ?_) (fun c_5 => ?_)
              · refine lv_iinc (v := (nI (i27 + 1))) (lv' := [(3, .int (nI (i27 + 1))), (0, .ref h0), (1, .int 1), (2, .int 20), (4, .int y4)]) hx hb dX7_findRoom_204 hl (k := 3) rfl (nI_add i27 1) (by decide) rfl (fun ls hl => ?_)
                refine lv_goto (tgt := 27) hx hb dX7_findRoom_207 (by decide) ?_
                exact ih27 (i27 + 1) (upd (upd (upd y6 0 (nI i27)) 1 20) 2 21) H locs ls (by omega)  hP hD hS (lv_sub hl [1, 2, 3, 0] rfl)
              · refine lv_iconst (v := 1) hx hb dX7_findRoom_202 (by decide) ?_
                refine W.widen (k := 0) (n := 0) (Nat.le_of_ble_eq_true rfl) (Nat.le_of_ble_eq_true rfl) ?_
                have hP9 := hP.sub (ws' := [(h0, .inr (7, [.int ih, .int hn, .int fl, .int da, .int ds, .int ac, .int (nI kc), .ref m1, .ref m2, .ref m3, .ref m4, .ref m5, .int (nI pl), .ref pg, .int fa, .int nf, .ref m6, .ref m7, .ref m8, .long sd, .int ik, .int kh, .int (nI km), .int ka, .int ks, .int kac, .ref m9, .ref m10, .ref m11, .ref m12, .long hv])), (m1, .inl (cI, 6, .inl g1)), (m2, .inl (cI, 6, .inl g2)), (m6, .inl (cI, 3, .inl (upd (upd (upd y6 0 (nI i27)) 1 20) 2 21)))]) [0, 1, 2, 3] rfl
                have hD9 := hD.sub (ws' := [(h0, .inr (7, [.int ih, .int hn, .int fl, .int da, .int ds, .int ac, .int (nI kc), .ref m1, .ref m2, .ref m3, .ref m4, .ref m5, .int (nI pl), .ref pg, .int fa, .int nf, .ref m6, .ref m7, .ref m8, .long sd, .int ik, .int kh, .int (nI km), .int ka, .int ks, .int kac, .ref m9, .ref m10, .ref m11, .ref m12, .long hv])), (m1, .inl (cI, 6, .inl g1)), (m2, .inl (cI, 6, .inl g2)), (m6, .inl (cI, 3, .inl (upd (upd (upd y6 0 (nI i27)) 1 20) 2 21)))]) [0, 1, 2, 3] (by decide) rfl
                rw [hQ]; exact W.zret (v := 1) hx hb hr (by decide) (fun t ht hW => ⟨⟨1, (), rfl, trivial, ⟨(upd (upd (upd y6 0 (nI i27)) 1 20) 2 21), by rw [ht]; exact hP9, hD9⟩⟩, hS.F ht⟩) hS.2.2 dX7_findRoom_203
          have lp159 : ∀ (n159 : Nat) (i159 : Nat) (y4 : Int32) (H : Heap) (locs : List Loc) (ls : Array Slot), i159 + n159 = 1 → va_P (dC, dI) vwCl [(h0, .inr (7, [.int ih, .int hn, .int fl, .int da, .int ds, .int ac, .int (nI kc), .ref m1, .ref m2, .ref m3, .ref m4, .ref m5, .int (nI pl), .ref pg, .int fa, .int nf, .ref m6, .ref m7, .ref m8, .long sd, .int ik, .int kh, .int (nI km), .int ka, .int ks, .int kac, .ref m9, .ref m10, .ref m11, .ref m12, .long hv])), (m1, .inl (cI, 6, .inl g1)), (m2, .inl (cI, 6, .inl g2)), (m6, .inl (cI, 3, .inl (upd (upd (upd y6 0 (nI i27)) 1 20) 2 21)))] H → va_D A [(h0, .inr (7, [.int ih, .int hn, .int fl, .int da, .int ds, .int ac, .int (nI kc), .ref m1, .ref m2, .ref m3, .ref m4, .ref m5, .int (nI pl), .ref pg, .int fa, .int nf, .ref m6, .ref m7, .ref m8, .long sd, .int ik, .int kh, .int (nI km), .int ka, .int ks, .int kac, .ref m9, .ref m10, .ref m11, .ref m12, .long hv])), (m1, .inl (cI, 6, .inl g1)), (m2, .inl (cI, 6, .inl g2)), (m6, .inl (cI, 3, .inl (upd (upd (upd y6 0 (nI i27)) 1 20) 2 21)))] → va_S A s.heap H locs → lv_has ls 6 [(0, .ref h0), (1, .int 1), (2, .int 20), (3, .int (nI i27)), (4, .int y4), (5, .int (nI i159))] → W p l e ({ frames := 4, cells := 0, slots := 0, locals := 101 } : Room) s m #[Value.ref h0, Value.int 1] below meth c H locs 0 0 Q (F0 m 159 ls []) := by
            intro n159
            induction n159 with
            | zero =>
              intro i159 y4 H locs ls hi159  hP hD hS hl
              refine lv_iload hx hb dX7_findRoom_159 (lv_at hl 5 rfl) ?_
              refine lv_iload_n hx hb dX7_findRoom_161 rfl (lv_at hl 1 rfl) ?_
              refine lv_icmp_ge (tgt := 189) hx hb dX7_findRoom_162 (by decide) (fun c_6 => ?_) (fun c_6 => ?_)
              · exact hex189 i159 y4 H locs ls  hP hD hS (lv_sub hl [0, 1, 2, 3, 4] rfl)
              · exact absurd (show (1 : Int32) ≤ nI i159 from nI_le (a := 1) (b := i159) (by omega) (by omega)) c_6
            | succ n159 ih159 =>
              intro i159 y4 H locs ls hi159  hP hD hS hl
              refine lv_iload hx hb dX7_findRoom_159 (lv_at hl 5 rfl) ?_
              refine lv_iload_n hx hb dX7_findRoom_161 rfl (lv_at hl 1 rfl) ?_
              refine lv_icmp_ge (tgt := 189) hx hb dX7_findRoom_162 (by decide) (fun c_7 => ?_) (fun c_7 => ?_)
              · exact absurd c_7 (show ¬ (1 : Int32) ≤ nI i159 from nI_ge (a := i159) (b := 1) (by omega) (by omega))
              · refine lv_iload hx hb dX7_findRoom_165 (lv_at hl 4 rfl) ?_
                refine lv_if_eq (tgt := 189) hx hb dX7_findRoom_167 (by decide) (fun c_8 => ?_) (fun c_8 => ?_)
                · exact hex189 i159 y4 H locs ls  hP hD hS (lv_sub hl [0, 1, 2, 3, 4] rfl)
                · refine lv_aload_n hx hb dX7_findRoom_170 rfl (lv_at hl 0 rfl) ?_
                  refine lv_aload_n hx hb dX7_findRoom_171 rfl (lv_at hl 0 rfl) ?_
                  refine va_get (D := (dC, dI)) (ci := 7) (v := .ref m6) (C := RX7) (T := TX7) (N := 31) hx hb hts hiX7 hown hK hP 0 rfl rfl 16 (by decide) (hts (.fieldLink RX7 36 "LeftProfileModel" "roomAt" "[I") (List.mem_of_getElem? (i := 1) rfl)) (fun _ h9 => h9) rfl dX7_findRoom_172 ?_
                  refine lv_iload hx hb dX7_findRoom_175 (lv_at hl 5 rfl) ?_
                  refine va_iald hx hb hK hP 3 0 rfl rfl (vp_in_nI (n := i159) (by omega) (by omega)) dX7_findRoom_177 ?_
                  refine cz_i (y := ((upd (upd (upd y6 0 (nI i27)) 1 20) 2 21) i159)) (congrArg (upd (upd (upd y6 0 (nI i27)) 1 20) 2 21) (nI_clamp (n := i159) (by omega))) ?_
                  refine vp_callSi (cz_run (va_runV (As := [.int ((upd (upd (upd y6 0 (nI i27)) 1 20) 2 21) i159)]) (rest := []) ⟨hx, hb, hml, hown, hts⟩ (c_X7_isEmpty l dC dI cI cB h0 ((upd (upd (upd y6 0 (nI i27)) 1 20) 2 21) i159) ih hn fl da ds ac kc m1 m2 m3 m4 m5 pl pg fa nf m6 m7 m8 sd ik kh km ka ks kac m9 m10 m11 m12 hv g2 hkc) (cwV 1 hts gX7_findRoom_X7_isEmpty rfl rfl rfl (by decide +kernel) ⟨Nat.le_of_ble_eq_true rfl, Nat.le_of_ble_eq_true rfl⟩) (cz_pV (hP.sub (ws' := [(h0, .inr (7, [.int ih, .int hn, .int fl, .int da, .int ds, .int ac, .int (nI kc), .ref m1, .ref m2, .ref m3, .ref m4, .ref m5, .int (nI pl), .ref pg, .int fa, .int nf, .ref m6, .ref m7, .ref m8, .long sd, .int ik, .int kh, .int (nI km), .int ka, .int ks, .int kac, .ref m9, .ref m10, .ref m11, .ref m12, .long hv])), (m2, .inl (cI, 6, .inl g2))]) [0, 2] rfl) hN (va_recv hK (hP.sub (ws' := [(h0, .inr (7, [.int ih, .int hn, .int fl, .int da, .int ds, .int ac, .int (nI kc), .ref m1, .ref m2, .ref m3, .ref m4, .ref m5, .int (nI pl), .ref pg, .int fa, .int nf, .ref m6, .ref m7, .ref m8, .long sd, .int ik, .int kh, .int (nI km), .int ka, .int ks, .int kac, .ref m9, .ref m10, .ref m11, .ref m12, .long hv])), (m2, .inl (cI, 6, .inl g2))]) [0, 2] rfl) (ci := 7) (q0 := 0) rfl rfl)) rfl rfl hl.1 rfl (lv_room (Nat.le_of_ble_eq_true rfl)) dX7_findRoom_178 ⟨Nat.le_of_ble_eq_true rfl, Nat.le_of_ble_eq_true rfl⟩)) (fun r_9 hr_9 => ?_)
                  rcases hr_9 with ⟨rfl, hr_9⟩ | ⟨rfl, hr_9⟩
                  · refine lv_istore (lv' := [(4, .int 0), (0, .ref h0), (1, .int 1), (2, .int 20), (3, .int (nI i27)), (5, .int (nI i159))]) hx hb dX7_findRoom_181 hl (by decide) rfl (fun ls hl => ?_)
                    refine lv_iinc (v := (nI (i159 + 1))) (lv' := [(5, .int (nI (i159 + 1))), (4, .int 0), (0, .ref h0), (1, .int 1), (2, .int 20), (3, .int (nI i27))]) hx hb dX7_findRoom_183 hl (k := 5) rfl (nI_add i159 1) (by decide) rfl (fun ls hl => ?_)
                    refine lv_goto (tgt := 159) hx hb dX7_findRoom_186 (by decide) ?_
                    exact ih159 (i159 + 1) 0 H locs ls (by omega)  hP hD hS (lv_sub hl [2, 3, 4, 5, 1, 0] rfl)
                  · refine lv_istore (lv' := [(4, .int 1), (0, .ref h0), (1, .int 1), (2, .int 20), (3, .int (nI i27)), (5, .int (nI i159))]) hx hb dX7_findRoom_181 hl (by decide) rfl (fun ls hl => ?_)
                    refine lv_iinc (v := (nI (i159 + 1))) (lv' := [(5, .int (nI (i159 + 1))), (4, .int 1), (0, .ref h0), (1, .int 1), (2, .int 20), (3, .int (nI i27))]) hx hb dX7_findRoom_183 hl (k := 5) rfl (nI_add i159 1) (by decide) rfl (fun ls hl => ?_)
                    refine lv_goto (tgt := 159) hx hb dX7_findRoom_186 (by decide) ?_
                    exact ih159 (i159 + 1) 1 H locs ls (by omega)  hP hD hS (lv_sub hl [2, 3, 4, 5, 1, 0] rfl)
          exact lp159 1 0 0 H locs ls (by omega)  hP hD hS (lv_sub hl [2, 3, 4, 5, 1, 0] rfl)
        · refine lv_aload_n hx hb dX7_findRoom_134 rfl (lv_at hl 0 rfl) ?_
          refine va_get (D := (dC, dI)) (ci := 7) (v := .ref m6) (C := RX7) (T := TX7) (N := 31) hx hb hts hiX7 hown hK hP 0 rfl rfl 16 (by decide) (hts (.fieldLink RX7 36 "LeftProfileModel" "roomAt" "[I") (List.mem_of_getElem? (i := 1) rfl)) (fun _ h9 => h9) rfl dX7_findRoom_135 ?_
          refine lv_iconst (v := 1) hx hb dX7_findRoom_138 (by decide) ?_
          refine va_iald hx hb hK hP 3 0 rfl rfl (vp_in_nI (n := 1) (by omega) (by omega)) dX7_findRoom_139 ?_
          refine cz_i (y := ((upd (upd (upd y6 0 (nI i27)) 1 20) 2 21) 1)) (congrArg (upd (upd (upd y6 0 (nI i27)) 1 20) 2 21) (nI_clamp (n := 1) (by omega))) ?_
          refine lv_aload_n hx hb dX7_findRoom_140 rfl (lv_at hl 0 rfl) ?_
          refine va_get (D := (dC, dI)) (ci := 7) (v := .ref m6) (C := RX7) (T := TX7) (N := 31) hx hb hts hiX7 hown hK hP 0 rfl rfl 16 (by decide) (hts (.fieldLink RX7 36 "LeftProfileModel" "roomAt" "[I") (List.mem_of_getElem? (i := 1) rfl)) (fun _ h9 => h9) rfl dX7_findRoom_141 ?_
          refine lv_iconst (v := 2) hx hb dX7_findRoom_144 (by decide) ?_
          refine va_iald hx hb hK hP 3 0 rfl rfl (vp_in_nI (n := 2) (by omega) (by omega)) dX7_findRoom_145 ?_
          refine cz_i (y := ((upd (upd (upd y6 0 (nI i27)) 1 20) 2 21) 2)) (congrArg (upd (upd (upd y6 0 (nI i27)) 1 20) 2 21) (nI_clamp (n := 2) (by omega))) ?_
          refine lv_icmp_ge (tgt := 153) hx hb dX7_findRoom_146 (by decide) (fun c_10 => ?_) (fun c_10 => ?_)
          · refine lv_iconst (v := 0) hx hb dX7_findRoom_153 (by decide) ?_
            refine lv_istore (lv' := [(4, .int 0), (0, .ref h0), (1, .int 1), (2, .int 20), (3, .int (nI i27))]) hx hb dX7_findRoom_154 hl (by decide) rfl (fun ls hl => ?_)
            refine lv_iconst (v := 0) hx hb dX7_findRoom_156 (by decide) ?_
            refine lv_istore (lv' := [(5, .int 0), (4, .int 0), (0, .ref h0), (1, .int 1), (2, .int 20), (3, .int (nI i27))]) hx hb dX7_findRoom_157 hl (by decide) rfl (fun ls hl => ?_)
            have hex189 : ∀ (i159 : Nat) (y4 : Int32) (H : Heap) (locs : List Loc) (ls : Array Slot), va_P (dC, dI) vwCl [(h0, .inr (7, [.int ih, .int hn, .int fl, .int da, .int ds, .int ac, .int (nI kc), .ref m1, .ref m2, .ref m3, .ref m4, .ref m5, .int (nI pl), .ref pg, .int fa, .int nf, .ref m6, .ref m7, .ref m8, .long sd, .int ik, .int kh, .int (nI km), .int ka, .int ks, .int kac, .ref m9, .ref m10, .ref m11, .ref m12, .long hv])), (m1, .inl (cI, 6, .inl g1)), (m2, .inl (cI, 6, .inl g2)), (m6, .inl (cI, 3, .inl (upd (upd (upd y6 0 (nI i27)) 1 20) 2 21)))] H → va_D A [(h0, .inr (7, [.int ih, .int hn, .int fl, .int da, .int ds, .int ac, .int (nI kc), .ref m1, .ref m2, .ref m3, .ref m4, .ref m5, .int (nI pl), .ref pg, .int fa, .int nf, .ref m6, .ref m7, .ref m8, .long sd, .int ik, .int kh, .int (nI km), .int ka, .int ks, .int kac, .ref m9, .ref m10, .ref m11, .ref m12, .long hv])), (m1, .inl (cI, 6, .inl g1)), (m2, .inl (cI, 6, .inl g2)), (m6, .inl (cI, 3, .inl (upd (upd (upd y6 0 (nI i27)) 1 20) 2 21)))] → va_S A s.heap H locs → lv_has ls 6 [(0, .ref h0), (1, .int 1), (2, .int 20), (3, .int (nI i27)), (4, .int y4)] → W p l e ({ frames := 4, cells := 0, slots := 0, locals := 101 } : Room) s m #[Value.ref h0, Value.int 1] below meth c H locs 0 0 Q (F0 m 189 ls []) := by
              intro i159 y4 H locs ls  hP hD hS hl
              refine lv_iload hx hb dX7_findRoom_189 (lv_at hl 4 rfl) ?_
              refine lv_if_eq (tgt := 204) hx hb dX7_findRoom_191 (by decide) (fun c_11 => ?_) (fun c_11 => ?_)
              · refine lv_iinc (v := (nI (i27 + 1))) (lv' := [(3, .int (nI (i27 + 1))), (0, .ref h0), (1, .int 1), (2, .int 20), (4, .int y4)]) hx hb dX7_findRoom_204 hl (k := 3) rfl (nI_add i27 1) (by decide) rfl (fun ls hl => ?_)
                refine lv_goto (tgt := 27) hx hb dX7_findRoom_207 (by decide) ?_
                exact ih27 (i27 + 1) (upd (upd (upd y6 0 (nI i27)) 1 20) 2 21) H locs ls (by omega)  hP hD hS (lv_sub hl [1, 2, 3, 0] rfl)
              · refine lv_aload_n hx hb dX7_findRoom_194 rfl (lv_at hl 0 rfl) ?_
                refine lv_iload_n hx hb dX7_findRoom_195 rfl (lv_at hl 1 rfl) ?_
                refine vp_callSi (cz_run (va_runV (As := [.int 1]) (rest := []) ⟨hx, hb, hml, hown, hts⟩ (c_X7_isRoom l dC dI cI cB h0 1 ih hn fl da ds ac kc m1 m2 m3 m4 m5 pl pg fa nf m6 m7 m8 sd ik kh km ka ks kac m9 m10 m11 m12 hv g1 g2 (upd (upd (upd y6 0 (nI i27)) 1 20) 2 21) hkc hpl hda (by omega) (cz_rm_of (by decide) (fun _ => (cz_in_nI (i := i27) (by omega))) (fun h => absurd h (by decide)) (fun h => absurd h (by decide)))) (cwV 1 hts gX7_findRoom_X7_isRoom rfl rfl rfl (by decide +kernel) ⟨Nat.le_of_ble_eq_true rfl, Nat.le_of_ble_eq_true rfl⟩) (cz_pV hP hN (va_recv hK hP (ci := 7) (q0 := 0) rfl rfl)) rfl rfl hl.1 rfl (lv_room (Nat.le_of_ble_eq_true rfl)) dX7_findRoom_196 ⟨Nat.le_of_ble_eq_true rfl, Nat.le_of_ble_eq_true rfl⟩)) (fun r_12 hr_12 => ?_)
                refine lv_if_eq (tgt := 204) hx hb dX7_findRoom_199 (by decide) (fun c_13 => ?_) (fun c_13 => ?_)
                · refine lv_iinc (v := (nI (i27 + 1))) (lv' := [(3, .int (nI (i27 + 1))), (0, .ref h0), (1, .int 1), (2, .int 20), (4, .int y4)]) hx hb dX7_findRoom_204 hl (k := 3) rfl (nI_add i27 1) (by decide) rfl (fun ls hl => ?_)
                  refine lv_goto (tgt := 27) hx hb dX7_findRoom_207 (by decide) ?_
                  exact ih27 (i27 + 1) (upd (upd (upd y6 0 (nI i27)) 1 20) 2 21) H locs ls (by omega)  hP hD hS (lv_sub hl [1, 2, 3, 0] rfl)
                · refine lv_iconst (v := 1) hx hb dX7_findRoom_202 (by decide) ?_
                  refine W.widen (k := 0) (n := 0) (Nat.le_of_ble_eq_true rfl) (Nat.le_of_ble_eq_true rfl) ?_
                  have hP9 := hP.sub (ws' := [(h0, .inr (7, [.int ih, .int hn, .int fl, .int da, .int ds, .int ac, .int (nI kc), .ref m1, .ref m2, .ref m3, .ref m4, .ref m5, .int (nI pl), .ref pg, .int fa, .int nf, .ref m6, .ref m7, .ref m8, .long sd, .int ik, .int kh, .int (nI km), .int ka, .int ks, .int kac, .ref m9, .ref m10, .ref m11, .ref m12, .long hv])), (m1, .inl (cI, 6, .inl g1)), (m2, .inl (cI, 6, .inl g2)), (m6, .inl (cI, 3, .inl (upd (upd (upd y6 0 (nI i27)) 1 20) 2 21)))]) [0, 1, 2, 3] rfl
                  have hD9 := hD.sub (ws' := [(h0, .inr (7, [.int ih, .int hn, .int fl, .int da, .int ds, .int ac, .int (nI kc), .ref m1, .ref m2, .ref m3, .ref m4, .ref m5, .int (nI pl), .ref pg, .int fa, .int nf, .ref m6, .ref m7, .ref m8, .long sd, .int ik, .int kh, .int (nI km), .int ka, .int ks, .int kac, .ref m9, .ref m10, .ref m11, .ref m12, .long hv])), (m1, .inl (cI, 6, .inl g1)), (m2, .inl (cI, 6, .inl g2)), (m6, .inl (cI, 3, .inl (upd (upd (upd y6 0 (nI i27)) 1 20) 2 21)))]) [0, 1, 2, 3] (by decide) rfl
                  rw [hQ]; exact W.zret (v := 1) hx hb hr (by decide) (fun t ht hW => ⟨⟨1, (), rfl, trivial, ⟨(upd (upd (upd y6 0 (nI i27)) 1 20) 2 21), by rw [ht]; exact hP9, hD9⟩⟩, hS.F ht⟩) hS.2.2 dX7_findRoom_203
            have lp159 : ∀ (n159 : Nat) (i159 : Nat) (y4 : Int32) (H : Heap) (locs : List Loc) (ls : Array Slot), i159 + n159 = 1 → va_P (dC, dI) vwCl [(h0, .inr (7, [.int ih, .int hn, .int fl, .int da, .int ds, .int ac, .int (nI kc), .ref m1, .ref m2, .ref m3, .ref m4, .ref m5, .int (nI pl), .ref pg, .int fa, .int nf, .ref m6, .ref m7, .ref m8, .long sd, .int ik, .int kh, .int (nI km), .int ka, .int ks, .int kac, .ref m9, .ref m10, .ref m11, .ref m12, .long hv])), (m1, .inl (cI, 6, .inl g1)), (m2, .inl (cI, 6, .inl g2)), (m6, .inl (cI, 3, .inl (upd (upd (upd y6 0 (nI i27)) 1 20) 2 21)))] H → va_D A [(h0, .inr (7, [.int ih, .int hn, .int fl, .int da, .int ds, .int ac, .int (nI kc), .ref m1, .ref m2, .ref m3, .ref m4, .ref m5, .int (nI pl), .ref pg, .int fa, .int nf, .ref m6, .ref m7, .ref m8, .long sd, .int ik, .int kh, .int (nI km), .int ka, .int ks, .int kac, .ref m9, .ref m10, .ref m11, .ref m12, .long hv])), (m1, .inl (cI, 6, .inl g1)), (m2, .inl (cI, 6, .inl g2)), (m6, .inl (cI, 3, .inl (upd (upd (upd y6 0 (nI i27)) 1 20) 2 21)))] → va_S A s.heap H locs → lv_has ls 6 [(0, .ref h0), (1, .int 1), (2, .int 20), (3, .int (nI i27)), (4, .int y4), (5, .int (nI i159))] → W p l e ({ frames := 4, cells := 0, slots := 0, locals := 101 } : Room) s m #[Value.ref h0, Value.int 1] below meth c H locs 0 0 Q (F0 m 159 ls []) := by
              intro n159
              induction n159 with
              | zero =>
                intro i159 y4 H locs ls hi159  hP hD hS hl
                refine lv_iload hx hb dX7_findRoom_159 (lv_at hl 5 rfl) ?_
                refine lv_iload_n hx hb dX7_findRoom_161 rfl (lv_at hl 1 rfl) ?_
                refine lv_icmp_ge (tgt := 189) hx hb dX7_findRoom_162 (by decide) (fun c_14 => ?_) (fun c_14 => ?_)
                · exact hex189 i159 y4 H locs ls  hP hD hS (lv_sub hl [0, 1, 2, 3, 4] rfl)
                · exact absurd (show (1 : Int32) ≤ nI i159 from nI_le (a := 1) (b := i159) (by omega) (by omega)) c_14
              | succ n159 ih159 =>
                intro i159 y4 H locs ls hi159  hP hD hS hl
                refine lv_iload hx hb dX7_findRoom_159 (lv_at hl 5 rfl) ?_
                refine lv_iload_n hx hb dX7_findRoom_161 rfl (lv_at hl 1 rfl) ?_
                refine lv_icmp_ge (tgt := 189) hx hb dX7_findRoom_162 (by decide) (fun c_15 => ?_) (fun c_15 => ?_)
                · exact absurd c_15 (show ¬ (1 : Int32) ≤ nI i159 from nI_ge (a := i159) (b := 1) (by omega) (by omega))
                · refine lv_iload hx hb dX7_findRoom_165 (lv_at hl 4 rfl) ?_
                  refine lv_if_eq (tgt := 189) hx hb dX7_findRoom_167 (by decide) (fun c_16 => ?_) (fun c_16 => ?_)
                  · exact hex189 i159 y4 H locs ls  hP hD hS (lv_sub hl [0, 1, 2, 3, 4] rfl)
                  · refine lv_aload_n hx hb dX7_findRoom_170 rfl (lv_at hl 0 rfl) ?_
                    refine lv_aload_n hx hb dX7_findRoom_171 rfl (lv_at hl 0 rfl) ?_
                    refine va_get (D := (dC, dI)) (ci := 7) (v := .ref m6) (C := RX7) (T := TX7) (N := 31) hx hb hts hiX7 hown hK hP 0 rfl rfl 16 (by decide) (hts (.fieldLink RX7 36 "LeftProfileModel" "roomAt" "[I") (List.mem_of_getElem? (i := 1) rfl)) (fun _ h9 => h9) rfl dX7_findRoom_172 ?_
                    refine lv_iload hx hb dX7_findRoom_175 (lv_at hl 5 rfl) ?_
                    refine va_iald hx hb hK hP 3 0 rfl rfl (vp_in_nI (n := i159) (by omega) (by omega)) dX7_findRoom_177 ?_
                    refine cz_i (y := ((upd (upd (upd y6 0 (nI i27)) 1 20) 2 21) i159)) (congrArg (upd (upd (upd y6 0 (nI i27)) 1 20) 2 21) (nI_clamp (n := i159) (by omega))) ?_
                    refine vp_callSi (cz_run (va_runV (As := [.int ((upd (upd (upd y6 0 (nI i27)) 1 20) 2 21) i159)]) (rest := []) ⟨hx, hb, hml, hown, hts⟩ (c_X7_isEmpty l dC dI cI cB h0 ((upd (upd (upd y6 0 (nI i27)) 1 20) 2 21) i159) ih hn fl da ds ac kc m1 m2 m3 m4 m5 pl pg fa nf m6 m7 m8 sd ik kh km ka ks kac m9 m10 m11 m12 hv g2 hkc) (cwV 1 hts gX7_findRoom_X7_isEmpty rfl rfl rfl (by decide +kernel) ⟨Nat.le_of_ble_eq_true rfl, Nat.le_of_ble_eq_true rfl⟩) (cz_pV (hP.sub (ws' := [(h0, .inr (7, [.int ih, .int hn, .int fl, .int da, .int ds, .int ac, .int (nI kc), .ref m1, .ref m2, .ref m3, .ref m4, .ref m5, .int (nI pl), .ref pg, .int fa, .int nf, .ref m6, .ref m7, .ref m8, .long sd, .int ik, .int kh, .int (nI km), .int ka, .int ks, .int kac, .ref m9, .ref m10, .ref m11, .ref m12, .long hv])), (m2, .inl (cI, 6, .inl g2))]) [0, 2] rfl) hN (va_recv hK (hP.sub (ws' := [(h0, .inr (7, [.int ih, .int hn, .int fl, .int da, .int ds, .int ac, .int (nI kc), .ref m1, .ref m2, .ref m3, .ref m4, .ref m5, .int (nI pl), .ref pg, .int fa, .int nf, .ref m6, .ref m7, .ref m8, .long sd, .int ik, .int kh, .int (nI km), .int ka, .int ks, .int kac, .ref m9, .ref m10, .ref m11, .ref m12, .long hv])), (m2, .inl (cI, 6, .inl g2))]) [0, 2] rfl) (ci := 7) (q0 := 0) rfl rfl)) rfl rfl hl.1 rfl (lv_room (Nat.le_of_ble_eq_true rfl)) dX7_findRoom_178 ⟨Nat.le_of_ble_eq_true rfl, Nat.le_of_ble_eq_true rfl⟩)) (fun r_17 hr_17 => ?_)
                    rcases hr_17 with ⟨rfl, hr_17⟩ | ⟨rfl, hr_17⟩
                    · refine lv_istore (lv' := [(4, .int 0), (0, .ref h0), (1, .int 1), (2, .int 20), (3, .int (nI i27)), (5, .int (nI i159))]) hx hb dX7_findRoom_181 hl (by decide) rfl (fun ls hl => ?_)
                      refine lv_iinc (v := (nI (i159 + 1))) (lv' := [(5, .int (nI (i159 + 1))), (4, .int 0), (0, .ref h0), (1, .int 1), (2, .int 20), (3, .int (nI i27))]) hx hb dX7_findRoom_183 hl (k := 5) rfl (nI_add i159 1) (by decide) rfl (fun ls hl => ?_)
                      refine lv_goto (tgt := 159) hx hb dX7_findRoom_186 (by decide) ?_
                      exact ih159 (i159 + 1) 0 H locs ls (by omega)  hP hD hS (lv_sub hl [2, 3, 4, 5, 1, 0] rfl)
                    · refine lv_istore (lv' := [(4, .int 1), (0, .ref h0), (1, .int 1), (2, .int 20), (3, .int (nI i27)), (5, .int (nI i159))]) hx hb dX7_findRoom_181 hl (by decide) rfl (fun ls hl => ?_)
                      refine lv_iinc (v := (nI (i159 + 1))) (lv' := [(5, .int (nI (i159 + 1))), (4, .int 1), (0, .ref h0), (1, .int 1), (2, .int 20), (3, .int (nI i27))]) hx hb dX7_findRoom_183 hl (k := 5) rfl (nI_add i159 1) (by decide) rfl (fun ls hl => ?_)
                      refine lv_goto (tgt := 159) hx hb dX7_findRoom_186 (by decide) ?_
                      exact ih159 (i159 + 1) 1 H locs ls (by omega)  hP hD hS (lv_sub hl [2, 3, 4, 5, 1, 0] rfl)
            exact lp159 1 0 0 H locs ls (by omega)  hP hD hS (lv_sub hl [2, 3, 4, 5, 1, 0] rfl)
          · refine lv_iconst (v := 1) hx hb dX7_findRoom_149 (by decide) ?_
            refine lv_goto (tgt := 154) hx hb dX7_findRoom_150 (by decide) ?_
            refine lv_istore (lv' := [(4, .int 1), (0, .ref h0), (1, .int 1), (2, .int 20), (3, .int (nI i27))]) hx hb dX7_findRoom_154 hl (by decide) rfl (fun ls hl => ?_)
            refine lv_iconst (v := 0) hx hb dX7_findRoom_156 (by decide) ?_
            refine lv_istore (lv' := [(5, .int 0), (4, .int 1), (0, .ref h0), (1, .int 1), (2, .int 20), (3, .int (nI i27))]) hx hb dX7_findRoom_157 hl (by decide) rfl (fun ls hl => ?_)
            have hex189 : ∀ (i159 : Nat) (y4 : Int32) (H : Heap) (locs : List Loc) (ls : Array Slot), va_P (dC, dI) vwCl [(h0, .inr (7, [.int ih, .int hn, .int fl, .int da, .int ds, .int ac, .int (nI kc), .ref m1, .ref m2, .ref m3, .ref m4, .ref m5, .int (nI pl), .ref pg, .int fa, .int nf, .ref m6, .ref m7, .ref m8, .long sd, .int ik, .int kh, .int (nI km), .int ka, .int ks, .int kac, .ref m9, .ref m10, .ref m11, .ref m12, .long hv])), (m1, .inl (cI, 6, .inl g1)), (m2, .inl (cI, 6, .inl g2)), (m6, .inl (cI, 3, .inl (upd (upd (upd y6 0 (nI i27)) 1 20) 2 21)))] H → va_D A [(h0, .inr (7, [.int ih, .int hn, .int fl, .int da, .int ds, .int ac, .int (nI kc), .ref m1, .ref m2, .ref m3, .ref m4, .ref m5, .int (nI pl), .ref pg, .int fa, .int nf, .ref m6, .ref m7, .ref m8, .long sd, .int ik, .int kh, .int (nI km), .int ka, .int ks, .int kac, .ref m9, .ref m10, .ref m11, .ref m12, .long hv])), (m1, .inl (cI, 6, .inl g1)), (m2, .inl (cI, 6, .inl g2)), (m6, .inl (cI, 3, .inl (upd (upd (upd y6 0 (nI i27)) 1 20) 2 21)))] → va_S A s.heap H locs → lv_has ls 6 [(0, .ref h0), (1, .int 1), (2, .int 20), (3, .int (nI i27)), (4, .int y4)] → W p l e ({ frames := 4, cells := 0, slots := 0, locals := 101 } : Room) s m #[Value.ref h0, Value.int 1] below meth c H locs 0 0 Q (F0 m 189 ls []) := by
              intro i159 y4 H locs ls  hP hD hS hl
              refine lv_iload hx hb dX7_findRoom_189 (lv_at hl 4 rfl) ?_
              refine lv_if_eq (tgt := 204) hx hb dX7_findRoom_191 (by decide) (fun c_18 => ?_) (fun c_18 => ?_)
              · refine lv_iinc (v := (nI (i27 + 1))) (lv' := [(3, .int (nI (i27 + 1))), (0, .ref h0), (1, .int 1), (2, .int 20), (4, .int y4)]) hx hb dX7_findRoom_204 hl (k := 3) rfl (nI_add i27 1) (by decide) rfl (fun ls hl => ?_)
                refine lv_goto (tgt := 27) hx hb dX7_findRoom_207 (by decide) ?_
                exact ih27 (i27 + 1) (upd (upd (upd y6 0 (nI i27)) 1 20) 2 21) H locs ls (by omega)  hP hD hS (lv_sub hl [1, 2, 3, 0] rfl)
              · refine lv_aload_n hx hb dX7_findRoom_194 rfl (lv_at hl 0 rfl) ?_
                refine lv_iload_n hx hb dX7_findRoom_195 rfl (lv_at hl 1 rfl) ?_
                refine vp_callSi (cz_run (va_runV (As := [.int 1]) (rest := []) ⟨hx, hb, hml, hown, hts⟩ (c_X7_isRoom l dC dI cI cB h0 1 ih hn fl da ds ac kc m1 m2 m3 m4 m5 pl pg fa nf m6 m7 m8 sd ik kh km ka ks kac m9 m10 m11 m12 hv g1 g2 (upd (upd (upd y6 0 (nI i27)) 1 20) 2 21) hkc hpl hda (by omega) (cz_rm_of (by decide) (fun _ => (cz_in_nI (i := i27) (by omega))) (fun h => absurd h (by decide)) (fun h => absurd h (by decide)))) (cwV 1 hts gX7_findRoom_X7_isRoom rfl rfl rfl (by decide +kernel) ⟨Nat.le_of_ble_eq_true rfl, Nat.le_of_ble_eq_true rfl⟩) (cz_pV hP hN (va_recv hK hP (ci := 7) (q0 := 0) rfl rfl)) rfl rfl hl.1 rfl (lv_room (Nat.le_of_ble_eq_true rfl)) dX7_findRoom_196 ⟨Nat.le_of_ble_eq_true rfl, Nat.le_of_ble_eq_true rfl⟩)) (fun r_19 hr_19 => ?_)
                refine lv_if_eq (tgt := 204) hx hb dX7_findRoom_199 (by decide) (fun c_20 => ?_) (fun c_20 => ?_)
                · refine lv_iinc (v := (nI (i27 + 1))) (lv' := [(3, .int (nI (i27 + 1))), (0, .ref h0), (1, .int 1), (2, .int 20), (4, .int y4)]) hx hb dX7_findRoom_204 hl (k := 3) rfl (nI_add i27 1) (by decide) rfl (fun ls hl => ?_)
                  refine lv_goto (tgt := 27) hx hb dX7_findRoom_207 (by decide) ?_
                  exact ih27 (i27 + 1) (upd (upd (upd y6 0 (nI i27)) 1 20) 2 21) H locs ls (by omega)  hP hD hS (lv_sub hl [1, 2, 3, 0] rfl)
                · refine lv_iconst (v := 1) hx hb dX7_findRoom_202 (by decide) ?_
                  refine W.widen (k := 0) (n := 0) (Nat.le_of_ble_eq_true rfl) (Nat.le_of_ble_eq_true rfl) ?_
                  have hP9 := hP.sub (ws' := [(h0, .inr (7, [.int ih, .int hn, .int fl, .int da, .int ds, .int ac, .int (nI kc), .ref m1, .ref m2, .ref m3, .ref m4, .ref m5, .int (nI pl), .ref pg, .int fa, .int nf, .ref m6, .ref m7, .ref m8, .long sd, .int ik, .int kh, .int (nI km), .int ka, .int ks, .int kac, .ref m9, .ref m10, .ref m11, .ref m12, .long hv])), (m1, .inl (cI, 6, .inl g1)), (m2, .inl (cI, 6, .inl g2)), (m6, .inl (cI, 3, .inl (upd (upd (upd y6 0 (nI i27)) 1 20) 2 21)))]) [0, 1, 2, 3] rfl
                  have hD9 := hD.sub (ws' := [(h0, .inr (7, [.int ih, .int hn, .int fl, .int da, .int ds, .int ac, .int (nI kc), .ref m1, .ref m2, .ref m3, .ref m4, .ref m5, .int (nI pl), .ref pg, .int fa, .int nf, .ref m6, .ref m7, .ref m8, .long sd, .int ik, .int kh, .int (nI km), .int ka, .int ks, .int kac, .ref m9, .ref m10, .ref m11, .ref m12, .long hv])), (m1, .inl (cI, 6, .inl g1)), (m2, .inl (cI, 6, .inl g2)), (m6, .inl (cI, 3, .inl (upd (upd (upd y6 0 (nI i27)) 1 20) 2 21)))]) [0, 1, 2, 3] (by decide) rfl
                  rw [hQ]; exact W.zret (v := 1) hx hb hr (by decide) (fun t ht hW => ⟨⟨1, (), rfl, trivial, ⟨(upd (upd (upd y6 0 (nI i27)) 1 20) 2 21), by rw [ht]; exact hP9, hD9⟩⟩, hS.F ht⟩) hS.2.2 dX7_findRoom_203
            have lp159 : ∀ (n159 : Nat) (i159 : Nat) (y4 : Int32) (H : Heap) (locs : List Loc) (ls : Array Slot), i159 + n159 = 1 → va_P (dC, dI) vwCl [(h0, .inr (7, [.int ih, .int hn, .int fl, .int da, .int ds, .int ac, .int (nI kc), .ref m1, .ref m2, .ref m3, .ref m4, .ref m5, .int (nI pl), .ref pg, .int fa, .int nf, .ref m6, .ref m7, .ref m8, .long sd, .int ik, .int kh, .int (nI km), .int ka, .int ks, .int kac, .ref m9, .ref m10, .ref m11, .ref m12, .long hv])), (m1, .inl (cI, 6, .inl g1)), (m2, .inl (cI, 6, .inl g2)), (m6, .inl (cI, 3, .inl (upd (upd (upd y6 0 (nI i27)) 1 20) 2 21)))] H → va_D A [(h0, .inr (7, [.int ih, .int hn, .int fl, .int da, .int ds, .int ac, .int (nI kc), .ref m1, .ref m2, .ref m3, .ref m4, .ref m5, .int (nI pl), .ref pg, .int fa, .int nf, .ref m6, .ref m7, .ref m8, .long sd, .int ik, .int kh, .int (nI km), .int ka, .int ks, .int kac, .ref m9, .ref m10, .ref m11, .ref m12, .long hv])), (m1, .inl (cI, 6, .inl g1)), (m2, .inl (cI, 6, .inl g2)), (m6, .inl (cI, 3, .inl (upd (upd (upd y6 0 (nI i27)) 1 20) 2 21)))] → va_S A s.heap H locs → lv_has ls 6 [(0, .ref h0), (1, .int 1), (2, .int 20), (3, .int (nI i27)), (4, .int y4), (5, .int (nI i159))] → W p l e ({ frames := 4, cells := 0, slots := 0, locals := 101 } : Room) s m #[Value.ref h0, Value.int 1] below meth c H locs 0 0 Q (F0 m 159 ls []) := by
              intro n159
              induction n159 with
              | zero =>
                intro i159 y4 H locs ls hi159  hP hD hS hl
                refine lv_iload hx hb dX7_findRoom_159 (lv_at hl 5 rfl) ?_
                refine lv_iload_n hx hb dX7_findRoom_161 rfl (lv_at hl 1 rfl) ?_
                refine lv_icmp_ge (tgt := 189) hx hb dX7_findRoom_162 (by decide) (fun c_21 => ?_) (fun c_21 => ?_)
                · exact hex189 i159 y4 H locs ls  hP hD hS (lv_sub hl [0, 1, 2, 3, 4] rfl)
                · exact absurd (show (1 : Int32) ≤ nI i159 from nI_le (a := 1) (b := i159) (by omega) (by omega)) c_21
              | succ n159 ih159 =>
                intro i159 y4 H locs ls hi159  hP hD hS hl
                refine lv_iload hx hb dX7_findRoom_159 (lv_at hl 5 rfl) ?_
                refine lv_iload_n hx hb dX7_findRoom_161 rfl (lv_at hl 1 rfl) ?_
                refine lv_icmp_ge (tgt := 189) hx hb dX7_findRoom_162 (by decide) (fun c_22 => ?_) (fun c_22 => ?_)
                · exact absurd c_22 (show ¬ (1 : Int32) ≤ nI i159 from nI_ge (a := i159) (b := 1) (by omega) (by omega))
                · refine lv_iload hx hb dX7_findRoom_165 (lv_at hl 4 rfl) ?_
                  refine lv_if_eq (tgt := 189) hx hb dX7_findRoom_167 (by decide) (fun c_23 => ?_) (fun c_23 => ?_)
                  · exact hex189 i159 y4 H locs ls  hP hD hS (lv_sub hl [0, 1, 2, 3, 4] rfl)
                  · refine lv_aload_n hx hb dX7_findRoom_170 rfl (lv_at hl 0 rfl) ?_
                    refine lv_aload_n hx hb dX7_findRoom_171 rfl (lv_at hl 0 rfl) ?_
                    refine va_get (D := (dC, dI)) (ci := 7) (v := .ref m6) (C := RX7) (T := TX7) (N := 31) hx hb hts hiX7 hown hK hP 0 rfl rfl 16 (by decide) (hts (.fieldLink RX7 36 "LeftProfileModel" "roomAt" "[I") (List.mem_of_getElem? (i := 1) rfl)) (fun _ h9 => h9) rfl dX7_findRoom_172 ?_
                    refine lv_iload hx hb dX7_findRoom_175 (lv_at hl 5 rfl) ?_
                    refine va_iald hx hb hK hP 3 0 rfl rfl (vp_in_nI (n := i159) (by omega) (by omega)) dX7_findRoom_177 ?_
                    refine cz_i (y := ((upd (upd (upd y6 0 (nI i27)) 1 20) 2 21) i159)) (congrArg (upd (upd (upd y6 0 (nI i27)) 1 20) 2 21) (nI_clamp (n := i159) (by omega))) ?_
                    refine vp_callSi (cz_run (va_runV (As := [.int ((upd (upd (upd y6 0 (nI i27)) 1 20) 2 21) i159)]) (rest := []) ⟨hx, hb, hml, hown, hts⟩ (c_X7_isEmpty l dC dI cI cB h0 ((upd (upd (upd y6 0 (nI i27)) 1 20) 2 21) i159) ih hn fl da ds ac kc m1 m2 m3 m4 m5 pl pg fa nf m6 m7 m8 sd ik kh km ka ks kac m9 m10 m11 m12 hv g2 hkc) (cwV 1 hts gX7_findRoom_X7_isEmpty rfl rfl rfl (by decide +kernel) ⟨Nat.le_of_ble_eq_true rfl, Nat.le_of_ble_eq_true rfl⟩) (cz_pV (hP.sub (ws' := [(h0, .inr (7, [.int ih, .int hn, .int fl, .int da, .int ds, .int ac, .int (nI kc), .ref m1, .ref m2, .ref m3, .ref m4, .ref m5, .int (nI pl), .ref pg, .int fa, .int nf, .ref m6, .ref m7, .ref m8, .long sd, .int ik, .int kh, .int (nI km), .int ka, .int ks, .int kac, .ref m9, .ref m10, .ref m11, .ref m12, .long hv])), (m2, .inl (cI, 6, .inl g2))]) [0, 2] rfl) hN (va_recv hK (hP.sub (ws' := [(h0, .inr (7, [.int ih, .int hn, .int fl, .int da, .int ds, .int ac, .int (nI kc), .ref m1, .ref m2, .ref m3, .ref m4, .ref m5, .int (nI pl), .ref pg, .int fa, .int nf, .ref m6, .ref m7, .ref m8, .long sd, .int ik, .int kh, .int (nI km), .int ka, .int ks, .int kac, .ref m9, .ref m10, .ref m11, .ref m12, .long hv])), (m2, .inl (cI, 6, .inl g2))]) [0, 2] rfl) (ci := 7) (q0 := 0) rfl rfl)) rfl rfl hl.1 rfl (lv_room (Nat.le_of_ble_eq_true rfl)) dX7_findRoom_178 ⟨Nat.le_of_ble_eq_true rfl, Nat.le_of_ble_eq_true rfl⟩)) (fun r_24 hr_24 => ?_)
                    rcases hr_24 with ⟨rfl, hr_24⟩ | ⟨rfl, hr_24⟩
                    · refine lv_istore (lv' := [(4, .int 0), (0, .ref h0), (1, .int 1), (2, .int 20), (3, .int (nI i27)), (5, .int (nI i159))]) hx hb dX7_findRoom_181 hl (by decide) rfl (fun ls hl => ?_)
                      refine lv_iinc (v := (nI (i159 + 1))) (lv' := [(5, .int (nI (i159 + 1))), (4, .int 0), (0, .ref h0), (1, .int 1), (2, .int 20), (3, .int (nI i27))]) hx hb dX7_findRoom_183 hl (k := 5) rfl (nI_add i159 1) (by decide) rfl (fun ls hl => ?_)
                      refine lv_goto (tgt := 159) hx hb dX7_findRoom_186 (by decide) ?_
                      exact ih159 (i159 + 1) 0 H locs ls (by omega)  hP hD hS (lv_sub hl [2, 3, 4, 5, 1, 0] rfl)
                    · refine lv_istore (lv' := [(4, .int 1), (0, .ref h0), (1, .int 1), (2, .int 20), (3, .int (nI i27)), (5, .int (nI i159))]) hx hb dX7_findRoom_181 hl (by decide) rfl (fun ls hl => ?_)
                      refine lv_iinc (v := (nI (i159 + 1))) (lv' := [(5, .int (nI (i159 + 1))), (4, .int 1), (0, .ref h0), (1, .int 1), (2, .int 20), (3, .int (nI i27))]) hx hb dX7_findRoom_183 hl (k := 5) rfl (nI_add i159 1) (by decide) rfl (fun ls hl => ?_)
                      refine lv_goto (tgt := 159) hx hb dX7_findRoom_186 (by decide) ?_
                      exact ih159 (i159 + 1) 1 H locs ls (by omega)  hP hD hS (lv_sub hl [2, 3, 4, 5, 1, 0] rfl)
            exact lp159 1 0 1 H locs ls (by omega)  hP hD hS (lv_sub hl [2, 3, 4, 5, 1, 0] rfl)
  exact lp27 20 0 g6 s.heap [] ls (by omega)  hP hD hS (lv_sub hl [2, 3, 1, 0] rfl)

set_option maxHeartbeats 4000000 in
set_option maxRecDepth 100000 in
theorem c_findRoom2 (l : Launch) (dC : Nat → ClassId) (dI : Nat → Nat → Nat) (cI cB : ClassId) (h0 : Nat) (ih : Int32) (hn : Int32) (fl : Int32) (da : Int32) (ds : Int32) (ac : Int32) (kc : Nat) (m1 : Nat) (m2 : Nat) (m3 : Nat) (m4 : Nat) (m5 : Nat) (pl : Nat) (pg : Nat) (fa : Int32) (nf : Int32) (m6 : Nat) (m7 : Nat) (m8 : Nat) (sd : Int64) (ik : Int32) (kh : Int32) (km : Nat) (ka : Int32) (ks : Int32) (kac : Int32) (m9 : Nat) (m10 : Nat) (m11 : Nat) (m12 : Nat) (hv : Int64) (g1 : Nat → Int32) (g2 : Nat → Int32) (g6 : Nat → Int32) (sz : Nat) (hkc : kc ≤ 6) (hpl : cz_pl g2) (hda : cz_in 0 da 19) : Met l yX7_findRoom wsX7_findRoom ({ frames := 4, cells := 0, slots := 0, locals := 101 }) (cz_Pm dC dI cI cB [.ref h0, .int 2] [(h0, .inr (7, [.int ih, .int hn, .int fl, .int da, .int ds, .int ac, .int (nI kc), .ref m1, .ref m2, .ref m3, .ref m4, .ref m5, .int (nI pl), .ref pg, .int fa, .int nf, .ref m6, .ref m7, .ref m8, .long sd, .int ik, .int kh, .int (nI km), .int ka, .int ks, .int kac, .ref m9, .ref m10, .ref m11, .ref m12, .long hv])), (m1, .inl (cI, 6, .inl g1)), (m2, .inl (cI, 6, .inl g2)), (m6, .inl (cI, 3, .inl g6))] sz) (va_Qi (fun (r : Int32) (_ : Unit) => True) (fun _ t => ∃ (t6 : Nat → Int32), va_P (dC, dI) vwCl [(h0, .inr (7, [.int ih, .int hn, .int fl, .int da, .int ds, .int ac, .int (nI kc), .ref m1, .ref m2, .ref m3, .ref m4, .ref m5, .int (nI pl), .ref pg, .int fa, .int nf, .ref m6, .ref m7, .ref m8, .long sd, .int ik, .int kh, .int (nI km), .int ka, .int ks, .int kac, .ref m9, .ref m10, .ref m11, .ref m12, .long hv])), (m1, .inl (cI, 6, .inl g1)), (m2, .inl (cI, 6, .inl g2)), (m6, .inl (cI, 3, .inl t6))] t.heap ∧ va_D (va_A [(h0, .inr (7, [.int ih, .int hn, .int fl, .int da, .int ds, .int ac, .int (nI kc), .ref m1, .ref m2, .ref m3, .ref m4, .ref m5, .int (nI pl), .ref pg, .int fa, .int nf, .ref m6, .ref m7, .ref m8, .long sd, .int ik, .int kh, .int (nI km), .int ka, .int ks, .int kac, .ref m9, .ref m10, .ref m11, .ref m12, .long hv])), (m1, .inl (cI, 6, .inl g1)), (m2, .inl (cI, 6, .inl g2)), (m6, .inl (cI, 3, .inl g6))] sz) [(h0, .inr (7, [.int ih, .int hn, .int fl, .int da, .int ds, .int ac, .int (nI kc), .ref m1, .ref m2, .ref m3, .ref m4, .ref m5, .int (nI pl), .ref pg, .int fa, .int nf, .ref m6, .ref m7, .ref m8, .long sd, .int ik, .int kh, .int (nI km), .int ka, .int ks, .int kac, .ref m9, .ref m10, .ref m11, .ref m12, .long hv])), (m1, .inl (cI, 6, .inl g1)), (m2, .inl (cI, 6, .inl g2)), (m6, .inl (cI, 3, .inl t6))]) (va_A [(h0, .inr (7, [.int ih, .int hn, .int fl, .int da, .int ds, .int ac, .int (nI kc), .ref m1, .ref m2, .ref m3, .ref m4, .ref m5, .int (nI pl), .ref pg, .int fa, .int nf, .ref m6, .ref m7, .ref m8, .long sd, .int ik, .int kh, .int (nI km), .int ka, .int ks, .int kac, .ref m9, .ref m10, .ref m11, .ref m12, .long hv])), (m1, .inl (cI, 6, .inl g1)), (m2, .inl (cI, 6, .inl g2)), (m6, .inl (cI, 3, .inl g6))] sz)) 0 0 (va_A [(h0, .inr (7, [.int ih, .int hn, .int fl, .int da, .int ds, .int ac, .int (nI kc), .ref m1, .ref m2, .ref m3, .ref m4, .ref m5, .int (nI pl), .ref pg, .int fa, .int nf, .ref m6, .ref m7, .ref m8, .long sd, .int ik, .int kh, .int (nI km), .int ka, .int ks, .int kac, .ref m9, .ref m10, .ref m11, .ref m12, .long hv])), (m1, .inl (cI, 6, .inl g1)), (m2, .inl (cI, 6, .inl g2)), (m6, .inl (cI, 3, .inl g6))] sz) := by
  refine cz_of (cc := cX7_findRoom) (maxL := 6) (ret := (some .boolean)) (by decide) rfl ?_
  intro p e s m args below meth c s₁ Q B hml hv hQ
  obtain ⟨rfl, hsz, hP, hN, hD0⟩ := hv
  have hx := B.exec
  have hb := B.bytes
  have hr := B.returns
  have hts := atoms_spec (ws := wsX7_findRoom) B.pre
  have hown : s.vm.findClass RX7 = some m.cls := findClass_of_methodNamed B.named
  have hlocks := B.notSynchronized
  have hK := hN.1
  have hiX7 : ∀ w ∈ wsX70, w ∈ wsX7_findRoom := (fun _ h => List.mem_cons_of_mem _ (List.mem_append_right _ h))
  subst hsz
  have hD := hD0.self (sz := s.heap.size)
  generalize hAe : va_A [(h0, .inr (7, [.int ih, .int hn, .int fl, .int da, .int ds, .int ac, .int (nI kc), .ref m1, .ref m2, .ref m3, .ref m4, .ref m5, .int (nI pl), .ref pg, .int fa, .int nf, .ref m6, .ref m7, .ref m8, .long sd, .int ik, .int kh, .int (nI km), .int ka, .int ks, .int kac, .ref m9, .ref m10, .ref m11, .ref m12, .long hv])), (m1, .inl (cI, 6, .inl g1)), (m2, .inl (cI, 6, .inl g2)), (m6, .inl (cI, 3, .inl g6))] s.heap.size = A at hD hQ ⊢
  have hA : ∀ q : Nat, s.heap.size ≤ q → A q := fun q h => by rw [← hAe]; exact Or.inr h
  have hS : va_S A s.heap s.heap [] := va_S.rf
  obtain ⟨H, eH⟩ : ∃ H, H = s.heap := ⟨_, rfl⟩
  have hP : va_P (dC, dI) vwCl [(h0, .inr (7, [.int ih, .int hn, .int fl, .int da, .int ds, .int ac, .int (nI kc), .ref m1, .ref m2, .ref m3, .ref m4, .ref m5, .int (nI pl), .ref pg, .int fa, .int nf, .ref m6, .ref m7, .ref m8, .long sd, .int ik, .int kh, .int (nI km), .int ka, .int ks, .int kac, .ref m9, .ref m10, .ref m11, .ref m12, .long hv])), (m1, .inl (cI, 6, .inl g1)), (m2, .inl (cI, 6, .inl g2)), (m6, .inl (cI, 3, .inl g6))] s.heap := hP
  have hl := lv_entry ([.ref h0, .int 2]) (n := 6) (Nat.le_of_ble_eq_true rfl)
  rw [lg_entry_eq]
  generalize (lg_sl ([.ref h0, .int 2]) ++ List.replicate (6 - (lg_sl ([.ref h0, .int 2])).length) Slot.unset).toArray = ls at hl ⊢
  have hl : lv_has ls 6 [(0, .ref h0), (1, .int 2)] := hl
  refine lv_iload_n hx hb dX7_findRoom_0 rfl (lv_at hl 1 rfl) ?_
  refine lv_iconst (v := 1) hx hb dX7_findRoom_1 (by decide) ?_
  refine lv_icmp_ne (tgt := 10) hx hb dX7_findRoom_2 (by decide) (fun _ => ?_) (fun c => absurd c (by decide))
  refine lv_iload_n hx hb dX7_findRoom_10 rfl (lv_at hl 1 rfl) ?_
  refine lv_iconst (v := 2) hx hb dX7_findRoom_11 (by decide) ?_
  refine lv_icmp_ne (tgt := 21) hx hb dX7_findRoom_12 (by decide) (fun c => absurd (by decide) c) (fun _ => ?_)
  refine lv_sipush (v := 400) hx hb dX7_findRoom_15 (by decide) ?_
  refine lv_goto (tgt := 24) hx hb dX7_findRoom_18 (by decide) ?_
  refine lv_istore_n (lv' := [(2, .int 400), (0, .ref h0), (1, .int 2)]) hx hb dX7_findRoom_24 rfl hl (by decide) rfl (fun ls hl => ?_)
  refine lv_iconst (v := 0) hx hb dX7_findRoom_25 (by decide) ?_
  refine lv_istore_n (lv' := [(3, .int 0), (2, .int 400), (0, .ref h0), (1, .int 2)]) hx hb dX7_findRoom_26 rfl hl (by decide) rfl (fun ls hl => ?_)
  have lp27 : ∀ (n27 : Nat) (i27 : Nat) (y6 : Nat → Int32) (H : Heap) (locs : List Loc) (ls : Array Slot), i27 + n27 = 400 → va_P (dC, dI) vwCl [(h0, .inr (7, [.int ih, .int hn, .int fl, .int da, .int ds, .int ac, .int (nI kc), .ref m1, .ref m2, .ref m3, .ref m4, .ref m5, .int (nI pl), .ref pg, .int fa, .int nf, .ref m6, .ref m7, .ref m8, .long sd, .int ik, .int kh, .int (nI km), .int ka, .int ks, .int kac, .ref m9, .ref m10, .ref m11, .ref m12, .long hv])), (m1, .inl (cI, 6, .inl g1)), (m2, .inl (cI, 6, .inl g2)), (m6, .inl (cI, 3, .inl y6))] H → va_D A [(h0, .inr (7, [.int ih, .int hn, .int fl, .int da, .int ds, .int ac, .int (nI kc), .ref m1, .ref m2, .ref m3, .ref m4, .ref m5, .int (nI pl), .ref pg, .int fa, .int nf, .ref m6, .ref m7, .ref m8, .long sd, .int ik, .int kh, .int (nI km), .int ka, .int ks, .int kac, .ref m9, .ref m10, .ref m11, .ref m12, .long hv])), (m1, .inl (cI, 6, .inl g1)), (m2, .inl (cI, 6, .inl g2)), (m6, .inl (cI, 3, .inl y6))] → va_S A s.heap H locs → lv_has ls 6 [(0, .ref h0), (1, .int 2), (2, .int 400), (3, .int (nI i27))] → W p l e ({ frames := 4, cells := 0, slots := 0, locals := 101 } : Room) s m #[Value.ref h0, Value.int 2] below meth c H locs 0 0 Q (F0 m 27 ls []) := by
    intro n27
    induction n27 with
    | zero =>
      intro i27 y6 H locs ls hi27  hP hD hS hl
      obtain rfl : i27 = 400 := by omega
      have hl : lv_has ls 6 [(0, .ref h0), (1, .int 2), (2, .int 400), (3, .int 400)] := hl
      refine lv_iload_n hx hb dX7_findRoom_27 rfl (lv_at hl 3 rfl) ?_
      refine lv_iload_n hx hb dX7_findRoom_28 rfl (lv_at hl 2 rfl) ?_
      refine lv_icmp_ge (tgt := 210) hx hb dX7_findRoom_29 (by decide) (fun _ => ?_) (fun c => absurd (by decide) c)
      refine lv_iconst (v := 0) hx hb dX7_findRoom_210 (by decide) ?_
      refine W.widen (k := 0) (n := 0) (Nat.le_of_ble_eq_true rfl) (Nat.le_of_ble_eq_true rfl) ?_
      have hP9 := hP.sub (ws' := [(h0, .inr (7, [.int ih, .int hn, .int fl, .int da, .int ds, .int ac, .int (nI kc), .ref m1, .ref m2, .ref m3, .ref m4, .ref m5, .int (nI pl), .ref pg, .int fa, .int nf, .ref m6, .ref m7, .ref m8, .long sd, .int ik, .int kh, .int (nI km), .int ka, .int ks, .int kac, .ref m9, .ref m10, .ref m11, .ref m12, .long hv])), (m1, .inl (cI, 6, .inl g1)), (m2, .inl (cI, 6, .inl g2)), (m6, .inl (cI, 3, .inl y6))]) [0, 1, 2, 3] rfl
      have hD9 := hD.sub (ws' := [(h0, .inr (7, [.int ih, .int hn, .int fl, .int da, .int ds, .int ac, .int (nI kc), .ref m1, .ref m2, .ref m3, .ref m4, .ref m5, .int (nI pl), .ref pg, .int fa, .int nf, .ref m6, .ref m7, .ref m8, .long sd, .int ik, .int kh, .int (nI km), .int ka, .int ks, .int kac, .ref m9, .ref m10, .ref m11, .ref m12, .long hv])), (m1, .inl (cI, 6, .inl g1)), (m2, .inl (cI, 6, .inl g2)), (m6, .inl (cI, 3, .inl y6))]) [0, 1, 2, 3] (by decide) rfl
      rw [hQ]; exact W.zret (v := 0) hx hb hr (by decide) (fun t ht hW => ⟨⟨0, (), rfl, trivial, ⟨y6, by rw [ht]; exact hP9, hD9⟩⟩, hS.F ht⟩) hS.2.2 dX7_findRoom_211
    | succ n27 ih27 =>
      intro i27 y6 H locs ls hi27  hP hD hS hl
      refine lv_iload_n hx hb dX7_findRoom_27 rfl (lv_at hl 3 rfl) ?_
      refine lv_iload_n hx hb dX7_findRoom_28 rfl (lv_at hl 2 rfl) ?_
      refine lv_icmp_ge (tgt := 210) hx hb dX7_findRoom_29 (by decide) (fun c_1 => ?_) (fun c_1 => ?_)
      · exact absurd c_1 (show ¬ (400 : Int32) ≤ nI i27 from nI_ge (a := i27) (b := 400) (by omega) (by omega))
      · refine lv_aload_n hx hb dX7_findRoom_32 rfl (lv_at hl 0 rfl) ?_
        refine va_get (D := (dC, dI)) (ci := 7) (v := .ref m6) (C := RX7) (T := TX7) (N := 31) hx hb hts hiX7 hown hK hP 0 rfl rfl 16 (by decide) (hts (.fieldLink RX7 36 "LeftProfileModel" "roomAt" "[I") (List.mem_of_getElem? (i := 1) rfl)) (fun _ h9 => h9) rfl dX7_findRoom_33 ?_
        refine lv_iconst (v := 0) hx hb dX7_findRoom_36 (by decide) ?_
        refine lv_iload_n hx hb dX7_findRoom_37 rfl (lv_at hl 1 rfl) ?_
        refine lv_iconst (v := 1) hx hb dX7_findRoom_38 (by decide) ?_
        refine lv_icmp_ne (tgt := 46) hx hb dX7_findRoom_39 (by decide) (fun _ => ?_) (fun c => absurd c (by decide))
        refine lv_iload_n hx hb dX7_findRoom_46 rfl (lv_at hl 1 rfl) ?_
        refine lv_iconst (v := 2) hx hb dX7_findRoom_47 (by decide) ?_
        refine lv_icmp_ne (tgt := 58) hx hb dX7_findRoom_48 (by decide) (fun c => absurd (by decide) c) (fun _ => ?_)
        refine lv_iload_n hx hb dX7_findRoom_51 rfl (lv_at hl 3 rfl) ?_
        refine lv_bipush (v := 20) hx hb dX7_findRoom_52 (by decide) ?_
        refine lv_idiv hx hb dX7_findRoom_54 (by decide) ?_
        refine cz_i (y := (nI (i27 / 20))) (pk_div (a := i27) (d := 20) (by omega) (by decide) (by decide)) ?_
        refine lv_goto (tgt := 63) hx hb dX7_findRoom_55 (by decide) ?_
        refine va_iast hx hb hK hP hD hS 3 0 rfl rfl (vp_in_nI (n := 0) (by omega) (by omega)) dX7_findRoom_63 (fun H locs hP hD hS => ?_)
        rw [show (0 : Int32).toNatClampNeg = 0 by decide] at hP hD
        have hP : va_P (dC, dI) vwCl [(h0, .inr (7, [.int ih, .int hn, .int fl, .int da, .int ds, .int ac, .int (nI kc), .ref m1, .ref m2, .ref m3, .ref m4, .ref m5, .int (nI pl), .ref pg, .int fa, .int nf, .ref m6, .ref m7, .ref m8, .long sd, .int ik, .int kh, .int (nI km), .int ka, .int ks, .int kac, .ref m9, .ref m10, .ref m11, .ref m12, .long hv])), (m1, .inl (cI, 6, .inl g1)), (m2, .inl (cI, 6, .inl g2)), (m6, .inl (cI, 3, .inl (upd y6 0 (nI (i27 / 20)))))] H := hP
        have hD : va_D A [(h0, .inr (7, [.int ih, .int hn, .int fl, .int da, .int ds, .int ac, .int (nI kc), .ref m1, .ref m2, .ref m3, .ref m4, .ref m5, .int (nI pl), .ref pg, .int fa, .int nf, .ref m6, .ref m7, .ref m8, .long sd, .int ik, .int kh, .int (nI km), .int ka, .int ks, .int kac, .ref m9, .ref m10, .ref m11, .ref m12, .long hv])), (m1, .inl (cI, 6, .inl g1)), (m2, .inl (cI, 6, .inl g2)), (m6, .inl (cI, 3, .inl (upd y6 0 (nI (i27 / 20)))))] := hD
        refine lv_aload_n hx hb dX7_findRoom_64 rfl (lv_at hl 0 rfl) ?_
        refine va_get (D := (dC, dI)) (ci := 7) (v := .ref m6) (C := RX7) (T := TX7) (N := 31) hx hb hts hiX7 hown hK hP 0 rfl rfl 16 (by decide) (hts (.fieldLink RX7 36 "LeftProfileModel" "roomAt" "[I") (List.mem_of_getElem? (i := 1) rfl)) (fun _ h9 => h9) rfl dX7_findRoom_65 ?_
        refine lv_iconst (v := 1) hx hb dX7_findRoom_68 (by decide) ?_
        refine lv_iload_n hx hb dX7_findRoom_69 rfl (lv_at hl 1 rfl) ?_
        refine lv_iconst (v := 1) hx hb dX7_findRoom_70 (by decide) ?_
        refine lv_icmp_ne (tgt := 79) hx hb dX7_findRoom_71 (by decide) (fun _ => ?_) (fun c => absurd c (by decide))
        refine lv_iload_n hx hb dX7_findRoom_79 rfl (lv_at hl 1 rfl) ?_
        refine lv_iconst (v := 2) hx hb dX7_findRoom_80 (by decide) ?_
        refine lv_icmp_ne (tgt := 91) hx hb dX7_findRoom_81 (by decide) (fun c => absurd (by decide) c) (fun _ => ?_)
        refine lv_iload_n hx hb dX7_findRoom_84 rfl (lv_at hl 3 rfl) ?_
        refine lv_bipush (v := 20) hx hb dX7_findRoom_85 (by decide) ?_
        refine lv_irem hx hb dX7_findRoom_87 (by decide) ?_
        refine cz_i (y := (nI (i27 % 20))) (pk_rem (a := i27) (d := 20) (by omega) (by decide) (by decide)) ?_
        refine lv_goto (tgt := 98) hx hb dX7_findRoom_88 (by decide) ?_
        refine va_iast hx hb hK hP hD hS 3 0 rfl rfl (vp_in_nI (n := 1) (by omega) (by omega)) dX7_findRoom_98 (fun H locs hP hD hS => ?_)
        rw [show (1 : Int32).toNatClampNeg = 1 by decide] at hP hD
        have hP : va_P (dC, dI) vwCl [(h0, .inr (7, [.int ih, .int hn, .int fl, .int da, .int ds, .int ac, .int (nI kc), .ref m1, .ref m2, .ref m3, .ref m4, .ref m5, .int (nI pl), .ref pg, .int fa, .int nf, .ref m6, .ref m7, .ref m8, .long sd, .int ik, .int kh, .int (nI km), .int ka, .int ks, .int kac, .ref m9, .ref m10, .ref m11, .ref m12, .long hv])), (m1, .inl (cI, 6, .inl g1)), (m2, .inl (cI, 6, .inl g2)), (m6, .inl (cI, 3, .inl (upd (upd y6 0 (nI (i27 / 20))) 1 (nI (i27 % 20)))))] H := hP
        have hD : va_D A [(h0, .inr (7, [.int ih, .int hn, .int fl, .int da, .int ds, .int ac, .int (nI kc), .ref m1, .ref m2, .ref m3, .ref m4, .ref m5, .int (nI pl), .ref pg, .int fa, .int nf, .ref m6, .ref m7, .ref m8, .long sd, .int ik, .int kh, .int (nI km), .int ka, .int ks, .int kac, .ref m9, .ref m10, .ref m11, .ref m12, .long hv])), (m1, .inl (cI, 6, .inl g1)), (m2, .inl (cI, 6, .inl g2)), (m6, .inl (cI, 3, .inl (upd (upd y6 0 (nI (i27 / 20))) 1 (nI (i27 % 20)))))] := hD
        refine lv_aload_n hx hb dX7_findRoom_99 rfl (lv_at hl 0 rfl) ?_
        refine va_get (D := (dC, dI)) (ci := 7) (v := .ref m6) (C := RX7) (T := TX7) (N := 31) hx hb hts hiX7 hown hK hP 0 rfl rfl 16 (by decide) (hts (.fieldLink RX7 36 "LeftProfileModel" "roomAt" "[I") (List.mem_of_getElem? (i := 1) rfl)) (fun _ h9 => h9) rfl dX7_findRoom_100 ?_
        refine lv_iconst (v := 2) hx hb dX7_findRoom_103 (by decide) ?_
        refine lv_iload_n hx hb dX7_findRoom_104 rfl (lv_at hl 1 rfl) ?_
        refine lv_iconst (v := 3) hx hb dX7_findRoom_105 (by decide) ?_
        refine lv_icmp_ge (tgt := 114) hx hb dX7_findRoom_106 (by decide) (fun c => absurd c (by decide)) (fun _ => ?_)
        refine lv_bipush (v := 21) hx hb dX7_findRoom_109 (by decide) ?_
        refine lv_goto (tgt := 118) hx hb dX7_findRoom_111 (by decide) ?_
        refine va_iast hx hb hK hP hD hS 3 0 rfl rfl (vp_in_nI (n := 2) (by omega) (by omega)) dX7_findRoom_118 (fun H locs hP hD hS => ?_)
        rw [show (2 : Int32).toNatClampNeg = 2 by decide] at hP hD
        have hP : va_P (dC, dI) vwCl [(h0, .inr (7, [.int ih, .int hn, .int fl, .int da, .int ds, .int ac, .int (nI kc), .ref m1, .ref m2, .ref m3, .ref m4, .ref m5, .int (nI pl), .ref pg, .int fa, .int nf, .ref m6, .ref m7, .ref m8, .long sd, .int ik, .int kh, .int (nI km), .int ka, .int ks, .int kac, .ref m9, .ref m10, .ref m11, .ref m12, .long hv])), (m1, .inl (cI, 6, .inl g1)), (m2, .inl (cI, 6, .inl g2)), (m6, .inl (cI, 3, .inl (upd (upd (upd y6 0 (nI (i27 / 20))) 1 (nI (i27 % 20))) 2 21)))] H := hP
        have hD : va_D A [(h0, .inr (7, [.int ih, .int hn, .int fl, .int da, .int ds, .int ac, .int (nI kc), .ref m1, .ref m2, .ref m3, .ref m4, .ref m5, .int (nI pl), .ref pg, .int fa, .int nf, .ref m6, .ref m7, .ref m8, .long sd, .int ik, .int kh, .int (nI km), .int ka, .int ks, .int kac, .ref m9, .ref m10, .ref m11, .ref m12, .long hv])), (m1, .inl (cI, 6, .inl g1)), (m2, .inl (cI, 6, .inl g2)), (m6, .inl (cI, 3, .inl (upd (upd (upd y6 0 (nI (i27 / 20))) 1 (nI (i27 % 20))) 2 21)))] := hD
        refine lv_aload_n hx hb dX7_findRoom_119 rfl (lv_at hl 0 rfl) ?_
        refine va_get (D := (dC, dI)) (ci := 7) (v := .ref m6) (C := RX7) (T := TX7) (N := 31) hx hb hts hiX7 hown hK hP 0 rfl rfl 16 (by decide) (hts (.fieldLink RX7 36 "LeftProfileModel" "roomAt" "[I") (List.mem_of_getElem? (i := 1) rfl)) (fun _ h9 => h9) rfl dX7_findRoom_120 ?_
        refine lv_iconst (v := 0) hx hb dX7_findRoom_123 (by decide) ?_
        refine va_iald hx hb hK hP 3 0 rfl rfl (vp_in_nI (n := 0) (by omega) (by omega)) dX7_findRoom_124 ?_
        refine cz_i (y := ((upd (upd (upd y6 0 (nI (i27 / 20))) 1 (nI (i27 % 20))) 2 21) 0)) (congrArg (upd (upd (upd y6 0 (nI (i27 / 20))) 1 (nI (i27 % 20))) 2 21) (nI_clamp (n := 0) (by omega))) ?_
        refine lv_aload_n hx hb dX7_findRoom_125 rfl (lv_at hl 0 rfl) ?_
        refine va_get (D := (dC, dI)) (ci := 7) (v := .ref m6) (C := RX7) (T := TX7) (N := 31) hx hb hts hiX7 hown hK hP 0 rfl rfl 16 (by decide) (hts (.fieldLink RX7 36 "LeftProfileModel" "roomAt" "[I") (List.mem_of_getElem? (i := 1) rfl)) (fun _ h9 => h9) rfl dX7_findRoom_126 ?_
        refine lv_iconst (v := 1) hx hb dX7_findRoom_129 (by decide) ?_
        refine va_iald hx hb hK hP 3 0 rfl rfl (vp_in_nI (n := 1) (by omega) (by omega)) dX7_findRoom_130 ?_
        refine cz_i (y := ((upd (upd (upd y6 0 (nI (i27 / 20))) 1 (nI (i27 % 20))) 2 21) 1)) (congrArg (upd (upd (upd y6 0 (nI (i27 / 20))) 1 (nI (i27 % 20))) 2 21) (nI_clamp (n := 1) (by omega))) ?_
        refine lv_icmp_ge (tgt := 153) hx hb dX7_findRoom_131 (by decide) (fun c_2 => ?_) (fun c_2 => ?_)
        · refine lv_iconst (v := 0) hx hb dX7_findRoom_153 (by decide) ?_
          refine lv_istore (lv' := [(4, .int 0), (0, .ref h0), (1, .int 2), (2, .int 400), (3, .int (nI i27))]) hx hb dX7_findRoom_154 hl (by decide) rfl (fun ls hl => ?_)
          refine lv_iconst (v := 0) hx hb dX7_findRoom_156 (by decide) ?_
          refine lv_istore (lv' := [(5, .int 0), (4, .int 0), (0, .ref h0), (1, .int 2), (2, .int 400), (3, .int (nI i27))]) hx hb dX7_findRoom_157 hl (by decide) rfl (fun ls hl => ?_)
          have hex189 : ∀ (i159 : Nat) (y4 : Int32) (H : Heap) (locs : List Loc) (ls : Array Slot), va_P (dC, dI) vwCl [(h0, .inr (7, [.int ih, .int hn, .int fl, .int da, .int ds, .int ac, .int (nI kc), .ref m1, .ref m2, .ref m3, .ref m4, .ref m5, .int (nI pl), .ref pg, .int fa, .int nf, .ref m6, .ref m7, .ref m8, .long sd, .int ik, .int kh, .int (nI km), .int ka, .int ks, .int kac, .ref m9, .ref m10, .ref m11, .ref m12, .long hv])), (m1, .inl (cI, 6, .inl g1)), (m2, .inl (cI, 6, .inl g2)), (m6, .inl (cI, 3, .inl (upd (upd (upd y6 0 (nI (i27 / 20))) 1 (nI (i27 % 20))) 2 21)))] H → va_D A [(h0, .inr (7, [.int ih, .int hn, .int fl, .int da, .int ds, .int ac, .int (nI kc), .ref m1, .ref m2, .ref m3, .ref m4, .ref m5, .int (nI pl), .ref pg, .int fa, .int nf, .ref m6, .ref m7, .ref m8, .long sd, .int ik, .int kh, .int (nI km), .int ka, .int ks, .int kac, .ref m9, .ref m10, .ref m11, .ref m12, .long hv])), (m1, .inl (cI, 6, .inl g1)), (m2, .inl (cI, 6, .inl g2)), (m6, .inl (cI, 3, .inl (upd (upd (upd y6 0 (nI (i27 / 20))) 1 (nI (i27 % 20))) 2 21)))] → va_S A s.heap H locs → lv_has ls 6 [(0, .ref h0), (1, .int 2), (2, .int 400), (3, .int (nI i27)), (4, .int y4)] → W p l e ({ frames := 4, cells := 0, slots := 0, locals := 101 } : Room) s m #[Value.ref h0, Value.int 2] below meth c H locs 0 0 Q (F0 m 189 ls []) := by
            intro i159 y4 H locs ls  hP hD hS hl
            refine lv_iload hx hb dX7_findRoom_189 (lv_at hl 4 rfl) ?_
            refine lv_if_eq (tgt := 204) hx hb dX7_findRoom_191 (by decide) (fun c_3 => ?_) (fun c_3 => ?_)
            · refine lv_iinc (v := (nI (i27 + 1))) (lv' := [(3, .int (nI (i27 + 1))), (0, .ref h0), (1, .int 2), (2, .int 400), (4, .int y4)]) hx hb dX7_findRoom_204 hl (k := 3) rfl (nI_add i27 1) (by decide) rfl (fun ls hl => ?_)
              refine lv_goto (tgt := 27) hx hb dX7_findRoom_207 (by decide) ?_
              exact ih27 (i27 + 1) (upd (upd (upd y6 0 (nI (i27 / 20))) 1 (nI (i27 % 20))) 2 21) H locs ls (by omega)  hP hD hS (lv_sub hl [1, 2, 3, 0] rfl)
            · refine lv_aload_n hx hb dX7_findRoom_194 rfl (lv_at hl 0 rfl) ?_
              refine lv_iload_n hx hb dX7_findRoom_195 rfl (lv_at hl 1 rfl) ?_
              refine vp_callSi (cz_run (va_runV (As := [.int 2]) (rest := []) ⟨hx, hb, hml, hown, hts⟩ (c_X7_isRoom l dC dI cI cB h0 2 ih hn fl da ds ac kc m1 m2 m3 m4 m5 pl pg fa nf m6 m7 m8 sd ik kh km ka ks kac m9 m10 m11 m12 hv g1 g2 (upd (upd (upd y6 0 (nI (i27 / 20))) 1 (nI (i27 % 20))) 2 21) hkc hpl hda (by omega) (cz_rm_of (by decide) (fun _ => (cz_in_nI (i := (i27 / 20)) (by omega))) (fun _ => (cz_in_nI (i := (i27 % 20)) (by omega))) (fun h => absurd h (by decide)))) (cwV 1 hts gX7_findRoom_X7_isRoom rfl rfl rfl (by decide +kernel) ⟨Nat.le_of_ble_eq_true rfl, Nat.le_of_ble_eq_true rfl⟩) (cz_pV hP hN (va_recv hK hP (ci := 7) (q0 := 0) rfl rfl)) rfl rfl hl.1 rfl (lv_room (Nat.le_of_ble_eq_true rfl)) dX7_findRoom_196 ⟨Nat.le_of_ble_eq_true rfl, Nat.le_of_ble_eq_true rfl⟩)) (fun r_4 hr_4 => ?_)
              refine lv_if_eq (tgt := 204) hx hb dX7_findRoom_199 (by decide) (fun c_5 => ?_) (fun c_5 => ?_)
              · refine lv_iinc (v := (nI (i27 + 1))) (lv' := [(3, .int (nI (i27 + 1))), (0, .ref h0), (1, .int 2), (2, .int 400), (4, .int y4)]) hx hb dX7_findRoom_204 hl (k := 3) rfl (nI_add i27 1) (by decide) rfl (fun ls hl => ?_)
                refine lv_goto (tgt := 27) hx hb dX7_findRoom_207 (by decide) ?_
                exact ih27 (i27 + 1) (upd (upd (upd y6 0 (nI (i27 / 20))) 1 (nI (i27 % 20))) 2 21) H locs ls (by omega)  hP hD hS (lv_sub hl [1, 2, 3, 0] rfl)
              · refine lv_iconst (v := 1) hx hb dX7_findRoom_202 (by decide) ?_
                refine W.widen (k := 0) (n := 0) (Nat.le_of_ble_eq_true rfl) (Nat.le_of_ble_eq_true rfl) ?_
                have hP9 := hP.sub (ws' := [(h0, .inr (7, [.int ih, .int hn, .int fl, .int da, .int ds, .int ac, .int (nI kc), .ref m1, .ref m2, .ref m3, .ref m4, .ref m5, .int (nI pl), .ref pg, .int fa, .int nf, .ref m6, .ref m7, .ref m8, .long sd, .int ik, .int kh, .int (nI km), .int ka, .int ks, .int kac, .ref m9, .ref m10, .ref m11, .ref m12, .long hv])), (m1, .inl (cI, 6, .inl g1)), (m2, .inl (cI, 6, .inl g2)), (m6, .inl (cI, 3, .inl (upd (upd (upd y6 0 (nI (i27 / 20))) 1 (nI (i27 % 20))) 2 21)))]) [0, 1, 2, 3] rfl
                have hD9 := hD.sub (ws' := [(h0, .inr (7, [.int ih, .int hn, .int fl, .int da, .int ds, .int ac, .int (nI kc), .ref m1, .ref m2, .ref m3, .ref m4, .ref m5, .int (nI pl), .ref pg, .int fa, .int nf, .ref m6, .ref m7, .ref m8, .long sd, .int ik, .int kh, .int (nI km), .int ka, .int ks, .int kac, .ref m9, .ref m10, .ref m11, .ref m12, .long hv])), (m1, .inl (cI, 6, .inl g1)), (m2, .inl (cI, 6, .inl g2)), (m6, .inl (cI, 3, .inl (upd (upd (upd y6 0 (nI (i27 / 20))) 1 (nI (i27 % 20))) 2 21)))]) [0, 1, 2, 3] (by decide) rfl
                rw [hQ]; exact W.zret (v := 1) hx hb hr (by decide) (fun t ht hW => ⟨⟨1, (), rfl, trivial, ⟨(upd (upd (upd y6 0 (nI (i27 / 20))) 1 (nI (i27 % 20))) 2 21), by rw [ht]; exact hP9, hD9⟩⟩, hS.F ht⟩) hS.2.2 dX7_findRoom_203
          have lp159 : ∀ (n159 : Nat) (i159 : Nat) (y4 : Int32) (H : Heap) (locs : List Loc) (ls : Array Slot), i159 + n159 = 2 → va_P (dC, dI) vwCl [(h0, .inr (7, [.int ih, .int hn, .int fl, .int da, .int ds, .int ac, .int (nI kc), .ref m1, .ref m2, .ref m3, .ref m4, .ref m5, .int (nI pl), .ref pg, .int fa, .int nf, .ref m6, .ref m7, .ref m8, .long sd, .int ik, .int kh, .int (nI km), .int ka, .int ks, .int kac, .ref m9, .ref m10, .ref m11, .ref m12, .long hv])), (m1, .inl (cI, 6, .inl g1)), (m2, .inl (cI, 6, .inl g2)), (m6, .inl (cI, 3, .inl (upd (upd (upd y6 0 (nI (i27 / 20))) 1 (nI (i27 % 20))) 2 21)))] H → va_D A [(h0, .inr (7, [.int ih, .int hn, .int fl, .int da, .int ds, .int ac, .int (nI kc), .ref m1, .ref m2, .ref m3, .ref m4, .ref m5, .int (nI pl), .ref pg, .int fa, .int nf, .ref m6, .ref m7, .ref m8, .long sd, .int ik, .int kh, .int (nI km), .int ka, .int ks, .int kac, .ref m9, .ref m10, .ref m11, .ref m12, .long hv])), (m1, .inl (cI, 6, .inl g1)), (m2, .inl (cI, 6, .inl g2)), (m6, .inl (cI, 3, .inl (upd (upd (upd y6 0 (nI (i27 / 20))) 1 (nI (i27 % 20))) 2 21)))] → va_S A s.heap H locs → lv_has ls 6 [(0, .ref h0), (1, .int 2), (2, .int 400), (3, .int (nI i27)), (4, .int y4), (5, .int (nI i159))] → W p l e ({ frames := 4, cells := 0, slots := 0, locals := 101 } : Room) s m #[Value.ref h0, Value.int 2] below meth c H locs 0 0 Q (F0 m 159 ls []) := by
            intro n159
            induction n159 with
            | zero =>
              intro i159 y4 H locs ls hi159  hP hD hS hl
              refine lv_iload hx hb dX7_findRoom_159 (lv_at hl 5 rfl) ?_
              refine lv_iload_n hx hb dX7_findRoom_161 rfl (lv_at hl 1 rfl) ?_
              refine lv_icmp_ge (tgt := 189) hx hb dX7_findRoom_162 (by decide) (fun c_6 => ?_) (fun c_6 => ?_)
              · exact hex189 i159 y4 H locs ls  hP hD hS (lv_sub hl [0, 1, 2, 3, 4] rfl)
              · exact absurd (show (2 : Int32) ≤ nI i159 from nI_le (a := 2) (b := i159) (by omega) (by omega)) c_6
            | succ n159 ih159 =>
              intro i159 y4 H locs ls hi159  hP hD hS hl
              refine lv_iload hx hb dX7_findRoom_159 (lv_at hl 5 rfl) ?_
              refine lv_iload_n hx hb dX7_findRoom_161 rfl (lv_at hl 1 rfl) ?_
              refine lv_icmp_ge (tgt := 189) hx hb dX7_findRoom_162 (by decide) (fun c_7 => ?_) (fun c_7 => ?_)
              · exact absurd c_7 (show ¬ (2 : Int32) ≤ nI i159 from nI_ge (a := i159) (b := 2) (by omega) (by omega))
              · refine lv_iload hx hb dX7_findRoom_165 (lv_at hl 4 rfl) ?_
                refine lv_if_eq (tgt := 189) hx hb dX7_findRoom_167 (by decide) (fun c_8 => ?_) (fun c_8 => ?_)
                · exact hex189 i159 y4 H locs ls  hP hD hS (lv_sub hl [0, 1, 2, 3, 4] rfl)
                · refine lv_aload_n hx hb dX7_findRoom_170 rfl (lv_at hl 0 rfl) ?_
                  refine lv_aload_n hx hb dX7_findRoom_171 rfl (lv_at hl 0 rfl) ?_
                  refine va_get (D := (dC, dI)) (ci := 7) (v := .ref m6) (C := RX7) (T := TX7) (N := 31) hx hb hts hiX7 hown hK hP 0 rfl rfl 16 (by decide) (hts (.fieldLink RX7 36 "LeftProfileModel" "roomAt" "[I") (List.mem_of_getElem? (i := 1) rfl)) (fun _ h9 => h9) rfl dX7_findRoom_172 ?_
                  refine lv_iload hx hb dX7_findRoom_175 (lv_at hl 5 rfl) ?_
                  refine va_iald hx hb hK hP 3 0 rfl rfl (vp_in_nI (n := i159) (by omega) (by omega)) dX7_findRoom_177 ?_
                  refine cz_i (y := ((upd (upd (upd y6 0 (nI (i27 / 20))) 1 (nI (i27 % 20))) 2 21) i159)) (congrArg (upd (upd (upd y6 0 (nI (i27 / 20))) 1 (nI (i27 % 20))) 2 21) (nI_clamp (n := i159) (by omega))) ?_
                  refine vp_callSi (cz_run (va_runV (As := [.int ((upd (upd (upd y6 0 (nI (i27 / 20))) 1 (nI (i27 % 20))) 2 21) i159)]) (rest := []) ⟨hx, hb, hml, hown, hts⟩ (c_X7_isEmpty l dC dI cI cB h0 ((upd (upd (upd y6 0 (nI (i27 / 20))) 1 (nI (i27 % 20))) 2 21) i159) ih hn fl da ds ac kc m1 m2 m3 m4 m5 pl pg fa nf m6 m7 m8 sd ik kh km ka ks kac m9 m10 m11 m12 hv g2 hkc) (cwV 1 hts gX7_findRoom_X7_isEmpty rfl rfl rfl (by decide +kernel) ⟨Nat.le_of_ble_eq_true rfl, Nat.le_of_ble_eq_true rfl⟩) (cz_pV (hP.sub (ws' := [(h0, .inr (7, [.int ih, .int hn, .int fl, .int da, .int ds, .int ac, .int (nI kc), .ref m1, .ref m2, .ref m3, .ref m4, .ref m5, .int (nI pl), .ref pg, .int fa, .int nf, .ref m6, .ref m7, .ref m8, .long sd, .int ik, .int kh, .int (nI km), .int ka, .int ks, .int kac, .ref m9, .ref m10, .ref m11, .ref m12, .long hv])), (m2, .inl (cI, 6, .inl g2))]) [0, 2] rfl) hN (va_recv hK (hP.sub (ws' := [(h0, .inr (7, [.int ih, .int hn, .int fl, .int da, .int ds, .int ac, .int (nI kc), .ref m1, .ref m2, .ref m3, .ref m4, .ref m5, .int (nI pl), .ref pg, .int fa, .int nf, .ref m6, .ref m7, .ref m8, .long sd, .int ik, .int kh, .int (nI km), .int ka, .int ks, .int kac, .ref m9, .ref m10, .ref m11, .ref m12, .long hv])), (m2, .inl (cI, 6, .inl g2))]) [0, 2] rfl) (ci := 7) (q0 := 0) rfl rfl)) rfl rfl hl.1 rfl (lv_room (Nat.le_of_ble_eq_true rfl)) dX7_findRoom_178 ⟨Nat.le_of_ble_eq_true rfl, Nat.le_of_ble_eq_true rfl⟩)) (fun r_9 hr_9 => ?_)
                  rcases hr_9 with ⟨rfl, hr_9⟩ | ⟨rfl, hr_9⟩
                  · refine lv_istore (lv' := [(4, .int 0), (0, .ref h0), (1, .int 2), (2, .int 400), (3, .int (nI i27)), (5, .int (nI i159))]) hx hb dX7_findRoom_181 hl (by decide) rfl (fun ls hl => ?_)
                    refine lv_iinc (v := (nI (i159 + 1))) (lv' := [(5, .int (nI (i159 + 1))), (4, .int 0), (0, .ref h0), (1, .int 2), (2, .int 400), (3, .int (nI i27))]) hx hb dX7_findRoom_183 hl (k := 5) rfl (nI_add i159 1) (by decide) rfl (fun ls hl => ?_)
                    refine lv_goto (tgt := 159) hx hb dX7_findRoom_186 (by decide) ?_
                    exact ih159 (i159 + 1) 0 H locs ls (by omega)  hP hD hS (lv_sub hl [2, 3, 4, 5, 1, 0] rfl)
                  · refine lv_istore (lv' := [(4, .int 1), (0, .ref h0), (1, .int 2), (2, .int 400), (3, .int (nI i27)), (5, .int (nI i159))]) hx hb dX7_findRoom_181 hl (by decide) rfl (fun ls hl => ?_)
                    refine lv_iinc (v := (nI (i159 + 1))) (lv' := [(5, .int (nI (i159 + 1))), (4, .int 1), (0, .ref h0), (1, .int 2), (2, .int 400), (3, .int (nI i27))]) hx hb dX7_findRoom_183 hl (k := 5) rfl (nI_add i159 1) (by decide) rfl (fun ls hl => ?_)
                    refine lv_goto (tgt := 159) hx hb dX7_findRoom_186 (by decide) ?_
                    exact ih159 (i159 + 1) 1 H locs ls (by omega)  hP hD hS (lv_sub hl [2, 3, 4, 5, 1, 0] rfl)
          exact lp159 2 0 0 H locs ls (by omega)  hP hD hS (lv_sub hl [2, 3, 4, 5, 1, 0] rfl)
        · refine lv_aload_n hx hb dX7_findRoom_134 rfl (lv_at hl 0 rfl) ?_
          refine va_get (D := (dC, dI)) (ci := 7) (v := .ref m6) (C := RX7) (T := TX7) (N := 31) hx hb hts hiX7 hown hK hP 0 rfl rfl 16 (by decide) (hts (.fieldLink RX7 36 "LeftProfileModel" "roomAt" "[I") (List.mem_of_getElem? (i := 1) rfl)) (fun _ h9 => h9) rfl dX7_findRoom_135 ?_
          refine lv_iconst (v := 1) hx hb dX7_findRoom_138 (by decide) ?_
          refine va_iald hx hb hK hP 3 0 rfl rfl (vp_in_nI (n := 1) (by omega) (by omega)) dX7_findRoom_139 ?_
          refine cz_i (y := ((upd (upd (upd y6 0 (nI (i27 / 20))) 1 (nI (i27 % 20))) 2 21) 1)) (congrArg (upd (upd (upd y6 0 (nI (i27 / 20))) 1 (nI (i27 % 20))) 2 21) (nI_clamp (n := 1) (by omega))) ?_
          refine lv_aload_n hx hb dX7_findRoom_140 rfl (lv_at hl 0 rfl) ?_
          refine va_get (D := (dC, dI)) (ci := 7) (v := .ref m6) (C := RX7) (T := TX7) (N := 31) hx hb hts hiX7 hown hK hP 0 rfl rfl 16 (by decide) (hts (.fieldLink RX7 36 "LeftProfileModel" "roomAt" "[I") (List.mem_of_getElem? (i := 1) rfl)) (fun _ h9 => h9) rfl dX7_findRoom_141 ?_
          refine lv_iconst (v := 2) hx hb dX7_findRoom_144 (by decide) ?_
          refine va_iald hx hb hK hP 3 0 rfl rfl (vp_in_nI (n := 2) (by omega) (by omega)) dX7_findRoom_145 ?_
          refine cz_i (y := ((upd (upd (upd y6 0 (nI (i27 / 20))) 1 (nI (i27 % 20))) 2 21) 2)) (congrArg (upd (upd (upd y6 0 (nI (i27 / 20))) 1 (nI (i27 % 20))) 2 21) (nI_clamp (n := 2) (by omega))) ?_
          refine lv_icmp_ge (tgt := 153) hx hb dX7_findRoom_146 (by decide) (fun c_10 => ?_) (fun c_10 => ?_)
          · refine lv_iconst (v := 0) hx hb dX7_findRoom_153 (by decide) ?_
            refine lv_istore (lv' := [(4, .int 0), (0, .ref h0), (1, .int 2), (2, .int 400), (3, .int (nI i27))]) hx hb dX7_findRoom_154 hl (by decide) rfl (fun ls hl => ?_)
            refine lv_iconst (v := 0) hx hb dX7_findRoom_156 (by decide) ?_
            refine lv_istore (lv' := [(5, .int 0), (4, .int 0), (0, .ref h0), (1, .int 2), (2, .int 400), (3, .int (nI i27))]) hx hb dX7_findRoom_157 hl (by decide) rfl (fun ls hl => ?_)
            have hex189 : ∀ (i159 : Nat) (y4 : Int32) (H : Heap) (locs : List Loc) (ls : Array Slot), va_P (dC, dI) vwCl [(h0, .inr (7, [.int ih, .int hn, .int fl, .int da, .int ds, .int ac, .int (nI kc), .ref m1, .ref m2, .ref m3, .ref m4, .ref m5, .int (nI pl), .ref pg, .int fa, .int nf, .ref m6, .ref m7, .ref m8, .long sd, .int ik, .int kh, .int (nI km), .int ka, .int ks, .int kac, .ref m9, .ref m10, .ref m11, .ref m12, .long hv])), (m1, .inl (cI, 6, .inl g1)), (m2, .inl (cI, 6, .inl g2)), (m6, .inl (cI, 3, .inl (upd (upd (upd y6 0 (nI (i27 / 20))) 1 (nI (i27 % 20))) 2 21)))] H → va_D A [(h0, .inr (7, [.int ih, .int hn, .int fl, .int da, .int ds, .int ac, .int (nI kc), .ref m1, .ref m2, .ref m3, .ref m4, .ref m5, .int (nI pl), .ref pg, .int fa, .int nf, .ref m6, .ref m7, .ref m8, .long sd, .int ik, .int kh, .int (nI km), .int ka, .int ks, .int kac, .ref m9, .ref m10, .ref m11, .ref m12, .long hv])), (m1, .inl (cI, 6, .inl g1)), (m2, .inl (cI, 6, .inl g2)), (m6, .inl (cI, 3, .inl (upd (upd (upd y6 0 (nI (i27 / 20))) 1 (nI (i27 % 20))) 2 21)))] → va_S A s.heap H locs → lv_has ls 6 [(0, .ref h0), (1, .int 2), (2, .int 400), (3, .int (nI i27)), (4, .int y4)] → W p l e ({ frames := 4, cells := 0, slots := 0, locals := 101 } : Room) s m #[Value.ref h0, Value.int 2] below meth c H locs 0 0 Q (F0 m 189 ls []) := by
              intro i159 y4 H locs ls  hP hD hS hl
              refine lv_iload hx hb dX7_findRoom_189 (lv_at hl 4 rfl) ?_
              refine lv_if_eq (tgt := 204) hx hb dX7_findRoom_191 (by decide) (fun c_11 => ?_) (fun c_11 => ?_)
              · refine lv_iinc (v := (nI (i27 + 1))) (lv' := [(3, .int (nI (i27 + 1))), (0, .ref h0), (1, .int 2), (2, .int 400), (4, .int y4)]) hx hb dX7_findRoom_204 hl (k := 3) rfl (nI_add i27 1) (by decide) rfl (fun ls hl => ?_)
                refine lv_goto (tgt := 27) hx hb dX7_findRoom_207 (by decide) ?_
                exact ih27 (i27 + 1) (upd (upd (upd y6 0 (nI (i27 / 20))) 1 (nI (i27 % 20))) 2 21) H locs ls (by omega)  hP hD hS (lv_sub hl [1, 2, 3, 0] rfl)
              · refine lv_aload_n hx hb dX7_findRoom_194 rfl (lv_at hl 0 rfl) ?_
                refine lv_iload_n hx hb dX7_findRoom_195 rfl (lv_at hl 1 rfl) ?_
                refine vp_callSi (cz_run (va_runV (As := [.int 2]) (rest := []) ⟨hx, hb, hml, hown, hts⟩ (c_X7_isRoom l dC dI cI cB h0 2 ih hn fl da ds ac kc m1 m2 m3 m4 m5 pl pg fa nf m6 m7 m8 sd ik kh km ka ks kac m9 m10 m11 m12 hv g1 g2 (upd (upd (upd y6 0 (nI (i27 / 20))) 1 (nI (i27 % 20))) 2 21) hkc hpl hda (by omega) (cz_rm_of (by decide) (fun _ => (cz_in_nI (i := (i27 / 20)) (by omega))) (fun _ => (cz_in_nI (i := (i27 % 20)) (by omega))) (fun h => absurd h (by decide)))) (cwV 1 hts gX7_findRoom_X7_isRoom rfl rfl rfl (by decide +kernel) ⟨Nat.le_of_ble_eq_true rfl, Nat.le_of_ble_eq_true rfl⟩) (cz_pV hP hN (va_recv hK hP (ci := 7) (q0 := 0) rfl rfl)) rfl rfl hl.1 rfl (lv_room (Nat.le_of_ble_eq_true rfl)) dX7_findRoom_196 ⟨Nat.le_of_ble_eq_true rfl, Nat.le_of_ble_eq_true rfl⟩)) (fun r_12 hr_12 => ?_)
                refine lv_if_eq (tgt := 204) hx hb dX7_findRoom_199 (by decide) (fun c_13 => ?_) (fun c_13 => ?_)
                · refine lv_iinc (v := (nI (i27 + 1))) (lv' := [(3, .int (nI (i27 + 1))), (0, .ref h0), (1, .int 2), (2, .int 400), (4, .int y4)]) hx hb dX7_findRoom_204 hl (k := 3) rfl (nI_add i27 1) (by decide) rfl (fun ls hl => ?_)
                  refine lv_goto (tgt := 27) hx hb dX7_findRoom_207 (by decide) ?_
                  exact ih27 (i27 + 1) (upd (upd (upd y6 0 (nI (i27 / 20))) 1 (nI (i27 % 20))) 2 21) H locs ls (by omega)  hP hD hS (lv_sub hl [1, 2, 3, 0] rfl)
                · refine lv_iconst (v := 1) hx hb dX7_findRoom_202 (by decide) ?_
                  refine W.widen (k := 0) (n := 0) (Nat.le_of_ble_eq_true rfl) (Nat.le_of_ble_eq_true rfl) ?_
                  have hP9 := hP.sub (ws' := [(h0, .inr (7, [.int ih, .int hn, .int fl, .int da, .int ds, .int ac, .int (nI kc), .ref m1, .ref m2, .ref m3, .ref m4, .ref m5, .int (nI pl), .ref pg, .int fa, .int nf, .ref m6, .ref m7, .ref m8, .long sd, .int ik, .int kh, .int (nI km), .int ka, .int ks, .int kac, .ref m9, .ref m10, .ref m11, .ref m12, .long hv])), (m1, .inl (cI, 6, .inl g1)), (m2, .inl (cI, 6, .inl g2)), (m6, .inl (cI, 3, .inl (upd (upd (upd y6 0 (nI (i27 / 20))) 1 (nI (i27 % 20))) 2 21)))]) [0, 1, 2, 3] rfl
                  have hD9 := hD.sub (ws' := [(h0, .inr (7, [.int ih, .int hn, .int fl, .int da, .int ds, .int ac, .int (nI kc), .ref m1, .ref m2, .ref m3, .ref m4, .ref m5, .int (nI pl), .ref pg, .int fa, .int nf, .ref m6, .ref m7, .ref m8, .long sd, .int ik, .int kh, .int (nI km), .int ka, .int ks, .int kac, .ref m9, .ref m10, .ref m11, .ref m12, .long hv])), (m1, .inl (cI, 6, .inl g1)), (m2, .inl (cI, 6, .inl g2)), (m6, .inl (cI, 3, .inl (upd (upd (upd y6 0 (nI (i27 / 20))) 1 (nI (i27 % 20))) 2 21)))]) [0, 1, 2, 3] (by decide) rfl
                  rw [hQ]; exact W.zret (v := 1) hx hb hr (by decide) (fun t ht hW => ⟨⟨1, (), rfl, trivial, ⟨(upd (upd (upd y6 0 (nI (i27 / 20))) 1 (nI (i27 % 20))) 2 21), by rw [ht]; exact hP9, hD9⟩⟩, hS.F ht⟩) hS.2.2 dX7_findRoom_203
            have lp159 : ∀ (n159 : Nat) (i159 : Nat) (y4 : Int32) (H : Heap) (locs : List Loc) (ls : Array Slot), i159 + n159 = 2 → va_P (dC, dI) vwCl [(h0, .inr (7, [.int ih, .int hn, .int fl, .int da, .int ds, .int ac, .int (nI kc), .ref m1, .ref m2, .ref m3, .ref m4, .ref m5, .int (nI pl), .ref pg, .int fa, .int nf, .ref m6, .ref m7, .ref m8, .long sd, .int ik, .int kh, .int (nI km), .int ka, .int ks, .int kac, .ref m9, .ref m10, .ref m11, .ref m12, .long hv])), (m1, .inl (cI, 6, .inl g1)), (m2, .inl (cI, 6, .inl g2)), (m6, .inl (cI, 3, .inl (upd (upd (upd y6 0 (nI (i27 / 20))) 1 (nI (i27 % 20))) 2 21)))] H → va_D A [(h0, .inr (7, [.int ih, .int hn, .int fl, .int da, .int ds, .int ac, .int (nI kc), .ref m1, .ref m2, .ref m3, .ref m4, .ref m5, .int (nI pl), .ref pg, .int fa, .int nf, .ref m6, .ref m7, .ref m8, .long sd, .int ik, .int kh, .int (nI km), .int ka, .int ks, .int kac, .ref m9, .ref m10, .ref m11, .ref m12, .long hv])), (m1, .inl (cI, 6, .inl g1)), (m2, .inl (cI, 6, .inl g2)), (m6, .inl (cI, 3, .inl (upd (upd (upd y6 0 (nI (i27 / 20))) 1 (nI (i27 % 20))) 2 21)))] → va_S A s.heap H locs → lv_has ls 6 [(0, .ref h0), (1, .int 2), (2, .int 400), (3, .int (nI i27)), (4, .int y4), (5, .int (nI i159))] → W p l e ({ frames := 4, cells := 0, slots := 0, locals := 101 } : Room) s m #[Value.ref h0, Value.int 2] below meth c H locs 0 0 Q (F0 m 159 ls []) := by
              intro n159
              induction n159 with
              | zero =>
                intro i159 y4 H locs ls hi159  hP hD hS hl
                refine lv_iload hx hb dX7_findRoom_159 (lv_at hl 5 rfl) ?_
                refine lv_iload_n hx hb dX7_findRoom_161 rfl (lv_at hl 1 rfl) ?_
                refine lv_icmp_ge (tgt := 189) hx hb dX7_findRoom_162 (by decide) (fun c_14 => ?_) (fun c_14 => ?_)
                · exact hex189 i159 y4 H locs ls  hP hD hS (lv_sub hl [0, 1, 2, 3, 4] rfl)
                · exact absurd (show (2 : Int32) ≤ nI i159 from nI_le (a := 2) (b := i159) (by omega) (by omega)) c_14
              | succ n159 ih159 =>
                intro i159 y4 H locs ls hi159  hP hD hS hl
                refine lv_iload hx hb dX7_findRoom_159 (lv_at hl 5 rfl) ?_
                refine lv_iload_n hx hb dX7_findRoom_161 rfl (lv_at hl 1 rfl) ?_
                refine lv_icmp_ge (tgt := 189) hx hb dX7_findRoom_162 (by decide) (fun c_15 => ?_) (fun c_15 => ?_)
                · exact absurd c_15 (show ¬ (2 : Int32) ≤ nI i159 from nI_ge (a := i159) (b := 2) (by omega) (by omega))
                · refine lv_iload hx hb dX7_findRoom_165 (lv_at hl 4 rfl) ?_
                  refine lv_if_eq (tgt := 189) hx hb dX7_findRoom_167 (by decide) (fun c_16 => ?_) (fun c_16 => ?_)
                  · exact hex189 i159 y4 H locs ls  hP hD hS (lv_sub hl [0, 1, 2, 3, 4] rfl)
                  · refine lv_aload_n hx hb dX7_findRoom_170 rfl (lv_at hl 0 rfl) ?_
                    refine lv_aload_n hx hb dX7_findRoom_171 rfl (lv_at hl 0 rfl) ?_
                    refine va_get (D := (dC, dI)) (ci := 7) (v := .ref m6) (C := RX7) (T := TX7) (N := 31) hx hb hts hiX7 hown hK hP 0 rfl rfl 16 (by decide) (hts (.fieldLink RX7 36 "LeftProfileModel" "roomAt" "[I") (List.mem_of_getElem? (i := 1) rfl)) (fun _ h9 => h9) rfl dX7_findRoom_172 ?_
                    refine lv_iload hx hb dX7_findRoom_175 (lv_at hl 5 rfl) ?_
                    refine va_iald hx hb hK hP 3 0 rfl rfl (vp_in_nI (n := i159) (by omega) (by omega)) dX7_findRoom_177 ?_
                    refine cz_i (y := ((upd (upd (upd y6 0 (nI (i27 / 20))) 1 (nI (i27 % 20))) 2 21) i159)) (congrArg (upd (upd (upd y6 0 (nI (i27 / 20))) 1 (nI (i27 % 20))) 2 21) (nI_clamp (n := i159) (by omega))) ?_
                    refine vp_callSi (cz_run (va_runV (As := [.int ((upd (upd (upd y6 0 (nI (i27 / 20))) 1 (nI (i27 % 20))) 2 21) i159)]) (rest := []) ⟨hx, hb, hml, hown, hts⟩ (c_X7_isEmpty l dC dI cI cB h0 ((upd (upd (upd y6 0 (nI (i27 / 20))) 1 (nI (i27 % 20))) 2 21) i159) ih hn fl da ds ac kc m1 m2 m3 m4 m5 pl pg fa nf m6 m7 m8 sd ik kh km ka ks kac m9 m10 m11 m12 hv g2 hkc) (cwV 1 hts gX7_findRoom_X7_isEmpty rfl rfl rfl (by decide +kernel) ⟨Nat.le_of_ble_eq_true rfl, Nat.le_of_ble_eq_true rfl⟩) (cz_pV (hP.sub (ws' := [(h0, .inr (7, [.int ih, .int hn, .int fl, .int da, .int ds, .int ac, .int (nI kc), .ref m1, .ref m2, .ref m3, .ref m4, .ref m5, .int (nI pl), .ref pg, .int fa, .int nf, .ref m6, .ref m7, .ref m8, .long sd, .int ik, .int kh, .int (nI km), .int ka, .int ks, .int kac, .ref m9, .ref m10, .ref m11, .ref m12, .long hv])), (m2, .inl (cI, 6, .inl g2))]) [0, 2] rfl) hN (va_recv hK (hP.sub (ws' := [(h0, .inr (7, [.int ih, .int hn, .int fl, .int da, .int ds, .int ac, .int (nI kc), .ref m1, .ref m2, .ref m3, .ref m4, .ref m5, .int (nI pl), .ref pg, .int fa, .int nf, .ref m6, .ref m7, .ref m8, .long sd, .int ik, .int kh, .int (nI km), .int ka, .int ks, .int kac, .ref m9, .ref m10, .ref m11, .ref m12, .long hv])), (m2, .inl (cI, 6, .inl g2))]) [0, 2] rfl) (ci := 7) (q0 := 0) rfl rfl)) rfl rfl hl.1 rfl (lv_room (Nat.le_of_ble_eq_true rfl)) dX7_findRoom_178 ⟨Nat.le_of_ble_eq_true rfl, Nat.le_of_ble_eq_true rfl⟩)) (fun r_17 hr_17 => ?_)
                    rcases hr_17 with ⟨rfl, hr_17⟩ | ⟨rfl, hr_17⟩
                    · refine lv_istore (lv' := [(4, .int 0), (0, .ref h0), (1, .int 2), (2, .int 400), (3, .int (nI i27)), (5, .int (nI i159))]) hx hb dX7_findRoom_181 hl (by decide) rfl (fun ls hl => ?_)
                      refine lv_iinc (v := (nI (i159 + 1))) (lv' := [(5, .int (nI (i159 + 1))), (4, .int 0), (0, .ref h0), (1, .int 2), (2, .int 400), (3, .int (nI i27))]) hx hb dX7_findRoom_183 hl (k := 5) rfl (nI_add i159 1) (by decide) rfl (fun ls hl => ?_)
                      refine lv_goto (tgt := 159) hx hb dX7_findRoom_186 (by decide) ?_
                      exact ih159 (i159 + 1) 0 H locs ls (by omega)  hP hD hS (lv_sub hl [2, 3, 4, 5, 1, 0] rfl)
                    · refine lv_istore (lv' := [(4, .int 1), (0, .ref h0), (1, .int 2), (2, .int 400), (3, .int (nI i27)), (5, .int (nI i159))]) hx hb dX7_findRoom_181 hl (by decide) rfl (fun ls hl => ?_)
                      refine lv_iinc (v := (nI (i159 + 1))) (lv' := [(5, .int (nI (i159 + 1))), (4, .int 1), (0, .ref h0), (1, .int 2), (2, .int 400), (3, .int (nI i27))]) hx hb dX7_findRoom_183 hl (k := 5) rfl (nI_add i159 1) (by decide) rfl (fun ls hl => ?_)
                      refine lv_goto (tgt := 159) hx hb dX7_findRoom_186 (by decide) ?_
                      exact ih159 (i159 + 1) 1 H locs ls (by omega)  hP hD hS (lv_sub hl [2, 3, 4, 5, 1, 0] rfl)
            exact lp159 2 0 0 H locs ls (by omega)  hP hD hS (lv_sub hl [2, 3, 4, 5, 1, 0] rfl)
          · refine lv_iconst (v := 1) hx hb dX7_findRoom_149 (by decide) ?_
            refine lv_goto (tgt := 154) hx hb dX7_findRoom_150 (by decide) ?_
            refine lv_istore (lv' := [(4, .int 1), (0, .ref h0), (1, .int 2), (2, .int 400), (3, .int (nI i27))]) hx hb dX7_findRoom_154 hl (by decide) rfl (fun ls hl => ?_)
            refine lv_iconst (v := 0) hx hb dX7_findRoom_156 (by decide) ?_
            refine lv_istore (lv' := [(5, .int 0), (4, .int 1), (0, .ref h0), (1, .int 2), (2, .int 400), (3, .int (nI i27))]) hx hb dX7_findRoom_157 hl (by decide) rfl (fun ls hl => ?_)
            have hex189 : ∀ (i159 : Nat) (y4 : Int32) (H : Heap) (locs : List Loc) (ls : Array Slot), va_P (dC, dI) vwCl [(h0, .inr (7, [.int ih, .int hn, .int fl, .int da, .int ds, .int ac, .int (nI kc), .ref m1, .ref m2, .ref m3, .ref m4, .ref m5, .int (nI pl), .ref pg, .int fa, .int nf, .ref m6, .ref m7, .ref m8, .long sd, .int ik, .int kh, .int (nI km), .int ka, .int ks, .int kac, .ref m9, .ref m10, .ref m11, .ref m12, .long hv])), (m1, .inl (cI, 6, .inl g1)), (m2, .inl (cI, 6, .inl g2)), (m6, .inl (cI, 3, .inl (upd (upd (upd y6 0 (nI (i27 / 20))) 1 (nI (i27 % 20))) 2 21)))] H → va_D A [(h0, .inr (7, [.int ih, .int hn, .int fl, .int da, .int ds, .int ac, .int (nI kc), .ref m1, .ref m2, .ref m3, .ref m4, .ref m5, .int (nI pl), .ref pg, .int fa, .int nf, .ref m6, .ref m7, .ref m8, .long sd, .int ik, .int kh, .int (nI km), .int ka, .int ks, .int kac, .ref m9, .ref m10, .ref m11, .ref m12, .long hv])), (m1, .inl (cI, 6, .inl g1)), (m2, .inl (cI, 6, .inl g2)), (m6, .inl (cI, 3, .inl (upd (upd (upd y6 0 (nI (i27 / 20))) 1 (nI (i27 % 20))) 2 21)))] → va_S A s.heap H locs → lv_has ls 6 [(0, .ref h0), (1, .int 2), (2, .int 400), (3, .int (nI i27)), (4, .int y4)] → W p l e ({ frames := 4, cells := 0, slots := 0, locals := 101 } : Room) s m #[Value.ref h0, Value.int 2] below meth c H locs 0 0 Q (F0 m 189 ls []) := by
              intro i159 y4 H locs ls  hP hD hS hl
              refine lv_iload hx hb dX7_findRoom_189 (lv_at hl 4 rfl) ?_
              refine lv_if_eq (tgt := 204) hx hb dX7_findRoom_191 (by decide) (fun c_18 => ?_) (fun c_18 => ?_)
              · refine lv_iinc (v := (nI (i27 + 1))) (lv' := [(3, .int (nI (i27 + 1))), (0, .ref h0), (1, .int 2), (2, .int 400), (4, .int y4)]) hx hb dX7_findRoom_204 hl (k := 3) rfl (nI_add i27 1) (by decide) rfl (fun ls hl => ?_)
                refine lv_goto (tgt := 27) hx hb dX7_findRoom_207 (by decide) ?_
                exact ih27 (i27 + 1) (upd (upd (upd y6 0 (nI (i27 / 20))) 1 (nI (i27 % 20))) 2 21) H locs ls (by omega)  hP hD hS (lv_sub hl [1, 2, 3, 0] rfl)
              · refine lv_aload_n hx hb dX7_findRoom_194 rfl (lv_at hl 0 rfl) ?_
                refine lv_iload_n hx hb dX7_findRoom_195 rfl (lv_at hl 1 rfl) ?_
                refine vp_callSi (cz_run (va_runV (As := [.int 2]) (rest := []) ⟨hx, hb, hml, hown, hts⟩ (c_X7_isRoom l dC dI cI cB h0 2 ih hn fl da ds ac kc m1 m2 m3 m4 m5 pl pg fa nf m6 m7 m8 sd ik kh km ka ks kac m9 m10 m11 m12 hv g1 g2 (upd (upd (upd y6 0 (nI (i27 / 20))) 1 (nI (i27 % 20))) 2 21) hkc hpl hda (by omega) (cz_rm_of (by decide) (fun _ => (cz_in_nI (i := (i27 / 20)) (by omega))) (fun _ => (cz_in_nI (i := (i27 % 20)) (by omega))) (fun h => absurd h (by decide)))) (cwV 1 hts gX7_findRoom_X7_isRoom rfl rfl rfl (by decide +kernel) ⟨Nat.le_of_ble_eq_true rfl, Nat.le_of_ble_eq_true rfl⟩) (cz_pV hP hN (va_recv hK hP (ci := 7) (q0 := 0) rfl rfl)) rfl rfl hl.1 rfl (lv_room (Nat.le_of_ble_eq_true rfl)) dX7_findRoom_196 ⟨Nat.le_of_ble_eq_true rfl, Nat.le_of_ble_eq_true rfl⟩)) (fun r_19 hr_19 => ?_)
                refine lv_if_eq (tgt := 204) hx hb dX7_findRoom_199 (by decide) (fun c_20 => ?_) (fun c_20 => ?_)
                · refine lv_iinc (v := (nI (i27 + 1))) (lv' := [(3, .int (nI (i27 + 1))), (0, .ref h0), (1, .int 2), (2, .int 400), (4, .int y4)]) hx hb dX7_findRoom_204 hl (k := 3) rfl (nI_add i27 1) (by decide) rfl (fun ls hl => ?_)
                  refine lv_goto (tgt := 27) hx hb dX7_findRoom_207 (by decide) ?_
                  exact ih27 (i27 + 1) (upd (upd (upd y6 0 (nI (i27 / 20))) 1 (nI (i27 % 20))) 2 21) H locs ls (by omega)  hP hD hS (lv_sub hl [1, 2, 3, 0] rfl)
                · refine lv_iconst (v := 1) hx hb dX7_findRoom_202 (by decide) ?_
                  refine W.widen (k := 0) (n := 0) (Nat.le_of_ble_eq_true rfl) (Nat.le_of_ble_eq_true rfl) ?_
                  have hP9 := hP.sub (ws' := [(h0, .inr (7, [.int ih, .int hn, .int fl, .int da, .int ds, .int ac, .int (nI kc), .ref m1, .ref m2, .ref m3, .ref m4, .ref m5, .int (nI pl), .ref pg, .int fa, .int nf, .ref m6, .ref m7, .ref m8, .long sd, .int ik, .int kh, .int (nI km), .int ka, .int ks, .int kac, .ref m9, .ref m10, .ref m11, .ref m12, .long hv])), (m1, .inl (cI, 6, .inl g1)), (m2, .inl (cI, 6, .inl g2)), (m6, .inl (cI, 3, .inl (upd (upd (upd y6 0 (nI (i27 / 20))) 1 (nI (i27 % 20))) 2 21)))]) [0, 1, 2, 3] rfl
                  have hD9 := hD.sub (ws' := [(h0, .inr (7, [.int ih, .int hn, .int fl, .int da, .int ds, .int ac, .int (nI kc), .ref m1, .ref m2, .ref m3, .ref m4, .ref m5, .int (nI pl), .ref pg, .int fa, .int nf, .ref m6, .ref m7, .ref m8, .long sd, .int ik, .int kh, .int (nI km), .int ka, .int ks, .int kac, .ref m9, .ref m10, .ref m11, .ref m12, .long hv])), (m1, .inl (cI, 6, .inl g1)), (m2, .inl (cI, 6, .inl g2)), (m6, .inl (cI, 3, .inl (upd (upd (upd y6 0 (nI (i27 / 20))) 1 (nI (i27 % 20))) 2 21)))]) [0, 1, 2, 3] (by decide) rfl
                  rw [hQ]; exact W.zret (v := 1) hx hb hr (by decide) (fun t ht hW => ⟨⟨1, (), rfl, trivial, ⟨(upd (upd (upd y6 0 (nI (i27 / 20))) 1 (nI (i27 % 20))) 2 21), by rw [ht]; exact hP9, hD9⟩⟩, hS.F ht⟩) hS.2.2 dX7_findRoom_203
            have lp159 : ∀ (n159 : Nat) (i159 : Nat) (y4 : Int32) (H : Heap) (locs : List Loc) (ls : Array Slot), i159 + n159 = 2 → va_P (dC, dI) vwCl [(h0, .inr (7, [.int ih, .int hn, .int fl, .int da, .int ds, .int ac, .int (nI kc), .ref m1, .ref m2, .ref m3, .ref m4, .ref m5, .int (nI pl), .ref pg, .int fa, .int nf, .ref m6, .ref m7, .ref m8, .long sd, .int ik, .int kh, .int (nI km), .int ka, .int ks, .int kac, .ref m9, .ref m10, .ref m11, .ref m12, .long hv])), (m1, .inl (cI, 6, .inl g1)), (m2, .inl (cI, 6, .inl g2)), (m6, .inl (cI, 3, .inl (upd (upd (upd y6 0 (nI (i27 / 20))) 1 (nI (i27 % 20))) 2 21)))] H → va_D A [(h0, .inr (7, [.int ih, .int hn, .int fl, .int da, .int ds, .int ac, .int (nI kc), .ref m1, .ref m2, .ref m3, .ref m4, .ref m5, .int (nI pl), .ref pg, .int fa, .int nf, .ref m6, .ref m7, .ref m8, .long sd, .int ik, .int kh, .int (nI km), .int ka, .int ks, .int kac, .ref m9, .ref m10, .ref m11, .ref m12, .long hv])), (m1, .inl (cI, 6, .inl g1)), (m2, .inl (cI, 6, .inl g2)), (m6, .inl (cI, 3, .inl (upd (upd (upd y6 0 (nI (i27 / 20))) 1 (nI (i27 % 20))) 2 21)))] → va_S A s.heap H locs → lv_has ls 6 [(0, .ref h0), (1, .int 2), (2, .int 400), (3, .int (nI i27)), (4, .int y4), (5, .int (nI i159))] → W p l e ({ frames := 4, cells := 0, slots := 0, locals := 101 } : Room) s m #[Value.ref h0, Value.int 2] below meth c H locs 0 0 Q (F0 m 159 ls []) := by
              intro n159
              induction n159 with
              | zero =>
                intro i159 y4 H locs ls hi159  hP hD hS hl
                refine lv_iload hx hb dX7_findRoom_159 (lv_at hl 5 rfl) ?_
                refine lv_iload_n hx hb dX7_findRoom_161 rfl (lv_at hl 1 rfl) ?_
                refine lv_icmp_ge (tgt := 189) hx hb dX7_findRoom_162 (by decide) (fun c_21 => ?_) (fun c_21 => ?_)
                · exact hex189 i159 y4 H locs ls  hP hD hS (lv_sub hl [0, 1, 2, 3, 4] rfl)
                · exact absurd (show (2 : Int32) ≤ nI i159 from nI_le (a := 2) (b := i159) (by omega) (by omega)) c_21
              | succ n159 ih159 =>
                intro i159 y4 H locs ls hi159  hP hD hS hl
                refine lv_iload hx hb dX7_findRoom_159 (lv_at hl 5 rfl) ?_
                refine lv_iload_n hx hb dX7_findRoom_161 rfl (lv_at hl 1 rfl) ?_
                refine lv_icmp_ge (tgt := 189) hx hb dX7_findRoom_162 (by decide) (fun c_22 => ?_) (fun c_22 => ?_)
                · exact absurd c_22 (show ¬ (2 : Int32) ≤ nI i159 from nI_ge (a := i159) (b := 2) (by omega) (by omega))
                · refine lv_iload hx hb dX7_findRoom_165 (lv_at hl 4 rfl) ?_
                  refine lv_if_eq (tgt := 189) hx hb dX7_findRoom_167 (by decide) (fun c_23 => ?_) (fun c_23 => ?_)
                  · exact hex189 i159 y4 H locs ls  hP hD hS (lv_sub hl [0, 1, 2, 3, 4] rfl)
                  · refine lv_aload_n hx hb dX7_findRoom_170 rfl (lv_at hl 0 rfl) ?_
                    refine lv_aload_n hx hb dX7_findRoom_171 rfl (lv_at hl 0 rfl) ?_
                    refine va_get (D := (dC, dI)) (ci := 7) (v := .ref m6) (C := RX7) (T := TX7) (N := 31) hx hb hts hiX7 hown hK hP 0 rfl rfl 16 (by decide) (hts (.fieldLink RX7 36 "LeftProfileModel" "roomAt" "[I") (List.mem_of_getElem? (i := 1) rfl)) (fun _ h9 => h9) rfl dX7_findRoom_172 ?_
                    refine lv_iload hx hb dX7_findRoom_175 (lv_at hl 5 rfl) ?_
                    refine va_iald hx hb hK hP 3 0 rfl rfl (vp_in_nI (n := i159) (by omega) (by omega)) dX7_findRoom_177 ?_
                    refine cz_i (y := ((upd (upd (upd y6 0 (nI (i27 / 20))) 1 (nI (i27 % 20))) 2 21) i159)) (congrArg (upd (upd (upd y6 0 (nI (i27 / 20))) 1 (nI (i27 % 20))) 2 21) (nI_clamp (n := i159) (by omega))) ?_
                    refine vp_callSi (cz_run (va_runV (As := [.int ((upd (upd (upd y6 0 (nI (i27 / 20))) 1 (nI (i27 % 20))) 2 21) i159)]) (rest := []) ⟨hx, hb, hml, hown, hts⟩ (c_X7_isEmpty l dC dI cI cB h0 ((upd (upd (upd y6 0 (nI (i27 / 20))) 1 (nI (i27 % 20))) 2 21) i159) ih hn fl da ds ac kc m1 m2 m3 m4 m5 pl pg fa nf m6 m7 m8 sd ik kh km ka ks kac m9 m10 m11 m12 hv g2 hkc) (cwV 1 hts gX7_findRoom_X7_isEmpty rfl rfl rfl (by decide +kernel) ⟨Nat.le_of_ble_eq_true rfl, Nat.le_of_ble_eq_true rfl⟩) (cz_pV (hP.sub (ws' := [(h0, .inr (7, [.int ih, .int hn, .int fl, .int da, .int ds, .int ac, .int (nI kc), .ref m1, .ref m2, .ref m3, .ref m4, .ref m5, .int (nI pl), .ref pg, .int fa, .int nf, .ref m6, .ref m7, .ref m8, .long sd, .int ik, .int kh, .int (nI km), .int ka, .int ks, .int kac, .ref m9, .ref m10, .ref m11, .ref m12, .long hv])), (m2, .inl (cI, 6, .inl g2))]) [0, 2] rfl) hN (va_recv hK (hP.sub (ws' := [(h0, .inr (7, [.int ih, .int hn, .int fl, .int da, .int ds, .int ac, .int (nI kc), .ref m1, .ref m2, .ref m3, .ref m4, .ref m5, .int (nI pl), .ref pg, .int fa, .int nf, .ref m6, .ref m7, .ref m8, .long sd, .int ik, .int kh, .int (nI km), .int ka, .int ks, .int kac, .ref m9, .ref m10, .ref m11, .ref m12, .long hv])), (m2, .inl (cI, 6, .inl g2))]) [0, 2] rfl) (ci := 7) (q0 := 0) rfl rfl)) rfl rfl hl.1 rfl (lv_room (Nat.le_of_ble_eq_true rfl)) dX7_findRoom_178 ⟨Nat.le_of_ble_eq_true rfl, Nat.le_of_ble_eq_true rfl⟩)) (fun r_24 hr_24 => ?_)
                    rcases hr_24 with ⟨rfl, hr_24⟩ | ⟨rfl, hr_24⟩
                    · refine lv_istore (lv' := [(4, .int 0), (0, .ref h0), (1, .int 2), (2, .int 400), (3, .int (nI i27)), (5, .int (nI i159))]) hx hb dX7_findRoom_181 hl (by decide) rfl (fun ls hl => ?_)
                      refine lv_iinc (v := (nI (i159 + 1))) (lv' := [(5, .int (nI (i159 + 1))), (4, .int 0), (0, .ref h0), (1, .int 2), (2, .int 400), (3, .int (nI i27))]) hx hb dX7_findRoom_183 hl (k := 5) rfl (nI_add i159 1) (by decide) rfl (fun ls hl => ?_)
                      refine lv_goto (tgt := 159) hx hb dX7_findRoom_186 (by decide) ?_
                      exact ih159 (i159 + 1) 0 H locs ls (by omega)  hP hD hS (lv_sub hl [2, 3, 4, 5, 1, 0] rfl)
                    · refine lv_istore (lv' := [(4, .int 1), (0, .ref h0), (1, .int 2), (2, .int 400), (3, .int (nI i27)), (5, .int (nI i159))]) hx hb dX7_findRoom_181 hl (by decide) rfl (fun ls hl => ?_)
                      refine lv_iinc (v := (nI (i159 + 1))) (lv' := [(5, .int (nI (i159 + 1))), (4, .int 1), (0, .ref h0), (1, .int 2), (2, .int 400), (3, .int (nI i27))]) hx hb dX7_findRoom_183 hl (k := 5) rfl (nI_add i159 1) (by decide) rfl (fun ls hl => ?_)
                      refine lv_goto (tgt := 159) hx hb dX7_findRoom_186 (by decide) ?_
                      exact ih159 (i159 + 1) 1 H locs ls (by omega)  hP hD hS (lv_sub hl [2, 3, 4, 5, 1, 0] rfl)
            exact lp159 2 0 1 H locs ls (by omega)  hP hD hS (lv_sub hl [2, 3, 4, 5, 1, 0] rfl)
  exact lp27 400 0 g6 s.heap [] ls (by omega)  hP hD hS (lv_sub hl [2, 3, 1, 0] rfl)

set_option maxHeartbeats 4000000 in
set_option maxRecDepth 100000 in
theorem c_findRoom3 (l : Launch) (dC : Nat → ClassId) (dI : Nat → Nat → Nat) (cI cB : ClassId) (h0 : Nat) (ih : Int32) (hn : Int32) (fl : Int32) (da : Int32) (ds : Int32) (ac : Int32) (kc : Nat) (m1 : Nat) (m2 : Nat) (m3 : Nat) (m4 : Nat) (m5 : Nat) (pl : Nat) (pg : Nat) (fa : Int32) (nf : Int32) (m6 : Nat) (m7 : Nat) (m8 : Nat) (sd : Int64) (ik : Int32) (kh : Int32) (km : Nat) (ka : Int32) (ks : Int32) (kac : Int32) (m9 : Nat) (m10 : Nat) (m11 : Nat) (m12 : Nat) (hv : Int64) (g1 : Nat → Int32) (g2 : Nat → Int32) (g6 : Nat → Int32) (sz : Nat) (hkc : kc ≤ 6) (hpl : cz_pl g2) (hda : cz_in 0 da 19) : Met l yX7_findRoom wsX7_findRoom ({ frames := 4, cells := 0, slots := 0, locals := 101 }) (cz_Pm dC dI cI cB [.ref h0, .int 3] [(h0, .inr (7, [.int ih, .int hn, .int fl, .int da, .int ds, .int ac, .int (nI kc), .ref m1, .ref m2, .ref m3, .ref m4, .ref m5, .int (nI pl), .ref pg, .int fa, .int nf, .ref m6, .ref m7, .ref m8, .long sd, .int ik, .int kh, .int (nI km), .int ka, .int ks, .int kac, .ref m9, .ref m10, .ref m11, .ref m12, .long hv])), (m1, .inl (cI, 6, .inl g1)), (m2, .inl (cI, 6, .inl g2)), (m6, .inl (cI, 3, .inl g6))] sz) (va_Qi (fun (r : Int32) (_ : Unit) => True) (fun _ t => ∃ (t6 : Nat → Int32), va_P (dC, dI) vwCl [(h0, .inr (7, [.int ih, .int hn, .int fl, .int da, .int ds, .int ac, .int (nI kc), .ref m1, .ref m2, .ref m3, .ref m4, .ref m5, .int (nI pl), .ref pg, .int fa, .int nf, .ref m6, .ref m7, .ref m8, .long sd, .int ik, .int kh, .int (nI km), .int ka, .int ks, .int kac, .ref m9, .ref m10, .ref m11, .ref m12, .long hv])), (m1, .inl (cI, 6, .inl g1)), (m2, .inl (cI, 6, .inl g2)), (m6, .inl (cI, 3, .inl t6))] t.heap ∧ va_D (va_A [(h0, .inr (7, [.int ih, .int hn, .int fl, .int da, .int ds, .int ac, .int (nI kc), .ref m1, .ref m2, .ref m3, .ref m4, .ref m5, .int (nI pl), .ref pg, .int fa, .int nf, .ref m6, .ref m7, .ref m8, .long sd, .int ik, .int kh, .int (nI km), .int ka, .int ks, .int kac, .ref m9, .ref m10, .ref m11, .ref m12, .long hv])), (m1, .inl (cI, 6, .inl g1)), (m2, .inl (cI, 6, .inl g2)), (m6, .inl (cI, 3, .inl g6))] sz) [(h0, .inr (7, [.int ih, .int hn, .int fl, .int da, .int ds, .int ac, .int (nI kc), .ref m1, .ref m2, .ref m3, .ref m4, .ref m5, .int (nI pl), .ref pg, .int fa, .int nf, .ref m6, .ref m7, .ref m8, .long sd, .int ik, .int kh, .int (nI km), .int ka, .int ks, .int kac, .ref m9, .ref m10, .ref m11, .ref m12, .long hv])), (m1, .inl (cI, 6, .inl g1)), (m2, .inl (cI, 6, .inl g2)), (m6, .inl (cI, 3, .inl t6))]) (va_A [(h0, .inr (7, [.int ih, .int hn, .int fl, .int da, .int ds, .int ac, .int (nI kc), .ref m1, .ref m2, .ref m3, .ref m4, .ref m5, .int (nI pl), .ref pg, .int fa, .int nf, .ref m6, .ref m7, .ref m8, .long sd, .int ik, .int kh, .int (nI km), .int ka, .int ks, .int kac, .ref m9, .ref m10, .ref m11, .ref m12, .long hv])), (m1, .inl (cI, 6, .inl g1)), (m2, .inl (cI, 6, .inl g2)), (m6, .inl (cI, 3, .inl g6))] sz)) 0 0 (va_A [(h0, .inr (7, [.int ih, .int hn, .int fl, .int da, .int ds, .int ac, .int (nI kc), .ref m1, .ref m2, .ref m3, .ref m4, .ref m5, .int (nI pl), .ref pg, .int fa, .int nf, .ref m6, .ref m7, .ref m8, .long sd, .int ik, .int kh, .int (nI km), .int ka, .int ks, .int kac, .ref m9, .ref m10, .ref m11, .ref m12, .long hv])), (m1, .inl (cI, 6, .inl g1)), (m2, .inl (cI, 6, .inl g2)), (m6, .inl (cI, 3, .inl g6))] sz) := by
  refine cz_of (cc := cX7_findRoom) (maxL := 6) (ret := (some .boolean)) (by decide) rfl ?_
  intro p e s m args below meth c s₁ Q B hml hv hQ
  obtain ⟨rfl, hsz, hP, hN, hD0⟩ := hv
  have hx := B.exec
  have hb := B.bytes
  have hr := B.returns
  have hts := atoms_spec (ws := wsX7_findRoom) B.pre
  have hown : s.vm.findClass RX7 = some m.cls := findClass_of_methodNamed B.named
  have hlocks := B.notSynchronized
  have hK := hN.1
  have hiX7 : ∀ w ∈ wsX70, w ∈ wsX7_findRoom := (fun _ h => List.mem_cons_of_mem _ (List.mem_append_right _ h))
  subst hsz
  have hD := hD0.self (sz := s.heap.size)
  generalize hAe : va_A [(h0, .inr (7, [.int ih, .int hn, .int fl, .int da, .int ds, .int ac, .int (nI kc), .ref m1, .ref m2, .ref m3, .ref m4, .ref m5, .int (nI pl), .ref pg, .int fa, .int nf, .ref m6, .ref m7, .ref m8, .long sd, .int ik, .int kh, .int (nI km), .int ka, .int ks, .int kac, .ref m9, .ref m10, .ref m11, .ref m12, .long hv])), (m1, .inl (cI, 6, .inl g1)), (m2, .inl (cI, 6, .inl g2)), (m6, .inl (cI, 3, .inl g6))] s.heap.size = A at hD hQ ⊢
  have hA : ∀ q : Nat, s.heap.size ≤ q → A q := fun q h => by rw [← hAe]; exact Or.inr h
  have hS : va_S A s.heap s.heap [] := va_S.rf
  obtain ⟨H, eH⟩ : ∃ H, H = s.heap := ⟨_, rfl⟩
  have hP : va_P (dC, dI) vwCl [(h0, .inr (7, [.int ih, .int hn, .int fl, .int da, .int ds, .int ac, .int (nI kc), .ref m1, .ref m2, .ref m3, .ref m4, .ref m5, .int (nI pl), .ref pg, .int fa, .int nf, .ref m6, .ref m7, .ref m8, .long sd, .int ik, .int kh, .int (nI km), .int ka, .int ks, .int kac, .ref m9, .ref m10, .ref m11, .ref m12, .long hv])), (m1, .inl (cI, 6, .inl g1)), (m2, .inl (cI, 6, .inl g2)), (m6, .inl (cI, 3, .inl g6))] s.heap := hP
  have hl := lv_entry ([.ref h0, .int 3]) (n := 6) (Nat.le_of_ble_eq_true rfl)
  rw [lg_entry_eq]
  generalize (lg_sl ([.ref h0, .int 3]) ++ List.replicate (6 - (lg_sl ([.ref h0, .int 3])).length) Slot.unset).toArray = ls at hl ⊢
  have hl : lv_has ls 6 [(0, .ref h0), (1, .int 3)] := hl
  refine lv_iload_n hx hb dX7_findRoom_0 rfl (lv_at hl 1 rfl) ?_
  refine lv_iconst (v := 1) hx hb dX7_findRoom_1 (by decide) ?_
  refine lv_icmp_ne (tgt := 10) hx hb dX7_findRoom_2 (by decide) (fun _ => ?_) (fun c => absurd c (by decide))
  refine lv_iload_n hx hb dX7_findRoom_10 rfl (lv_at hl 1 rfl) ?_
  refine lv_iconst (v := 2) hx hb dX7_findRoom_11 (by decide) ?_
  refine lv_icmp_ne (tgt := 21) hx hb dX7_findRoom_12 (by decide) (fun _ => ?_) (fun c => absurd c (by decide))
  refine lv_sipush (v := 8000) hx hb dX7_findRoom_21 (by decide) ?_
  refine lv_istore_n (lv' := [(2, .int 8000), (0, .ref h0), (1, .int 3)]) hx hb dX7_findRoom_24 rfl hl (by decide) rfl (fun ls hl => ?_)
  refine lv_iconst (v := 0) hx hb dX7_findRoom_25 (by decide) ?_
  refine lv_istore_n (lv' := [(3, .int 0), (2, .int 8000), (0, .ref h0), (1, .int 3)]) hx hb dX7_findRoom_26 rfl hl (by decide) rfl (fun ls hl => ?_)
  have lp27 : ∀ (n27 : Nat) (i27 : Nat) (y6 : Nat → Int32) (H : Heap) (locs : List Loc) (ls : Array Slot), i27 + n27 = 8000 → va_P (dC, dI) vwCl [(h0, .inr (7, [.int ih, .int hn, .int fl, .int da, .int ds, .int ac, .int (nI kc), .ref m1, .ref m2, .ref m3, .ref m4, .ref m5, .int (nI pl), .ref pg, .int fa, .int nf, .ref m6, .ref m7, .ref m8, .long sd, .int ik, .int kh, .int (nI km), .int ka, .int ks, .int kac, .ref m9, .ref m10, .ref m11, .ref m12, .long hv])), (m1, .inl (cI, 6, .inl g1)), (m2, .inl (cI, 6, .inl g2)), (m6, .inl (cI, 3, .inl y6))] H → va_D A [(h0, .inr (7, [.int ih, .int hn, .int fl, .int da, .int ds, .int ac, .int (nI kc), .ref m1, .ref m2, .ref m3, .ref m4, .ref m5, .int (nI pl), .ref pg, .int fa, .int nf, .ref m6, .ref m7, .ref m8, .long sd, .int ik, .int kh, .int (nI km), .int ka, .int ks, .int kac, .ref m9, .ref m10, .ref m11, .ref m12, .long hv])), (m1, .inl (cI, 6, .inl g1)), (m2, .inl (cI, 6, .inl g2)), (m6, .inl (cI, 3, .inl y6))] → va_S A s.heap H locs → lv_has ls 6 [(0, .ref h0), (1, .int 3), (2, .int 8000), (3, .int (nI i27))] → W p l e ({ frames := 4, cells := 0, slots := 0, locals := 101 } : Room) s m #[Value.ref h0, Value.int 3] below meth c H locs 0 0 Q (F0 m 27 ls []) := by
    intro n27
    induction n27 with
    | zero =>
      intro i27 y6 H locs ls hi27  hP hD hS hl
      obtain rfl : i27 = 8000 := by omega
      have hl : lv_has ls 6 [(0, .ref h0), (1, .int 3), (2, .int 8000), (3, .int 8000)] := hl
      refine lv_iload_n hx hb dX7_findRoom_27 rfl (lv_at hl 3 rfl) ?_
      refine lv_iload_n hx hb dX7_findRoom_28 rfl (lv_at hl 2 rfl) ?_
      refine lv_icmp_ge (tgt := 210) hx hb dX7_findRoom_29 (by decide) (fun _ => ?_) (fun c => absurd (by decide) c)
      refine lv_iconst (v := 0) hx hb dX7_findRoom_210 (by decide) ?_
      refine W.widen (k := 0) (n := 0) (Nat.le_of_ble_eq_true rfl) (Nat.le_of_ble_eq_true rfl) ?_
      have hP9 := hP.sub (ws' := [(h0, .inr (7, [.int ih, .int hn, .int fl, .int da, .int ds, .int ac, .int (nI kc), .ref m1, .ref m2, .ref m3, .ref m4, .ref m5, .int (nI pl), .ref pg, .int fa, .int nf, .ref m6, .ref m7, .ref m8, .long sd, .int ik, .int kh, .int (nI km), .int ka, .int ks, .int kac, .ref m9, .ref m10, .ref m11, .ref m12, .long hv])), (m1, .inl (cI, 6, .inl g1)), (m2, .inl (cI, 6, .inl g2)), (m6, .inl (cI, 3, .inl y6))]) [0, 1, 2, 3] rfl
      have hD9 := hD.sub (ws' := [(h0, .inr (7, [.int ih, .int hn, .int fl, .int da, .int ds, .int ac, .int (nI kc), .ref m1, .ref m2, .ref m3, .ref m4, .ref m5, .int (nI pl), .ref pg, .int fa, .int nf, .ref m6, .ref m7, .ref m8, .long sd, .int ik, .int kh, .int (nI km), .int ka, .int ks, .int kac, .ref m9, .ref m10, .ref m11, .ref m12, .long hv])), (m1, .inl (cI, 6, .inl g1)), (m2, .inl (cI, 6, .inl g2)), (m6, .inl (cI, 3, .inl y6))]) [0, 1, 2, 3] (by decide) rfl
      rw [hQ]; exact W.zret (v := 0) hx hb hr (by decide) (fun t ht hW => ⟨⟨0, (), rfl, trivial, ⟨y6, by rw [ht]; exact hP9, hD9⟩⟩, hS.F ht⟩) hS.2.2 dX7_findRoom_211
    | succ n27 ih27 =>
      intro i27 y6 H locs ls hi27  hP hD hS hl
      refine lv_iload_n hx hb dX7_findRoom_27 rfl (lv_at hl 3 rfl) ?_
      refine lv_iload_n hx hb dX7_findRoom_28 rfl (lv_at hl 2 rfl) ?_
      refine lv_icmp_ge (tgt := 210) hx hb dX7_findRoom_29 (by decide) (fun c_1 => ?_) (fun c_1 => ?_)
      · exact absurd c_1 (show ¬ (8000 : Int32) ≤ nI i27 from nI_ge (a := i27) (b := 8000) (by omega) (by omega))
      · refine lv_aload_n hx hb dX7_findRoom_32 rfl (lv_at hl 0 rfl) ?_
        refine va_get (D := (dC, dI)) (ci := 7) (v := .ref m6) (C := RX7) (T := TX7) (N := 31) hx hb hts hiX7 hown hK hP 0 rfl rfl 16 (by decide) (hts (.fieldLink RX7 36 "LeftProfileModel" "roomAt" "[I") (List.mem_of_getElem? (i := 1) rfl)) (fun _ h9 => h9) rfl dX7_findRoom_33 ?_
        refine lv_iconst (v := 0) hx hb dX7_findRoom_36 (by decide) ?_
        refine lv_iload_n hx hb dX7_findRoom_37 rfl (lv_at hl 1 rfl) ?_
        refine lv_iconst (v := 1) hx hb dX7_findRoom_38 (by decide) ?_
        refine lv_icmp_ne (tgt := 46) hx hb dX7_findRoom_39 (by decide) (fun _ => ?_) (fun c => absurd c (by decide))
        refine lv_iload_n hx hb dX7_findRoom_46 rfl (lv_at hl 1 rfl) ?_
        refine lv_iconst (v := 2) hx hb dX7_findRoom_47 (by decide) ?_
        refine lv_icmp_ne (tgt := 58) hx hb dX7_findRoom_48 (by decide) (fun _ => ?_) (fun c => absurd c (by decide))
        refine lv_iload_n hx hb dX7_findRoom_58 rfl (lv_at hl 3 rfl) ?_
        refine lv_sipush (v := 400) hx hb dX7_findRoom_59 (by decide) ?_
        refine lv_idiv hx hb dX7_findRoom_62 (by decide) ?_
        refine cz_i (y := (nI (i27 / 400))) (pk_div (a := i27) (d := 400) (by omega) (by decide) (by decide)) ?_
        refine va_iast hx hb hK hP hD hS 3 0 rfl rfl (vp_in_nI (n := 0) (by omega) (by omega)) dX7_findRoom_63 (fun H locs hP hD hS => ?_)
        rw [show (0 : Int32).toNatClampNeg = 0 by decide] at hP hD
        have hP : va_P (dC, dI) vwCl [(h0, .inr (7, [.int ih, .int hn, .int fl, .int da, .int ds, .int ac, .int (nI kc), .ref m1, .ref m2, .ref m3, .ref m4, .ref m5, .int (nI pl), .ref pg, .int fa, .int nf, .ref m6, .ref m7, .ref m8, .long sd, .int ik, .int kh, .int (nI km), .int ka, .int ks, .int kac, .ref m9, .ref m10, .ref m11, .ref m12, .long hv])), (m1, .inl (cI, 6, .inl g1)), (m2, .inl (cI, 6, .inl g2)), (m6, .inl (cI, 3, .inl (upd y6 0 (nI (i27 / 400)))))] H := hP
        have hD : va_D A [(h0, .inr (7, [.int ih, .int hn, .int fl, .int da, .int ds, .int ac, .int (nI kc), .ref m1, .ref m2, .ref m3, .ref m4, .ref m5, .int (nI pl), .ref pg, .int fa, .int nf, .ref m6, .ref m7, .ref m8, .long sd, .int ik, .int kh, .int (nI km), .int ka, .int ks, .int kac, .ref m9, .ref m10, .ref m11, .ref m12, .long hv])), (m1, .inl (cI, 6, .inl g1)), (m2, .inl (cI, 6, .inl g2)), (m6, .inl (cI, 3, .inl (upd y6 0 (nI (i27 / 400)))))] := hD
        refine lv_aload_n hx hb dX7_findRoom_64 rfl (lv_at hl 0 rfl) ?_
        refine va_get (D := (dC, dI)) (ci := 7) (v := .ref m6) (C := RX7) (T := TX7) (N := 31) hx hb hts hiX7 hown hK hP 0 rfl rfl 16 (by decide) (hts (.fieldLink RX7 36 "LeftProfileModel" "roomAt" "[I") (List.mem_of_getElem? (i := 1) rfl)) (fun _ h9 => h9) rfl dX7_findRoom_65 ?_
        refine lv_iconst (v := 1) hx hb dX7_findRoom_68 (by decide) ?_
        refine lv_iload_n hx hb dX7_findRoom_69 rfl (lv_at hl 1 rfl) ?_
        refine lv_iconst (v := 1) hx hb dX7_findRoom_70 (by decide) ?_
        refine lv_icmp_ne (tgt := 79) hx hb dX7_findRoom_71 (by decide) (fun _ => ?_) (fun c => absurd c (by decide))
        refine lv_iload_n hx hb dX7_findRoom_79 rfl (lv_at hl 1 rfl) ?_
        refine lv_iconst (v := 2) hx hb dX7_findRoom_80 (by decide) ?_
        refine lv_icmp_ne (tgt := 91) hx hb dX7_findRoom_81 (by decide) (fun _ => ?_) (fun c => absurd c (by decide))
        refine lv_iload_n hx hb dX7_findRoom_91 rfl (lv_at hl 3 rfl) ?_
        refine lv_bipush (v := 20) hx hb dX7_findRoom_92 (by decide) ?_
        refine lv_idiv hx hb dX7_findRoom_94 (by decide) ?_
        refine cz_i (y := (nI (i27 / 20))) (pk_div (a := i27) (d := 20) (by omega) (by decide) (by decide)) ?_
        refine lv_bipush (v := 20) hx hb dX7_findRoom_95 (by decide) ?_
        refine lv_irem hx hb dX7_findRoom_97 (by decide) ?_
        refine cz_i (y := (nI ((i27 / 20) % 20))) (pk_rem (a := (i27 / 20)) (d := 20) (by omega) (by decide) (by decide)) ?_
        refine va_iast hx hb hK hP hD hS 3 0 rfl rfl (vp_in_nI (n := 1) (by omega) (by omega)) dX7_findRoom_98 (fun H locs hP hD hS => ?_)
        rw [show (1 : Int32).toNatClampNeg = 1 by decide] at hP hD
        have hP : va_P (dC, dI) vwCl [(h0, .inr (7, [.int ih, .int hn, .int fl, .int da, .int ds, .int ac, .int (nI kc), .ref m1, .ref m2, .ref m3, .ref m4, .ref m5, .int (nI pl), .ref pg, .int fa, .int nf, .ref m6, .ref m7, .ref m8, .long sd, .int ik, .int kh, .int (nI km), .int ka, .int ks, .int kac, .ref m9, .ref m10, .ref m11, .ref m12, .long hv])), (m1, .inl (cI, 6, .inl g1)), (m2, .inl (cI, 6, .inl g2)), (m6, .inl (cI, 3, .inl (upd (upd y6 0 (nI (i27 / 400))) 1 (nI ((i27 / 20) % 20)))))] H := hP
        have hD : va_D A [(h0, .inr (7, [.int ih, .int hn, .int fl, .int da, .int ds, .int ac, .int (nI kc), .ref m1, .ref m2, .ref m3, .ref m4, .ref m5, .int (nI pl), .ref pg, .int fa, .int nf, .ref m6, .ref m7, .ref m8, .long sd, .int ik, .int kh, .int (nI km), .int ka, .int ks, .int kac, .ref m9, .ref m10, .ref m11, .ref m12, .long hv])), (m1, .inl (cI, 6, .inl g1)), (m2, .inl (cI, 6, .inl g2)), (m6, .inl (cI, 3, .inl (upd (upd y6 0 (nI (i27 / 400))) 1 (nI ((i27 / 20) % 20)))))] := hD
        refine lv_aload_n hx hb dX7_findRoom_99 rfl (lv_at hl 0 rfl) ?_
        refine va_get (D := (dC, dI)) (ci := 7) (v := .ref m6) (C := RX7) (T := TX7) (N := 31) hx hb hts hiX7 hown hK hP 0 rfl rfl 16 (by decide) (hts (.fieldLink RX7 36 "LeftProfileModel" "roomAt" "[I") (List.mem_of_getElem? (i := 1) rfl)) (fun _ h9 => h9) rfl dX7_findRoom_100 ?_
        refine lv_iconst (v := 2) hx hb dX7_findRoom_103 (by decide) ?_
        refine lv_iload_n hx hb dX7_findRoom_104 rfl (lv_at hl 1 rfl) ?_
        refine lv_iconst (v := 3) hx hb dX7_findRoom_105 (by decide) ?_
        refine lv_icmp_ge (tgt := 114) hx hb dX7_findRoom_106 (by decide) (fun _ => ?_) (fun c => absurd (by decide) c)
        refine lv_iload_n hx hb dX7_findRoom_114 rfl (lv_at hl 3 rfl) ?_
        refine lv_bipush (v := 20) hx hb dX7_findRoom_115 (by decide) ?_
        refine lv_irem hx hb dX7_findRoom_117 (by decide) ?_
        refine cz_i (y := (nI (i27 % 20))) (pk_rem (a := i27) (d := 20) (by omega) (by decide) (by decide)) ?_
        refine va_iast hx hb hK hP hD hS 3 0 rfl rfl (vp_in_nI (n := 2) (by omega) (by omega)) dX7_findRoom_118 (fun H locs hP hD hS => ?_)
        rw [show (2 : Int32).toNatClampNeg = 2 by decide] at hP hD
        have hP : va_P (dC, dI) vwCl [(h0, .inr (7, [.int ih, .int hn, .int fl, .int da, .int ds, .int ac, .int (nI kc), .ref m1, .ref m2, .ref m3, .ref m4, .ref m5, .int (nI pl), .ref pg, .int fa, .int nf, .ref m6, .ref m7, .ref m8, .long sd, .int ik, .int kh, .int (nI km), .int ka, .int ks, .int kac, .ref m9, .ref m10, .ref m11, .ref m12, .long hv])), (m1, .inl (cI, 6, .inl g1)), (m2, .inl (cI, 6, .inl g2)), (m6, .inl (cI, 3, .inl (upd (upd (upd y6 0 (nI (i27 / 400))) 1 (nI ((i27 / 20) % 20))) 2 (nI (i27 % 20)))))] H := hP
        have hD : va_D A [(h0, .inr (7, [.int ih, .int hn, .int fl, .int da, .int ds, .int ac, .int (nI kc), .ref m1, .ref m2, .ref m3, .ref m4, .ref m5, .int (nI pl), .ref pg, .int fa, .int nf, .ref m6, .ref m7, .ref m8, .long sd, .int ik, .int kh, .int (nI km), .int ka, .int ks, .int kac, .ref m9, .ref m10, .ref m11, .ref m12, .long hv])), (m1, .inl (cI, 6, .inl g1)), (m2, .inl (cI, 6, .inl g2)), (m6, .inl (cI, 3, .inl (upd (upd (upd y6 0 (nI (i27 / 400))) 1 (nI ((i27 / 20) % 20))) 2 (nI (i27 % 20)))))] := hD
        refine lv_aload_n hx hb dX7_findRoom_119 rfl (lv_at hl 0 rfl) ?_
        refine va_get (D := (dC, dI)) (ci := 7) (v := .ref m6) (C := RX7) (T := TX7) (N := 31) hx hb hts hiX7 hown hK hP 0 rfl rfl 16 (by decide) (hts (.fieldLink RX7 36 "LeftProfileModel" "roomAt" "[I") (List.mem_of_getElem? (i := 1) rfl)) (fun _ h9 => h9) rfl dX7_findRoom_120 ?_
        refine lv_iconst (v := 0) hx hb dX7_findRoom_123 (by decide) ?_
        refine va_iald hx hb hK hP 3 0 rfl rfl (vp_in_nI (n := 0) (by omega) (by omega)) dX7_findRoom_124 ?_
        refine cz_i (y := ((upd (upd (upd y6 0 (nI (i27 / 400))) 1 (nI ((i27 / 20) % 20))) 2 (nI (i27 % 20))) 0)) (congrArg (upd (upd (upd y6 0 (nI (i27 / 400))) 1 (nI ((i27 / 20) % 20))) 2 (nI (i27 % 20))) (nI_clamp (n := 0) (by omega))) ?_
        refine lv_aload_n hx hb dX7_findRoom_125 rfl (lv_at hl 0 rfl) ?_
        refine va_get (D := (dC, dI)) (ci := 7) (v := .ref m6) (C := RX7) (T := TX7) (N := 31) hx hb hts hiX7 hown hK hP 0 rfl rfl 16 (by decide) (hts (.fieldLink RX7 36 "LeftProfileModel" "roomAt" "[I") (List.mem_of_getElem? (i := 1) rfl)) (fun _ h9 => h9) rfl dX7_findRoom_126 ?_
        refine lv_iconst (v := 1) hx hb dX7_findRoom_129 (by decide) ?_
        refine va_iald hx hb hK hP 3 0 rfl rfl (vp_in_nI (n := 1) (by omega) (by omega)) dX7_findRoom_130 ?_
        refine cz_i (y := ((upd (upd (upd y6 0 (nI (i27 / 400))) 1 (nI ((i27 / 20) % 20))) 2 (nI (i27 % 20))) 1)) (congrArg (upd (upd (upd y6 0 (nI (i27 / 400))) 1 (nI ((i27 / 20) % 20))) 2 (nI (i27 % 20))) (nI_clamp (n := 1) (by omega))) ?_
        refine lv_icmp_ge (tgt := 153) hx hb dX7_findRoom_131 (by decide) (fun c_2 => ?_) (fun c_2 => ?_)
        · refine lv_iconst (v := 0) hx hb dX7_findRoom_153 (by decide) ?_
          refine lv_istore (lv' := [(4, .int 0), (0, .ref h0), (1, .int 3), (2, .int 8000), (3, .int (nI i27))]) hx hb dX7_findRoom_154 hl (by decide) rfl (fun ls hl => ?_)
          refine lv_iconst (v := 0) hx hb dX7_findRoom_156 (by decide) ?_
          refine lv_istore (lv' := [(5, .int 0), (4, .int 0), (0, .ref h0), (1, .int 3), (2, .int 8000), (3, .int (nI i27))]) hx hb dX7_findRoom_157 hl (by decide) rfl (fun ls hl => ?_)
          have hex189 : ∀ (i159 : Nat) (y4 : Int32) (H : Heap) (locs : List Loc) (ls : Array Slot), va_P (dC, dI) vwCl [(h0, .inr (7, [.int ih, .int hn, .int fl, .int da, .int ds, .int ac, .int (nI kc), .ref m1, .ref m2, .ref m3, .ref m4, .ref m5, .int (nI pl), .ref pg, .int fa, .int nf, .ref m6, .ref m7, .ref m8, .long sd, .int ik, .int kh, .int (nI km), .int ka, .int ks, .int kac, .ref m9, .ref m10, .ref m11, .ref m12, .long hv])), (m1, .inl (cI, 6, .inl g1)), (m2, .inl (cI, 6, .inl g2)), (m6, .inl (cI, 3, .inl (upd (upd (upd y6 0 (nI (i27 / 400))) 1 (nI ((i27 / 20) % 20))) 2 (nI (i27 % 20)))))] H → va_D A [(h0, .inr (7, [.int ih, .int hn, .int fl, .int da, .int ds, .int ac, .int (nI kc), .ref m1, .ref m2, .ref m3, .ref m4, .ref m5, .int (nI pl), .ref pg, .int fa, .int nf, .ref m6, .ref m7, .ref m8, .long sd, .int ik, .int kh, .int (nI km), .int ka, .int ks, .int kac, .ref m9, .ref m10, .ref m11, .ref m12, .long hv])), (m1, .inl (cI, 6, .inl g1)), (m2, .inl (cI, 6, .inl g2)), (m6, .inl (cI, 3, .inl (upd (upd (upd y6 0 (nI (i27 / 400))) 1 (nI ((i27 / 20) % 20))) 2 (nI (i27 % 20)))))] → va_S A s.heap H locs → lv_has ls 6 [(0, .ref h0), (1, .int 3), (2, .int 8000), (3, .int (nI i27)), (4, .int y4)] → W p l e ({ frames := 4, cells := 0, slots := 0, locals := 101 } : Room) s m #[Value.ref h0, Value.int 3] below meth c H locs 0 0 Q (F0 m 189 ls []) := by
            intro i159 y4 H locs ls  hP hD hS hl
            refine lv_iload hx hb dX7_findRoom_189 (lv_at hl 4 rfl) ?_
            refine lv_if_eq (tgt := 204) hx hb dX7_findRoom_191 (by decide) (fun c_3 => ?_) (fun c_3 => ?_)
            · refine lv_iinc (v := (nI (i27 + 1))) (lv' := [(3, .int (nI (i27 + 1))), (0, .ref h0), (1, .int 3), (2, .int 8000), (4, .int y4)]) hx hb dX7_findRoom_204 hl (k := 3) rfl (nI_add i27 1) (by decide) rfl (fun ls hl => ?_)
              refine lv_goto (tgt := 27) hx hb dX7_findRoom_207 (by decide) ?_
              exact ih27 (i27 + 1) (upd (upd (upd y6 0 (nI (i27 / 400))) 1 (nI ((i27 / 20) % 20))) 2 (nI (i27 % 20))) H locs ls (by omega)  hP hD hS (lv_sub hl [1, 2, 3, 0] rfl)
            · refine lv_aload_n hx hb dX7_findRoom_194 rfl (lv_at hl 0 rfl) ?_
              refine lv_iload_n hx hb dX7_findRoom_195 rfl (lv_at hl 1 rfl) ?_
              refine vp_callSi (cz_run (va_runV (As := [.int 3]) (rest := []) ⟨hx, hb, hml, hown, hts⟩ (c_X7_isRoom l dC dI cI cB h0 3 ih hn fl da ds ac kc m1 m2 m3 m4 m5 pl pg fa nf m6 m7 m8 sd ik kh km ka ks kac m9 m10 m11 m12 hv g1 g2 (upd (upd (upd y6 0 (nI (i27 / 400))) 1 (nI ((i27 / 20) % 20))) 2 (nI (i27 % 20))) hkc hpl hda (by omega) (cz_rm_of (by decide) (fun _ => (cz_in_nI (i := (i27 / 400)) (by omega))) (fun _ => (cz_in_nI (i := ((i27 / 20) % 20)) (by omega))) (fun _ => (cz_in_nI (i := (i27 % 20)) (by omega))))) (cwV 1 hts gX7_findRoom_X7_isRoom rfl rfl rfl (by decide +kernel) ⟨Nat.le_of_ble_eq_true rfl, Nat.le_of_ble_eq_true rfl⟩) (cz_pV hP hN (va_recv hK hP (ci := 7) (q0 := 0) rfl rfl)) rfl rfl hl.1 rfl (lv_room (Nat.le_of_ble_eq_true rfl)) dX7_findRoom_196 ⟨Nat.le_of_ble_eq_true rfl, Nat.le_of_ble_eq_true rfl⟩)) (fun r_4 hr_4 => ?_)
              refine lv_if_eq (tgt := 204) hx hb dX7_findRoom_199 (by decide) (fun c_5 => ?_) (fun c_5 => ?_)
              · refine lv_iinc (v := (nI (i27 + 1))) (lv' := [(3, .int (nI (i27 + 1))), (0, .ref h0), (1, .int 3), (2, .int 8000), (4, .int y4)]) hx hb dX7_findRoom_204 hl (k := 3) rfl (nI_add i27 1) (by decide) rfl (fun ls hl => ?_)
                refine lv_goto (tgt := 27) hx hb dX7_findRoom_207 (by decide) ?_
                exact ih27 (i27 + 1) (upd (upd (upd y6 0 (nI (i27 / 400))) 1 (nI ((i27 / 20) % 20))) 2 (nI (i27 % 20))) H locs ls (by omega)  hP hD hS (lv_sub hl [1, 2, 3, 0] rfl)
              · refine lv_iconst (v := 1) hx hb dX7_findRoom_202 (by decide) ?_
                refine W.widen (k := 0) (n := 0) (Nat.le_of_ble_eq_true rfl) (Nat.le_of_ble_eq_true rfl) ?_
                have hP9 := hP.sub (ws' := [(h0, .inr (7, [.int ih, .int hn, .int fl, .int da, .int ds, .int ac, .int (nI kc), .ref m1, .ref m2, .ref m3, .ref m4, .ref m5, .int (nI pl), .ref pg, .int fa, .int nf, .ref m6, .ref m7, .ref m8, .long sd, .int ik, .int kh, .int (nI km), .int ka, .int ks, .int kac, .ref m9, .ref m10, .ref m11, .ref m12, .long hv])), (m1, .inl (cI, 6, .inl g1)), (m2, .inl (cI, 6, .inl g2)), (m6, .inl (cI, 3, .inl (upd (upd (upd y6 0 (nI (i27 / 400))) 1 (nI ((i27 / 20) % 20))) 2 (nI (i27 % 20)))))]) [0, 1, 2, 3] rfl
                have hD9 := hD.sub (ws' := [(h0, .inr (7, [.int ih, .int hn, .int fl, .int da, .int ds, .int ac, .int (nI kc), .ref m1, .ref m2, .ref m3, .ref m4, .ref m5, .int (nI pl), .ref pg, .int fa, .int nf, .ref m6, .ref m7, .ref m8, .long sd, .int ik, .int kh, .int (nI km), .int ka, .int ks, .int kac, .ref m9, .ref m10, .ref m11, .ref m12, .long hv])), (m1, .inl (cI, 6, .inl g1)), (m2, .inl (cI, 6, .inl g2)), (m6, .inl (cI, 3, .inl (upd (upd (upd y6 0 (nI (i27 / 400))) 1 (nI ((i27 / 20) % 20))) 2 (nI (i27 % 20)))))]) [0, 1, 2, 3] (by decide) rfl
                rw [hQ]; exact W.zret (v := 1) hx hb hr (by decide) (fun t ht hW => ⟨⟨1, (), rfl, trivial, ⟨(upd (upd (upd y6 0 (nI (i27 / 400))) 1 (nI ((i27 / 20) % 20))) 2 (nI (i27 % 20))), by rw [ht]; exact hP9, hD9⟩⟩, hS.F ht⟩) hS.2.2 dX7_findRoom_203
          have lp159 : ∀ (n159 : Nat) (i159 : Nat) (y4 : Int32) (H : Heap) (locs : List Loc) (ls : Array Slot), i159 + n159 = 3 → va_P (dC, dI) vwCl [(h0, .inr (7, [.int ih, .int hn, .int fl, .int da, .int ds, .int ac, .int (nI kc), .ref m1, .ref m2, .ref m3, .ref m4, .ref m5, .int (nI pl), .ref pg, .int fa, .int nf, .ref m6, .ref m7, .ref m8, .long sd, .int ik, .int kh, .int (nI km), .int ka, .int ks, .int kac, .ref m9, .ref m10, .ref m11, .ref m12, .long hv])), (m1, .inl (cI, 6, .inl g1)), (m2, .inl (cI, 6, .inl g2)), (m6, .inl (cI, 3, .inl (upd (upd (upd y6 0 (nI (i27 / 400))) 1 (nI ((i27 / 20) % 20))) 2 (nI (i27 % 20)))))] H → va_D A [(h0, .inr (7, [.int ih, .int hn, .int fl, .int da, .int ds, .int ac, .int (nI kc), .ref m1, .ref m2, .ref m3, .ref m4, .ref m5, .int (nI pl), .ref pg, .int fa, .int nf, .ref m6, .ref m7, .ref m8, .long sd, .int ik, .int kh, .int (nI km), .int ka, .int ks, .int kac, .ref m9, .ref m10, .ref m11, .ref m12, .long hv])), (m1, .inl (cI, 6, .inl g1)), (m2, .inl (cI, 6, .inl g2)), (m6, .inl (cI, 3, .inl (upd (upd (upd y6 0 (nI (i27 / 400))) 1 (nI ((i27 / 20) % 20))) 2 (nI (i27 % 20)))))] → va_S A s.heap H locs → lv_has ls 6 [(0, .ref h0), (1, .int 3), (2, .int 8000), (3, .int (nI i27)), (4, .int y4), (5, .int (nI i159))] → W p l e ({ frames := 4, cells := 0, slots := 0, locals := 101 } : Room) s m #[Value.ref h0, Value.int 3] below meth c H locs 0 0 Q (F0 m 159 ls []) := by
            intro n159
            induction n159 with
            | zero =>
              intro i159 y4 H locs ls hi159  hP hD hS hl
              refine lv_iload hx hb dX7_findRoom_159 (lv_at hl 5 rfl) ?_
              refine lv_iload_n hx hb dX7_findRoom_161 rfl (lv_at hl 1 rfl) ?_
              refine lv_icmp_ge (tgt := 189) hx hb dX7_findRoom_162 (by decide) (fun c_6 => ?_) (fun c_6 => ?_)
              · exact hex189 i159 y4 H locs ls  hP hD hS (lv_sub hl [0, 1, 2, 3, 4] rfl)
              · exact absurd (show (3 : Int32) ≤ nI i159 from nI_le (a := 3) (b := i159) (by omega) (by omega)) c_6
            | succ n159 ih159 =>
              intro i159 y4 H locs ls hi159  hP hD hS hl
              refine lv_iload hx hb dX7_findRoom_159 (lv_at hl 5 rfl) ?_
              refine lv_iload_n hx hb dX7_findRoom_161 rfl (lv_at hl 1 rfl) ?_
              refine lv_icmp_ge (tgt := 189) hx hb dX7_findRoom_162 (by decide) (fun c_7 => ?_) (fun c_7 => ?_)
              · exact absurd c_7 (show ¬ (3 : Int32) ≤ nI i159 from nI_ge (a := i159) (b := 3) (by omega) (by omega))
              · refine lv_iload hx hb dX7_findRoom_165 (lv_at hl 4 rfl) ?_
                refine lv_if_eq (tgt := 189) hx hb dX7_findRoom_167 (by decide) (fun c_8 => ?_) (fun c_8 => ?_)
                · exact hex189 i159 y4 H locs ls  hP hD hS (lv_sub hl [0, 1, 2, 3, 4] rfl)
                · refine lv_aload_n hx hb dX7_findRoom_170 rfl (lv_at hl 0 rfl) ?_
                  refine lv_aload_n hx hb dX7_findRoom_171 rfl (lv_at hl 0 rfl) ?_
                  refine va_get (D := (dC, dI)) (ci := 7) (v := .ref m6) (C := RX7) (T := TX7) (N := 31) hx hb hts hiX7 hown hK hP 0 rfl rfl 16 (by decide) (hts (.fieldLink RX7 36 "LeftProfileModel" "roomAt" "[I") (List.mem_of_getElem? (i := 1) rfl)) (fun _ h9 => h9) rfl dX7_findRoom_172 ?_
                  refine lv_iload hx hb dX7_findRoom_175 (lv_at hl 5 rfl) ?_
                  refine va_iald hx hb hK hP 3 0 rfl rfl (vp_in_nI (n := i159) (by omega) (by omega)) dX7_findRoom_177 ?_
                  refine cz_i (y := ((upd (upd (upd y6 0 (nI (i27 / 400))) 1 (nI ((i27 / 20) % 20))) 2 (nI (i27 % 20))) i159)) (congrArg (upd (upd (upd y6 0 (nI (i27 / 400))) 1 (nI ((i27 / 20) % 20))) 2 (nI (i27 % 20))) (nI_clamp (n := i159) (by omega))) ?_
                  refine vp_callSi (cz_run (va_runV (As := [.int ((upd (upd (upd y6 0 (nI (i27 / 400))) 1 (nI ((i27 / 20) % 20))) 2 (nI (i27 % 20))) i159)]) (rest := []) ⟨hx, hb, hml, hown, hts⟩ (c_X7_isEmpty l dC dI cI cB h0 ((upd (upd (upd y6 0 (nI (i27 / 400))) 1 (nI ((i27 / 20) % 20))) 2 (nI (i27 % 20))) i159) ih hn fl da ds ac kc m1 m2 m3 m4 m5 pl pg fa nf m6 m7 m8 sd ik kh km ka ks kac m9 m10 m11 m12 hv g2 hkc) (cwV 1 hts gX7_findRoom_X7_isEmpty rfl rfl rfl (by decide +kernel) ⟨Nat.le_of_ble_eq_true rfl, Nat.le_of_ble_eq_true rfl⟩) (cz_pV (hP.sub (ws' := [(h0, .inr (7, [.int ih, .int hn, .int fl, .int da, .int ds, .int ac, .int (nI kc), .ref m1, .ref m2, .ref m3, .ref m4, .ref m5, .int (nI pl), .ref pg, .int fa, .int nf, .ref m6, .ref m7, .ref m8, .long sd, .int ik, .int kh, .int (nI km), .int ka, .int ks, .int kac, .ref m9, .ref m10, .ref m11, .ref m12, .long hv])), (m2, .inl (cI, 6, .inl g2))]) [0, 2] rfl) hN (va_recv hK (hP.sub (ws' := [(h0, .inr (7, [.int ih, .int hn, .int fl, .int da, .int ds, .int ac, .int (nI kc), .ref m1, .ref m2, .ref m3, .ref m4, .ref m5, .int (nI pl), .ref pg, .int fa, .int nf, .ref m6, .ref m7, .ref m8, .long sd, .int ik, .int kh, .int (nI km), .int ka, .int ks, .int kac, .ref m9, .ref m10, .ref m11, .ref m12, .long hv])), (m2, .inl (cI, 6, .inl g2))]) [0, 2] rfl) (ci := 7) (q0 := 0) rfl rfl)) rfl rfl hl.1 rfl (lv_room (Nat.le_of_ble_eq_true rfl)) dX7_findRoom_178 ⟨Nat.le_of_ble_eq_true rfl, Nat.le_of_ble_eq_true rfl⟩)) (fun r_9 hr_9 => ?_)
                  rcases hr_9 with ⟨rfl, hr_9⟩ | ⟨rfl, hr_9⟩
                  · refine lv_istore (lv' := [(4, .int 0), (0, .ref h0), (1, .int 3), (2, .int 8000), (3, .int (nI i27)), (5, .int (nI i159))]) hx hb dX7_findRoom_181 hl (by decide) rfl (fun ls hl => ?_)
                    refine lv_iinc (v := (nI (i159 + 1))) (lv' := [(5, .int (nI (i159 + 1))), (4, .int 0), (0, .ref h0), (1, .int 3), (2, .int 8000), (3, .int (nI i27))]) hx hb dX7_findRoom_183 hl (k := 5) rfl (nI_add i159 1) (by decide) rfl (fun ls hl => ?_)
                    refine lv_goto (tgt := 159) hx hb dX7_findRoom_186 (by decide) ?_
                    exact ih159 (i159 + 1) 0 H locs ls (by omega)  hP hD hS (lv_sub hl [2, 3, 4, 5, 1, 0] rfl)
                  · refine lv_istore (lv' := [(4, .int 1), (0, .ref h0), (1, .int 3), (2, .int 8000), (3, .int (nI i27)), (5, .int (nI i159))]) hx hb dX7_findRoom_181 hl (by decide) rfl (fun ls hl => ?_)
                    refine lv_iinc (v := (nI (i159 + 1))) (lv' := [(5, .int (nI (i159 + 1))), (4, .int 1), (0, .ref h0), (1, .int 3), (2, .int 8000), (3, .int (nI i27))]) hx hb dX7_findRoom_183 hl (k := 5) rfl (nI_add i159 1) (by decide) rfl (fun ls hl => ?_)
                    refine lv_goto (tgt := 159) hx hb dX7_findRoom_186 (by decide) ?_
                    exact ih159 (i159 + 1) 1 H locs ls (by omega)  hP hD hS (lv_sub hl [2, 3, 4, 5, 1, 0] rfl)
          exact lp159 3 0 0 H locs ls (by omega)  hP hD hS (lv_sub hl [2, 3, 4, 5, 1, 0] rfl)
        · refine lv_aload_n hx hb dX7_findRoom_134 rfl (lv_at hl 0 rfl) ?_
          refine va_get (D := (dC, dI)) (ci := 7) (v := .ref m6) (C := RX7) (T := TX7) (N := 31) hx hb hts hiX7 hown hK hP 0 rfl rfl 16 (by decide) (hts (.fieldLink RX7 36 "LeftProfileModel" "roomAt" "[I") (List.mem_of_getElem? (i := 1) rfl)) (fun _ h9 => h9) rfl dX7_findRoom_135 ?_
          refine lv_iconst (v := 1) hx hb dX7_findRoom_138 (by decide) ?_
          refine va_iald hx hb hK hP 3 0 rfl rfl (vp_in_nI (n := 1) (by omega) (by omega)) dX7_findRoom_139 ?_
          refine cz_i (y := ((upd (upd (upd y6 0 (nI (i27 / 400))) 1 (nI ((i27 / 20) % 20))) 2 (nI (i27 % 20))) 1)) (congrArg (upd (upd (upd y6 0 (nI (i27 / 400))) 1 (nI ((i27 / 20) % 20))) 2 (nI (i27 % 20))) (nI_clamp (n := 1) (by omega))) ?_
          refine lv_aload_n hx hb dX7_findRoom_140 rfl (lv_at hl 0 rfl) ?_
          refine va_get (D := (dC, dI)) (ci := 7) (v := .ref m6) (C := RX7) (T := TX7) (N := 31) hx hb hts hiX7 hown hK hP 0 rfl rfl 16 (by decide) (hts (.fieldLink RX7 36 "LeftProfileModel" "roomAt" "[I") (List.mem_of_getElem? (i := 1) rfl)) (fun _ h9 => h9) rfl dX7_findRoom_141 ?_
          refine lv_iconst (v := 2) hx hb dX7_findRoom_144 (by decide) ?_
          refine va_iald hx hb hK hP 3 0 rfl rfl (vp_in_nI (n := 2) (by omega) (by omega)) dX7_findRoom_145 ?_
          refine cz_i (y := ((upd (upd (upd y6 0 (nI (i27 / 400))) 1 (nI ((i27 / 20) % 20))) 2 (nI (i27 % 20))) 2)) (congrArg (upd (upd (upd y6 0 (nI (i27 / 400))) 1 (nI ((i27 / 20) % 20))) 2 (nI (i27 % 20))) (nI_clamp (n := 2) (by omega))) ?_
          refine lv_icmp_ge (tgt := 153) hx hb dX7_findRoom_146 (by decide) (fun c_10 => ?_) (fun c_10 => ?_)
          · refine lv_iconst (v := 0) hx hb dX7_findRoom_153 (by decide) ?_
            refine lv_istore (lv' := [(4, .int 0), (0, .ref h0), (1, .int 3), (2, .int 8000), (3, .int (nI i27))]) hx hb dX7_findRoom_154 hl (by decide) rfl (fun ls hl => ?_)
            refine lv_iconst (v := 0) hx hb dX7_findRoom_156 (by decide) ?_
            refine lv_istore (lv' := [(5, .int 0), (4, .int 0), (0, .ref h0), (1, .int 3), (2, .int 8000), (3, .int (nI i27))]) hx hb dX7_findRoom_157 hl (by decide) rfl (fun ls hl => ?_)
            have hex189 : ∀ (i159 : Nat) (y4 : Int32) (H : Heap) (locs : List Loc) (ls : Array Slot), va_P (dC, dI) vwCl [(h0, .inr (7, [.int ih, .int hn, .int fl, .int da, .int ds, .int ac, .int (nI kc), .ref m1, .ref m2, .ref m3, .ref m4, .ref m5, .int (nI pl), .ref pg, .int fa, .int nf, .ref m6, .ref m7, .ref m8, .long sd, .int ik, .int kh, .int (nI km), .int ka, .int ks, .int kac, .ref m9, .ref m10, .ref m11, .ref m12, .long hv])), (m1, .inl (cI, 6, .inl g1)), (m2, .inl (cI, 6, .inl g2)), (m6, .inl (cI, 3, .inl (upd (upd (upd y6 0 (nI (i27 / 400))) 1 (nI ((i27 / 20) % 20))) 2 (nI (i27 % 20)))))] H → va_D A [(h0, .inr (7, [.int ih, .int hn, .int fl, .int da, .int ds, .int ac, .int (nI kc), .ref m1, .ref m2, .ref m3, .ref m4, .ref m5, .int (nI pl), .ref pg, .int fa, .int nf, .ref m6, .ref m7, .ref m8, .long sd, .int ik, .int kh, .int (nI km), .int ka, .int ks, .int kac, .ref m9, .ref m10, .ref m11, .ref m12, .long hv])), (m1, .inl (cI, 6, .inl g1)), (m2, .inl (cI, 6, .inl g2)), (m6, .inl (cI, 3, .inl (upd (upd (upd y6 0 (nI (i27 / 400))) 1 (nI ((i27 / 20) % 20))) 2 (nI (i27 % 20)))))] → va_S A s.heap H locs → lv_has ls 6 [(0, .ref h0), (1, .int 3), (2, .int 8000), (3, .int (nI i27)), (4, .int y4)] → W p l e ({ frames := 4, cells := 0, slots := 0, locals := 101 } : Room) s m #[Value.ref h0, Value.int 3] below meth c H locs 0 0 Q (F0 m 189 ls []) := by
              intro i159 y4 H locs ls  hP hD hS hl
              refine lv_iload hx hb dX7_findRoom_189 (lv_at hl 4 rfl) ?_
              refine lv_if_eq (tgt := 204) hx hb dX7_findRoom_191 (by decide) (fun c_11 => ?_) (fun c_11 => ?_)
              · refine lv_iinc (v := (nI (i27 + 1))) (lv' := [(3, .int (nI (i27 + 1))), (0, .ref h0), (1, .int 3), (2, .int 8000), (4, .int y4)]) hx hb dX7_findRoom_204 hl (k := 3) rfl (nI_add i27 1) (by decide) rfl (fun ls hl => ?_)
                refine lv_goto (tgt := 27) hx hb dX7_findRoom_207 (by decide) ?_
                exact ih27 (i27 + 1) (upd (upd (upd y6 0 (nI (i27 / 400))) 1 (nI ((i27 / 20) % 20))) 2 (nI (i27 % 20))) H locs ls (by omega)  hP hD hS (lv_sub hl [1, 2, 3, 0] rfl)
              · refine lv_aload_n hx hb dX7_findRoom_194 rfl (lv_at hl 0 rfl) ?_
                refine lv_iload_n hx hb dX7_findRoom_195 rfl (lv_at hl 1 rfl) ?_
                refine vp_callSi (cz_run (va_runV (As := [.int 3]) (rest := []) ⟨hx, hb, hml, hown, hts⟩ (c_X7_isRoom l dC dI cI cB h0 3 ih hn fl da ds ac kc m1 m2 m3 m4 m5 pl pg fa nf m6 m7 m8 sd ik kh km ka ks kac m9 m10 m11 m12 hv g1 g2 (upd (upd (upd y6 0 (nI (i27 / 400))) 1 (nI ((i27 / 20) % 20))) 2 (nI (i27 % 20))) hkc hpl hda (by omega) (cz_rm_of (by decide) (fun _ => (cz_in_nI (i := (i27 / 400)) (by omega))) (fun _ => (cz_in_nI (i := ((i27 / 20) % 20)) (by omega))) (fun _ => (cz_in_nI (i := (i27 % 20)) (by omega))))) (cwV 1 hts gX7_findRoom_X7_isRoom rfl rfl rfl (by decide +kernel) ⟨Nat.le_of_ble_eq_true rfl, Nat.le_of_ble_eq_true rfl⟩) (cz_pV hP hN (va_recv hK hP (ci := 7) (q0 := 0) rfl rfl)) rfl rfl hl.1 rfl (lv_room (Nat.le_of_ble_eq_true rfl)) dX7_findRoom_196 ⟨Nat.le_of_ble_eq_true rfl, Nat.le_of_ble_eq_true rfl⟩)) (fun r_12 hr_12 => ?_)
                refine lv_if_eq (tgt := 204) hx hb dX7_findRoom_199 (by decide) (fun c_13 => ?_) (fun c_13 => ?_)
                · refine lv_iinc (v := (nI (i27 + 1))) (lv' := [(3, .int (nI (i27 + 1))), (0, .ref h0), (1, .int 3), (2, .int 8000), (4, .int y4)]) hx hb dX7_findRoom_204 hl (k := 3) rfl (nI_add i27 1) (by decide) rfl (fun ls hl => ?_)
                  refine lv_goto (tgt := 27) hx hb dX7_findRoom_207 (by decide) ?_
                  exact ih27 (i27 + 1) (upd (upd (upd y6 0 (nI (i27 / 400))) 1 (nI ((i27 / 20) % 20))) 2 (nI (i27 % 20))) H locs ls (by omega)  hP hD hS (lv_sub hl [1, 2, 3, 0] rfl)
                · refine lv_iconst (v := 1) hx hb dX7_findRoom_202 (by decide) ?_
                  refine W.widen (k := 0) (n := 0) (Nat.le_of_ble_eq_true rfl) (Nat.le_of_ble_eq_true rfl) ?_
                  have hP9 := hP.sub (ws' := [(h0, .inr (7, [.int ih, .int hn, .int fl, .int da, .int ds, .int ac, .int (nI kc), .ref m1, .ref m2, .ref m3, .ref m4, .ref m5, .int (nI pl), .ref pg, .int fa, .int nf, .ref m6, .ref m7, .ref m8, .long sd, .int ik, .int kh, .int (nI km), .int ka, .int ks, .int kac, .ref m9, .ref m10, .ref m11, .ref m12, .long hv])), (m1, .inl (cI, 6, .inl g1)), (m2, .inl (cI, 6, .inl g2)), (m6, .inl (cI, 3, .inl (upd (upd (upd y6 0 (nI (i27 / 400))) 1 (nI ((i27 / 20) % 20))) 2 (nI (i27 % 20)))))]) [0, 1, 2, 3] rfl
                  have hD9 := hD.sub (ws' := [(h0, .inr (7, [.int ih, .int hn, .int fl, .int da, .int ds, .int ac, .int (nI kc), .ref m1, .ref m2, .ref m3, .ref m4, .ref m5, .int (nI pl), .ref pg, .int fa, .int nf, .ref m6, .ref m7, .ref m8, .long sd, .int ik, .int kh, .int (nI km), .int ka, .int ks, .int kac, .ref m9, .ref m10, .ref m11, .ref m12, .long hv])), (m1, .inl (cI, 6, .inl g1)), (m2, .inl (cI, 6, .inl g2)), (m6, .inl (cI, 3, .inl (upd (upd (upd y6 0 (nI (i27 / 400))) 1 (nI ((i27 / 20) % 20))) 2 (nI (i27 % 20)))))]) [0, 1, 2, 3] (by decide) rfl
                  rw [hQ]; exact W.zret (v := 1) hx hb hr (by decide) (fun t ht hW => ⟨⟨1, (), rfl, trivial, ⟨(upd (upd (upd y6 0 (nI (i27 / 400))) 1 (nI ((i27 / 20) % 20))) 2 (nI (i27 % 20))), by rw [ht]; exact hP9, hD9⟩⟩, hS.F ht⟩) hS.2.2 dX7_findRoom_203
            have lp159 : ∀ (n159 : Nat) (i159 : Nat) (y4 : Int32) (H : Heap) (locs : List Loc) (ls : Array Slot), i159 + n159 = 3 → va_P (dC, dI) vwCl [(h0, .inr (7, [.int ih, .int hn, .int fl, .int da, .int ds, .int ac, .int (nI kc), .ref m1, .ref m2, .ref m3, .ref m4, .ref m5, .int (nI pl), .ref pg, .int fa, .int nf, .ref m6, .ref m7, .ref m8, .long sd, .int ik, .int kh, .int (nI km), .int ka, .int ks, .int kac, .ref m9, .ref m10, .ref m11, .ref m12, .long hv])), (m1, .inl (cI, 6, .inl g1)), (m2, .inl (cI, 6, .inl g2)), (m6, .inl (cI, 3, .inl (upd (upd (upd y6 0 (nI (i27 / 400))) 1 (nI ((i27 / 20) % 20))) 2 (nI (i27 % 20)))))] H → va_D A [(h0, .inr (7, [.int ih, .int hn, .int fl, .int da, .int ds, .int ac, .int (nI kc), .ref m1, .ref m2, .ref m3, .ref m4, .ref m5, .int (nI pl), .ref pg, .int fa, .int nf, .ref m6, .ref m7, .ref m8, .long sd, .int ik, .int kh, .int (nI km), .int ka, .int ks, .int kac, .ref m9, .ref m10, .ref m11, .ref m12, .long hv])), (m1, .inl (cI, 6, .inl g1)), (m2, .inl (cI, 6, .inl g2)), (m6, .inl (cI, 3, .inl (upd (upd (upd y6 0 (nI (i27 / 400))) 1 (nI ((i27 / 20) % 20))) 2 (nI (i27 % 20)))))] → va_S A s.heap H locs → lv_has ls 6 [(0, .ref h0), (1, .int 3), (2, .int 8000), (3, .int (nI i27)), (4, .int y4), (5, .int (nI i159))] → W p l e ({ frames := 4, cells := 0, slots := 0, locals := 101 } : Room) s m #[Value.ref h0, Value.int 3] below meth c H locs 0 0 Q (F0 m 159 ls []) := by
              intro n159
              induction n159 with
              | zero =>
                intro i159 y4 H locs ls hi159  hP hD hS hl
                refine lv_iload hx hb dX7_findRoom_159 (lv_at hl 5 rfl) ?_
                refine lv_iload_n hx hb dX7_findRoom_161 rfl (lv_at hl 1 rfl) ?_
                refine lv_icmp_ge (tgt := 189) hx hb dX7_findRoom_162 (by decide) (fun c_14 => ?_) (fun c_14 => ?_)
                · exact hex189 i159 y4 H locs ls  hP hD hS (lv_sub hl [0, 1, 2, 3, 4] rfl)
                · exact absurd (show (3 : Int32) ≤ nI i159 from nI_le (a := 3) (b := i159) (by omega) (by omega)) c_14
              | succ n159 ih159 =>
                intro i159 y4 H locs ls hi159  hP hD hS hl
                refine lv_iload hx hb dX7_findRoom_159 (lv_at hl 5 rfl) ?_
                refine lv_iload_n hx hb dX7_findRoom_161 rfl (lv_at hl 1 rfl) ?_
                refine lv_icmp_ge (tgt := 189) hx hb dX7_findRoom_162 (by decide) (fun c_15 => ?_) (fun c_15 => ?_)
                · exact absurd c_15 (show ¬ (3 : Int32) ≤ nI i159 from nI_ge (a := i159) (b := 3) (by omega) (by omega))
                · refine lv_iload hx hb dX7_findRoom_165 (lv_at hl 4 rfl) ?_
                  refine lv_if_eq (tgt := 189) hx hb dX7_findRoom_167 (by decide) (fun c_16 => ?_) (fun c_16 => ?_)
                  · exact hex189 i159 y4 H locs ls  hP hD hS (lv_sub hl [0, 1, 2, 3, 4] rfl)
                  · refine lv_aload_n hx hb dX7_findRoom_170 rfl (lv_at hl 0 rfl) ?_
                    refine lv_aload_n hx hb dX7_findRoom_171 rfl (lv_at hl 0 rfl) ?_
                    refine va_get (D := (dC, dI)) (ci := 7) (v := .ref m6) (C := RX7) (T := TX7) (N := 31) hx hb hts hiX7 hown hK hP 0 rfl rfl 16 (by decide) (hts (.fieldLink RX7 36 "LeftProfileModel" "roomAt" "[I") (List.mem_of_getElem? (i := 1) rfl)) (fun _ h9 => h9) rfl dX7_findRoom_172 ?_
                    refine lv_iload hx hb dX7_findRoom_175 (lv_at hl 5 rfl) ?_
                    refine va_iald hx hb hK hP 3 0 rfl rfl (vp_in_nI (n := i159) (by omega) (by omega)) dX7_findRoom_177 ?_
                    refine cz_i (y := ((upd (upd (upd y6 0 (nI (i27 / 400))) 1 (nI ((i27 / 20) % 20))) 2 (nI (i27 % 20))) i159)) (congrArg (upd (upd (upd y6 0 (nI (i27 / 400))) 1 (nI ((i27 / 20) % 20))) 2 (nI (i27 % 20))) (nI_clamp (n := i159) (by omega))) ?_
                    refine vp_callSi (cz_run (va_runV (As := [.int ((upd (upd (upd y6 0 (nI (i27 / 400))) 1 (nI ((i27 / 20) % 20))) 2 (nI (i27 % 20))) i159)]) (rest := []) ⟨hx, hb, hml, hown, hts⟩ (c_X7_isEmpty l dC dI cI cB h0 ((upd (upd (upd y6 0 (nI (i27 / 400))) 1 (nI ((i27 / 20) % 20))) 2 (nI (i27 % 20))) i159) ih hn fl da ds ac kc m1 m2 m3 m4 m5 pl pg fa nf m6 m7 m8 sd ik kh km ka ks kac m9 m10 m11 m12 hv g2 hkc) (cwV 1 hts gX7_findRoom_X7_isEmpty rfl rfl rfl (by decide +kernel) ⟨Nat.le_of_ble_eq_true rfl, Nat.le_of_ble_eq_true rfl⟩) (cz_pV (hP.sub (ws' := [(h0, .inr (7, [.int ih, .int hn, .int fl, .int da, .int ds, .int ac, .int (nI kc), .ref m1, .ref m2, .ref m3, .ref m4, .ref m5, .int (nI pl), .ref pg, .int fa, .int nf, .ref m6, .ref m7, .ref m8, .long sd, .int ik, .int kh, .int (nI km), .int ka, .int ks, .int kac, .ref m9, .ref m10, .ref m11, .ref m12, .long hv])), (m2, .inl (cI, 6, .inl g2))]) [0, 2] rfl) hN (va_recv hK (hP.sub (ws' := [(h0, .inr (7, [.int ih, .int hn, .int fl, .int da, .int ds, .int ac, .int (nI kc), .ref m1, .ref m2, .ref m3, .ref m4, .ref m5, .int (nI pl), .ref pg, .int fa, .int nf, .ref m6, .ref m7, .ref m8, .long sd, .int ik, .int kh, .int (nI km), .int ka, .int ks, .int kac, .ref m9, .ref m10, .ref m11, .ref m12, .long hv])), (m2, .inl (cI, 6, .inl g2))]) [0, 2] rfl) (ci := 7) (q0 := 0) rfl rfl)) rfl rfl hl.1 rfl (lv_room (Nat.le_of_ble_eq_true rfl)) dX7_findRoom_178 ⟨Nat.le_of_ble_eq_true rfl, Nat.le_of_ble_eq_true rfl⟩)) (fun r_17 hr_17 => ?_)
                    rcases hr_17 with ⟨rfl, hr_17⟩ | ⟨rfl, hr_17⟩
                    · refine lv_istore (lv' := [(4, .int 0), (0, .ref h0), (1, .int 3), (2, .int 8000), (3, .int (nI i27)), (5, .int (nI i159))]) hx hb dX7_findRoom_181 hl (by decide) rfl (fun ls hl => ?_)
                      refine lv_iinc (v := (nI (i159 + 1))) (lv' := [(5, .int (nI (i159 + 1))), (4, .int 0), (0, .ref h0), (1, .int 3), (2, .int 8000), (3, .int (nI i27))]) hx hb dX7_findRoom_183 hl (k := 5) rfl (nI_add i159 1) (by decide) rfl (fun ls hl => ?_)
                      refine lv_goto (tgt := 159) hx hb dX7_findRoom_186 (by decide) ?_
                      exact ih159 (i159 + 1) 0 H locs ls (by omega)  hP hD hS (lv_sub hl [2, 3, 4, 5, 1, 0] rfl)
                    · refine lv_istore (lv' := [(4, .int 1), (0, .ref h0), (1, .int 3), (2, .int 8000), (3, .int (nI i27)), (5, .int (nI i159))]) hx hb dX7_findRoom_181 hl (by decide) rfl (fun ls hl => ?_)
                      refine lv_iinc (v := (nI (i159 + 1))) (lv' := [(5, .int (nI (i159 + 1))), (4, .int 1), (0, .ref h0), (1, .int 3), (2, .int 8000), (3, .int (nI i27))]) hx hb dX7_findRoom_183 hl (k := 5) rfl (nI_add i159 1) (by decide) rfl (fun ls hl => ?_)
                      refine lv_goto (tgt := 159) hx hb dX7_findRoom_186 (by decide) ?_
                      exact ih159 (i159 + 1) 1 H locs ls (by omega)  hP hD hS (lv_sub hl [2, 3, 4, 5, 1, 0] rfl)
            exact lp159 3 0 0 H locs ls (by omega)  hP hD hS (lv_sub hl [2, 3, 4, 5, 1, 0] rfl)
          · refine lv_iconst (v := 1) hx hb dX7_findRoom_149 (by decide) ?_
            refine lv_goto (tgt := 154) hx hb dX7_findRoom_150 (by decide) ?_
            refine lv_istore (lv' := [(4, .int 1), (0, .ref h0), (1, .int 3), (2, .int 8000), (3, .int (nI i27))]) hx hb dX7_findRoom_154 hl (by decide) rfl (fun ls hl => ?_)
            refine lv_iconst (v := 0) hx hb dX7_findRoom_156 (by decide) ?_
            refine lv_istore (lv' := [(5, .int 0), (4, .int 1), (0, .ref h0), (1, .int 3), (2, .int 8000), (3, .int (nI i27))]) hx hb dX7_findRoom_157 hl (by decide) rfl (fun ls hl => ?_)
            have hex189 : ∀ (i159 : Nat) (y4 : Int32) (H : Heap) (locs : List Loc) (ls : Array Slot), va_P (dC, dI) vwCl [(h0, .inr (7, [.int ih, .int hn, .int fl, .int da, .int ds, .int ac, .int (nI kc), .ref m1, .ref m2, .ref m3, .ref m4, .ref m5, .int (nI pl), .ref pg, .int fa, .int nf, .ref m6, .ref m7, .ref m8, .long sd, .int ik, .int kh, .int (nI km), .int ka, .int ks, .int kac, .ref m9, .ref m10, .ref m11, .ref m12, .long hv])), (m1, .inl (cI, 6, .inl g1)), (m2, .inl (cI, 6, .inl g2)), (m6, .inl (cI, 3, .inl (upd (upd (upd y6 0 (nI (i27 / 400))) 1 (nI ((i27 / 20) % 20))) 2 (nI (i27 % 20)))))] H → va_D A [(h0, .inr (7, [.int ih, .int hn, .int fl, .int da, .int ds, .int ac, .int (nI kc), .ref m1, .ref m2, .ref m3, .ref m4, .ref m5, .int (nI pl), .ref pg, .int fa, .int nf, .ref m6, .ref m7, .ref m8, .long sd, .int ik, .int kh, .int (nI km), .int ka, .int ks, .int kac, .ref m9, .ref m10, .ref m11, .ref m12, .long hv])), (m1, .inl (cI, 6, .inl g1)), (m2, .inl (cI, 6, .inl g2)), (m6, .inl (cI, 3, .inl (upd (upd (upd y6 0 (nI (i27 / 400))) 1 (nI ((i27 / 20) % 20))) 2 (nI (i27 % 20)))))] → va_S A s.heap H locs → lv_has ls 6 [(0, .ref h0), (1, .int 3), (2, .int 8000), (3, .int (nI i27)), (4, .int y4)] → W p l e ({ frames := 4, cells := 0, slots := 0, locals := 101 } : Room) s m #[Value.ref h0, Value.int 3] below meth c H locs 0 0 Q (F0 m 189 ls []) := by
              intro i159 y4 H locs ls  hP hD hS hl
              refine lv_iload hx hb dX7_findRoom_189 (lv_at hl 4 rfl) ?_
              refine lv_if_eq (tgt := 204) hx hb dX7_findRoom_191 (by decide) (fun c_18 => ?_) (fun c_18 => ?_)
              · refine lv_iinc (v := (nI (i27 + 1))) (lv' := [(3, .int (nI (i27 + 1))), (0, .ref h0), (1, .int 3), (2, .int 8000), (4, .int y4)]) hx hb dX7_findRoom_204 hl (k := 3) rfl (nI_add i27 1) (by decide) rfl (fun ls hl => ?_)
                refine lv_goto (tgt := 27) hx hb dX7_findRoom_207 (by decide) ?_
                exact ih27 (i27 + 1) (upd (upd (upd y6 0 (nI (i27 / 400))) 1 (nI ((i27 / 20) % 20))) 2 (nI (i27 % 20))) H locs ls (by omega)  hP hD hS (lv_sub hl [1, 2, 3, 0] rfl)
              · refine lv_aload_n hx hb dX7_findRoom_194 rfl (lv_at hl 0 rfl) ?_
                refine lv_iload_n hx hb dX7_findRoom_195 rfl (lv_at hl 1 rfl) ?_
                refine vp_callSi (cz_run (va_runV (As := [.int 3]) (rest := []) ⟨hx, hb, hml, hown, hts⟩ (c_X7_isRoom l dC dI cI cB h0 3 ih hn fl da ds ac kc m1 m2 m3 m4 m5 pl pg fa nf m6 m7 m8 sd ik kh km ka ks kac m9 m10 m11 m12 hv g1 g2 (upd (upd (upd y6 0 (nI (i27 / 400))) 1 (nI ((i27 / 20) % 20))) 2 (nI (i27 % 20))) hkc hpl hda (by omega) (cz_rm_of (by decide) (fun _ => (cz_in_nI (i := (i27 / 400)) (by omega))) (fun _ => (cz_in_nI (i := ((i27 / 20) % 20)) (by omega))) (fun _ => (cz_in_nI (i := (i27 % 20)) (by omega))))) (cwV 1 hts gX7_findRoom_X7_isRoom rfl rfl rfl (by decide +kernel) ⟨Nat.le_of_ble_eq_true rfl, Nat.le_of_ble_eq_true rfl⟩) (cz_pV hP hN (va_recv hK hP (ci := 7) (q0 := 0) rfl rfl)) rfl rfl hl.1 rfl (lv_room (Nat.le_of_ble_eq_true rfl)) dX7_findRoom_196 ⟨Nat.le_of_ble_eq_true rfl, Nat.le_of_ble_eq_true rfl⟩)) (fun r_19 hr_19 => ?_)
                refine lv_if_eq (tgt := 204) hx hb dX7_findRoom_199 (by decide) (fun c_20 => ?_) (fun c_20 => ?_)
                · refine lv_iinc (v := (nI (i27 + 1))) (lv' := [(3, .int (nI (i27 + 1))), (0, .ref h0), (1, .int 3), (2, .int 8000), (4, .int y4)]) hx hb dX7_findRoom_204 hl (k := 3) rfl (nI_add i27 1) (by decide) rfl (fun ls hl => ?_)
                  refine lv_goto (tgt := 27) hx hb dX7_findRoom_207 (by decide) ?_
                  exact ih27 (i27 + 1) (upd (upd (upd y6 0 (nI (i27 / 400))) 1 (nI ((i27 / 20) % 20))) 2 (nI (i27 % 20))) H locs ls (by omega)  hP hD hS (lv_sub hl [1, 2, 3, 0] rfl)
                · refine lv_iconst (v := 1) hx hb dX7_findRoom_202 (by decide) ?_
                  refine W.widen (k := 0) (n := 0) (Nat.le_of_ble_eq_true rfl) (Nat.le_of_ble_eq_true rfl) ?_
                  have hP9 := hP.sub (ws' := [(h0, .inr (7, [.int ih, .int hn, .int fl, .int da, .int ds, .int ac, .int (nI kc), .ref m1, .ref m2, .ref m3, .ref m4, .ref m5, .int (nI pl), .ref pg, .int fa, .int nf, .ref m6, .ref m7, .ref m8, .long sd, .int ik, .int kh, .int (nI km), .int ka, .int ks, .int kac, .ref m9, .ref m10, .ref m11, .ref m12, .long hv])), (m1, .inl (cI, 6, .inl g1)), (m2, .inl (cI, 6, .inl g2)), (m6, .inl (cI, 3, .inl (upd (upd (upd y6 0 (nI (i27 / 400))) 1 (nI ((i27 / 20) % 20))) 2 (nI (i27 % 20)))))]) [0, 1, 2, 3] rfl
                  have hD9 := hD.sub (ws' := [(h0, .inr (7, [.int ih, .int hn, .int fl, .int da, .int ds, .int ac, .int (nI kc), .ref m1, .ref m2, .ref m3, .ref m4, .ref m5, .int (nI pl), .ref pg, .int fa, .int nf, .ref m6, .ref m7, .ref m8, .long sd, .int ik, .int kh, .int (nI km), .int ka, .int ks, .int kac, .ref m9, .ref m10, .ref m11, .ref m12, .long hv])), (m1, .inl (cI, 6, .inl g1)), (m2, .inl (cI, 6, .inl g2)), (m6, .inl (cI, 3, .inl (upd (upd (upd y6 0 (nI (i27 / 400))) 1 (nI ((i27 / 20) % 20))) 2 (nI (i27 % 20)))))]) [0, 1, 2, 3] (by decide) rfl
                  rw [hQ]; exact W.zret (v := 1) hx hb hr (by decide) (fun t ht hW => ⟨⟨1, (), rfl, trivial, ⟨(upd (upd (upd y6 0 (nI (i27 / 400))) 1 (nI ((i27 / 20) % 20))) 2 (nI (i27 % 20))), by rw [ht]; exact hP9, hD9⟩⟩, hS.F ht⟩) hS.2.2 dX7_findRoom_203
            have lp159 : ∀ (n159 : Nat) (i159 : Nat) (y4 : Int32) (H : Heap) (locs : List Loc) (ls : Array Slot), i159 + n159 = 3 → va_P (dC, dI) vwCl [(h0, .inr (7, [.int ih, .int hn, .int fl, .int da, .int ds, .int ac, .int (nI kc), .ref m1, .ref m2, .ref m3, .ref m4, .ref m5, .int (nI pl), .ref pg, .int fa, .int nf, .ref m6, .ref m7, .ref m8, .long sd, .int ik, .int kh, .int (nI km), .int ka, .int ks, .int kac, .ref m9, .ref m10, .ref m11, .ref m12, .long hv])), (m1, .inl (cI, 6, .inl g1)), (m2, .inl (cI, 6, .inl g2)), (m6, .inl (cI, 3, .inl (upd (upd (upd y6 0 (nI (i27 / 400))) 1 (nI ((i27 / 20) % 20))) 2 (nI (i27 % 20)))))] H → va_D A [(h0, .inr (7, [.int ih, .int hn, .int fl, .int da, .int ds, .int ac, .int (nI kc), .ref m1, .ref m2, .ref m3, .ref m4, .ref m5, .int (nI pl), .ref pg, .int fa, .int nf, .ref m6, .ref m7, .ref m8, .long sd, .int ik, .int kh, .int (nI km), .int ka, .int ks, .int kac, .ref m9, .ref m10, .ref m11, .ref m12, .long hv])), (m1, .inl (cI, 6, .inl g1)), (m2, .inl (cI, 6, .inl g2)), (m6, .inl (cI, 3, .inl (upd (upd (upd y6 0 (nI (i27 / 400))) 1 (nI ((i27 / 20) % 20))) 2 (nI (i27 % 20)))))] → va_S A s.heap H locs → lv_has ls 6 [(0, .ref h0), (1, .int 3), (2, .int 8000), (3, .int (nI i27)), (4, .int y4), (5, .int (nI i159))] → W p l e ({ frames := 4, cells := 0, slots := 0, locals := 101 } : Room) s m #[Value.ref h0, Value.int 3] below meth c H locs 0 0 Q (F0 m 159 ls []) := by
              intro n159
              induction n159 with
              | zero =>
                intro i159 y4 H locs ls hi159  hP hD hS hl
                refine lv_iload hx hb dX7_findRoom_159 (lv_at hl 5 rfl) ?_
                refine lv_iload_n hx hb dX7_findRoom_161 rfl (lv_at hl 1 rfl) ?_
                refine lv_icmp_ge (tgt := 189) hx hb dX7_findRoom_162 (by decide) (fun c_21 => ?_) (fun c_21 => ?_)
                · exact hex189 i159 y4 H locs ls  hP hD hS (lv_sub hl [0, 1, 2, 3, 4] rfl)
                · exact absurd (show (3 : Int32) ≤ nI i159 from nI_le (a := 3) (b := i159) (by omega) (by omega)) c_21
              | succ n159 ih159 =>
                intro i159 y4 H locs ls hi159  hP hD hS hl
                refine lv_iload hx hb dX7_findRoom_159 (lv_at hl 5 rfl) ?_
                refine lv_iload_n hx hb dX7_findRoom_161 rfl (lv_at hl 1 rfl) ?_
                refine lv_icmp_ge (tgt := 189) hx hb dX7_findRoom_162 (by decide) (fun c_22 => ?_) (fun c_22 => ?_)
                · exact absurd c_22 (show ¬ (3 : Int32) ≤ nI i159 from nI_ge (a := i159) (b := 3) (by omega) (by omega))
                · refine lv_iload hx hb dX7_findRoom_165 (lv_at hl 4 rfl) ?_
                  refine lv_if_eq (tgt := 189) hx hb dX7_findRoom_167 (by decide) (fun c_23 => ?_) (fun c_23 => ?_)
                  · exact hex189 i159 y4 H locs ls  hP hD hS (lv_sub hl [0, 1, 2, 3, 4] rfl)
                  · refine lv_aload_n hx hb dX7_findRoom_170 rfl (lv_at hl 0 rfl) ?_
                    refine lv_aload_n hx hb dX7_findRoom_171 rfl (lv_at hl 0 rfl) ?_
                    refine va_get (D := (dC, dI)) (ci := 7) (v := .ref m6) (C := RX7) (T := TX7) (N := 31) hx hb hts hiX7 hown hK hP 0 rfl rfl 16 (by decide) (hts (.fieldLink RX7 36 "LeftProfileModel" "roomAt" "[I") (List.mem_of_getElem? (i := 1) rfl)) (fun _ h9 => h9) rfl dX7_findRoom_172 ?_
                    refine lv_iload hx hb dX7_findRoom_175 (lv_at hl 5 rfl) ?_
                    refine va_iald hx hb hK hP 3 0 rfl rfl (vp_in_nI (n := i159) (by omega) (by omega)) dX7_findRoom_177 ?_
                    refine cz_i (y := ((upd (upd (upd y6 0 (nI (i27 / 400))) 1 (nI ((i27 / 20) % 20))) 2 (nI (i27 % 20))) i159)) (congrArg (upd (upd (upd y6 0 (nI (i27 / 400))) 1 (nI ((i27 / 20) % 20))) 2 (nI (i27 % 20))) (nI_clamp (n := i159) (by omega))) ?_
                    refine vp_callSi (cz_run (va_runV (As := [.int ((upd (upd (upd y6 0 (nI (i27 / 400))) 1 (nI ((i27 / 20) % 20))) 2 (nI (i27 % 20))) i159)]) (rest := []) ⟨hx, hb, hml, hown, hts⟩ (c_X7_isEmpty l dC dI cI cB h0 ((upd (upd (upd y6 0 (nI (i27 / 400))) 1 (nI ((i27 / 20) % 20))) 2 (nI (i27 % 20))) i159) ih hn fl da ds ac kc m1 m2 m3 m4 m5 pl pg fa nf m6 m7 m8 sd ik kh km ka ks kac m9 m10 m11 m12 hv g2 hkc) (cwV 1 hts gX7_findRoom_X7_isEmpty rfl rfl rfl (by decide +kernel) ⟨Nat.le_of_ble_eq_true rfl, Nat.le_of_ble_eq_true rfl⟩) (cz_pV (hP.sub (ws' := [(h0, .inr (7, [.int ih, .int hn, .int fl, .int da, .int ds, .int ac, .int (nI kc), .ref m1, .ref m2, .ref m3, .ref m4, .ref m5, .int (nI pl), .ref pg, .int fa, .int nf, .ref m6, .ref m7, .ref m8, .long sd, .int ik, .int kh, .int (nI km), .int ka, .int ks, .int kac, .ref m9, .ref m10, .ref m11, .ref m12, .long hv])), (m2, .inl (cI, 6, .inl g2))]) [0, 2] rfl) hN (va_recv hK (hP.sub (ws' := [(h0, .inr (7, [.int ih, .int hn, .int fl, .int da, .int ds, .int ac, .int (nI kc), .ref m1, .ref m2, .ref m3, .ref m4, .ref m5, .int (nI pl), .ref pg, .int fa, .int nf, .ref m6, .ref m7, .ref m8, .long sd, .int ik, .int kh, .int (nI km), .int ka, .int ks, .int kac, .ref m9, .ref m10, .ref m11, .ref m12, .long hv])), (m2, .inl (cI, 6, .inl g2))]) [0, 2] rfl) (ci := 7) (q0 := 0) rfl rfl)) rfl rfl hl.1 rfl (lv_room (Nat.le_of_ble_eq_true rfl)) dX7_findRoom_178 ⟨Nat.le_of_ble_eq_true rfl, Nat.le_of_ble_eq_true rfl⟩)) (fun r_24 hr_24 => ?_)
                    rcases hr_24 with ⟨rfl, hr_24⟩ | ⟨rfl, hr_24⟩
                    · refine lv_istore (lv' := [(4, .int 0), (0, .ref h0), (1, .int 3), (2, .int 8000), (3, .int (nI i27)), (5, .int (nI i159))]) hx hb dX7_findRoom_181 hl (by decide) rfl (fun ls hl => ?_)
                      refine lv_iinc (v := (nI (i159 + 1))) (lv' := [(5, .int (nI (i159 + 1))), (4, .int 0), (0, .ref h0), (1, .int 3), (2, .int 8000), (3, .int (nI i27))]) hx hb dX7_findRoom_183 hl (k := 5) rfl (nI_add i159 1) (by decide) rfl (fun ls hl => ?_)
                      refine lv_goto (tgt := 159) hx hb dX7_findRoom_186 (by decide) ?_
                      exact ih159 (i159 + 1) 0 H locs ls (by omega)  hP hD hS (lv_sub hl [2, 3, 4, 5, 1, 0] rfl)
                    · refine lv_istore (lv' := [(4, .int 1), (0, .ref h0), (1, .int 3), (2, .int 8000), (3, .int (nI i27)), (5, .int (nI i159))]) hx hb dX7_findRoom_181 hl (by decide) rfl (fun ls hl => ?_)
                      refine lv_iinc (v := (nI (i159 + 1))) (lv' := [(5, .int (nI (i159 + 1))), (4, .int 1), (0, .ref h0), (1, .int 3), (2, .int 8000), (3, .int (nI i27))]) hx hb dX7_findRoom_183 hl (k := 5) rfl (nI_add i159 1) (by decide) rfl (fun ls hl => ?_)
                      refine lv_goto (tgt := 159) hx hb dX7_findRoom_186 (by decide) ?_
                      exact ih159 (i159 + 1) 1 H locs ls (by omega)  hP hD hS (lv_sub hl [2, 3, 4, 5, 1, 0] rfl)
            exact lp159 3 0 1 H locs ls (by omega)  hP hD hS (lv_sub hl [2, 3, 4, 5, 1, 0] rfl)
  exact lp27 8000 0 g6 s.heap [] ls (by omega)  hP hD hS (lv_sub hl [2, 3, 1, 0] rfl)

theorem c_X7_roomNow_a1 (p1 : Int32) (da : Int32) (kc : Nat) (g2 : Nat → Int32) (r_2 : Int32) (hkc : kc ≤ 6) (hpl : cz_pl g2) (hda : cz_in 0 da 19) (hm13 : cz_in 1 (1 : Int32) 3) (hi02 : cz_in 0 p1 2) (c_1 : ¬ (1 : Int32) ≤ p1) (c_4 : ¬ r_2 = 0) : vp_in p1 3 := by rw [vp_in_iff]; (try simp only [cz_in, cz_du, cz_lt, cz_le, cz_eq, cz_l] at *) <;> (first | omega | (simp_all; done))
theorem c_X7_roomNow_a2 (p1 : Int32) (da : Int32) (kc : Nat) (g2 : Nat → Int32) (r_6 : Int32) (hkc : kc ≤ 6) (hpl : cz_pl g2) (hda : cz_in 0 da 19) (hm13 : cz_in 1 (2 : Int32) 3) (hi02 : cz_in 0 p1 2) (c_1 : ¬ (2 : Int32) ≤ p1) (c_8 : ¬ r_6 = 0) : vp_in p1 3 := by rw [vp_in_iff]; (try simp only [cz_in, cz_du, cz_lt, cz_le, cz_eq, cz_l] at *) <;> (first | omega | (simp_all; done))
theorem c_X7_roomNow_a3 (p1 : Int32) (da : Int32) (kc : Nat) (g2 : Nat → Int32) (r_10 : Int32) (hkc : kc ≤ 6) (hpl : cz_pl g2) (hda : cz_in 0 da 19) (hm13 : cz_in 1 (3 : Int32) 3) (hi02 : cz_in 0 p1 2) (c_1 : ¬ (3 : Int32) ≤ p1) (c_12 : ¬ r_10 = 0) : vp_in p1 3 := by rw [vp_in_iff]; (try simp only [cz_in, cz_du, cz_lt, cz_le, cz_eq, cz_l] at *) <;> (first | omega | (simp_all; done))
set_option maxHeartbeats 4000000 in
set_option maxRecDepth 100000 in
theorem c_X7_roomNow (l : Launch) (dC : Nat → ClassId) (dI : Nat → Nat → Nat) (cI cB : ClassId) (h0 : Nat) (p0 : Int32) (p1 : Int32) (ih : Int32) (hn : Int32) (fl : Int32) (da : Int32) (ds : Int32) (ac : Int32) (kc : Nat) (m1 : Nat) (m2 : Nat) (m3 : Nat) (m4 : Nat) (m5 : Nat) (pl : Nat) (pg : Nat) (fa : Int32) (nf : Int32) (m6 : Nat) (m7 : Nat) (m8 : Nat) (sd : Int64) (ik : Int32) (kh : Int32) (km : Nat) (ka : Int32) (ks : Int32) (kac : Int32) (m9 : Nat) (m10 : Nat) (m11 : Nat) (m12 : Nat) (hv : Int64) (g1 : Nat → Int32) (g2 : Nat → Int32) (g6 : Nat → Int32) (sz : Nat) (hkc : kc ≤ 6) (hpl : cz_pl g2) (hda : cz_in 0 da 19) (hm13 : cz_in 1 p0 3) (hi02 : cz_in 0 p1 2) : Met l yX7_roomNow wsX7_roomNow ({ frames := 5, cells := 0, slots := 0, locals := 126 }) (cz_Pm dC dI cI cB [.ref h0, .int p0, .int p1] [(h0, .inr (7, [.int ih, .int hn, .int fl, .int da, .int ds, .int ac, .int (nI kc), .ref m1, .ref m2, .ref m3, .ref m4, .ref m5, .int (nI pl), .ref pg, .int fa, .int nf, .ref m6, .ref m7, .ref m8, .long sd, .int ik, .int kh, .int (nI km), .int ka, .int ks, .int kac, .ref m9, .ref m10, .ref m11, .ref m12, .long hv])), (m1, .inl (cI, 6, .inl g1)), (m2, .inl (cI, 6, .inl g2)), (m6, .inl (cI, 3, .inl g6))] sz) (va_Qi (fun (r : Int32) (_ : Unit) => True) (fun _ t => ∃ (t6 : Nat → Int32), va_P (dC, dI) vwCl [(h0, .inr (7, [.int ih, .int hn, .int fl, .int da, .int ds, .int ac, .int (nI kc), .ref m1, .ref m2, .ref m3, .ref m4, .ref m5, .int (nI pl), .ref pg, .int fa, .int nf, .ref m6, .ref m7, .ref m8, .long sd, .int ik, .int kh, .int (nI km), .int ka, .int ks, .int kac, .ref m9, .ref m10, .ref m11, .ref m12, .long hv])), (m1, .inl (cI, 6, .inl g1)), (m2, .inl (cI, 6, .inl g2)), (m6, .inl (cI, 3, .inl t6))] t.heap ∧ va_D (va_A [(h0, .inr (7, [.int ih, .int hn, .int fl, .int da, .int ds, .int ac, .int (nI kc), .ref m1, .ref m2, .ref m3, .ref m4, .ref m5, .int (nI pl), .ref pg, .int fa, .int nf, .ref m6, .ref m7, .ref m8, .long sd, .int ik, .int kh, .int (nI km), .int ka, .int ks, .int kac, .ref m9, .ref m10, .ref m11, .ref m12, .long hv])), (m1, .inl (cI, 6, .inl g1)), (m2, .inl (cI, 6, .inl g2)), (m6, .inl (cI, 3, .inl g6))] sz) [(h0, .inr (7, [.int ih, .int hn, .int fl, .int da, .int ds, .int ac, .int (nI kc), .ref m1, .ref m2, .ref m3, .ref m4, .ref m5, .int (nI pl), .ref pg, .int fa, .int nf, .ref m6, .ref m7, .ref m8, .long sd, .int ik, .int kh, .int (nI km), .int ka, .int ks, .int kac, .ref m9, .ref m10, .ref m11, .ref m12, .long hv])), (m1, .inl (cI, 6, .inl g1)), (m2, .inl (cI, 6, .inl g2)), (m6, .inl (cI, 3, .inl t6))]) (va_A [(h0, .inr (7, [.int ih, .int hn, .int fl, .int da, .int ds, .int ac, .int (nI kc), .ref m1, .ref m2, .ref m3, .ref m4, .ref m5, .int (nI pl), .ref pg, .int fa, .int nf, .ref m6, .ref m7, .ref m8, .long sd, .int ik, .int kh, .int (nI km), .int ka, .int ks, .int kac, .ref m9, .ref m10, .ref m11, .ref m12, .long hv])), (m1, .inl (cI, 6, .inl g1)), (m2, .inl (cI, 6, .inl g2)), (m6, .inl (cI, 3, .inl g6))] sz)) 0 0 (va_A [(h0, .inr (7, [.int ih, .int hn, .int fl, .int da, .int ds, .int ac, .int (nI kc), .ref m1, .ref m2, .ref m3, .ref m4, .ref m5, .int (nI pl), .ref pg, .int fa, .int nf, .ref m6, .ref m7, .ref m8, .long sd, .int ik, .int kh, .int (nI km), .int ka, .int ks, .int kac, .ref m9, .ref m10, .ref m11, .ref m12, .long hv])), (m1, .inl (cI, 6, .inl g1)), (m2, .inl (cI, 6, .inl g2)), (m6, .inl (cI, 3, .inl g6))] sz) := by
  refine cz_of (cc := cX7_roomNow) (maxL := 3) (ret := (some .int)) (by decide) rfl ?_
  intro p e s m args below meth c s₁ Q B hml hv hQ
  obtain ⟨rfl, hsz, hP, hN, hD0⟩ := hv
  have hx := B.exec
  have hb := B.bytes
  have hr := B.returns
  have hts := atoms_spec (ws := wsX7_roomNow) B.pre
  have hown : s.vm.findClass RX7 = some m.cls := findClass_of_methodNamed B.named
  have hlocks := B.notSynchronized
  have hK := hN.1
  have hiX7 : ∀ w ∈ wsX70, w ∈ wsX7_roomNow := (fun _ h => List.mem_cons_of_mem _ (List.mem_append_right _ h))
  subst hsz
  have hD := hD0.self (sz := s.heap.size)
  generalize hAe : va_A [(h0, .inr (7, [.int ih, .int hn, .int fl, .int da, .int ds, .int ac, .int (nI kc), .ref m1, .ref m2, .ref m3, .ref m4, .ref m5, .int (nI pl), .ref pg, .int fa, .int nf, .ref m6, .ref m7, .ref m8, .long sd, .int ik, .int kh, .int (nI km), .int ka, .int ks, .int kac, .ref m9, .ref m10, .ref m11, .ref m12, .long hv])), (m1, .inl (cI, 6, .inl g1)), (m2, .inl (cI, 6, .inl g2)), (m6, .inl (cI, 3, .inl g6))] s.heap.size = A at hD hQ ⊢
  have hA : ∀ q : Nat, s.heap.size ≤ q → A q := fun q h => by rw [← hAe]; exact Or.inr h
  have hS : va_S A s.heap s.heap [] := va_S.rf
  obtain ⟨H, eH⟩ : ∃ H, H = s.heap := ⟨_, rfl⟩
  have hP : va_P (dC, dI) vwCl [(h0, .inr (7, [.int ih, .int hn, .int fl, .int da, .int ds, .int ac, .int (nI kc), .ref m1, .ref m2, .ref m3, .ref m4, .ref m5, .int (nI pl), .ref pg, .int fa, .int nf, .ref m6, .ref m7, .ref m8, .long sd, .int ik, .int kh, .int (nI km), .int ka, .int ks, .int kac, .ref m9, .ref m10, .ref m11, .ref m12, .long hv])), (m1, .inl (cI, 6, .inl g1)), (m2, .inl (cI, 6, .inl g2)), (m6, .inl (cI, 3, .inl g6))] s.heap := hP
  have hl := lv_entry ([.ref h0, .int p0, .int p1]) (n := 3) (Nat.le_of_ble_eq_true rfl)
  rw [lg_entry_eq]
  generalize (lg_sl ([.ref h0, .int p0, .int p1]) ++ List.replicate (3 - (lg_sl ([.ref h0, .int p0, .int p1])).length) Slot.unset).toArray = ls at hl ⊢
  have hl : lv_has ls 3 [(0, .ref h0), (1, .int p0), (2, .int p1)] := hl
  refine lv_iload_n hx hb dX7_roomNow_0 rfl (lv_at hl 2 rfl) ?_
  refine lv_iload_n hx hb dX7_roomNow_1 rfl (lv_at hl 1 rfl) ?_
  refine lv_icmp_ge (tgt := 22) hx hb dX7_roomNow_2 (by decide) (fun c_1 => ?_) (fun c_1 => ?_)
  · refine lv_iconst (v := (-1)) hx hb dX7_roomNow_22 (by decide) ?_
    refine W.widen (k := 0) (n := 0) (Nat.le_of_ble_eq_true rfl) (Nat.le_of_ble_eq_true rfl) ?_
    have hP9 := hP.sub (ws' := [(h0, .inr (7, [.int ih, .int hn, .int fl, .int da, .int ds, .int ac, .int (nI kc), .ref m1, .ref m2, .ref m3, .ref m4, .ref m5, .int (nI pl), .ref pg, .int fa, .int nf, .ref m6, .ref m7, .ref m8, .long sd, .int ik, .int kh, .int (nI km), .int ka, .int ks, .int kac, .ref m9, .ref m10, .ref m11, .ref m12, .long hv])), (m1, .inl (cI, 6, .inl g1)), (m2, .inl (cI, 6, .inl g2)), (m6, .inl (cI, 3, .inl g6))]) [0, 1, 2, 3] rfl
    have hD9 := hD.sub (ws' := [(h0, .inr (7, [.int ih, .int hn, .int fl, .int da, .int ds, .int ac, .int (nI kc), .ref m1, .ref m2, .ref m3, .ref m4, .ref m5, .int (nI pl), .ref pg, .int fa, .int nf, .ref m6, .ref m7, .ref m8, .long sd, .int ik, .int kh, .int (nI km), .int ka, .int ks, .int kac, .ref m9, .ref m10, .ref m11, .ref m12, .long hv])), (m1, .inl (cI, 6, .inl g1)), (m2, .inl (cI, 6, .inl g2)), (m6, .inl (cI, 3, .inl g6))]) [0, 1, 2, 3] (by decide) rfl
    rw [hQ]; exact W.iret (v := (-1)) hx hb hr (fun t ht hW => ⟨⟨(-1), (), rfl, trivial, ⟨g6, by rw [ht]; exact hP9, hD9⟩⟩, hS.F ht⟩) hS.2.2 dX7_roomNow_23
  · rcases cz_13 hm13 with rfl | rfl | rfl
    · refine lv_aload_n hx hb dX7_roomNow_5 rfl (lv_at hl 0 rfl) ?_
      refine lv_iload_n hx hb dX7_roomNow_6 rfl (lv_at hl 1 rfl) ?_
      have hPc := hP.sub (ws' := [(h0, .inr (7, [.int ih, .int hn, .int fl, .int da, .int ds, .int ac, .int (nI kc), .ref m1, .ref m2, .ref m3, .ref m4, .ref m5, .int (nI pl), .ref pg, .int fa, .int nf, .ref m6, .ref m7, .ref m8, .long sd, .int ik, .int kh, .int (nI km), .int ka, .int ks, .int kac, .ref m9, .ref m10, .ref m11, .ref m12, .long hv])), (m1, .inl (cI, 6, .inl g1)), (m2, .inl (cI, 6, .inl g2)), (m6, .inl (cI, 3, .inl g6))]) [0, 1, 2, 3] rfl
      have hDc := hD.sub (ws' := [(h0, .inr (7, [.int ih, .int hn, .int fl, .int da, .int ds, .int ac, .int (nI kc), .ref m1, .ref m2, .ref m3, .ref m4, .ref m5, .int (nI pl), .ref pg, .int fa, .int nf, .ref m6, .ref m7, .ref m8, .long sd, .int ik, .int kh, .int (nI km), .int ka, .int ks, .int kac, .ref m9, .ref m10, .ref m11, .ref m12, .long hv])), (m1, .inl (cI, 6, .inl g1)), (m2, .inl (cI, 6, .inl g2)), (m6, .inl (cI, 3, .inl g6))]) [0, 1, 2, 3] (by decide) rfl
      have hFc := va_free (wc := [(h0, .inr (7, [.int ih, .int hn, .int fl, .int da, .int ds, .int ac, .int (nI kc), .ref m1, .ref m2, .ref m3, .ref m4, .ref m5, .int (nI pl), .ref pg, .int fa, .int nf, .ref m6, .ref m7, .ref m8, .long sd, .int ik, .int kh, .int (nI km), .int ka, .int ks, .int kac, .ref m9, .ref m10, .ref m11, .ref m12, .long hv])), (m1, .inl (cI, 6, .inl g1)), (m2, .inl (cI, 6, .inl g2)), (m6, .inl (cI, 3, .inl g6))]) hD hS hA [0, 1, 2, 3] rfl
      refine va_calli (va_runV (As := [.int 1]) (rest := []) ⟨hx, hb, hml, hown, hts⟩ (c_findRoom1 l dC dI cI cB h0 ih hn fl da ds ac kc m1 m2 m3 m4 m5 pl pg fa nf m6 m7 m8 sd ik kh km ka ks kac m9 m10 m11 m12 hv g1 g2 g6 s.heap.size hkc hpl hda) (cwV 1 hts gX7_roomNow_X7_findRoom rfl rfl rfl (by decide +kernel) ⟨Nat.le_of_ble_eq_true rfl, Nat.le_of_ble_eq_true rfl⟩) (cz_mV hPc hN hDc (va_recv hK hPc (ci := 7) (q0 := 0) rfl rfl)) rfl rfl hl.1 rfl (lv_room (Nat.le_of_ble_eq_true rfl)) dX7_roomNow_7 ⟨Nat.le_of_ble_eq_true rfl, Nat.le_of_ble_eq_true rfl⟩) hS (fun q _ h => hFc q h) hFc (fun r_2 u t H1 locs ht hvm hr_2 hB hz1 hk1 hS => ?_)
      obtain ⟨f_3, hP1, hD1⟩ := hB
      rw [ht] at hP1
      obtain ⟨hP, hD⟩ := va_join (wr := []) (w1 := [(h0, .inr (7, [.int ih, .int hn, .int fl, .int da, .int ds, .int ac, .int (nI kc), .ref m1, .ref m2, .ref m3, .ref m4, .ref m5, .int (nI pl), .ref pg, .int fa, .int nf, .ref m6, .ref m7, .ref m8, .long sd, .int ik, .int kh, .int (nI km), .int ka, .int ks, .int kac, .ref m9, .ref m10, .ref m11, .ref m12, .long hv])), (m1, .inl (cI, 6, .inl g1)), (m2, .inl (cI, 6, .inl g2)), (m6, .inl (cI, 3, .inl f_3))]) hP hD [0, 1, 2, 3] [] rfl rfl (by decide) (by decide) hk1 hFc hP1 hD1
      generalize H1 = H at hP hS ⊢
      have hP : va_P (dC, dI) vwCl [(h0, .inr (7, [.int ih, .int hn, .int fl, .int da, .int ds, .int ac, .int (nI kc), .ref m1, .ref m2, .ref m3, .ref m4, .ref m5, .int (nI pl), .ref pg, .int fa, .int nf, .ref m6, .ref m7, .ref m8, .long sd, .int ik, .int kh, .int (nI km), .int ka, .int ks, .int kac, .ref m9, .ref m10, .ref m11, .ref m12, .long hv])), (m1, .inl (cI, 6, .inl g1)), (m2, .inl (cI, 6, .inl g2)), (m6, .inl (cI, 3, .inl f_3))] H := hP
      have hD : va_D A [(h0, .inr (7, [.int ih, .int hn, .int fl, .int da, .int ds, .int ac, .int (nI kc), .ref m1, .ref m2, .ref m3, .ref m4, .ref m5, .int (nI pl), .ref pg, .int fa, .int nf, .ref m6, .ref m7, .ref m8, .long sd, .int ik, .int kh, .int (nI km), .int ka, .int ks, .int kac, .ref m9, .ref m10, .ref m11, .ref m12, .long hv])), (m1, .inl (cI, 6, .inl g1)), (m2, .inl (cI, 6, .inl g2)), (m6, .inl (cI, 3, .inl f_3))] := hD
      refine lv_if_eq (tgt := 22) hx hb dX7_roomNow_10 (by decide) (fun c_4 => ?_) (fun c_4 => ?_)
      · refine lv_iconst (v := (-1)) hx hb dX7_roomNow_22 (by decide) ?_
        refine W.widen (k := 0) (n := 0) (Nat.le_of_ble_eq_true rfl) (Nat.le_of_ble_eq_true rfl) ?_
        have hP9 := hP.sub (ws' := [(h0, .inr (7, [.int ih, .int hn, .int fl, .int da, .int ds, .int ac, .int (nI kc), .ref m1, .ref m2, .ref m3, .ref m4, .ref m5, .int (nI pl), .ref pg, .int fa, .int nf, .ref m6, .ref m7, .ref m8, .long sd, .int ik, .int kh, .int (nI km), .int ka, .int ks, .int kac, .ref m9, .ref m10, .ref m11, .ref m12, .long hv])), (m1, .inl (cI, 6, .inl g1)), (m2, .inl (cI, 6, .inl g2)), (m6, .inl (cI, 3, .inl f_3))]) [0, 1, 2, 3] rfl
        have hD9 := hD.sub (ws' := [(h0, .inr (7, [.int ih, .int hn, .int fl, .int da, .int ds, .int ac, .int (nI kc), .ref m1, .ref m2, .ref m3, .ref m4, .ref m5, .int (nI pl), .ref pg, .int fa, .int nf, .ref m6, .ref m7, .ref m8, .long sd, .int ik, .int kh, .int (nI km), .int ka, .int ks, .int kac, .ref m9, .ref m10, .ref m11, .ref m12, .long hv])), (m1, .inl (cI, 6, .inl g1)), (m2, .inl (cI, 6, .inl g2)), (m6, .inl (cI, 3, .inl f_3))]) [0, 1, 2, 3] (by decide) rfl
        rw [hQ]; exact W.iret (v := (-1)) hx hb hr (fun t ht hW => ⟨⟨(-1), (), rfl, trivial, ⟨f_3, by rw [ht]; exact hP9, hD9⟩⟩, hS.F ht⟩) hS.2.2 dX7_roomNow_23
      · refine lv_aload_n hx hb dX7_roomNow_13 rfl (lv_at hl 0 rfl) ?_
        refine va_get (D := (dC, dI)) (ci := 7) (v := .ref m6) (C := RX7) (T := TX7) (N := 31) hx hb hts hiX7 hown hK hP 0 rfl rfl 16 (by decide) (hts (.fieldLink RX7 36 "LeftProfileModel" "roomAt" "[I") (List.mem_of_getElem? (i := 1) rfl)) (fun _ h9 => h9) rfl dX7_roomNow_14 ?_
        refine lv_iload_n hx hb dX7_roomNow_17 rfl (lv_at hl 2 rfl) ?_
        refine va_iald hx hb hK hP 3 0 rfl rfl (c_X7_roomNow_a1 p1 da kc g2 r_2 hkc hpl hda hm13 hi02 c_1 c_4) dX7_roomNow_18 ?_
        refine lv_topi (fun x_5 ex_5 => ?_)
        refine lv_goto (tgt := 23) hx hb dX7_roomNow_19 (by decide) ?_
        refine W.widen (k := 0) (n := 0) (Nat.le_of_ble_eq_true rfl) (Nat.le_of_ble_eq_true rfl) ?_
        have hP9 := hP.sub (ws' := [(h0, .inr (7, [.int ih, .int hn, .int fl, .int da, .int ds, .int ac, .int (nI kc), .ref m1, .ref m2, .ref m3, .ref m4, .ref m5, .int (nI pl), .ref pg, .int fa, .int nf, .ref m6, .ref m7, .ref m8, .long sd, .int ik, .int kh, .int (nI km), .int ka, .int ks, .int kac, .ref m9, .ref m10, .ref m11, .ref m12, .long hv])), (m1, .inl (cI, 6, .inl g1)), (m2, .inl (cI, 6, .inl g2)), (m6, .inl (cI, 3, .inl f_3))]) [0, 1, 2, 3] rfl
        have hD9 := hD.sub (ws' := [(h0, .inr (7, [.int ih, .int hn, .int fl, .int da, .int ds, .int ac, .int (nI kc), .ref m1, .ref m2, .ref m3, .ref m4, .ref m5, .int (nI pl), .ref pg, .int fa, .int nf, .ref m6, .ref m7, .ref m8, .long sd, .int ik, .int kh, .int (nI km), .int ka, .int ks, .int kac, .ref m9, .ref m10, .ref m11, .ref m12, .long hv])), (m1, .inl (cI, 6, .inl g1)), (m2, .inl (cI, 6, .inl g2)), (m6, .inl (cI, 3, .inl f_3))]) [0, 1, 2, 3] (by decide) rfl
        rw [hQ]; exact W.iret (v := x_5) hx hb hr (fun t ht hW => ⟨⟨x_5, (), rfl, trivial, ⟨f_3, by rw [ht]; exact hP9, hD9⟩⟩, hS.F ht⟩) hS.2.2 dX7_roomNow_23
    · refine lv_aload_n hx hb dX7_roomNow_5 rfl (lv_at hl 0 rfl) ?_
      refine lv_iload_n hx hb dX7_roomNow_6 rfl (lv_at hl 1 rfl) ?_
      have hPc := hP.sub (ws' := [(h0, .inr (7, [.int ih, .int hn, .int fl, .int da, .int ds, .int ac, .int (nI kc), .ref m1, .ref m2, .ref m3, .ref m4, .ref m5, .int (nI pl), .ref pg, .int fa, .int nf, .ref m6, .ref m7, .ref m8, .long sd, .int ik, .int kh, .int (nI km), .int ka, .int ks, .int kac, .ref m9, .ref m10, .ref m11, .ref m12, .long hv])), (m1, .inl (cI, 6, .inl g1)), (m2, .inl (cI, 6, .inl g2)), (m6, .inl (cI, 3, .inl g6))]) [0, 1, 2, 3] rfl
      have hDc := hD.sub (ws' := [(h0, .inr (7, [.int ih, .int hn, .int fl, .int da, .int ds, .int ac, .int (nI kc), .ref m1, .ref m2, .ref m3, .ref m4, .ref m5, .int (nI pl), .ref pg, .int fa, .int nf, .ref m6, .ref m7, .ref m8, .long sd, .int ik, .int kh, .int (nI km), .int ka, .int ks, .int kac, .ref m9, .ref m10, .ref m11, .ref m12, .long hv])), (m1, .inl (cI, 6, .inl g1)), (m2, .inl (cI, 6, .inl g2)), (m6, .inl (cI, 3, .inl g6))]) [0, 1, 2, 3] (by decide) rfl
      have hFc := va_free (wc := [(h0, .inr (7, [.int ih, .int hn, .int fl, .int da, .int ds, .int ac, .int (nI kc), .ref m1, .ref m2, .ref m3, .ref m4, .ref m5, .int (nI pl), .ref pg, .int fa, .int nf, .ref m6, .ref m7, .ref m8, .long sd, .int ik, .int kh, .int (nI km), .int ka, .int ks, .int kac, .ref m9, .ref m10, .ref m11, .ref m12, .long hv])), (m1, .inl (cI, 6, .inl g1)), (m2, .inl (cI, 6, .inl g2)), (m6, .inl (cI, 3, .inl g6))]) hD hS hA [0, 1, 2, 3] rfl
      refine va_calli (va_runV (As := [.int 2]) (rest := []) ⟨hx, hb, hml, hown, hts⟩ (c_findRoom2 l dC dI cI cB h0 ih hn fl da ds ac kc m1 m2 m3 m4 m5 pl pg fa nf m6 m7 m8 sd ik kh km ka ks kac m9 m10 m11 m12 hv g1 g2 g6 s.heap.size hkc hpl hda) (cwV 1 hts gX7_roomNow_X7_findRoom rfl rfl rfl (by decide +kernel) ⟨Nat.le_of_ble_eq_true rfl, Nat.le_of_ble_eq_true rfl⟩) (cz_mV hPc hN hDc (va_recv hK hPc (ci := 7) (q0 := 0) rfl rfl)) rfl rfl hl.1 rfl (lv_room (Nat.le_of_ble_eq_true rfl)) dX7_roomNow_7 ⟨Nat.le_of_ble_eq_true rfl, Nat.le_of_ble_eq_true rfl⟩) hS (fun q _ h => hFc q h) hFc (fun r_6 u t H1 locs ht hvm hr_6 hB hz1 hk1 hS => ?_)
      obtain ⟨f_7, hP1, hD1⟩ := hB
      rw [ht] at hP1
      obtain ⟨hP, hD⟩ := va_join (wr := []) (w1 := [(h0, .inr (7, [.int ih, .int hn, .int fl, .int da, .int ds, .int ac, .int (nI kc), .ref m1, .ref m2, .ref m3, .ref m4, .ref m5, .int (nI pl), .ref pg, .int fa, .int nf, .ref m6, .ref m7, .ref m8, .long sd, .int ik, .int kh, .int (nI km), .int ka, .int ks, .int kac, .ref m9, .ref m10, .ref m11, .ref m12, .long hv])), (m1, .inl (cI, 6, .inl g1)), (m2, .inl (cI, 6, .inl g2)), (m6, .inl (cI, 3, .inl f_7))]) hP hD [0, 1, 2, 3] [] rfl rfl (by decide) (by decide) hk1 hFc hP1 hD1
      generalize H1 = H at hP hS ⊢
      have hP : va_P (dC, dI) vwCl [(h0, .inr (7, [.int ih, .int hn, .int fl, .int da, .int ds, .int ac, .int (nI kc), .ref m1, .ref m2, .ref m3, .ref m4, .ref m5, .int (nI pl), .ref pg, .int fa, .int nf, .ref m6, .ref m7, .ref m8, .long sd, .int ik, .int kh, .int (nI km), .int ka, .int ks, .int kac, .ref m9, .ref m10, .ref m11, .ref m12, .long hv])), (m1, .inl (cI, 6, .inl g1)), (m2, .inl (cI, 6, .inl g2)), (m6, .inl (cI, 3, .inl f_7))] H := hP
      have hD : va_D A [(h0, .inr (7, [.int ih, .int hn, .int fl, .int da, .int ds, .int ac, .int (nI kc), .ref m1, .ref m2, .ref m3, .ref m4, .ref m5, .int (nI pl), .ref pg, .int fa, .int nf, .ref m6, .ref m7, .ref m8, .long sd, .int ik, .int kh, .int (nI km), .int ka, .int ks, .int kac, .ref m9, .ref m10, .ref m11, .ref m12, .long hv])), (m1, .inl (cI, 6, .inl g1)), (m2, .inl (cI, 6, .inl g2)), (m6, .inl (cI, 3, .inl f_7))] := hD
      refine lv_if_eq (tgt := 22) hx hb dX7_roomNow_10 (by decide) (fun c_8 => ?_) (fun c_8 => ?_)
      · refine lv_iconst (v := (-1)) hx hb dX7_roomNow_22 (by decide) ?_
        refine W.widen (k := 0) (n := 0) (Nat.le_of_ble_eq_true rfl) (Nat.le_of_ble_eq_true rfl) ?_
        have hP9 := hP.sub (ws' := [(h0, .inr (7, [.int ih, .int hn, .int fl, .int da, .int ds, .int ac, .int (nI kc), .ref m1, .ref m2, .ref m3, .ref m4, .ref m5, .int (nI pl), .ref pg, .int fa, .int nf, .ref m6, .ref m7, .ref m8, .long sd, .int ik, .int kh, .int (nI km), .int ka, .int ks, .int kac, .ref m9, .ref m10, .ref m11, .ref m12, .long hv])), (m1, .inl (cI, 6, .inl g1)), (m2, .inl (cI, 6, .inl g2)), (m6, .inl (cI, 3, .inl f_7))]) [0, 1, 2, 3] rfl
        have hD9 := hD.sub (ws' := [(h0, .inr (7, [.int ih, .int hn, .int fl, .int da, .int ds, .int ac, .int (nI kc), .ref m1, .ref m2, .ref m3, .ref m4, .ref m5, .int (nI pl), .ref pg, .int fa, .int nf, .ref m6, .ref m7, .ref m8, .long sd, .int ik, .int kh, .int (nI km), .int ka, .int ks, .int kac, .ref m9, .ref m10, .ref m11, .ref m12, .long hv])), (m1, .inl (cI, 6, .inl g1)), (m2, .inl (cI, 6, .inl g2)), (m6, .inl (cI, 3, .inl f_7))]) [0, 1, 2, 3] (by decide) rfl
        rw [hQ]; exact W.iret (v := (-1)) hx hb hr (fun t ht hW => ⟨⟨(-1), (), rfl, trivial, ⟨f_7, by rw [ht]; exact hP9, hD9⟩⟩, hS.F ht⟩) hS.2.2 dX7_roomNow_23
      · refine lv_aload_n hx hb dX7_roomNow_13 rfl (lv_at hl 0 rfl) ?_
        refine va_get (D := (dC, dI)) (ci := 7) (v := .ref m6) (C := RX7) (T := TX7) (N := 31) hx hb hts hiX7 hown hK hP 0 rfl rfl 16 (by decide) (hts (.fieldLink RX7 36 "LeftProfileModel" "roomAt" "[I") (List.mem_of_getElem? (i := 1) rfl)) (fun _ h9 => h9) rfl dX7_roomNow_14 ?_
        refine lv_iload_n hx hb dX7_roomNow_17 rfl (lv_at hl 2 rfl) ?_
        refine va_iald hx hb hK hP 3 0 rfl rfl (c_X7_roomNow_a2 p1 da kc g2 r_6 hkc hpl hda hm13 hi02 c_1 c_8) dX7_roomNow_18 ?_
        refine lv_topi (fun x_9 ex_9 => ?_)
        refine lv_goto (tgt := 23) hx hb dX7_roomNow_19 (by decide) ?_
        refine W.widen (k := 0) (n := 0) (Nat.le_of_ble_eq_true rfl) (Nat.le_of_ble_eq_true rfl) ?_
        have hP9 := hP.sub (ws' := [(h0, .inr (7, [.int ih, .int hn, .int fl, .int da, .int ds, .int ac, .int (nI kc), .ref m1, .ref m2, .ref m3, .ref m4, .ref m5, .int (nI pl), .ref pg, .int fa, .int nf, .ref m6, .ref m7, .ref m8, .long sd, .int ik, .int kh, .int (nI km), .int ka, .int ks, .int kac, .ref m9, .ref m10, .ref m11, .ref m12, .long hv])), (m1, .inl (cI, 6, .inl g1)), (m2, .inl (cI, 6, .inl g2)), (m6, .inl (cI, 3, .inl f_7))]) [0, 1, 2, 3] rfl
        have hD9 := hD.sub (ws' := [(h0, .inr (7, [.int ih, .int hn, .int fl, .int da, .int ds, .int ac, .int (nI kc), .ref m1, .ref m2, .ref m3, .ref m4, .ref m5, .int (nI pl), .ref pg, .int fa, .int nf, .ref m6, .ref m7, .ref m8, .long sd, .int ik, .int kh, .int (nI km), .int ka, .int ks, .int kac, .ref m9, .ref m10, .ref m11, .ref m12, .long hv])), (m1, .inl (cI, 6, .inl g1)), (m2, .inl (cI, 6, .inl g2)), (m6, .inl (cI, 3, .inl f_7))]) [0, 1, 2, 3] (by decide) rfl
        rw [hQ]; exact W.iret (v := x_9) hx hb hr (fun t ht hW => ⟨⟨x_9, (), rfl, trivial, ⟨f_7, by rw [ht]; exact hP9, hD9⟩⟩, hS.F ht⟩) hS.2.2 dX7_roomNow_23
    · refine lv_aload_n hx hb dX7_roomNow_5 rfl (lv_at hl 0 rfl) ?_
      refine lv_iload_n hx hb dX7_roomNow_6 rfl (lv_at hl 1 rfl) ?_
      have hPc := hP.sub (ws' := [(h0, .inr (7, [.int ih, .int hn, .int fl, .int da, .int ds, .int ac, .int (nI kc), .ref m1, .ref m2, .ref m3, .ref m4, .ref m5, .int (nI pl), .ref pg, .int fa, .int nf, .ref m6, .ref m7, .ref m8, .long sd, .int ik, .int kh, .int (nI km), .int ka, .int ks, .int kac, .ref m9, .ref m10, .ref m11, .ref m12, .long hv])), (m1, .inl (cI, 6, .inl g1)), (m2, .inl (cI, 6, .inl g2)), (m6, .inl (cI, 3, .inl g6))]) [0, 1, 2, 3] rfl
      have hDc := hD.sub (ws' := [(h0, .inr (7, [.int ih, .int hn, .int fl, .int da, .int ds, .int ac, .int (nI kc), .ref m1, .ref m2, .ref m3, .ref m4, .ref m5, .int (nI pl), .ref pg, .int fa, .int nf, .ref m6, .ref m7, .ref m8, .long sd, .int ik, .int kh, .int (nI km), .int ka, .int ks, .int kac, .ref m9, .ref m10, .ref m11, .ref m12, .long hv])), (m1, .inl (cI, 6, .inl g1)), (m2, .inl (cI, 6, .inl g2)), (m6, .inl (cI, 3, .inl g6))]) [0, 1, 2, 3] (by decide) rfl
      have hFc := va_free (wc := [(h0, .inr (7, [.int ih, .int hn, .int fl, .int da, .int ds, .int ac, .int (nI kc), .ref m1, .ref m2, .ref m3, .ref m4, .ref m5, .int (nI pl), .ref pg, .int fa, .int nf, .ref m6, .ref m7, .ref m8, .long sd, .int ik, .int kh, .int (nI km), .int ka, .int ks, .int kac, .ref m9, .ref m10, .ref m11, .ref m12, .long hv])), (m1, .inl (cI, 6, .inl g1)), (m2, .inl (cI, 6, .inl g2)), (m6, .inl (cI, 3, .inl g6))]) hD hS hA [0, 1, 2, 3] rfl
      refine va_calli (va_runV (As := [.int 3]) (rest := []) ⟨hx, hb, hml, hown, hts⟩ (c_findRoom3 l dC dI cI cB h0 ih hn fl da ds ac kc m1 m2 m3 m4 m5 pl pg fa nf m6 m7 m8 sd ik kh km ka ks kac m9 m10 m11 m12 hv g1 g2 g6 s.heap.size hkc hpl hda) (cwV 1 hts gX7_roomNow_X7_findRoom rfl rfl rfl (by decide +kernel) ⟨Nat.le_of_ble_eq_true rfl, Nat.le_of_ble_eq_true rfl⟩) (cz_mV hPc hN hDc (va_recv hK hPc (ci := 7) (q0 := 0) rfl rfl)) rfl rfl hl.1 rfl (lv_room (Nat.le_of_ble_eq_true rfl)) dX7_roomNow_7 ⟨Nat.le_of_ble_eq_true rfl, Nat.le_of_ble_eq_true rfl⟩) hS (fun q _ h => hFc q h) hFc (fun r_10 u t H1 locs ht hvm hr_10 hB hz1 hk1 hS => ?_)
      obtain ⟨f_11, hP1, hD1⟩ := hB
      rw [ht] at hP1
      obtain ⟨hP, hD⟩ := va_join (wr := []) (w1 := [(h0, .inr (7, [.int ih, .int hn, .int fl, .int da, .int ds, .int ac, .int (nI kc), .ref m1, .ref m2, .ref m3, .ref m4, .ref m5, .int (nI pl), .ref pg, .int fa, .int nf, .ref m6, .ref m7, .ref m8, .long sd, .int ik, .int kh, .int (nI km), .int ka, .int ks, .int kac, .ref m9, .ref m10, .ref m11, .ref m12, .long hv])), (m1, .inl (cI, 6, .inl g1)), (m2, .inl (cI, 6, .inl g2)), (m6, .inl (cI, 3, .inl f_11))]) hP hD [0, 1, 2, 3] [] rfl rfl (by decide) (by decide) hk1 hFc hP1 hD1
      generalize H1 = H at hP hS ⊢
      have hP : va_P (dC, dI) vwCl [(h0, .inr (7, [.int ih, .int hn, .int fl, .int da, .int ds, .int ac, .int (nI kc), .ref m1, .ref m2, .ref m3, .ref m4, .ref m5, .int (nI pl), .ref pg, .int fa, .int nf, .ref m6, .ref m7, .ref m8, .long sd, .int ik, .int kh, .int (nI km), .int ka, .int ks, .int kac, .ref m9, .ref m10, .ref m11, .ref m12, .long hv])), (m1, .inl (cI, 6, .inl g1)), (m2, .inl (cI, 6, .inl g2)), (m6, .inl (cI, 3, .inl f_11))] H := hP
      have hD : va_D A [(h0, .inr (7, [.int ih, .int hn, .int fl, .int da, .int ds, .int ac, .int (nI kc), .ref m1, .ref m2, .ref m3, .ref m4, .ref m5, .int (nI pl), .ref pg, .int fa, .int nf, .ref m6, .ref m7, .ref m8, .long sd, .int ik, .int kh, .int (nI km), .int ka, .int ks, .int kac, .ref m9, .ref m10, .ref m11, .ref m12, .long hv])), (m1, .inl (cI, 6, .inl g1)), (m2, .inl (cI, 6, .inl g2)), (m6, .inl (cI, 3, .inl f_11))] := hD
      refine lv_if_eq (tgt := 22) hx hb dX7_roomNow_10 (by decide) (fun c_12 => ?_) (fun c_12 => ?_)
      · refine lv_iconst (v := (-1)) hx hb dX7_roomNow_22 (by decide) ?_
        refine W.widen (k := 0) (n := 0) (Nat.le_of_ble_eq_true rfl) (Nat.le_of_ble_eq_true rfl) ?_
        have hP9 := hP.sub (ws' := [(h0, .inr (7, [.int ih, .int hn, .int fl, .int da, .int ds, .int ac, .int (nI kc), .ref m1, .ref m2, .ref m3, .ref m4, .ref m5, .int (nI pl), .ref pg, .int fa, .int nf, .ref m6, .ref m7, .ref m8, .long sd, .int ik, .int kh, .int (nI km), .int ka, .int ks, .int kac, .ref m9, .ref m10, .ref m11, .ref m12, .long hv])), (m1, .inl (cI, 6, .inl g1)), (m2, .inl (cI, 6, .inl g2)), (m6, .inl (cI, 3, .inl f_11))]) [0, 1, 2, 3] rfl
        have hD9 := hD.sub (ws' := [(h0, .inr (7, [.int ih, .int hn, .int fl, .int da, .int ds, .int ac, .int (nI kc), .ref m1, .ref m2, .ref m3, .ref m4, .ref m5, .int (nI pl), .ref pg, .int fa, .int nf, .ref m6, .ref m7, .ref m8, .long sd, .int ik, .int kh, .int (nI km), .int ka, .int ks, .int kac, .ref m9, .ref m10, .ref m11, .ref m12, .long hv])), (m1, .inl (cI, 6, .inl g1)), (m2, .inl (cI, 6, .inl g2)), (m6, .inl (cI, 3, .inl f_11))]) [0, 1, 2, 3] (by decide) rfl
        rw [hQ]; exact W.iret (v := (-1)) hx hb hr (fun t ht hW => ⟨⟨(-1), (), rfl, trivial, ⟨f_11, by rw [ht]; exact hP9, hD9⟩⟩, hS.F ht⟩) hS.2.2 dX7_roomNow_23
      · refine lv_aload_n hx hb dX7_roomNow_13 rfl (lv_at hl 0 rfl) ?_
        refine va_get (D := (dC, dI)) (ci := 7) (v := .ref m6) (C := RX7) (T := TX7) (N := 31) hx hb hts hiX7 hown hK hP 0 rfl rfl 16 (by decide) (hts (.fieldLink RX7 36 "LeftProfileModel" "roomAt" "[I") (List.mem_of_getElem? (i := 1) rfl)) (fun _ h9 => h9) rfl dX7_roomNow_14 ?_
        refine lv_iload_n hx hb dX7_roomNow_17 rfl (lv_at hl 2 rfl) ?_
        refine va_iald hx hb hK hP 3 0 rfl rfl (c_X7_roomNow_a3 p1 da kc g2 r_10 hkc hpl hda hm13 hi02 c_1 c_12) dX7_roomNow_18 ?_
        refine lv_topi (fun x_13 ex_13 => ?_)
        refine lv_goto (tgt := 23) hx hb dX7_roomNow_19 (by decide) ?_
        refine W.widen (k := 0) (n := 0) (Nat.le_of_ble_eq_true rfl) (Nat.le_of_ble_eq_true rfl) ?_
        have hP9 := hP.sub (ws' := [(h0, .inr (7, [.int ih, .int hn, .int fl, .int da, .int ds, .int ac, .int (nI kc), .ref m1, .ref m2, .ref m3, .ref m4, .ref m5, .int (nI pl), .ref pg, .int fa, .int nf, .ref m6, .ref m7, .ref m8, .long sd, .int ik, .int kh, .int (nI km), .int ka, .int ks, .int kac, .ref m9, .ref m10, .ref m11, .ref m12, .long hv])), (m1, .inl (cI, 6, .inl g1)), (m2, .inl (cI, 6, .inl g2)), (m6, .inl (cI, 3, .inl f_11))]) [0, 1, 2, 3] rfl
        have hD9 := hD.sub (ws' := [(h0, .inr (7, [.int ih, .int hn, .int fl, .int da, .int ds, .int ac, .int (nI kc), .ref m1, .ref m2, .ref m3, .ref m4, .ref m5, .int (nI pl), .ref pg, .int fa, .int nf, .ref m6, .ref m7, .ref m8, .long sd, .int ik, .int kh, .int (nI km), .int ka, .int ks, .int kac, .ref m9, .ref m10, .ref m11, .ref m12, .long hv])), (m1, .inl (cI, 6, .inl g1)), (m2, .inl (cI, 6, .inl g2)), (m6, .inl (cI, 3, .inl f_11))]) [0, 1, 2, 3] (by decide) rfl
        rw [hQ]; exact W.iret (v := x_13) hx hb hr (fun t ht hW => ⟨⟨x_13, (), rfl, trivial, ⟨f_11, by rw [ht]; exact hP9, hD9⟩⟩, hS.F ht⟩) hS.2.2 dX7_roomNow_23

theorem c_X7_room_a1 (p0 : Int32) (p1 : Int32) (da : Int32) (ds : Int32) (kc : Nat) (g2 : Nat → Int32) (hkc : kc ≤ 6) (hpl : cz_pl g2) (hdu : cz_du da ds) (hr_1 : cz_in 1 p0 3) (hr_2 : cz_in 0 p1 2) (c_3 : ¬ da = (-1)) : cz_in 0 da 19 := by first | (subst_vars; rfl) | assumption | ((try subst_vars) <;> (repeat' split) <;> (first | rfl | contradiction | ((try simp only [cz_in, cz_du, cz_lt, cz_le, cz_eq, cz_l] at *) <;> (first | omega | (simp_all; done))))) | ((try subst_vars); simp only [cz_in, *, and_self, and_true, true_and, if_true, if_false])
set_option maxHeartbeats 4000000 in
set_option maxRecDepth 100000 in
theorem c_X7_room (l : Launch) (dC : Nat → ClassId) (dI : Nat → Nat → Nat) (cI cB : ClassId) (h0 : Nat) (p0 : Int32) (p1 : Int32) (ih : Int32) (hn : Int32) (fl : Int32) (da : Int32) (ds : Int32) (ac : Int32) (kc : Nat) (m1 : Nat) (m2 : Nat) (m3 : Nat) (m4 : Nat) (m5 : Nat) (pl : Nat) (pg : Nat) (fa : Int32) (nf : Int32) (m6 : Nat) (m7 : Nat) (m8 : Nat) (sd : Int64) (ik : Int32) (kh : Int32) (km : Nat) (ka : Int32) (ks : Int32) (kac : Int32) (m9 : Nat) (m10 : Nat) (m11 : Nat) (m12 : Nat) (hv : Int64) (g1 : Nat → Int32) (g2 : Nat → Int32) (g6 : Nat → Int32) (sz : Nat) (hkc : kc ≤ 6) (hpl : cz_pl g2) (hdu : cz_du da ds) : Met l yX7_room wsX7_room ({ frames := 6, cells := 0, slots := 0, locals := 148 }) (cz_Pm dC dI cI cB [.ref h0, .int p0, .int p1] [(h0, .inr (7, [.int ih, .int hn, .int fl, .int da, .int ds, .int ac, .int (nI kc), .ref m1, .ref m2, .ref m3, .ref m4, .ref m5, .int (nI pl), .ref pg, .int fa, .int nf, .ref m6, .ref m7, .ref m8, .long sd, .int ik, .int kh, .int (nI km), .int ka, .int ks, .int kac, .ref m9, .ref m10, .ref m11, .ref m12, .long hv])), (m1, .inl (cI, 6, .inl g1)), (m2, .inl (cI, 6, .inl g2)), (m6, .inl (cI, 3, .inl g6))] sz) (va_Qi (fun (r : Int32) (_ : Unit) => True) (fun _ t => ∃ (t6 : Nat → Int32), va_P (dC, dI) vwCl [(h0, .inr (7, [.int ih, .int hn, .int fl, .int da, .int ds, .int ac, .int (nI kc), .ref m1, .ref m2, .ref m3, .ref m4, .ref m5, .int (nI pl), .ref pg, .int fa, .int nf, .ref m6, .ref m7, .ref m8, .long sd, .int ik, .int kh, .int (nI km), .int ka, .int ks, .int kac, .ref m9, .ref m10, .ref m11, .ref m12, .long hv])), (m1, .inl (cI, 6, .inl g1)), (m2, .inl (cI, 6, .inl g2)), (m6, .inl (cI, 3, .inl t6))] t.heap ∧ va_D (va_A [(h0, .inr (7, [.int ih, .int hn, .int fl, .int da, .int ds, .int ac, .int (nI kc), .ref m1, .ref m2, .ref m3, .ref m4, .ref m5, .int (nI pl), .ref pg, .int fa, .int nf, .ref m6, .ref m7, .ref m8, .long sd, .int ik, .int kh, .int (nI km), .int ka, .int ks, .int kac, .ref m9, .ref m10, .ref m11, .ref m12, .long hv])), (m1, .inl (cI, 6, .inl g1)), (m2, .inl (cI, 6, .inl g2)), (m6, .inl (cI, 3, .inl g6))] sz) [(h0, .inr (7, [.int ih, .int hn, .int fl, .int da, .int ds, .int ac, .int (nI kc), .ref m1, .ref m2, .ref m3, .ref m4, .ref m5, .int (nI pl), .ref pg, .int fa, .int nf, .ref m6, .ref m7, .ref m8, .long sd, .int ik, .int kh, .int (nI km), .int ka, .int ks, .int kac, .ref m9, .ref m10, .ref m11, .ref m12, .long hv])), (m1, .inl (cI, 6, .inl g1)), (m2, .inl (cI, 6, .inl g2)), (m6, .inl (cI, 3, .inl t6))]) (va_A [(h0, .inr (7, [.int ih, .int hn, .int fl, .int da, .int ds, .int ac, .int (nI kc), .ref m1, .ref m2, .ref m3, .ref m4, .ref m5, .int (nI pl), .ref pg, .int fa, .int nf, .ref m6, .ref m7, .ref m8, .long sd, .int ik, .int kh, .int (nI km), .int ka, .int ks, .int kac, .ref m9, .ref m10, .ref m11, .ref m12, .long hv])), (m1, .inl (cI, 6, .inl g1)), (m2, .inl (cI, 6, .inl g2)), (m6, .inl (cI, 3, .inl g6))] sz)) 0 0 (va_A [(h0, .inr (7, [.int ih, .int hn, .int fl, .int da, .int ds, .int ac, .int (nI kc), .ref m1, .ref m2, .ref m3, .ref m4, .ref m5, .int (nI pl), .ref pg, .int fa, .int nf, .ref m6, .ref m7, .ref m8, .long sd, .int ik, .int kh, .int (nI km), .int ka, .int ks, .int kac, .ref m9, .ref m10, .ref m11, .ref m12, .long hv])), (m1, .inl (cI, 6, .inl g1)), (m2, .inl (cI, 6, .inl g2)), (m6, .inl (cI, 3, .inl g6))] sz) := by
  refine cz_of (cc := cX7_room) (maxL := 3) (ret := (some .int)) (by decide) rfl ?_
  intro p e s m args below meth c s₁ Q B hml hv hQ
  obtain ⟨rfl, hsz, hP, hN, hD0⟩ := hv
  have hx := B.exec
  have hb := B.bytes
  have hr := B.returns
  have hts := atoms_spec (ws := wsX7_room) B.pre
  have hown : s.vm.findClass RX7 = some m.cls := findClass_of_methodNamed B.named
  have hlocks := B.notSynchronized
  have hK := hN.1
  have hiX7 : ∀ w ∈ wsX70, w ∈ wsX7_room := (fun _ h => List.mem_cons_of_mem _ (List.mem_append_right _ h))
  subst hsz
  have hD := hD0.self (sz := s.heap.size)
  generalize hAe : va_A [(h0, .inr (7, [.int ih, .int hn, .int fl, .int da, .int ds, .int ac, .int (nI kc), .ref m1, .ref m2, .ref m3, .ref m4, .ref m5, .int (nI pl), .ref pg, .int fa, .int nf, .ref m6, .ref m7, .ref m8, .long sd, .int ik, .int kh, .int (nI km), .int ka, .int ks, .int kac, .ref m9, .ref m10, .ref m11, .ref m12, .long hv])), (m1, .inl (cI, 6, .inl g1)), (m2, .inl (cI, 6, .inl g2)), (m6, .inl (cI, 3, .inl g6))] s.heap.size = A at hD hQ ⊢
  have hA : ∀ q : Nat, s.heap.size ≤ q → A q := fun q h => by rw [← hAe]; exact Or.inr h
  have hS : va_S A s.heap s.heap [] := va_S.rf
  obtain ⟨H, eH⟩ : ∃ H, H = s.heap := ⟨_, rfl⟩
  have hP : va_P (dC, dI) vwCl [(h0, .inr (7, [.int ih, .int hn, .int fl, .int da, .int ds, .int ac, .int (nI kc), .ref m1, .ref m2, .ref m3, .ref m4, .ref m5, .int (nI pl), .ref pg, .int fa, .int nf, .ref m6, .ref m7, .ref m8, .long sd, .int ik, .int kh, .int (nI km), .int ka, .int ks, .int kac, .ref m9, .ref m10, .ref m11, .ref m12, .long hv])), (m1, .inl (cI, 6, .inl g1)), (m2, .inl (cI, 6, .inl g2)), (m6, .inl (cI, 3, .inl g6))] s.heap := hP
  have hl := lv_entry ([.ref h0, .int p0, .int p1]) (n := 3) (Nat.le_of_ble_eq_true rfl)
  rw [lg_entry_eq]
  generalize (lg_sl ([.ref h0, .int p0, .int p1]) ++ List.replicate (3 - (lg_sl ([.ref h0, .int p0, .int p1])).length) Slot.unset).toArray = ls at hl ⊢
  have hl : lv_has ls 3 [(0, .ref h0), (1, .int p0), (2, .int p1)] := hl
  refine lv_iload_n hx hb dX7_room_0 rfl (lv_at hl 1 rfl) ?_
  refine lv_iconst (v := 1) hx hb dX7_room_1 (by decide) ?_
  refine lv_iconst (v := 3) hx hb dX7_room_2 (by decide) ?_
  refine vp_callSi (cz_run (va_runS (As := [.int p0, .int 1, .int 3]) (rest := []) ⟨hx, hb, hml, hown, hts⟩ (c_X7_within l dC dI cI cB p0 1 3 ) (va_cwS 3 hts gX7_room_X7_within rfl rfl rfl (by decide +kernel) ⟨Nat.le_of_ble_eq_true rfl, Nat.le_of_ble_eq_true rfl⟩) (cz_pS (hP.sub (ws' := []) [] rfl) hN) rfl rfl hl.1 rfl (lv_room (Nat.le_of_ble_eq_true rfl)) dX7_room_3 ⟨Nat.le_of_ble_eq_true rfl, Nat.le_of_ble_eq_true rfl⟩)) (fun r_1 hr_1 => ?_)
  rcases hr_1 with ⟨rfl, hr_1⟩ | ⟨rfl, hr_1⟩
  · refine lv_if_eq (tgt := 18) hx hb dX7_room_6 (by decide) (fun _ => ?_) (fun c => absurd (by decide) c)
    refine lv_bipush (v := (-102)) hx hb dX7_room_18 (by decide) ?_
    refine W.widen (k := 0) (n := 0) (Nat.le_of_ble_eq_true rfl) (Nat.le_of_ble_eq_true rfl) ?_
    have hP9 := hP.sub (ws' := [(h0, .inr (7, [.int ih, .int hn, .int fl, .int da, .int ds, .int ac, .int (nI kc), .ref m1, .ref m2, .ref m3, .ref m4, .ref m5, .int (nI pl), .ref pg, .int fa, .int nf, .ref m6, .ref m7, .ref m8, .long sd, .int ik, .int kh, .int (nI km), .int ka, .int ks, .int kac, .ref m9, .ref m10, .ref m11, .ref m12, .long hv])), (m1, .inl (cI, 6, .inl g1)), (m2, .inl (cI, 6, .inl g2)), (m6, .inl (cI, 3, .inl g6))]) [0, 1, 2, 3] rfl
    have hD9 := hD.sub (ws' := [(h0, .inr (7, [.int ih, .int hn, .int fl, .int da, .int ds, .int ac, .int (nI kc), .ref m1, .ref m2, .ref m3, .ref m4, .ref m5, .int (nI pl), .ref pg, .int fa, .int nf, .ref m6, .ref m7, .ref m8, .long sd, .int ik, .int kh, .int (nI km), .int ka, .int ks, .int kac, .ref m9, .ref m10, .ref m11, .ref m12, .long hv])), (m1, .inl (cI, 6, .inl g1)), (m2, .inl (cI, 6, .inl g2)), (m6, .inl (cI, 3, .inl g6))]) [0, 1, 2, 3] (by decide) rfl
    rw [hQ]; exact W.iret (v := (-102)) hx hb hr (fun t ht hW => ⟨⟨(-102), (), rfl, trivial, ⟨g6, by rw [ht]; exact hP9, hD9⟩⟩, hS.F ht⟩) hS.2.2 dX7_room_20
  · refine lv_if_eq (tgt := 18) hx hb dX7_room_6 (by decide) (fun c => absurd c (by decide)) (fun _ => ?_)
    refine lv_iload_n hx hb dX7_room_9 rfl (lv_at hl 2 rfl) ?_
    refine lv_iconst (v := 0) hx hb dX7_room_10 (by decide) ?_
    refine lv_iconst (v := 2) hx hb dX7_room_11 (by decide) ?_
    refine vp_callSi (cz_run (va_runS (As := [.int p1, .int 0, .int 2]) (rest := []) ⟨hx, hb, hml, hown, hts⟩ (c_X7_within l dC dI cI cB p1 0 2 ) (va_cwS 3 hts gX7_room_X7_within rfl rfl rfl (by decide +kernel) ⟨Nat.le_of_ble_eq_true rfl, Nat.le_of_ble_eq_true rfl⟩) (cz_pS (hP.sub (ws' := []) [] rfl) hN) rfl rfl hl.1 rfl (lv_room (Nat.le_of_ble_eq_true rfl)) dX7_room_12 ⟨Nat.le_of_ble_eq_true rfl, Nat.le_of_ble_eq_true rfl⟩)) (fun r_2 hr_2 => ?_)
    rcases hr_2 with ⟨rfl, hr_2⟩ | ⟨rfl, hr_2⟩
    · refine lv_if_ne (tgt := 21) hx hb dX7_room_15 (by decide) (fun c => absurd (by decide) c) (fun _ => ?_)
      refine lv_bipush (v := (-102)) hx hb dX7_room_18 (by decide) ?_
      refine W.widen (k := 0) (n := 0) (Nat.le_of_ble_eq_true rfl) (Nat.le_of_ble_eq_true rfl) ?_
      have hP9 := hP.sub (ws' := [(h0, .inr (7, [.int ih, .int hn, .int fl, .int da, .int ds, .int ac, .int (nI kc), .ref m1, .ref m2, .ref m3, .ref m4, .ref m5, .int (nI pl), .ref pg, .int fa, .int nf, .ref m6, .ref m7, .ref m8, .long sd, .int ik, .int kh, .int (nI km), .int ka, .int ks, .int kac, .ref m9, .ref m10, .ref m11, .ref m12, .long hv])), (m1, .inl (cI, 6, .inl g1)), (m2, .inl (cI, 6, .inl g2)), (m6, .inl (cI, 3, .inl g6))]) [0, 1, 2, 3] rfl
      have hD9 := hD.sub (ws' := [(h0, .inr (7, [.int ih, .int hn, .int fl, .int da, .int ds, .int ac, .int (nI kc), .ref m1, .ref m2, .ref m3, .ref m4, .ref m5, .int (nI pl), .ref pg, .int fa, .int nf, .ref m6, .ref m7, .ref m8, .long sd, .int ik, .int kh, .int (nI km), .int ka, .int ks, .int kac, .ref m9, .ref m10, .ref m11, .ref m12, .long hv])), (m1, .inl (cI, 6, .inl g1)), (m2, .inl (cI, 6, .inl g2)), (m6, .inl (cI, 3, .inl g6))]) [0, 1, 2, 3] (by decide) rfl
      rw [hQ]; exact W.iret (v := (-102)) hx hb hr (fun t ht hW => ⟨⟨(-102), (), rfl, trivial, ⟨g6, by rw [ht]; exact hP9, hD9⟩⟩, hS.F ht⟩) hS.2.2 dX7_room_20
    · refine lv_if_ne (tgt := 21) hx hb dX7_room_15 (by decide) (fun _ => ?_) (fun c => absurd c (by decide))
      refine lv_aload_n hx hb dX7_room_21 rfl (lv_at hl 0 rfl) ?_
      refine va_get (D := (dC, dI)) (ci := 7) (v := .int da) (C := RX7) (T := TX7) (N := 31) hx hb hts hiX7 hown hK hP 0 rfl rfl 3 (by decide) (hts (.fieldLink RX7 7 "LeftProfileModel" "dukeAt" "I") (List.mem_of_getElem? (i := 1) rfl)) (fun _ h9 => h9) rfl dX7_room_22 ?_
      refine lv_iconst (v := (-1)) hx hb dX7_room_25 (by decide) ?_
      refine lv_icmp_ne (tgt := 34) hx hb dX7_room_26 (by decide) (fun c_3 => ?_) (fun c_3 => ?_)
      · refine lv_aload_n hx hb dX7_room_34 rfl (lv_at hl 0 rfl) ?_
        refine lv_iload_n hx hb dX7_room_35 rfl (lv_at hl 1 rfl) ?_
        refine lv_iload_n hx hb dX7_room_36 rfl (lv_at hl 2 rfl) ?_
        have hPc := hP.sub (ws' := [(h0, .inr (7, [.int ih, .int hn, .int fl, .int da, .int ds, .int ac, .int (nI kc), .ref m1, .ref m2, .ref m3, .ref m4, .ref m5, .int (nI pl), .ref pg, .int fa, .int nf, .ref m6, .ref m7, .ref m8, .long sd, .int ik, .int kh, .int (nI km), .int ka, .int ks, .int kac, .ref m9, .ref m10, .ref m11, .ref m12, .long hv])), (m1, .inl (cI, 6, .inl g1)), (m2, .inl (cI, 6, .inl g2)), (m6, .inl (cI, 3, .inl g6))]) [0, 1, 2, 3] rfl
        have hDc := hD.sub (ws' := [(h0, .inr (7, [.int ih, .int hn, .int fl, .int da, .int ds, .int ac, .int (nI kc), .ref m1, .ref m2, .ref m3, .ref m4, .ref m5, .int (nI pl), .ref pg, .int fa, .int nf, .ref m6, .ref m7, .ref m8, .long sd, .int ik, .int kh, .int (nI km), .int ka, .int ks, .int kac, .ref m9, .ref m10, .ref m11, .ref m12, .long hv])), (m1, .inl (cI, 6, .inl g1)), (m2, .inl (cI, 6, .inl g2)), (m6, .inl (cI, 3, .inl g6))]) [0, 1, 2, 3] (by decide) rfl
        have hFc := va_free (wc := [(h0, .inr (7, [.int ih, .int hn, .int fl, .int da, .int ds, .int ac, .int (nI kc), .ref m1, .ref m2, .ref m3, .ref m4, .ref m5, .int (nI pl), .ref pg, .int fa, .int nf, .ref m6, .ref m7, .ref m8, .long sd, .int ik, .int kh, .int (nI km), .int ka, .int ks, .int kac, .ref m9, .ref m10, .ref m11, .ref m12, .long hv])), (m1, .inl (cI, 6, .inl g1)), (m2, .inl (cI, 6, .inl g2)), (m6, .inl (cI, 3, .inl g6))]) hD hS hA [0, 1, 2, 3] rfl
        refine va_calli (va_runV (As := [.int p0, .int p1]) (rest := []) ⟨hx, hb, hml, hown, hts⟩ (c_X7_roomNow l dC dI cI cB h0 p0 p1 ih hn fl da ds ac kc m1 m2 m3 m4 m5 pl pg fa nf m6 m7 m8 sd ik kh km ka ks kac m9 m10 m11 m12 hv g1 g2 g6 s.heap.size hkc hpl (c_X7_room_a1 p0 p1 da ds kc g2 hkc hpl hdu hr_1 hr_2 c_3) hr_1 hr_2) (cwV 2 hts gX7_room_X7_roomNow rfl rfl rfl (by decide +kernel) ⟨Nat.le_of_ble_eq_true rfl, Nat.le_of_ble_eq_true rfl⟩) (cz_mV hPc hN hDc (va_recv hK hPc (ci := 7) (q0 := 0) rfl rfl)) rfl rfl hl.1 rfl (lv_room (Nat.le_of_ble_eq_true rfl)) dX7_room_37 ⟨Nat.le_of_ble_eq_true rfl, Nat.le_of_ble_eq_true rfl⟩) hS (fun q _ h => hFc q h) hFc (fun r_4 u t H1 locs ht hvm hr_4 hB hz1 hk1 hS => ?_)
        obtain ⟨f_5, hP1, hD1⟩ := hB
        rw [ht] at hP1
        obtain ⟨hP, hD⟩ := va_join (wr := []) (w1 := [(h0, .inr (7, [.int ih, .int hn, .int fl, .int da, .int ds, .int ac, .int (nI kc), .ref m1, .ref m2, .ref m3, .ref m4, .ref m5, .int (nI pl), .ref pg, .int fa, .int nf, .ref m6, .ref m7, .ref m8, .long sd, .int ik, .int kh, .int (nI km), .int ka, .int ks, .int kac, .ref m9, .ref m10, .ref m11, .ref m12, .long hv])), (m1, .inl (cI, 6, .inl g1)), (m2, .inl (cI, 6, .inl g2)), (m6, .inl (cI, 3, .inl f_5))]) hP hD [0, 1, 2, 3] [] rfl rfl (by decide) (by decide) hk1 hFc hP1 hD1
        generalize H1 = H at hP hS ⊢
        have hP : va_P (dC, dI) vwCl [(h0, .inr (7, [.int ih, .int hn, .int fl, .int da, .int ds, .int ac, .int (nI kc), .ref m1, .ref m2, .ref m3, .ref m4, .ref m5, .int (nI pl), .ref pg, .int fa, .int nf, .ref m6, .ref m7, .ref m8, .long sd, .int ik, .int kh, .int (nI km), .int ka, .int ks, .int kac, .ref m9, .ref m10, .ref m11, .ref m12, .long hv])), (m1, .inl (cI, 6, .inl g1)), (m2, .inl (cI, 6, .inl g2)), (m6, .inl (cI, 3, .inl f_5))] H := hP
        have hD : va_D A [(h0, .inr (7, [.int ih, .int hn, .int fl, .int da, .int ds, .int ac, .int (nI kc), .ref m1, .ref m2, .ref m3, .ref m4, .ref m5, .int (nI pl), .ref pg, .int fa, .int nf, .ref m6, .ref m7, .ref m8, .long sd, .int ik, .int kh, .int (nI km), .int ka, .int ks, .int kac, .ref m9, .ref m10, .ref m11, .ref m12, .long hv])), (m1, .inl (cI, 6, .inl g1)), (m2, .inl (cI, 6, .inl g2)), (m6, .inl (cI, 3, .inl f_5))] := hD
        refine W.widen (k := 0) (n := 0) (Nat.le_of_ble_eq_true rfl) (Nat.le_of_ble_eq_true rfl) ?_
        have hP9 := hP.sub (ws' := [(h0, .inr (7, [.int ih, .int hn, .int fl, .int da, .int ds, .int ac, .int (nI kc), .ref m1, .ref m2, .ref m3, .ref m4, .ref m5, .int (nI pl), .ref pg, .int fa, .int nf, .ref m6, .ref m7, .ref m8, .long sd, .int ik, .int kh, .int (nI km), .int ka, .int ks, .int kac, .ref m9, .ref m10, .ref m11, .ref m12, .long hv])), (m1, .inl (cI, 6, .inl g1)), (m2, .inl (cI, 6, .inl g2)), (m6, .inl (cI, 3, .inl f_5))]) [0, 1, 2, 3] rfl
        have hD9 := hD.sub (ws' := [(h0, .inr (7, [.int ih, .int hn, .int fl, .int da, .int ds, .int ac, .int (nI kc), .ref m1, .ref m2, .ref m3, .ref m4, .ref m5, .int (nI pl), .ref pg, .int fa, .int nf, .ref m6, .ref m7, .ref m8, .long sd, .int ik, .int kh, .int (nI km), .int ka, .int ks, .int kac, .ref m9, .ref m10, .ref m11, .ref m12, .long hv])), (m1, .inl (cI, 6, .inl g1)), (m2, .inl (cI, 6, .inl g2)), (m6, .inl (cI, 3, .inl f_5))]) [0, 1, 2, 3] (by decide) rfl
        rw [hQ]; exact W.iret (v := r_4) hx hb hr (fun t ht hW => ⟨⟨r_4, (), rfl, trivial, ⟨f_5, by rw [ht]; exact hP9, hD9⟩⟩, hS.F ht⟩) hS.2.2 dX7_room_40
      · refine lv_bipush (v := (-103)) hx hb dX7_room_29 (by decide) ?_
        refine lv_goto (tgt := 40) hx hb dX7_room_31 (by decide) ?_
        refine W.widen (k := 0) (n := 0) (Nat.le_of_ble_eq_true rfl) (Nat.le_of_ble_eq_true rfl) ?_
        have hP9 := hP.sub (ws' := [(h0, .inr (7, [.int ih, .int hn, .int fl, .int da, .int ds, .int ac, .int (nI kc), .ref m1, .ref m2, .ref m3, .ref m4, .ref m5, .int (nI pl), .ref pg, .int fa, .int nf, .ref m6, .ref m7, .ref m8, .long sd, .int ik, .int kh, .int (nI km), .int ka, .int ks, .int kac, .ref m9, .ref m10, .ref m11, .ref m12, .long hv])), (m1, .inl (cI, 6, .inl g1)), (m2, .inl (cI, 6, .inl g2)), (m6, .inl (cI, 3, .inl g6))]) [0, 1, 2, 3] rfl
        have hD9 := hD.sub (ws' := [(h0, .inr (7, [.int ih, .int hn, .int fl, .int da, .int ds, .int ac, .int (nI kc), .ref m1, .ref m2, .ref m3, .ref m4, .ref m5, .int (nI pl), .ref pg, .int fa, .int nf, .ref m6, .ref m7, .ref m8, .long sd, .int ik, .int kh, .int (nI km), .int ka, .int ks, .int kac, .ref m9, .ref m10, .ref m11, .ref m12, .long hv])), (m1, .inl (cI, 6, .inl g1)), (m2, .inl (cI, 6, .inl g2)), (m6, .inl (cI, 3, .inl g6))]) [0, 1, 2, 3] (by decide) rfl
        rw [hQ]; exact W.iret (v := (-103)) hx hb hr (fun t ht hW => ⟨⟨(-103), (), rfl, trivial, ⟨g6, by rw [ht]; exact hP9, hD9⟩⟩, hS.F ht⟩) hS.2.2 dX7_room_40

set_option maxHeartbeats 4000000 in
set_option maxRecDepth 100000 in
theorem c_X7_brickNow (l : Launch) (dC : Nat → ClassId) (dI : Nat → Nat → Nat) (cI cB : ClassId) (h0 : Nat) (p0 : Int32) (ih : Int32) (hn : Int32) (fl : Int32) (da : Int32) (ds : Int32) (ac : Int32) (kc : Nat) (m1 : Nat) (m2 : Nat) (m3 : Nat) (m4 : Nat) (m5 : Nat) (pl : Nat) (pg : Nat) (fa : Int32) (nf : Int32) (m6 : Nat) (m7 : Nat) (m8 : Nat) (sd : Int64) (ik : Int32) (kh : Int32) (km : Nat) (ka : Int32) (ks : Int32) (kac : Int32) (m9 : Nat) (m10 : Nat) (m11 : Nat) (m12 : Nat) (hv : Int64) (g1 : Nat → Int32) (g2 : Nat → Int32) (sz : Nat) (hkc : kc ≤ 6) (hpl : cz_pl g2) (hdu : cz_du da ds) : Met l yX7_brickNow wsX7_brickNow ({ frames := 5, cells := 0, slots := 0, locals := 116 }) (cz_Pm dC dI cI cB [.ref h0, .int p0] [(h0, .inr (7, [.int ih, .int hn, .int fl, .int da, .int ds, .int ac, .int (nI kc), .ref m1, .ref m2, .ref m3, .ref m4, .ref m5, .int (nI pl), .ref pg, .int fa, .int nf, .ref m6, .ref m7, .ref m8, .long sd, .int ik, .int kh, .int (nI km), .int ka, .int ks, .int kac, .ref m9, .ref m10, .ref m11, .ref m12, .long hv])), (m1, .inl (cI, 6, .inl g1)), (m2, .inl (cI, 6, .inl g2))] sz) (va_Qi (fun (r : Int32) (_ : Unit) => True) (fun _ t => va_P (dC, dI) vwCl [(h0, .inr (7, [.int ih, .int hn, .int fl, .int da, .int ds, .int ac, .int (nI kc), .ref m1, .ref m2, .ref m3, .ref m4, .ref m5, .int (nI pl), .ref pg, .int fa, .int nf, .ref m6, .ref m7, .ref m8, .long sd, .int ik, .int kh, .int (nI km), .int ka, .int ks, .int kac, .ref m9, .ref m10, .ref m11, .ref m12, .long hv])), (m1, .inl (cI, 6, .inl g1)), (m2, .inl (cI, 6, .inl g2))] t.heap ∧ va_D (va_A [(h0, .inr (7, [.int ih, .int hn, .int fl, .int da, .int ds, .int ac, .int (nI kc), .ref m1, .ref m2, .ref m3, .ref m4, .ref m5, .int (nI pl), .ref pg, .int fa, .int nf, .ref m6, .ref m7, .ref m8, .long sd, .int ik, .int kh, .int (nI km), .int ka, .int ks, .int kac, .ref m9, .ref m10, .ref m11, .ref m12, .long hv])), (m1, .inl (cI, 6, .inl g1)), (m2, .inl (cI, 6, .inl g2))] sz) [(h0, .inr (7, [.int ih, .int hn, .int fl, .int da, .int ds, .int ac, .int (nI kc), .ref m1, .ref m2, .ref m3, .ref m4, .ref m5, .int (nI pl), .ref pg, .int fa, .int nf, .ref m6, .ref m7, .ref m8, .long sd, .int ik, .int kh, .int (nI km), .int ka, .int ks, .int kac, .ref m9, .ref m10, .ref m11, .ref m12, .long hv])), (m1, .inl (cI, 6, .inl g1)), (m2, .inl (cI, 6, .inl g2))]) (va_A [(h0, .inr (7, [.int ih, .int hn, .int fl, .int da, .int ds, .int ac, .int (nI kc), .ref m1, .ref m2, .ref m3, .ref m4, .ref m5, .int (nI pl), .ref pg, .int fa, .int nf, .ref m6, .ref m7, .ref m8, .long sd, .int ik, .int kh, .int (nI km), .int ka, .int ks, .int kac, .ref m9, .ref m10, .ref m11, .ref m12, .long hv])), (m1, .inl (cI, 6, .inl g1)), (m2, .inl (cI, 6, .inl g2))] sz)) 0 0 (va_A [(h0, .inr (7, [.int ih, .int hn, .int fl, .int da, .int ds, .int ac, .int (nI kc), .ref m1, .ref m2, .ref m3, .ref m4, .ref m5, .int (nI pl), .ref pg, .int fa, .int nf, .ref m6, .ref m7, .ref m8, .long sd, .int ik, .int kh, .int (nI km), .int ka, .int ks, .int kac, .ref m9, .ref m10, .ref m11, .ref m12, .long hv])), (m1, .inl (cI, 6, .inl g1)), (m2, .inl (cI, 6, .inl g2))] sz) := by
  refine cz_of (cc := cX7_brickNow) (maxL := 7) (ret := (some .int)) (by decide) rfl ?_
  intro p e s m args below meth c s₁ Q B hml hv hQ
  obtain ⟨rfl, hsz, hP, hN, hD0⟩ := hv
  have hx := B.exec
  have hb := B.bytes
  have hr := B.returns
  have hts := atoms_spec (ws := wsX7_brickNow) B.pre
  have hown : s.vm.findClass RX7 = some m.cls := findClass_of_methodNamed B.named
  have hlocks := B.notSynchronized
  have hK := hN.1
  have hiX7 : ∀ w ∈ wsX70, w ∈ wsX7_brickNow := (fun _ h => List.mem_cons_of_mem _ (List.mem_append_right _ h))
  subst hsz
  have hD := hD0.self (sz := s.heap.size)
  generalize hAe : va_A [(h0, .inr (7, [.int ih, .int hn, .int fl, .int da, .int ds, .int ac, .int (nI kc), .ref m1, .ref m2, .ref m3, .ref m4, .ref m5, .int (nI pl), .ref pg, .int fa, .int nf, .ref m6, .ref m7, .ref m8, .long sd, .int ik, .int kh, .int (nI km), .int ka, .int ks, .int kac, .ref m9, .ref m10, .ref m11, .ref m12, .long hv])), (m1, .inl (cI, 6, .inl g1)), (m2, .inl (cI, 6, .inl g2))] s.heap.size = A at hD hQ ⊢
  have hA : ∀ q : Nat, s.heap.size ≤ q → A q := fun q h => by rw [← hAe]; exact Or.inr h
  have hS : va_S A s.heap s.heap [] := va_S.rf
  obtain ⟨H, eH⟩ : ∃ H, H = s.heap := ⟨_, rfl⟩
  have hP : va_P (dC, dI) vwCl [(h0, .inr (7, [.int ih, .int hn, .int fl, .int da, .int ds, .int ac, .int (nI kc), .ref m1, .ref m2, .ref m3, .ref m4, .ref m5, .int (nI pl), .ref pg, .int fa, .int nf, .ref m6, .ref m7, .ref m8, .long sd, .int ik, .int kh, .int (nI km), .int ka, .int ks, .int kac, .ref m9, .ref m10, .ref m11, .ref m12, .long hv])), (m1, .inl (cI, 6, .inl g1)), (m2, .inl (cI, 6, .inl g2))] s.heap := hP
  have hl := lv_entry ([.ref h0, .int p0]) (n := 7) (Nat.le_of_ble_eq_true rfl)
  rw [lg_entry_eq]
  generalize (lg_sl ([.ref h0, .int p0]) ++ List.replicate (7 - (lg_sl ([.ref h0, .int p0])).length) Slot.unset).toArray = ls at hl ⊢
  have hl : lv_has ls 7 [(0, .ref h0), (1, .int p0)] := hl
  refine lv_iconst (v := (-1)) hx hb dX7_brickNow_0 (by decide) ?_
  refine lv_istore_n (lv' := [(2, .int (-1)), (0, .ref h0), (1, .int p0)]) hx hb dX7_brickNow_1 rfl hl (by decide) rfl (fun ls hl => ?_)
  refine lv_bipush (v := 20) hx hb dX7_brickNow_2 (by decide) ?_
  refine lv_istore_n (lv' := [(3, .int 20), (2, .int (-1)), (0, .ref h0), (1, .int p0)]) hx hb dX7_brickNow_4 rfl hl (by decide) rfl (fun ls hl => ?_)
  refine lv_aload_n hx hb dX7_brickNow_5 rfl (lv_at hl 2 rfl) ?_
  refine va_get (D := (dC, dI)) (ci := 7) (v := .int fl) (C := RX7) (T := TX7) (N := 31) hx hb hts hiX7 hown hK hP 0 rfl rfl 2 (by decide) (hts (.fieldLink RX7 73 "LeftProfileModel" "floor" "I") (List.mem_of_getElem? (i := 1) rfl)) (fun _ h9 => h9) rfl dX7_brickNow_6 ?_
  refine lv_istore (lv' := [(4, .int fl), (3, .int 20), (2, .int (-1)), (0, .ref h0), (1, .int p0)]) hx hb dX7_brickNow_9 hl (by decide) rfl (fun ls hl => ?_)
  refine lv_iconst (v := 0) hx hb dX7_brickNow_11 (by decide) ?_
  refine lv_istore (lv' := [(5, .int 0), (4, .int fl), (3, .int 20), (2, .int (-1)), (0, .ref h0), (1, .int p0)]) hx hb dX7_brickNow_12 hl (by decide) rfl (fun ls hl => ?_)
  have lp14 : ∀ (n14 : Nat) (i14 : Nat) (y2 : Int32) (y3 : Int32) (H : Heap) (locs : List Loc) (ls : Array Slot), i14 + n14 = 20 → va_P (dC, dI) vwCl [(h0, .inr (7, [.int ih, .int hn, .int fl, .int da, .int ds, .int ac, .int (nI kc), .ref m1, .ref m2, .ref m3, .ref m4, .ref m5, .int (nI pl), .ref pg, .int fa, .int nf, .ref m6, .ref m7, .ref m8, .long sd, .int ik, .int kh, .int (nI km), .int ka, .int ks, .int kac, .ref m9, .ref m10, .ref m11, .ref m12, .long hv])), (m1, .inl (cI, 6, .inl g1)), (m2, .inl (cI, 6, .inl g2))] H → va_D A [(h0, .inr (7, [.int ih, .int hn, .int fl, .int da, .int ds, .int ac, .int (nI kc), .ref m1, .ref m2, .ref m3, .ref m4, .ref m5, .int (nI pl), .ref pg, .int fa, .int nf, .ref m6, .ref m7, .ref m8, .long sd, .int ik, .int kh, .int (nI km), .int ka, .int ks, .int kac, .ref m9, .ref m10, .ref m11, .ref m12, .long hv])), (m1, .inl (cI, 6, .inl g1)), (m2, .inl (cI, 6, .inl g2))] → va_S A s.heap H locs → lv_has ls 7 [(0, .ref h0), (1, .int p0), (2, .int y2), (3, .int y3), (4, .int fl), (5, .int (nI i14))] → W p l e ({ frames := 5, cells := 0, slots := 0, locals := 116 } : Room) s m #[Value.ref h0, Value.int p0] below meth c H locs 0 0 Q (F0 m 14 ls []) := by
    intro n14
    induction n14 with
    | zero =>
      intro i14 y2 y3 H locs ls hi14  hP hD hS hl
      obtain rfl : i14 = 20 := by omega
      have hl : lv_has ls 7 [(0, .ref h0), (1, .int p0), (2, .int y2), (3, .int y3), (4, .int fl), (5, .int 20)] := hl
      refine lv_iload hx hb dX7_brickNow_14 (lv_at hl 5 rfl) ?_
      refine lv_bipush (v := 20) hx hb dX7_brickNow_16 (by decide) ?_
      refine lv_icmp_ge (tgt := 90) hx hb dX7_brickNow_18 (by decide) (fun _ => ?_) (fun c => absurd (by decide) c)
      refine lv_iload_n hx hb dX7_brickNow_90 rfl (lv_at hl 2 rfl) ?_
      refine lv_iconst (v := (-1)) hx hb dX7_brickNow_91 (by decide) ?_
      refine lv_icmp_eq (tgt := 99) hx hb dX7_brickNow_92 (by decide) (fun c_1 => ?_) (fun c_1 => ?_)
      · refine lv_iload_n hx hb dX7_brickNow_99 rfl (lv_at hl 2 rfl) ?_
        refine lv_goto (tgt := 104) hx hb dX7_brickNow_100 (by decide) ?_
        refine W.widen (k := 0) (n := 0) (Nat.le_of_ble_eq_true rfl) (Nat.le_of_ble_eq_true rfl) ?_
        have hP9 := hP.sub (ws' := [(h0, .inr (7, [.int ih, .int hn, .int fl, .int da, .int ds, .int ac, .int (nI kc), .ref m1, .ref m2, .ref m3, .ref m4, .ref m5, .int (nI pl), .ref pg, .int fa, .int nf, .ref m6, .ref m7, .ref m8, .long sd, .int ik, .int kh, .int (nI km), .int ka, .int ks, .int kac, .ref m9, .ref m10, .ref m11, .ref m12, .long hv])), (m1, .inl (cI, 6, .inl g1)), (m2, .inl (cI, 6, .inl g2))]) [0, 1, 2] rfl
        have hD9 := hD.sub (ws' := [(h0, .inr (7, [.int ih, .int hn, .int fl, .int da, .int ds, .int ac, .int (nI kc), .ref m1, .ref m2, .ref m3, .ref m4, .ref m5, .int (nI pl), .ref pg, .int fa, .int nf, .ref m6, .ref m7, .ref m8, .long sd, .int ik, .int kh, .int (nI km), .int ka, .int ks, .int kac, .ref m9, .ref m10, .ref m11, .ref m12, .long hv])), (m1, .inl (cI, 6, .inl g1)), (m2, .inl (cI, 6, .inl g2))]) [0, 1, 2] (by decide) rfl
        rw [hQ]; exact W.iret (v := y2) hx hb hr (fun t ht hW => ⟨⟨y2, (), rfl, trivial, ⟨by rw [ht]; exact hP9, hD9⟩⟩, hS.F ht⟩) hS.2.2 dX7_brickNow_104
      · refine lv_iload_n hx hb dX7_brickNow_95 rfl (lv_at hl 1 rfl) ?_
        refine lv_if_ne (tgt := 103) hx hb dX7_brickNow_96 (by decide) (fun c_2 => ?_) (fun c_2 => ?_)
        · refine lv_iload_n hx hb dX7_brickNow_103 rfl (lv_at hl 3 rfl) ?_
          refine W.widen (k := 0) (n := 0) (Nat.le_of_ble_eq_true rfl) (Nat.le_of_ble_eq_true rfl) ?_
          have hP9 := hP.sub (ws' := [(h0, .inr (7, [.int ih, .int hn, .int fl, .int da, .int ds, .int ac, .int (nI kc), .ref m1, .ref m2, .ref m3, .ref m4, .ref m5, .int (nI pl), .ref pg, .int fa, .int nf, .ref m6, .ref m7, .ref m8, .long sd, .int ik, .int kh, .int (nI km), .int ka, .int ks, .int kac, .ref m9, .ref m10, .ref m11, .ref m12, .long hv])), (m1, .inl (cI, 6, .inl g1)), (m2, .inl (cI, 6, .inl g2))]) [0, 1, 2] rfl
          have hD9 := hD.sub (ws' := [(h0, .inr (7, [.int ih, .int hn, .int fl, .int da, .int ds, .int ac, .int (nI kc), .ref m1, .ref m2, .ref m3, .ref m4, .ref m5, .int (nI pl), .ref pg, .int fa, .int nf, .ref m6, .ref m7, .ref m8, .long sd, .int ik, .int kh, .int (nI km), .int ka, .int ks, .int kac, .ref m9, .ref m10, .ref m11, .ref m12, .long hv])), (m1, .inl (cI, 6, .inl g1)), (m2, .inl (cI, 6, .inl g2))]) [0, 1, 2] (by decide) rfl
          rw [hQ]; exact W.iret (v := y3) hx hb hr (fun t ht hW => ⟨⟨y3, (), rfl, trivial, ⟨by rw [ht]; exact hP9, hD9⟩⟩, hS.F ht⟩) hS.2.2 dX7_brickNow_104
        · refine lv_iload_n hx hb dX7_brickNow_99 rfl (lv_at hl 2 rfl) ?_
          refine lv_goto (tgt := 104) hx hb dX7_brickNow_100 (by decide) ?_
          refine W.widen (k := 0) (n := 0) (Nat.le_of_ble_eq_true rfl) (Nat.le_of_ble_eq_true rfl) ?_
          have hP9 := hP.sub (ws' := [(h0, .inr (7, [.int ih, .int hn, .int fl, .int da, .int ds, .int ac, .int (nI kc), .ref m1, .ref m2, .ref m3, .ref m4, .ref m5, .int (nI pl), .ref pg, .int fa, .int nf, .ref m6, .ref m7, .ref m8, .long sd, .int ik, .int kh, .int (nI km), .int ka, .int ks, .int kac, .ref m9, .ref m10, .ref m11, .ref m12, .long hv])), (m1, .inl (cI, 6, .inl g1)), (m2, .inl (cI, 6, .inl g2))]) [0, 1, 2] rfl
          have hD9 := hD.sub (ws' := [(h0, .inr (7, [.int ih, .int hn, .int fl, .int da, .int ds, .int ac, .int (nI kc), .ref m1, .ref m2, .ref m3, .ref m4, .ref m5, .int (nI pl), .ref pg, .int fa, .int nf, .ref m6, .ref m7, .ref m8, .long sd, .int ik, .int kh, .int (nI km), .int ka, .int ks, .int kac, .ref m9, .ref m10, .ref m11, .ref m12, .long hv])), (m1, .inl (cI, 6, .inl g1)), (m2, .inl (cI, 6, .inl g2))]) [0, 1, 2] (by decide) rfl
          rw [hQ]; exact W.iret (v := y2) hx hb hr (fun t ht hW => ⟨⟨y2, (), rfl, trivial, ⟨by rw [ht]; exact hP9, hD9⟩⟩, hS.F ht⟩) hS.2.2 dX7_brickNow_104
    | succ n14 ih14 =>
      intro i14 y2 y3 H locs ls hi14  hP hD hS hl
      refine lv_iload hx hb dX7_brickNow_14 (lv_at hl 5 rfl) ?_
      refine lv_bipush (v := 20) hx hb dX7_brickNow_16 (by decide) ?_
      refine lv_icmp_ge (tgt := 90) hx hb dX7_brickNow_18 (by decide) (fun c_3 => ?_) (fun c_3 => ?_)
      · exact absurd c_3 (show ¬ (20 : Int32) ≤ nI i14 from nI_ge (a := i14) (b := 20) (by omega) (by omega))
      · refine lv_aload_n hx hb dX7_brickNow_21 rfl (lv_at hl 0 rfl) ?_
        refine lv_iload hx hb dX7_brickNow_22 (lv_at hl 5 rfl) ?_
        refine vp_callSi (cz_run (va_runV (As := [.int (nI i14)]) (rest := []) ⟨hx, hb, hml, hown, hts⟩ (c_X7_isEmpty l dC dI cI cB h0 (nI i14) ih hn fl da ds ac kc m1 m2 m3 m4 m5 pl pg fa nf m6 m7 m8 sd ik kh km ka ks kac m9 m10 m11 m12 hv g2 hkc) (cwV 1 hts gX7_brickNow_X7_isEmpty rfl rfl rfl (by decide +kernel) ⟨Nat.le_of_ble_eq_true rfl, Nat.le_of_ble_eq_true rfl⟩) (cz_pV (hP.sub (ws' := [(h0, .inr (7, [.int ih, .int hn, .int fl, .int da, .int ds, .int ac, .int (nI kc), .ref m1, .ref m2, .ref m3, .ref m4, .ref m5, .int (nI pl), .ref pg, .int fa, .int nf, .ref m6, .ref m7, .ref m8, .long sd, .int ik, .int kh, .int (nI km), .int ka, .int ks, .int kac, .ref m9, .ref m10, .ref m11, .ref m12, .long hv])), (m2, .inl (cI, 6, .inl g2))]) [0, 2] rfl) hN (va_recv hK (hP.sub (ws' := [(h0, .inr (7, [.int ih, .int hn, .int fl, .int da, .int ds, .int ac, .int (nI kc), .ref m1, .ref m2, .ref m3, .ref m4, .ref m5, .int (nI pl), .ref pg, .int fa, .int nf, .ref m6, .ref m7, .ref m8, .long sd, .int ik, .int kh, .int (nI km), .int ka, .int ks, .int kac, .ref m9, .ref m10, .ref m11, .ref m12, .long hv])), (m2, .inl (cI, 6, .inl g2))]) [0, 2] rfl) (ci := 7) (q0 := 0) rfl rfl)) rfl rfl hl.1 rfl (lv_room (Nat.le_of_ble_eq_true rfl)) dX7_brickNow_24 ⟨Nat.le_of_ble_eq_true rfl, Nat.le_of_ble_eq_true rfl⟩)) (fun r_4 hr_4 => ?_)
        rcases hr_4 with ⟨rfl, hr_4⟩ | ⟨rfl, hr_4⟩
        · refine lv_if_eq (tgt := 84) hx hb dX7_brickNow_27 (by decide) (fun _ => ?_) (fun c => absurd (by decide) c)
          refine lv_iinc (v := (nI (i14 + 1))) (lv' := [(5, .int (nI (i14 + 1))), (0, .ref h0), (1, .int p0), (2, .int y2), (3, .int y3), (4, .int fl)]) hx hb dX7_brickNow_84 hl (k := 5) rfl (nI_add i14 1) (by decide) rfl (fun ls hl => ?_)
          refine lv_goto (tgt := 14) hx hb dX7_brickNow_87 (by decide) ?_
          exact ih14 (i14 + 1) y2 y3 H locs ls (by omega)  hP hD hS (lv_sub hl [1, 2, 3, 4, 5, 0] rfl)
        · refine lv_if_eq (tgt := 84) hx hb dX7_brickNow_27 (by decide) (fun c => absurd c (by decide)) (fun _ => ?_)
          refine lv_aload_n hx hb dX7_brickNow_30 rfl (lv_at hl 0 rfl) ?_
          refine lv_iload hx hb dX7_brickNow_31 (lv_at hl 4 rfl) ?_
          refine lv_iconst (v := 1) hx hb dX7_brickNow_33 (by decide) ?_
          refine lv_iload hx hb dX7_brickNow_34 (lv_at hl 5 rfl) ?_
          refine lv_ishl hx hb dX7_brickNow_36 ?_
          refine lv_topi (fun x_5 ex_5 => ?_)
          refine lv_iconst (v := (-1)) hx hb dX7_brickNow_37 (by decide) ?_
          refine lv_ixor hx hb dX7_brickNow_38 ?_
          refine lv_topi (fun x_6 ex_6 => ?_)
          refine lv_iand hx hb dX7_brickNow_39 ?_
          refine lv_topi (fun x_7 ex_7 => ?_)
          refine va_put (D := (dC, dI)) (ci := 7) (v := .int x_7) (ty := .int) (C := RX7) (T := TX7) (N := 31) hx hb hts hiX7 tyX7 tyX7_ok nmX7 hown hK hP hD hS 0 rfl rfl 2 (by decide) (hts (.fieldLink RX7 73 "LeftProfileModel" "floor" "I") (List.mem_of_getElem? (i := 1) rfl)) (fun _ h9 => h9) rfl (by decide +kernel) rfl rfl (Nat.le_of_ble_eq_true rfl) dX7_brickNow_40 (fun H locs hP hD hS => ?_)
          have hP : va_P (dC, dI) vwCl [(h0, .inr (7, [.int ih, .int hn, .int x_7, .int da, .int ds, .int ac, .int (nI kc), .ref m1, .ref m2, .ref m3, .ref m4, .ref m5, .int (nI pl), .ref pg, .int fa, .int nf, .ref m6, .ref m7, .ref m8, .long sd, .int ik, .int kh, .int (nI km), .int ka, .int ks, .int kac, .ref m9, .ref m10, .ref m11, .ref m12, .long hv])), (m1, .inl (cI, 6, .inl g1)), (m2, .inl (cI, 6, .inl g2))] H := hP
          have hD : va_D A [(h0, .inr (7, [.int ih, .int hn, .int x_7, .int da, .int ds, .int ac, .int (nI kc), .ref m1, .ref m2, .ref m3, .ref m4, .ref m5, .int (nI pl), .ref pg, .int fa, .int nf, .ref m6, .ref m7, .ref m8, .long sd, .int ik, .int kh, .int (nI km), .int ka, .int ks, .int kac, .ref m9, .ref m10, .ref m11, .ref m12, .long hv])), (m1, .inl (cI, 6, .inl g1)), (m2, .inl (cI, 6, .inl g2))] := hD
          refine lv_aload_n hx hb dX7_brickNow_43 rfl (lv_at hl 0 rfl) ?_
          refine vp_callSi (cz_run (va_runV (As := []) (rest := []) ⟨hx, hb, hml, hown, hts⟩ (c_X7_guiltySet l dC dI cI cB h0 ih hn x_7 da ds ac kc m1 m2 m3 m4 m5 pl pg fa nf m6 m7 m8 sd ik kh km ka ks kac m9 m10 m11 m12 hv g1 g2 hkc hpl hdu) (cwV 0 hts gX7_brickNow_X7_guiltySet rfl rfl rfl (by decide +kernel) ⟨Nat.le_of_ble_eq_true rfl, Nat.le_of_ble_eq_true rfl⟩) (cz_pV hP hN (va_recv hK hP (ci := 7) (q0 := 0) rfl rfl)) rfl rfl hl.1 rfl (lv_room (Nat.le_of_ble_eq_true rfl)) dX7_brickNow_44 ⟨Nat.le_of_ble_eq_true rfl, Nat.le_of_ble_eq_true rfl⟩)) (fun r_8 hr_8 => ?_)
          refine vp_callSi (cz_run (va_runS (As := [.int r_8]) (rest := []) ⟨hx, hb, hml, hown, hts⟩ (c_X7_size l dC dI cI cB r_8 ) (va_cwS 1 hts gX7_brickNow_X7_size rfl rfl rfl (by decide +kernel) ⟨Nat.le_of_ble_eq_true rfl, Nat.le_of_ble_eq_true rfl⟩) (cz_pS (hP.sub (ws' := []) [] rfl) hN) rfl rfl hl.1 rfl (lv_room (Nat.le_of_ble_eq_true rfl)) dX7_brickNow_47 ⟨Nat.le_of_ble_eq_true rfl, Nat.le_of_ble_eq_true rfl⟩)) (fun r_9 hr_9 => ?_)
          refine lv_istore (lv' := [(6, .int r_9), (0, .ref h0), (1, .int p0), (2, .int y2), (3, .int y3), (4, .int fl), (5, .int (nI i14))]) hx hb dX7_brickNow_50 hl (by decide) rfl (fun ls hl => ?_)
          refine lv_aload_n hx hb dX7_brickNow_52 rfl (lv_at hl 1 rfl) ?_
          refine lv_iload hx hb dX7_brickNow_53 (lv_at hl 5 rfl) ?_
          refine va_put (D := (dC, dI)) (ci := 7) (v := .int fl) (ty := .int) (C := RX7) (T := TX7) (N := 31) hx hb hts hiX7 tyX7 tyX7_ok nmX7 hown hK hP hD hS 0 rfl rfl 2 (by decide) (hts (.fieldLink RX7 73 "LeftProfileModel" "floor" "I") (List.mem_of_getElem? (i := 1) rfl)) (fun _ h9 => h9) rfl (by decide +kernel) rfl rfl (Nat.le_of_ble_eq_true rfl) dX7_brickNow_55 (fun H locs hP hD hS => ?_)
          have hP : va_P (dC, dI) vwCl [(h0, .inr (7, [.int ih, .int hn, .int fl, .int da, .int ds, .int ac, .int (nI kc), .ref m1, .ref m2, .ref m3, .ref m4, .ref m5, .int (nI pl), .ref pg, .int fa, .int nf, .ref m6, .ref m7, .ref m8, .long sd, .int ik, .int kh, .int (nI km), .int ka, .int ks, .int kac, .ref m9, .ref m10, .ref m11, .ref m12, .long hv])), (m1, .inl (cI, 6, .inl g1)), (m2, .inl (cI, 6, .inl g2))] H := hP
          have hD : va_D A [(h0, .inr (7, [.int ih, .int hn, .int fl, .int da, .int ds, .int ac, .int (nI kc), .ref m1, .ref m2, .ref m3, .ref m4, .ref m5, .int (nI pl), .ref pg, .int fa, .int nf, .ref m6, .ref m7, .ref m8, .long sd, .int ik, .int kh, .int (nI km), .int ka, .int ks, .int kac, .ref m9, .ref m10, .ref m11, .ref m12, .long hv])), (m1, .inl (cI, 6, .inl g1)), (m2, .inl (cI, 6, .inl g2))] := hD
          refine lv_iload hx hb dX7_brickNow_58 (lv_at hl 0 rfl) ?_
          refine lv_iload_n hx hb dX7_brickNow_60 rfl (lv_at hl 4 rfl) ?_
          refine lv_icmp_ge (tgt := 69) hx hb dX7_brickNow_61 (by decide) (fun c_10 => ?_) (fun c_10 => ?_)
          · refine lv_iload_n hx hb dX7_brickNow_69 rfl (lv_at hl 3 rfl) ?_
            refine lv_istore_n (lv' := [(2, .int y2), (6, .int r_9), (0, .ref h0), (1, .int p0), (3, .int y3), (4, .int fl), (5, .int (nI i14))]) hx hb dX7_brickNow_70 rfl hl (by decide) rfl (fun ls hl => ?_)
            refine lv_iload hx hb dX7_brickNow_71 (lv_at hl 1 rfl) ?_
            refine lv_iload_n hx hb dX7_brickNow_73 rfl (lv_at hl 4 rfl) ?_
            refine lv_icmp_ge (tgt := 82) hx hb dX7_brickNow_74 (by decide) (fun c_11 => ?_) (fun c_11 => ?_)
            · refine lv_iload_n hx hb dX7_brickNow_82 rfl (lv_at hl 4 rfl) ?_
              refine lv_istore_n (lv' := [(3, .int y3), (2, .int y2), (6, .int r_9), (0, .ref h0), (1, .int p0), (4, .int fl), (5, .int (nI i14))]) hx hb dX7_brickNow_83 rfl hl (by decide) rfl (fun ls hl => ?_)
              refine lv_iinc (v := (nI (i14 + 1))) (lv' := [(5, .int (nI (i14 + 1))), (3, .int y3), (2, .int y2), (6, .int r_9), (0, .ref h0), (1, .int p0), (4, .int fl)]) hx hb dX7_brickNow_84 hl (k := 6) rfl (nI_add i14 1) (by decide) rfl (fun ls hl => ?_)
              refine lv_goto (tgt := 14) hx hb dX7_brickNow_87 (by decide) ?_
              exact ih14 (i14 + 1) y2 y3 H locs ls (by omega)  hP hD hS (lv_sub hl [4, 5, 2, 1, 6, 0] rfl)
            · refine lv_iload hx hb dX7_brickNow_77 (lv_at hl 1 rfl) ?_
              refine lv_goto (tgt := 83) hx hb dX7_brickNow_79 (by decide) ?_
              refine lv_istore_n (lv' := [(3, .int r_9), (2, .int y2), (6, .int r_9), (0, .ref h0), (1, .int p0), (4, .int fl), (5, .int (nI i14))]) hx hb dX7_brickNow_83 rfl hl (by decide) rfl (fun ls hl => ?_)
              refine lv_iinc (v := (nI (i14 + 1))) (lv' := [(5, .int (nI (i14 + 1))), (3, .int r_9), (2, .int y2), (6, .int r_9), (0, .ref h0), (1, .int p0), (4, .int fl)]) hx hb dX7_brickNow_84 hl (k := 6) rfl (nI_add i14 1) (by decide) rfl (fun ls hl => ?_)
              refine lv_goto (tgt := 14) hx hb dX7_brickNow_87 (by decide) ?_
              exact ih14 (i14 + 1) y2 r_9 H locs ls (by omega)  hP hD hS (lv_sub hl [4, 5, 2, 1, 6, 0] rfl)
          · refine lv_iload hx hb dX7_brickNow_64 (lv_at hl 6 rfl) ?_
            refine lv_goto (tgt := 70) hx hb dX7_brickNow_66 (by decide) ?_
            refine lv_istore_n (lv' := [(2, .int (nI i14)), (6, .int r_9), (0, .ref h0), (1, .int p0), (3, .int y3), (4, .int fl), (5, .int (nI i14))]) hx hb dX7_brickNow_70 rfl hl (by decide) rfl (fun ls hl => ?_)
            refine lv_iload hx hb dX7_brickNow_71 (lv_at hl 1 rfl) ?_
            refine lv_iload_n hx hb dX7_brickNow_73 rfl (lv_at hl 4 rfl) ?_
            refine lv_icmp_ge (tgt := 82) hx hb dX7_brickNow_74 (by decide) (fun c_12 => ?_) (fun c_12 => ?_)
            · refine lv_iload_n hx hb dX7_brickNow_82 rfl (lv_at hl 4 rfl) ?_
              refine lv_istore_n (lv' := [(3, .int y3), (2, .int (nI i14)), (6, .int r_9), (0, .ref h0), (1, .int p0), (4, .int fl), (5, .int (nI i14))]) hx hb dX7_brickNow_83 rfl hl (by decide) rfl (fun ls hl => ?_)
              refine lv_iinc (v := (nI (i14 + 1))) (lv' := [(5, .int (nI (i14 + 1))), (3, .int y3), (2, .int (nI i14)), (6, .int r_9), (0, .ref h0), (1, .int p0), (4, .int fl)]) hx hb dX7_brickNow_84 hl (k := 6) rfl (nI_add i14 1) (by decide) rfl (fun ls hl => ?_)
              refine lv_goto (tgt := 14) hx hb dX7_brickNow_87 (by decide) ?_
              exact ih14 (i14 + 1) (nI i14) y3 H locs ls (by omega)  hP hD hS (lv_sub hl [4, 5, 2, 1, 6, 0] rfl)
            · refine lv_iload hx hb dX7_brickNow_77 (lv_at hl 1 rfl) ?_
              refine lv_goto (tgt := 83) hx hb dX7_brickNow_79 (by decide) ?_
              refine lv_istore_n (lv' := [(3, .int r_9), (2, .int (nI i14)), (6, .int r_9), (0, .ref h0), (1, .int p0), (4, .int fl), (5, .int (nI i14))]) hx hb dX7_brickNow_83 rfl hl (by decide) rfl (fun ls hl => ?_)
              refine lv_iinc (v := (nI (i14 + 1))) (lv' := [(5, .int (nI (i14 + 1))), (3, .int r_9), (2, .int (nI i14)), (6, .int r_9), (0, .ref h0), (1, .int p0), (4, .int fl)]) hx hb dX7_brickNow_84 hl (k := 6) rfl (nI_add i14 1) (by decide) rfl (fun ls hl => ?_)
              refine lv_goto (tgt := 14) hx hb dX7_brickNow_87 (by decide) ?_
              exact ih14 (i14 + 1) (nI i14) r_9 H locs ls (by omega)  hP hD hS (lv_sub hl [4, 5, 2, 1, 6, 0] rfl)
  exact lp14 20 0 (-1) 20 s.heap [] ls (by omega)  hP hD hS (lv_sub hl [4, 5, 3, 2, 1, 0] rfl)

set_option maxHeartbeats 4000000 in
set_option maxRecDepth 100000 in
theorem c_X7_brick (l : Launch) (dC : Nat → ClassId) (dI : Nat → Nat → Nat) (cI cB : ClassId) (h0 : Nat) (p0 : Int32) (ih : Int32) (hn : Int32) (fl : Int32) (da : Int32) (ds : Int32) (ac : Int32) (kc : Nat) (m1 : Nat) (m2 : Nat) (m3 : Nat) (m4 : Nat) (m5 : Nat) (pl : Nat) (pg : Nat) (fa : Int32) (nf : Int32) (m6 : Nat) (m7 : Nat) (m8 : Nat) (sd : Int64) (ik : Int32) (kh : Int32) (km : Nat) (ka : Int32) (ks : Int32) (kac : Int32) (m9 : Nat) (m10 : Nat) (m11 : Nat) (m12 : Nat) (hv : Int64) (g1 : Nat → Int32) (g2 : Nat → Int32) (sz : Nat) (hkc : kc ≤ 6) (hpl : cz_pl g2) (hdu : cz_du da ds) : Met l yX7_brick wsX7_brick ({ frames := 6, cells := 0, slots := 0, locals := 142 }) (cz_Pm dC dI cI cB [.ref h0, .int p0] [(h0, .inr (7, [.int ih, .int hn, .int fl, .int da, .int ds, .int ac, .int (nI kc), .ref m1, .ref m2, .ref m3, .ref m4, .ref m5, .int (nI pl), .ref pg, .int fa, .int nf, .ref m6, .ref m7, .ref m8, .long sd, .int ik, .int kh, .int (nI km), .int ka, .int ks, .int kac, .ref m9, .ref m10, .ref m11, .ref m12, .long hv])), (m1, .inl (cI, 6, .inl g1)), (m2, .inl (cI, 6, .inl g2))] sz) (va_Qi (fun (r : Int32) (_ : Unit) => True) (fun _ t => va_P (dC, dI) vwCl [(h0, .inr (7, [.int ih, .int hn, .int fl, .int da, .int ds, .int ac, .int (nI kc), .ref m1, .ref m2, .ref m3, .ref m4, .ref m5, .int (nI pl), .ref pg, .int fa, .int nf, .ref m6, .ref m7, .ref m8, .long sd, .int ik, .int kh, .int (nI km), .int ka, .int ks, .int kac, .ref m9, .ref m10, .ref m11, .ref m12, .long hv])), (m1, .inl (cI, 6, .inl g1)), (m2, .inl (cI, 6, .inl g2))] t.heap ∧ va_D (va_A [(h0, .inr (7, [.int ih, .int hn, .int fl, .int da, .int ds, .int ac, .int (nI kc), .ref m1, .ref m2, .ref m3, .ref m4, .ref m5, .int (nI pl), .ref pg, .int fa, .int nf, .ref m6, .ref m7, .ref m8, .long sd, .int ik, .int kh, .int (nI km), .int ka, .int ks, .int kac, .ref m9, .ref m10, .ref m11, .ref m12, .long hv])), (m1, .inl (cI, 6, .inl g1)), (m2, .inl (cI, 6, .inl g2))] sz) [(h0, .inr (7, [.int ih, .int hn, .int fl, .int da, .int ds, .int ac, .int (nI kc), .ref m1, .ref m2, .ref m3, .ref m4, .ref m5, .int (nI pl), .ref pg, .int fa, .int nf, .ref m6, .ref m7, .ref m8, .long sd, .int ik, .int kh, .int (nI km), .int ka, .int ks, .int kac, .ref m9, .ref m10, .ref m11, .ref m12, .long hv])), (m1, .inl (cI, 6, .inl g1)), (m2, .inl (cI, 6, .inl g2))]) (va_A [(h0, .inr (7, [.int ih, .int hn, .int fl, .int da, .int ds, .int ac, .int (nI kc), .ref m1, .ref m2, .ref m3, .ref m4, .ref m5, .int (nI pl), .ref pg, .int fa, .int nf, .ref m6, .ref m7, .ref m8, .long sd, .int ik, .int kh, .int (nI km), .int ka, .int ks, .int kac, .ref m9, .ref m10, .ref m11, .ref m12, .long hv])), (m1, .inl (cI, 6, .inl g1)), (m2, .inl (cI, 6, .inl g2))] sz)) 0 0 (va_A [(h0, .inr (7, [.int ih, .int hn, .int fl, .int da, .int ds, .int ac, .int (nI kc), .ref m1, .ref m2, .ref m3, .ref m4, .ref m5, .int (nI pl), .ref pg, .int fa, .int nf, .ref m6, .ref m7, .ref m8, .long sd, .int ik, .int kh, .int (nI km), .int ka, .int ks, .int kac, .ref m9, .ref m10, .ref m11, .ref m12, .long hv])), (m1, .inl (cI, 6, .inl g1)), (m2, .inl (cI, 6, .inl g2))] sz) := by
  refine cz_of (cc := cX7_brick) (maxL := 2) (ret := (some .int)) (by decide) rfl ?_
  intro p e s m args below meth c s₁ Q B hml hv hQ
  obtain ⟨rfl, hsz, hP, hN, hD0⟩ := hv
  have hx := B.exec
  have hb := B.bytes
  have hr := B.returns
  have hts := atoms_spec (ws := wsX7_brick) B.pre
  have hown : s.vm.findClass RX7 = some m.cls := findClass_of_methodNamed B.named
  have hlocks := B.notSynchronized
  have hK := hN.1
  have hiX7 : ∀ w ∈ wsX70, w ∈ wsX7_brick := (fun _ h => List.mem_cons_of_mem _ (List.mem_append_right _ h))
  subst hsz
  have hD := hD0.self (sz := s.heap.size)
  generalize hAe : va_A [(h0, .inr (7, [.int ih, .int hn, .int fl, .int da, .int ds, .int ac, .int (nI kc), .ref m1, .ref m2, .ref m3, .ref m4, .ref m5, .int (nI pl), .ref pg, .int fa, .int nf, .ref m6, .ref m7, .ref m8, .long sd, .int ik, .int kh, .int (nI km), .int ka, .int ks, .int kac, .ref m9, .ref m10, .ref m11, .ref m12, .long hv])), (m1, .inl (cI, 6, .inl g1)), (m2, .inl (cI, 6, .inl g2))] s.heap.size = A at hD hQ ⊢
  have hA : ∀ q : Nat, s.heap.size ≤ q → A q := fun q h => by rw [← hAe]; exact Or.inr h
  have hS : va_S A s.heap s.heap [] := va_S.rf
  obtain ⟨H, eH⟩ : ∃ H, H = s.heap := ⟨_, rfl⟩
  have hP : va_P (dC, dI) vwCl [(h0, .inr (7, [.int ih, .int hn, .int fl, .int da, .int ds, .int ac, .int (nI kc), .ref m1, .ref m2, .ref m3, .ref m4, .ref m5, .int (nI pl), .ref pg, .int fa, .int nf, .ref m6, .ref m7, .ref m8, .long sd, .int ik, .int kh, .int (nI km), .int ka, .int ks, .int kac, .ref m9, .ref m10, .ref m11, .ref m12, .long hv])), (m1, .inl (cI, 6, .inl g1)), (m2, .inl (cI, 6, .inl g2))] s.heap := hP
  have hl := lv_entry ([.ref h0, .int p0]) (n := 2) (Nat.le_of_ble_eq_true rfl)
  rw [lg_entry_eq]
  generalize (lg_sl ([.ref h0, .int p0]) ++ List.replicate (2 - (lg_sl ([.ref h0, .int p0])).length) Slot.unset).toArray = ls at hl ⊢
  have hl : lv_has ls 2 [(0, .ref h0), (1, .int p0)] := hl
  refine lv_iload_n hx hb dX7_brick_0 rfl (lv_at hl 1 rfl) ?_
  refine lv_iconst (v := 0) hx hb dX7_brick_1 (by decide) ?_
  refine lv_iconst (v := 1) hx hb dX7_brick_2 (by decide) ?_
  refine vp_callSi (cz_run (va_runS (As := [.int p0, .int 0, .int 1]) (rest := []) ⟨hx, hb, hml, hown, hts⟩ (c_X7_within l dC dI cI cB p0 0 1 ) (va_cwS 3 hts gX7_brick_X7_within rfl rfl rfl (by decide +kernel) ⟨Nat.le_of_ble_eq_true rfl, Nat.le_of_ble_eq_true rfl⟩) (cz_pS (hP.sub (ws' := []) [] rfl) hN) rfl rfl hl.1 rfl (lv_room (Nat.le_of_ble_eq_true rfl)) dX7_brick_3 ⟨Nat.le_of_ble_eq_true rfl, Nat.le_of_ble_eq_true rfl⟩)) (fun r_1 hr_1 => ?_)
  rcases hr_1 with ⟨rfl, hr_1⟩ | ⟨rfl, hr_1⟩
  · refine lv_if_ne (tgt := 12) hx hb dX7_brick_6 (by decide) (fun c => absurd (by decide) c) (fun _ => ?_)
    refine lv_bipush (v := (-102)) hx hb dX7_brick_9 (by decide) ?_
    refine W.widen (k := 0) (n := 0) (Nat.le_of_ble_eq_true rfl) (Nat.le_of_ble_eq_true rfl) ?_
    have hP9 := hP.sub (ws' := [(h0, .inr (7, [.int ih, .int hn, .int fl, .int da, .int ds, .int ac, .int (nI kc), .ref m1, .ref m2, .ref m3, .ref m4, .ref m5, .int (nI pl), .ref pg, .int fa, .int nf, .ref m6, .ref m7, .ref m8, .long sd, .int ik, .int kh, .int (nI km), .int ka, .int ks, .int kac, .ref m9, .ref m10, .ref m11, .ref m12, .long hv])), (m1, .inl (cI, 6, .inl g1)), (m2, .inl (cI, 6, .inl g2))]) [0, 1, 2] rfl
    have hD9 := hD.sub (ws' := [(h0, .inr (7, [.int ih, .int hn, .int fl, .int da, .int ds, .int ac, .int (nI kc), .ref m1, .ref m2, .ref m3, .ref m4, .ref m5, .int (nI pl), .ref pg, .int fa, .int nf, .ref m6, .ref m7, .ref m8, .long sd, .int ik, .int kh, .int (nI km), .int ka, .int ks, .int kac, .ref m9, .ref m10, .ref m11, .ref m12, .long hv])), (m1, .inl (cI, 6, .inl g1)), (m2, .inl (cI, 6, .inl g2))]) [0, 1, 2] (by decide) rfl
    rw [hQ]; exact W.iret (v := (-102)) hx hb hr (fun t ht hW => ⟨⟨(-102), (), rfl, trivial, ⟨by rw [ht]; exact hP9, hD9⟩⟩, hS.F ht⟩) hS.2.2 dX7_brick_11
  · refine lv_if_ne (tgt := 12) hx hb dX7_brick_6 (by decide) (fun _ => ?_) (fun c => absurd c (by decide))
    refine lv_aload_n hx hb dX7_brick_12 rfl (lv_at hl 0 rfl) ?_
    refine va_get (D := (dC, dI)) (ci := 7) (v := .int da) (C := RX7) (T := TX7) (N := 31) hx hb hts hiX7 hown hK hP 0 rfl rfl 3 (by decide) (hts (.fieldLink RX7 7 "LeftProfileModel" "dukeAt" "I") (List.mem_of_getElem? (i := 1) rfl)) (fun _ h9 => h9) rfl dX7_brick_13 ?_
    refine lv_iconst (v := (-1)) hx hb dX7_brick_16 (by decide) ?_
    refine lv_icmp_ne (tgt := 25) hx hb dX7_brick_17 (by decide) (fun c_2 => ?_) (fun c_2 => ?_)
    · refine lv_aload_n hx hb dX7_brick_25 rfl (lv_at hl 0 rfl) ?_
      refine lv_iload_n hx hb dX7_brick_26 rfl (lv_at hl 1 rfl) ?_
      have hPc := hP.sub (ws' := [(h0, .inr (7, [.int ih, .int hn, .int fl, .int da, .int ds, .int ac, .int (nI kc), .ref m1, .ref m2, .ref m3, .ref m4, .ref m5, .int (nI pl), .ref pg, .int fa, .int nf, .ref m6, .ref m7, .ref m8, .long sd, .int ik, .int kh, .int (nI km), .int ka, .int ks, .int kac, .ref m9, .ref m10, .ref m11, .ref m12, .long hv])), (m1, .inl (cI, 6, .inl g1)), (m2, .inl (cI, 6, .inl g2))]) [0, 1, 2] rfl
      have hDc := hD.sub (ws' := [(h0, .inr (7, [.int ih, .int hn, .int fl, .int da, .int ds, .int ac, .int (nI kc), .ref m1, .ref m2, .ref m3, .ref m4, .ref m5, .int (nI pl), .ref pg, .int fa, .int nf, .ref m6, .ref m7, .ref m8, .long sd, .int ik, .int kh, .int (nI km), .int ka, .int ks, .int kac, .ref m9, .ref m10, .ref m11, .ref m12, .long hv])), (m1, .inl (cI, 6, .inl g1)), (m2, .inl (cI, 6, .inl g2))]) [0, 1, 2] (by decide) rfl
      have hFc := va_free (wc := [(h0, .inr (7, [.int ih, .int hn, .int fl, .int da, .int ds, .int ac, .int (nI kc), .ref m1, .ref m2, .ref m3, .ref m4, .ref m5, .int (nI pl), .ref pg, .int fa, .int nf, .ref m6, .ref m7, .ref m8, .long sd, .int ik, .int kh, .int (nI km), .int ka, .int ks, .int kac, .ref m9, .ref m10, .ref m11, .ref m12, .long hv])), (m1, .inl (cI, 6, .inl g1)), (m2, .inl (cI, 6, .inl g2))]) hD hS hA [0, 1, 2] rfl
      refine va_calli (va_runV (As := [.int p0]) (rest := []) ⟨hx, hb, hml, hown, hts⟩ (c_X7_brickNow l dC dI cI cB h0 p0 ih hn fl da ds ac kc m1 m2 m3 m4 m5 pl pg fa nf m6 m7 m8 sd ik kh km ka ks kac m9 m10 m11 m12 hv g1 g2 s.heap.size hkc hpl hdu) (cwV 1 hts gX7_brick_X7_brickNow rfl rfl rfl (by decide +kernel) ⟨Nat.le_of_ble_eq_true rfl, Nat.le_of_ble_eq_true rfl⟩) (cz_mV hPc hN hDc (va_recv hK hPc (ci := 7) (q0 := 0) rfl rfl)) rfl rfl hl.1 rfl (lv_room (Nat.le_of_ble_eq_true rfl)) dX7_brick_27 ⟨Nat.le_of_ble_eq_true rfl, Nat.le_of_ble_eq_true rfl⟩) hS (fun q _ h => hFc q h) hFc (fun r_3 u t H1 locs ht hvm hr_3 hB hz1 hk1 hS => ?_)
      obtain ⟨hP1, hD1⟩ := hB
      rw [ht] at hP1
      obtain ⟨hP, hD⟩ := va_join (wr := []) (w1 := [(h0, .inr (7, [.int ih, .int hn, .int fl, .int da, .int ds, .int ac, .int (nI kc), .ref m1, .ref m2, .ref m3, .ref m4, .ref m5, .int (nI pl), .ref pg, .int fa, .int nf, .ref m6, .ref m7, .ref m8, .long sd, .int ik, .int kh, .int (nI km), .int ka, .int ks, .int kac, .ref m9, .ref m10, .ref m11, .ref m12, .long hv])), (m1, .inl (cI, 6, .inl g1)), (m2, .inl (cI, 6, .inl g2))]) hP hD [0, 1, 2] [] rfl rfl (by decide) (by decide) hk1 hFc hP1 hD1
      generalize H1 = H at hP hS ⊢
      have hP : va_P (dC, dI) vwCl [(h0, .inr (7, [.int ih, .int hn, .int fl, .int da, .int ds, .int ac, .int (nI kc), .ref m1, .ref m2, .ref m3, .ref m4, .ref m5, .int (nI pl), .ref pg, .int fa, .int nf, .ref m6, .ref m7, .ref m8, .long sd, .int ik, .int kh, .int (nI km), .int ka, .int ks, .int kac, .ref m9, .ref m10, .ref m11, .ref m12, .long hv])), (m1, .inl (cI, 6, .inl g1)), (m2, .inl (cI, 6, .inl g2))] H := hP
      have hD : va_D A [(h0, .inr (7, [.int ih, .int hn, .int fl, .int da, .int ds, .int ac, .int (nI kc), .ref m1, .ref m2, .ref m3, .ref m4, .ref m5, .int (nI pl), .ref pg, .int fa, .int nf, .ref m6, .ref m7, .ref m8, .long sd, .int ik, .int kh, .int (nI km), .int ka, .int ks, .int kac, .ref m9, .ref m10, .ref m11, .ref m12, .long hv])), (m1, .inl (cI, 6, .inl g1)), (m2, .inl (cI, 6, .inl g2))] := hD
      refine W.widen (k := 0) (n := 0) (Nat.le_of_ble_eq_true rfl) (Nat.le_of_ble_eq_true rfl) ?_
      have hP9 := hP.sub (ws' := [(h0, .inr (7, [.int ih, .int hn, .int fl, .int da, .int ds, .int ac, .int (nI kc), .ref m1, .ref m2, .ref m3, .ref m4, .ref m5, .int (nI pl), .ref pg, .int fa, .int nf, .ref m6, .ref m7, .ref m8, .long sd, .int ik, .int kh, .int (nI km), .int ka, .int ks, .int kac, .ref m9, .ref m10, .ref m11, .ref m12, .long hv])), (m1, .inl (cI, 6, .inl g1)), (m2, .inl (cI, 6, .inl g2))]) [0, 1, 2] rfl
      have hD9 := hD.sub (ws' := [(h0, .inr (7, [.int ih, .int hn, .int fl, .int da, .int ds, .int ac, .int (nI kc), .ref m1, .ref m2, .ref m3, .ref m4, .ref m5, .int (nI pl), .ref pg, .int fa, .int nf, .ref m6, .ref m7, .ref m8, .long sd, .int ik, .int kh, .int (nI km), .int ka, .int ks, .int kac, .ref m9, .ref m10, .ref m11, .ref m12, .long hv])), (m1, .inl (cI, 6, .inl g1)), (m2, .inl (cI, 6, .inl g2))]) [0, 1, 2] (by decide) rfl
      rw [hQ]; exact W.iret (v := r_3) hx hb hr (fun t ht hW => ⟨⟨r_3, (), rfl, trivial, ⟨by rw [ht]; exact hP9, hD9⟩⟩, hS.F ht⟩) hS.2.2 dX7_brick_30
    · refine lv_bipush (v := (-103)) hx hb dX7_brick_20 (by decide) ?_
      refine lv_goto (tgt := 30) hx hb dX7_brick_22 (by decide) ?_
      refine W.widen (k := 0) (n := 0) (Nat.le_of_ble_eq_true rfl) (Nat.le_of_ble_eq_true rfl) ?_
      have hP9 := hP.sub (ws' := [(h0, .inr (7, [.int ih, .int hn, .int fl, .int da, .int ds, .int ac, .int (nI kc), .ref m1, .ref m2, .ref m3, .ref m4, .ref m5, .int (nI pl), .ref pg, .int fa, .int nf, .ref m6, .ref m7, .ref m8, .long sd, .int ik, .int kh, .int (nI km), .int ka, .int ks, .int kac, .ref m9, .ref m10, .ref m11, .ref m12, .long hv])), (m1, .inl (cI, 6, .inl g1)), (m2, .inl (cI, 6, .inl g2))]) [0, 1, 2] rfl
      have hD9 := hD.sub (ws' := [(h0, .inr (7, [.int ih, .int hn, .int fl, .int da, .int ds, .int ac, .int (nI kc), .ref m1, .ref m2, .ref m3, .ref m4, .ref m5, .int (nI pl), .ref pg, .int fa, .int nf, .ref m6, .ref m7, .ref m8, .long sd, .int ik, .int kh, .int (nI km), .int ka, .int ks, .int kac, .ref m9, .ref m10, .ref m11, .ref m12, .long hv])), (m1, .inl (cI, 6, .inl g1)), (m2, .inl (cI, 6, .inl g2))]) [0, 1, 2] (by decide) rfl
      rw [hQ]; exact W.iret (v := (-103)) hx hb hr (fun t ht hW => ⟨⟨(-103), (), rfl, trivial, ⟨by rw [ht]; exact hP9, hD9⟩⟩, hS.F ht⟩) hS.2.2 dX7_brick_30

set_option maxHeartbeats 4000000 in
set_option maxRecDepth 100000 in
theorem c_X7_only (l : Launch) (dC : Nat → ClassId) (dI : Nat → Nat → Nat) (cI cB : ClassId) (p0 : Int32) : Met l yX7_only wsX7_only ({ frames := 0, cells := 0, slots := 0, locals := 0 }) (cz_Pp dC dI cI cB [.int p0] []) (vp_Si (fun r : Int32 => True)) 0 0 (fun _ => False) := by
  refine cz_of (cc := cX7_only) (maxL := 3) (ret := (some .int)) (by decide) rfl ?_
  intro p e s m args below meth c s₁ Q B hml hv hQ
  obtain ⟨rfl, hP, hN⟩ := hv
  have hx := B.exec
  have hb := B.bytes
  have hr := B.returns
  have hts := atoms_spec (ws := wsX7_only) B.pre
  have hown : s.vm.findClass RX7 = some m.cls := findClass_of_methodNamed B.named
  have hlocks := B.notSynchronized
  have hK := hN.1
  have hl := lv_entry ([.int p0]) (n := 3) (Nat.le_of_ble_eq_true rfl)
  rw [lg_entry_eq]
  generalize (lg_sl ([.int p0]) ++ List.replicate (3 - (lg_sl ([.int p0])).length) Slot.unset).toArray = ls at hl ⊢
  have hl : lv_has ls 3 [(0, .int p0)] := hl
  refine lv_iconst (v := (-1)) hx hb dX7_only_0 (by decide) ?_
  refine lv_istore_n (lv' := [(1, .int (-1)), (0, .int p0)]) hx hb dX7_only_1 rfl hl (by decide) rfl (fun ls hl => ?_)
  refine lv_iconst (v := 0) hx hb dX7_only_2 (by decide) ?_
  refine lv_istore_n (lv' := [(2, .int 0), (1, .int (-1)), (0, .int p0)]) hx hb dX7_only_3 rfl hl (by decide) rfl (fun ls hl => ?_)
  have lp4 : ∀ (n4 : Nat) (i4 : Nat) (y1 : Int32) (ls : Array Slot), i4 + n4 = 20 → lv_has ls 3 [(0, .int p0), (1, .int y1), (2, .int (nI i4))] → W p l e ({ frames := 0, cells := 0, slots := 0, locals := 0 } : Room) s m #[Value.int p0] below meth c s.heap [] 0 0 Q (F0 m 4 ls []) := by
    intro n4
    induction n4 with
    | zero =>
      intro i4 y1 ls hi4  hl
      obtain rfl : i4 = 20 := by omega
      have hl : lv_has ls 3 [(0, .int p0), (1, .int y1), (2, .int 20)] := hl
      refine lv_iload_n hx hb dX7_only_4 rfl (lv_at hl 2 rfl) ?_
      refine lv_bipush (v := 20) hx hb dX7_only_5 (by decide) ?_
      refine lv_icmp_ge (tgt := 29) hx hb dX7_only_7 (by decide) (fun _ => ?_) (fun c => absurd (by decide) c)
      refine lv_iload_n hx hb dX7_only_29 rfl (lv_at hl 1 rfl) ?_
      rw [hQ]; exact W.iret (v := y1) hx hb hr (fun t ht hW => ⟨y1, rfl, trivial, ht⟩) (fun _ h => absurd h List.not_mem_nil) dX7_only_30
    | succ n4 ih4 =>
      intro i4 y1 ls hi4  hl
      refine lv_iload_n hx hb dX7_only_4 rfl (lv_at hl 2 rfl) ?_
      refine lv_bipush (v := 20) hx hb dX7_only_5 (by decide) ?_
      refine lv_icmp_ge (tgt := 29) hx hb dX7_only_7 (by decide) (fun c_1 => ?_) (fun c_1 => ?_)
      · exact absurd c_1 (show ¬ (20 : Int32) ≤ nI i4 from nI_ge (a := i4) (b := 20) (by omega) (by omega))
      · refine lv_iload_n hx hb dX7_only_10 rfl (lv_at hl 0 rfl) ?_
        refine lv_iconst (v := 1) hx hb dX7_only_11 (by decide) ?_
        refine lv_iload_n hx hb dX7_only_12 rfl (lv_at hl 2 rfl) ?_
        refine lv_ishl hx hb dX7_only_13 ?_
        refine lv_topi (fun x_2 ex_2 => ?_)
        refine lv_icmp_ne (tgt := 21) hx hb dX7_only_14 (by decide) (fun c_3 => ?_) (fun c_3 => ?_)
        · refine lv_iload_n hx hb dX7_only_21 rfl (lv_at hl 1 rfl) ?_
          refine lv_istore_n (lv' := [(1, .int y1), (0, .int p0), (2, .int (nI i4))]) hx hb dX7_only_22 rfl hl (by decide) rfl (fun ls hl => ?_)
          refine lv_iinc (v := (nI (i4 + 1))) (lv' := [(2, .int (nI (i4 + 1))), (1, .int y1), (0, .int p0)]) hx hb dX7_only_23 hl (k := 2) rfl (nI_add i4 1) (by decide) rfl (fun ls hl => ?_)
          refine lv_goto (tgt := 4) hx hb dX7_only_26 (by decide) ?_
          exact ih4 (i4 + 1) y1 ls (by omega)  (lv_sub hl [2, 1, 0] rfl)
        · refine lv_iload_n hx hb dX7_only_17 rfl (lv_at hl 2 rfl) ?_
          refine lv_goto (tgt := 22) hx hb dX7_only_18 (by decide) ?_
          refine lv_istore_n (lv' := [(1, .int (nI i4)), (0, .int p0), (2, .int (nI i4))]) hx hb dX7_only_22 rfl hl (by decide) rfl (fun ls hl => ?_)
          refine lv_iinc (v := (nI (i4 + 1))) (lv' := [(2, .int (nI (i4 + 1))), (1, .int (nI i4)), (0, .int p0)]) hx hb dX7_only_23 hl (k := 2) rfl (nI_add i4 1) (by decide) rfl (fun ls hl => ?_)
          refine lv_goto (tgt := 4) hx hb dX7_only_26 (by decide) ?_
          exact ih4 (i4 + 1) (nI i4) ls (by omega)  (lv_sub hl [2, 1, 0] rfl)
  exact lp4 20 0 (-1) ls (by omega)  (lv_sub hl [2, 1, 0] rfl)

set_option maxHeartbeats 4000000 in
set_option maxRecDepth 100000 in
theorem c_X7_stoodNow (l : Launch) (dC : Nat → ClassId) (dI : Nat → Nat → Nat) (cI cB : ClassId) (h0 : Nat) (p0 : Int32) (ih : Int32) (hn : Int32) (fl : Int32) (da : Int32) (ds : Int32) (ac : Int32) (kc : Nat) (m1 : Nat) (m2 : Nat) (m3 : Nat) (m4 : Nat) (m5 : Nat) (pl : Nat) (pg : Nat) (fa : Int32) (nf : Int32) (m6 : Nat) (m7 : Nat) (m8 : Nat) (sd : Int64) (ik : Int32) (kh : Int32) (km : Nat) (ka : Int32) (ks : Int32) (kac : Int32) (m9 : Nat) (m10 : Nat) (m11 : Nat) (m12 : Nat) (hv : Int64) (g1 : Nat → Int32) (g2 : Nat → Int32) (g5 : Nat → Int32) (sz : Nat) (hkc : kc ≤ 6) (hpl : cz_pl g2) : Met l yX7_stoodNow wsX7_stoodNow ({ frames := 4, cells := 0, slots := 0, locals := 94 }) (cz_Pm dC dI cI cB [.ref h0, .int p0] [(h0, .inr (7, [.int ih, .int hn, .int fl, .int da, .int ds, .int ac, .int (nI kc), .ref m1, .ref m2, .ref m3, .ref m4, .ref m5, .int (nI pl), .ref pg, .int fa, .int nf, .ref m6, .ref m7, .ref m8, .long sd, .int ik, .int kh, .int (nI km), .int ka, .int ks, .int kac, .ref m9, .ref m10, .ref m11, .ref m12, .long hv])), (m1, .inl (cI, 6, .inl g1)), (m2, .inl (cI, 6, .inl g2)), (m5, .inl (cI, 6, .inl g5))] sz) (va_Qi (fun (r : Int32) (_ : Unit) => True) (fun _ t => va_P (dC, dI) vwCl [(h0, .inr (7, [.int ih, .int hn, .int fl, .int da, .int ds, .int ac, .int (nI kc), .ref m1, .ref m2, .ref m3, .ref m4, .ref m5, .int (nI pl), .ref pg, .int fa, .int nf, .ref m6, .ref m7, .ref m8, .long sd, .int ik, .int kh, .int (nI km), .int ka, .int ks, .int kac, .ref m9, .ref m10, .ref m11, .ref m12, .long hv])), (m1, .inl (cI, 6, .inl g1)), (m2, .inl (cI, 6, .inl g2)), (m5, .inl (cI, 6, .inl g5))] t.heap ∧ va_D (va_A [(h0, .inr (7, [.int ih, .int hn, .int fl, .int da, .int ds, .int ac, .int (nI kc), .ref m1, .ref m2, .ref m3, .ref m4, .ref m5, .int (nI pl), .ref pg, .int fa, .int nf, .ref m6, .ref m7, .ref m8, .long sd, .int ik, .int kh, .int (nI km), .int ka, .int ks, .int kac, .ref m9, .ref m10, .ref m11, .ref m12, .long hv])), (m1, .inl (cI, 6, .inl g1)), (m2, .inl (cI, 6, .inl g2)), (m5, .inl (cI, 6, .inl g5))] sz) [(h0, .inr (7, [.int ih, .int hn, .int fl, .int da, .int ds, .int ac, .int (nI kc), .ref m1, .ref m2, .ref m3, .ref m4, .ref m5, .int (nI pl), .ref pg, .int fa, .int nf, .ref m6, .ref m7, .ref m8, .long sd, .int ik, .int kh, .int (nI km), .int ka, .int ks, .int kac, .ref m9, .ref m10, .ref m11, .ref m12, .long hv])), (m1, .inl (cI, 6, .inl g1)), (m2, .inl (cI, 6, .inl g2)), (m5, .inl (cI, 6, .inl g5))]) (va_A [(h0, .inr (7, [.int ih, .int hn, .int fl, .int da, .int ds, .int ac, .int (nI kc), .ref m1, .ref m2, .ref m3, .ref m4, .ref m5, .int (nI pl), .ref pg, .int fa, .int nf, .ref m6, .ref m7, .ref m8, .long sd, .int ik, .int kh, .int (nI km), .int ka, .int ks, .int kac, .ref m9, .ref m10, .ref m11, .ref m12, .long hv])), (m1, .inl (cI, 6, .inl g1)), (m2, .inl (cI, 6, .inl g2)), (m5, .inl (cI, 6, .inl g5))] sz)) 0 0 (va_A [(h0, .inr (7, [.int ih, .int hn, .int fl, .int da, .int ds, .int ac, .int (nI kc), .ref m1, .ref m2, .ref m3, .ref m4, .ref m5, .int (nI pl), .ref pg, .int fa, .int nf, .ref m6, .ref m7, .ref m8, .long sd, .int ik, .int kh, .int (nI km), .int ka, .int ks, .int kac, .ref m9, .ref m10, .ref m11, .ref m12, .long hv])), (m1, .inl (cI, 6, .inl g1)), (m2, .inl (cI, 6, .inl g2)), (m5, .inl (cI, 6, .inl g5))] sz) := by
  refine cz_of (cc := cX7_stoodNow) (maxL := 9) (ret := (some .int)) (by decide) rfl ?_
  intro p e s m args below meth c s₁ Q B hml hv hQ
  obtain ⟨rfl, hsz, hP, hN, hD0⟩ := hv
  have hx := B.exec
  have hb := B.bytes
  have hr := B.returns
  have hts := atoms_spec (ws := wsX7_stoodNow) B.pre
  have hown : s.vm.findClass RX7 = some m.cls := findClass_of_methodNamed B.named
  have hlocks := B.notSynchronized
  have hK := hN.1
  have hiX7 : ∀ w ∈ wsX70, w ∈ wsX7_stoodNow := (fun _ h => List.mem_cons_of_mem _ (List.mem_append_right _ h))
  subst hsz
  have hD := hD0.self (sz := s.heap.size)
  generalize hAe : va_A [(h0, .inr (7, [.int ih, .int hn, .int fl, .int da, .int ds, .int ac, .int (nI kc), .ref m1, .ref m2, .ref m3, .ref m4, .ref m5, .int (nI pl), .ref pg, .int fa, .int nf, .ref m6, .ref m7, .ref m8, .long sd, .int ik, .int kh, .int (nI km), .int ka, .int ks, .int kac, .ref m9, .ref m10, .ref m11, .ref m12, .long hv])), (m1, .inl (cI, 6, .inl g1)), (m2, .inl (cI, 6, .inl g2)), (m5, .inl (cI, 6, .inl g5))] s.heap.size = A at hD hQ ⊢
  have hA : ∀ q : Nat, s.heap.size ≤ q → A q := fun q h => by rw [← hAe]; exact Or.inr h
  have hS : va_S A s.heap s.heap [] := va_S.rf
  obtain ⟨H, eH⟩ : ∃ H, H = s.heap := ⟨_, rfl⟩
  have hP : va_P (dC, dI) vwCl [(h0, .inr (7, [.int ih, .int hn, .int fl, .int da, .int ds, .int ac, .int (nI kc), .ref m1, .ref m2, .ref m3, .ref m4, .ref m5, .int (nI pl), .ref pg, .int fa, .int nf, .ref m6, .ref m7, .ref m8, .long sd, .int ik, .int kh, .int (nI km), .int ka, .int ks, .int kac, .ref m9, .ref m10, .ref m11, .ref m12, .long hv])), (m1, .inl (cI, 6, .inl g1)), (m2, .inl (cI, 6, .inl g2)), (m5, .inl (cI, 6, .inl g5))] s.heap := hP
  have hl := lv_entry ([.ref h0, .int p0]) (n := 9) (Nat.le_of_ble_eq_true rfl)
  rw [lg_entry_eq]
  generalize (lg_sl ([.ref h0, .int p0]) ++ List.replicate (9 - (lg_sl ([.ref h0, .int p0])).length) Slot.unset).toArray = ls at hl ⊢
  have hl : lv_has ls 9 [(0, .ref h0), (1, .int p0)] := hl
  refine lv_aload_n hx hb dX7_stoodNow_0 rfl (lv_at hl 0 rfl) ?_
  refine va_get (D := (dC, dI)) (ci := 7) (v := .int da) (C := RX7) (T := TX7) (N := 31) hx hb hts hiX7 hown hK hP 0 rfl rfl 3 (by decide) (hts (.fieldLink RX7 7 "LeftProfileModel" "dukeAt" "I") (List.mem_of_getElem? (i := 1) rfl)) (fun _ h9 => h9) rfl dX7_stoodNow_1 ?_
  refine lv_istore_n (lv' := [(2, .int da), (0, .ref h0), (1, .int p0)]) hx hb dX7_stoodNow_4 rfl hl (by decide) rfl (fun ls hl => ?_)
  refine lv_aload_n hx hb dX7_stoodNow_5 rfl (lv_at hl 1 rfl) ?_
  refine va_get (D := (dC, dI)) (ci := 7) (v := .int ds) (C := RX7) (T := TX7) (N := 31) hx hb hts hiX7 hown hK hP 0 rfl rfl 4 (by decide) (hts (.fieldLink RX7 13 "LeftProfileModel" "dukeSide" "I") (List.mem_of_getElem? (i := 2) rfl)) (fun _ h9 => h9) rfl dX7_stoodNow_6 ?_
  refine lv_istore_n (lv' := [(3, .int ds), (2, .int da), (0, .ref h0), (1, .int p0)]) hx hb dX7_stoodNow_9 rfl hl (by decide) rfl (fun ls hl => ?_)
  refine lv_iconst (v := 0) hx hb dX7_stoodNow_10 (by decide) ?_
  refine lv_istore (lv' := [(4, .int 0), (3, .int ds), (2, .int da), (0, .ref h0), (1, .int p0)]) hx hb dX7_stoodNow_11 hl (by decide) rfl (fun ls hl => ?_)
  refine lv_iconst (v := 0) hx hb dX7_stoodNow_13 (by decide) ?_
  refine lv_istore (lv' := [(5, .int 0), (4, .int 0), (3, .int ds), (2, .int da), (0, .ref h0), (1, .int p0)]) hx hb dX7_stoodNow_14 hl (by decide) rfl (fun ls hl => ?_)
  refine lv_iconst (v := 0) hx hb dX7_stoodNow_16 (by decide) ?_
  refine lv_istore (lv' := [(6, .int 0), (5, .int 0), (4, .int 0), (3, .int ds), (2, .int da), (0, .ref h0), (1, .int p0)]) hx hb dX7_stoodNow_17 hl (by decide) rfl (fun ls hl => ?_)
  refine lv_aload_n hx hb dX7_stoodNow_19 rfl (lv_at hl 5 rfl) ?_
  refine lv_iconst (v := (-1)) hx hb dX7_stoodNow_20 (by decide) ?_
  refine va_put (D := (dC, dI)) (ci := 7) (v := .int (-1)) (ty := .int) (C := RX7) (T := TX7) (N := 31) hx hb hts hiX7 tyX7 tyX7_ok nmX7 hown hK hP hD hS 0 rfl rfl 3 (by decide) (hts (.fieldLink RX7 7 "LeftProfileModel" "dukeAt" "I") (List.mem_of_getElem? (i := 1) rfl)) (fun _ h9 => h9) rfl (by decide +kernel) rfl rfl (Nat.le_of_ble_eq_true rfl) dX7_stoodNow_21 (fun H locs hP hD hS => ?_)
  have hP : va_P (dC, dI) vwCl [(h0, .inr (7, [.int ih, .int hn, .int fl, .int (-1), .int ds, .int ac, .int (nI kc), .ref m1, .ref m2, .ref m3, .ref m4, .ref m5, .int (nI pl), .ref pg, .int fa, .int nf, .ref m6, .ref m7, .ref m8, .long sd, .int ik, .int kh, .int (nI km), .int ka, .int ks, .int kac, .ref m9, .ref m10, .ref m11, .ref m12, .long hv])), (m1, .inl (cI, 6, .inl g1)), (m2, .inl (cI, 6, .inl g2)), (m5, .inl (cI, 6, .inl g5))] H := hP
  have hD : va_D A [(h0, .inr (7, [.int ih, .int hn, .int fl, .int (-1), .int ds, .int ac, .int (nI kc), .ref m1, .ref m2, .ref m3, .ref m4, .ref m5, .int (nI pl), .ref pg, .int fa, .int nf, .ref m6, .ref m7, .ref m8, .long sd, .int ik, .int kh, .int (nI km), .int ka, .int ks, .int kac, .ref m9, .ref m10, .ref m11, .ref m12, .long hv])), (m1, .inl (cI, 6, .inl g1)), (m2, .inl (cI, 6, .inl g2)), (m5, .inl (cI, 6, .inl g5))] := hD
  refine lv_iconst (v := 0) hx hb dX7_stoodNow_24 (by decide) ?_
  refine lv_istore (lv' := [(7, .int 0), (6, .int 0), (5, .int 0), (4, .int 0), (3, .int ds), (2, .int da), (0, .ref h0), (1, .int p0)]) hx hb dX7_stoodNow_25 hl (by decide) rfl (fun ls hl => ?_)
  have lp27 : ∀ (n27 : Nat) (i27 : Nat) (y4 : Int32) (y5 : Int32) (y6 : Int32) (yd : Int32) (ye : Int32) (H : Heap) (locs : List Loc) (ls : Array Slot), i27 + n27 = 80 → va_P (dC, dI) vwCl [(h0, .inr (7, [.int ih, .int hn, .int fl, .int yd, .int ye, .int ac, .int (nI kc), .ref m1, .ref m2, .ref m3, .ref m4, .ref m5, .int (nI pl), .ref pg, .int fa, .int nf, .ref m6, .ref m7, .ref m8, .long sd, .int ik, .int kh, .int (nI km), .int ka, .int ks, .int kac, .ref m9, .ref m10, .ref m11, .ref m12, .long hv])), (m1, .inl (cI, 6, .inl g1)), (m2, .inl (cI, 6, .inl g2)), (m5, .inl (cI, 6, .inl g5))] H → va_D A [(h0, .inr (7, [.int ih, .int hn, .int fl, .int yd, .int ye, .int ac, .int (nI kc), .ref m1, .ref m2, .ref m3, .ref m4, .ref m5, .int (nI pl), .ref pg, .int fa, .int nf, .ref m6, .ref m7, .ref m8, .long sd, .int ik, .int kh, .int (nI km), .int ka, .int ks, .int kac, .ref m9, .ref m10, .ref m11, .ref m12, .long hv])), (m1, .inl (cI, 6, .inl g1)), (m2, .inl (cI, 6, .inl g2)), (m5, .inl (cI, 6, .inl g5))] → va_S A s.heap H locs → lv_has ls 9 [(0, .ref h0), (1, .int p0), (2, .int da), (3, .int ds), (4, .int y4), (5, .int y5), (6, .int y6), (7, .int (nI i27))] → W p l e ({ frames := 4, cells := 0, slots := 0, locals := 94 } : Room) s m #[Value.ref h0, Value.int p0] below meth c H locs 0 0 Q (F0 m 27 ls []) := by
    intro n27
    induction n27 with
    | zero =>
      intro i27 y4 y5 y6 yd ye H locs ls hi27  hP hD hS hl
      obtain rfl : i27 = 80 := by omega
      have hl : lv_has ls 9 [(0, .ref h0), (1, .int p0), (2, .int da), (3, .int ds), (4, .int y4), (5, .int y5), (6, .int y6), (7, .int 80)] := hl
      refine lv_iload hx hb dX7_stoodNow_27 (lv_at hl 7 rfl) ?_
      refine lv_bipush (v := 80) hx hb dX7_stoodNow_29 (by decide) ?_
      refine lv_icmp_ge (tgt := 133) hx hb dX7_stoodNow_31 (by decide) (fun _ => ?_) (fun c => absurd (by decide) c)
      refine lv_aload_n hx hb dX7_stoodNow_133 rfl (lv_at hl 0 rfl) ?_
      refine lv_iload_n hx hb dX7_stoodNow_134 rfl (lv_at hl 2 rfl) ?_
      refine va_put (D := (dC, dI)) (ci := 7) (v := .int da) (ty := .int) (C := RX7) (T := TX7) (N := 31) hx hb hts hiX7 tyX7 tyX7_ok nmX7 hown hK hP hD hS 0 rfl rfl 3 (by decide) (hts (.fieldLink RX7 7 "LeftProfileModel" "dukeAt" "I") (List.mem_of_getElem? (i := 1) rfl)) (fun _ h9 => h9) rfl (by decide +kernel) rfl rfl (Nat.le_of_ble_eq_true rfl) dX7_stoodNow_135 (fun H locs hP hD hS => ?_)
      have hP : va_P (dC, dI) vwCl [(h0, .inr (7, [.int ih, .int hn, .int fl, .int da, .int ye, .int ac, .int (nI kc), .ref m1, .ref m2, .ref m3, .ref m4, .ref m5, .int (nI pl), .ref pg, .int fa, .int nf, .ref m6, .ref m7, .ref m8, .long sd, .int ik, .int kh, .int (nI km), .int ka, .int ks, .int kac, .ref m9, .ref m10, .ref m11, .ref m12, .long hv])), (m1, .inl (cI, 6, .inl g1)), (m2, .inl (cI, 6, .inl g2)), (m5, .inl (cI, 6, .inl g5))] H := hP
      have hD : va_D A [(h0, .inr (7, [.int ih, .int hn, .int fl, .int da, .int ye, .int ac, .int (nI kc), .ref m1, .ref m2, .ref m3, .ref m4, .ref m5, .int (nI pl), .ref pg, .int fa, .int nf, .ref m6, .ref m7, .ref m8, .long sd, .int ik, .int kh, .int (nI km), .int ka, .int ks, .int kac, .ref m9, .ref m10, .ref m11, .ref m12, .long hv])), (m1, .inl (cI, 6, .inl g1)), (m2, .inl (cI, 6, .inl g2)), (m5, .inl (cI, 6, .inl g5))] := hD
      refine lv_aload_n hx hb dX7_stoodNow_138 rfl (lv_at hl 0 rfl) ?_
      refine lv_iload_n hx hb dX7_stoodNow_139 rfl (lv_at hl 3 rfl) ?_
      refine va_put (D := (dC, dI)) (ci := 7) (v := .int ds) (ty := .int) (C := RX7) (T := TX7) (N := 31) hx hb hts hiX7 tyX7 tyX7_ok nmX7 hown hK hP hD hS 0 rfl rfl 4 (by decide) (hts (.fieldLink RX7 13 "LeftProfileModel" "dukeSide" "I") (List.mem_of_getElem? (i := 2) rfl)) (fun _ h9 => h9) rfl (by decide +kernel) rfl rfl (Nat.le_of_ble_eq_true rfl) dX7_stoodNow_140 (fun H locs hP hD hS => ?_)
      have hP : va_P (dC, dI) vwCl [(h0, .inr (7, [.int ih, .int hn, .int fl, .int da, .int ds, .int ac, .int (nI kc), .ref m1, .ref m2, .ref m3, .ref m4, .ref m5, .int (nI pl), .ref pg, .int fa, .int nf, .ref m6, .ref m7, .ref m8, .long sd, .int ik, .int kh, .int (nI km), .int ka, .int ks, .int kac, .ref m9, .ref m10, .ref m11, .ref m12, .long hv])), (m1, .inl (cI, 6, .inl g1)), (m2, .inl (cI, 6, .inl g2)), (m5, .inl (cI, 6, .inl g5))] H := hP
      have hD : va_D A [(h0, .inr (7, [.int ih, .int hn, .int fl, .int da, .int ds, .int ac, .int (nI kc), .ref m1, .ref m2, .ref m3, .ref m4, .ref m5, .int (nI pl), .ref pg, .int fa, .int nf, .ref m6, .ref m7, .ref m8, .long sd, .int ik, .int kh, .int (nI km), .int ka, .int ks, .int kac, .ref m9, .ref m10, .ref m11, .ref m12, .long hv])), (m1, .inl (cI, 6, .inl g1)), (m2, .inl (cI, 6, .inl g2)), (m5, .inl (cI, 6, .inl g5))] := hD
      refine lv_iload_n hx hb dX7_stoodNow_143 rfl (lv_at hl 1 rfl) ?_
      refine lv_if_ne (tgt := 152) hx hb dX7_stoodNow_144 (by decide) (fun c_1 => ?_) (fun c_1 => ?_)
      · refine lv_iload_n hx hb dX7_stoodNow_152 rfl (lv_at hl 1 rfl) ?_
        refine lv_iconst (v := 1) hx hb dX7_stoodNow_153 (by decide) ?_
        refine lv_icmp_ne (tgt := 162) hx hb dX7_stoodNow_154 (by decide) (fun c_2 => ?_) (fun c_2 => ?_)
        · refine lv_iload hx hb dX7_stoodNow_162 (lv_at hl 6 rfl) ?_
          refine vp_callSi (cz_run (va_runS (As := [.int y6]) (rest := []) ⟨hx, hb, hml, hown, hts⟩ (c_X7_only l dC dI cI cB y6 ) (va_cwS 1 hts gX7_stoodNow_X7_only rfl rfl rfl (by decide +kernel) ⟨Nat.le_of_ble_eq_true rfl, Nat.le_of_ble_eq_true rfl⟩) (cz_pS (hP.sub (ws' := []) [] rfl) hN) rfl rfl hl.1 rfl (lv_room (Nat.le_of_ble_eq_true rfl)) dX7_stoodNow_164 ⟨Nat.le_of_ble_eq_true rfl, Nat.le_of_ble_eq_true rfl⟩)) (fun r_3 hr_3 => ?_)
          refine W.widen (k := 0) (n := 0) (Nat.le_of_ble_eq_true rfl) (Nat.le_of_ble_eq_true rfl) ?_
          have hP9 := hP.sub (ws' := [(h0, .inr (7, [.int ih, .int hn, .int fl, .int da, .int ds, .int ac, .int (nI kc), .ref m1, .ref m2, .ref m3, .ref m4, .ref m5, .int (nI pl), .ref pg, .int fa, .int nf, .ref m6, .ref m7, .ref m8, .long sd, .int ik, .int kh, .int (nI km), .int ka, .int ks, .int kac, .ref m9, .ref m10, .ref m11, .ref m12, .long hv])), (m1, .inl (cI, 6, .inl g1)), (m2, .inl (cI, 6, .inl g2)), (m5, .inl (cI, 6, .inl g5))]) [0, 1, 2, 3] rfl
          have hD9 := hD.sub (ws' := [(h0, .inr (7, [.int ih, .int hn, .int fl, .int da, .int ds, .int ac, .int (nI kc), .ref m1, .ref m2, .ref m3, .ref m4, .ref m5, .int (nI pl), .ref pg, .int fa, .int nf, .ref m6, .ref m7, .ref m8, .long sd, .int ik, .int kh, .int (nI km), .int ka, .int ks, .int kac, .ref m9, .ref m10, .ref m11, .ref m12, .long hv])), (m1, .inl (cI, 6, .inl g1)), (m2, .inl (cI, 6, .inl g2)), (m5, .inl (cI, 6, .inl g5))]) [0, 1, 2, 3] (by decide) rfl
          rw [hQ]; exact W.iret (v := r_3) hx hb hr (fun t ht hW => ⟨⟨r_3, (), rfl, trivial, ⟨by rw [ht]; exact hP9, hD9⟩⟩, hS.F ht⟩) hS.2.2 dX7_stoodNow_167
        · refine lv_iload hx hb dX7_stoodNow_157 (lv_at hl 5 rfl) ?_
          refine lv_goto (tgt := 164) hx hb dX7_stoodNow_159 (by decide) ?_
          refine vp_callSi (cz_run (va_runS (As := [.int y5]) (rest := []) ⟨hx, hb, hml, hown, hts⟩ (c_X7_only l dC dI cI cB y5 ) (va_cwS 1 hts gX7_stoodNow_X7_only rfl rfl rfl (by decide +kernel) ⟨Nat.le_of_ble_eq_true rfl, Nat.le_of_ble_eq_true rfl⟩) (cz_pS (hP.sub (ws' := []) [] rfl) hN) rfl rfl hl.1 rfl (lv_room (Nat.le_of_ble_eq_true rfl)) dX7_stoodNow_164 ⟨Nat.le_of_ble_eq_true rfl, Nat.le_of_ble_eq_true rfl⟩)) (fun r_4 hr_4 => ?_)
          refine W.widen (k := 0) (n := 0) (Nat.le_of_ble_eq_true rfl) (Nat.le_of_ble_eq_true rfl) ?_
          have hP9 := hP.sub (ws' := [(h0, .inr (7, [.int ih, .int hn, .int fl, .int da, .int ds, .int ac, .int (nI kc), .ref m1, .ref m2, .ref m3, .ref m4, .ref m5, .int (nI pl), .ref pg, .int fa, .int nf, .ref m6, .ref m7, .ref m8, .long sd, .int ik, .int kh, .int (nI km), .int ka, .int ks, .int kac, .ref m9, .ref m10, .ref m11, .ref m12, .long hv])), (m1, .inl (cI, 6, .inl g1)), (m2, .inl (cI, 6, .inl g2)), (m5, .inl (cI, 6, .inl g5))]) [0, 1, 2, 3] rfl
          have hD9 := hD.sub (ws' := [(h0, .inr (7, [.int ih, .int hn, .int fl, .int da, .int ds, .int ac, .int (nI kc), .ref m1, .ref m2, .ref m3, .ref m4, .ref m5, .int (nI pl), .ref pg, .int fa, .int nf, .ref m6, .ref m7, .ref m8, .long sd, .int ik, .int kh, .int (nI km), .int ka, .int ks, .int kac, .ref m9, .ref m10, .ref m11, .ref m12, .long hv])), (m1, .inl (cI, 6, .inl g1)), (m2, .inl (cI, 6, .inl g2)), (m5, .inl (cI, 6, .inl g5))]) [0, 1, 2, 3] (by decide) rfl
          rw [hQ]; exact W.iret (v := r_4) hx hb hr (fun t ht hW => ⟨⟨r_4, (), rfl, trivial, ⟨by rw [ht]; exact hP9, hD9⟩⟩, hS.F ht⟩) hS.2.2 dX7_stoodNow_167
      · refine lv_iload hx hb dX7_stoodNow_147 (lv_at hl 4 rfl) ?_
        refine lv_goto (tgt := 167) hx hb dX7_stoodNow_149 (by decide) ?_
        refine W.widen (k := 0) (n := 0) (Nat.le_of_ble_eq_true rfl) (Nat.le_of_ble_eq_true rfl) ?_
        have hP9 := hP.sub (ws' := [(h0, .inr (7, [.int ih, .int hn, .int fl, .int da, .int ds, .int ac, .int (nI kc), .ref m1, .ref m2, .ref m3, .ref m4, .ref m5, .int (nI pl), .ref pg, .int fa, .int nf, .ref m6, .ref m7, .ref m8, .long sd, .int ik, .int kh, .int (nI km), .int ka, .int ks, .int kac, .ref m9, .ref m10, .ref m11, .ref m12, .long hv])), (m1, .inl (cI, 6, .inl g1)), (m2, .inl (cI, 6, .inl g2)), (m5, .inl (cI, 6, .inl g5))]) [0, 1, 2, 3] rfl
        have hD9 := hD.sub (ws' := [(h0, .inr (7, [.int ih, .int hn, .int fl, .int da, .int ds, .int ac, .int (nI kc), .ref m1, .ref m2, .ref m3, .ref m4, .ref m5, .int (nI pl), .ref pg, .int fa, .int nf, .ref m6, .ref m7, .ref m8, .long sd, .int ik, .int kh, .int (nI km), .int ka, .int ks, .int kac, .ref m9, .ref m10, .ref m11, .ref m12, .long hv])), (m1, .inl (cI, 6, .inl g1)), (m2, .inl (cI, 6, .inl g2)), (m5, .inl (cI, 6, .inl g5))]) [0, 1, 2, 3] (by decide) rfl
        rw [hQ]; exact W.iret (v := y4) hx hb hr (fun t ht hW => ⟨⟨y4, (), rfl, trivial, ⟨by rw [ht]; exact hP9, hD9⟩⟩, hS.F ht⟩) hS.2.2 dX7_stoodNow_167
    | succ n27 ih27 =>
      intro i27 y4 y5 y6 yd ye H locs ls hi27  hP hD hS hl
      refine lv_iload hx hb dX7_stoodNow_27 (lv_at hl 7 rfl) ?_
      refine lv_bipush (v := 80) hx hb dX7_stoodNow_29 (by decide) ?_
      refine lv_icmp_ge (tgt := 133) hx hb dX7_stoodNow_31 (by decide) (fun c_5 => ?_) (fun c_5 => ?_)
      · exact absurd c_5 (show ¬ (80 : Int32) ≤ nI i27 from nI_ge (a := i27) (b := 80) (by omega) (by omega))
      · refine lv_aload_n hx hb dX7_stoodNow_34 rfl (lv_at hl 0 rfl) ?_
        refine lv_iconst (v := (-1)) hx hb dX7_stoodNow_35 (by decide) ?_
        refine va_put (D := (dC, dI)) (ci := 7) (v := .int (-1)) (ty := .int) (C := RX7) (T := TX7) (N := 31) hx hb hts hiX7 tyX7 tyX7_ok nmX7 hown hK hP hD hS 0 rfl rfl 3 (by decide) (hts (.fieldLink RX7 7 "LeftProfileModel" "dukeAt" "I") (List.mem_of_getElem? (i := 1) rfl)) (fun _ h9 => h9) rfl (by decide +kernel) rfl rfl (Nat.le_of_ble_eq_true rfl) dX7_stoodNow_36 (fun H locs hP hD hS => ?_)
        have hP : va_P (dC, dI) vwCl [(h0, .inr (7, [.int ih, .int hn, .int fl, .int (-1), .int ye, .int ac, .int (nI kc), .ref m1, .ref m2, .ref m3, .ref m4, .ref m5, .int (nI pl), .ref pg, .int fa, .int nf, .ref m6, .ref m7, .ref m8, .long sd, .int ik, .int kh, .int (nI km), .int ka, .int ks, .int kac, .ref m9, .ref m10, .ref m11, .ref m12, .long hv])), (m1, .inl (cI, 6, .inl g1)), (m2, .inl (cI, 6, .inl g2)), (m5, .inl (cI, 6, .inl g5))] H := hP
        have hD : va_D A [(h0, .inr (7, [.int ih, .int hn, .int fl, .int (-1), .int ye, .int ac, .int (nI kc), .ref m1, .ref m2, .ref m3, .ref m4, .ref m5, .int (nI pl), .ref pg, .int fa, .int nf, .ref m6, .ref m7, .ref m8, .long sd, .int ik, .int kh, .int (nI km), .int ka, .int ks, .int kac, .ref m9, .ref m10, .ref m11, .ref m12, .long hv])), (m1, .inl (cI, 6, .inl g1)), (m2, .inl (cI, 6, .inl g2)), (m5, .inl (cI, 6, .inl g5))] := hD
        refine lv_aload_n hx hb dX7_stoodNow_39 rfl (lv_at hl 0 rfl) ?_
        refine lv_iload hx hb dX7_stoodNow_40 (lv_at hl 7 rfl) ?_
        refine lv_iconst (v := 4) hx hb dX7_stoodNow_42 (by decide) ?_
        refine lv_idiv hx hb dX7_stoodNow_43 (by decide) ?_
        refine cz_i (y := (nI (i27 / 4))) (pk_div (a := i27) (d := 4) (by omega) (by decide) (by decide)) ?_
        refine vp_callSi (cz_run (va_runV (As := [.int (nI (i27 / 4))]) (rest := []) ⟨hx, hb, hml, hown, hts⟩ (c_X7_isEmpty l dC dI cI cB h0 (nI (i27 / 4)) ih hn fl (-1) ye ac kc m1 m2 m3 m4 m5 pl pg fa nf m6 m7 m8 sd ik kh km ka ks kac m9 m10 m11 m12 hv g2 hkc) (cwV 1 hts gX7_stoodNow_X7_isEmpty rfl rfl rfl (by decide +kernel) ⟨Nat.le_of_ble_eq_true rfl, Nat.le_of_ble_eq_true rfl⟩) (cz_pV (hP.sub (ws' := [(h0, .inr (7, [.int ih, .int hn, .int fl, .int (-1), .int ye, .int ac, .int (nI kc), .ref m1, .ref m2, .ref m3, .ref m4, .ref m5, .int (nI pl), .ref pg, .int fa, .int nf, .ref m6, .ref m7, .ref m8, .long sd, .int ik, .int kh, .int (nI km), .int ka, .int ks, .int kac, .ref m9, .ref m10, .ref m11, .ref m12, .long hv])), (m2, .inl (cI, 6, .inl g2))]) [0, 2] rfl) hN (va_recv hK (hP.sub (ws' := [(h0, .inr (7, [.int ih, .int hn, .int fl, .int (-1), .int ye, .int ac, .int (nI kc), .ref m1, .ref m2, .ref m3, .ref m4, .ref m5, .int (nI pl), .ref pg, .int fa, .int nf, .ref m6, .ref m7, .ref m8, .long sd, .int ik, .int kh, .int (nI km), .int ka, .int ks, .int kac, .ref m9, .ref m10, .ref m11, .ref m12, .long hv])), (m2, .inl (cI, 6, .inl g2))]) [0, 2] rfl) (ci := 7) (q0 := 0) rfl rfl)) rfl rfl hl.1 rfl (lv_room (Nat.le_of_ble_eq_true rfl)) dX7_stoodNow_44 ⟨Nat.le_of_ble_eq_true rfl, Nat.le_of_ble_eq_true rfl⟩)) (fun r_6 hr_6 => ?_)
        rcases hr_6 with ⟨rfl, hr_6⟩ | ⟨rfl, hr_6⟩
        · refine lv_if_eq (tgt := 127) hx hb dX7_stoodNow_47 (by decide) (fun _ => ?_) (fun c => absurd (by decide) c)
          refine lv_iinc (v := (nI (i27 + 1))) (lv' := [(7, .int (nI (i27 + 1))), (0, .ref h0), (1, .int p0), (2, .int da), (3, .int ds), (4, .int y4), (5, .int y5), (6, .int y6)]) hx hb dX7_stoodNow_127 hl (k := 7) rfl (nI_add i27 1) (by decide) rfl (fun ls hl => ?_)
          refine lv_goto (tgt := 27) hx hb dX7_stoodNow_130 (by decide) ?_
          exact ih27 (i27 + 1) y4 y5 y6 (-1) ye H locs ls (by omega)  hP hD hS (lv_sub hl [1, 2, 3, 4, 5, 6, 7, 0] rfl)
        · refine lv_if_eq (tgt := 127) hx hb dX7_stoodNow_47 (by decide) (fun c => absurd c (by decide)) (fun _ => ?_)
          refine lv_aload_n hx hb dX7_stoodNow_50 rfl (lv_at hl 0 rfl) ?_
          refine lv_iload hx hb dX7_stoodNow_51 (lv_at hl 7 rfl) ?_
          refine lv_iconst (v := 4) hx hb dX7_stoodNow_53 (by decide) ?_
          refine lv_idiv hx hb dX7_stoodNow_54 (by decide) ?_
          refine cz_i (y := (nI (i27 / 4))) (pk_div (a := i27) (d := 4) (by omega) (by decide) (by decide)) ?_
          refine va_put (D := (dC, dI)) (ci := 7) (v := .int (nI (i27 / 4))) (ty := .int) (C := RX7) (T := TX7) (N := 31) hx hb hts hiX7 tyX7 tyX7_ok nmX7 hown hK hP hD hS 0 rfl rfl 3 (by decide) (hts (.fieldLink RX7 7 "LeftProfileModel" "dukeAt" "I") (List.mem_of_getElem? (i := 1) rfl)) (fun _ h9 => h9) rfl (by decide +kernel) rfl rfl (Nat.le_of_ble_eq_true rfl) dX7_stoodNow_55 (fun H locs hP hD hS => ?_)
          have hP : va_P (dC, dI) vwCl [(h0, .inr (7, [.int ih, .int hn, .int fl, .int (nI (i27 / 4)), .int ye, .int ac, .int (nI kc), .ref m1, .ref m2, .ref m3, .ref m4, .ref m5, .int (nI pl), .ref pg, .int fa, .int nf, .ref m6, .ref m7, .ref m8, .long sd, .int ik, .int kh, .int (nI km), .int ka, .int ks, .int kac, .ref m9, .ref m10, .ref m11, .ref m12, .long hv])), (m1, .inl (cI, 6, .inl g1)), (m2, .inl (cI, 6, .inl g2)), (m5, .inl (cI, 6, .inl g5))] H := hP
          have hD : va_D A [(h0, .inr (7, [.int ih, .int hn, .int fl, .int (nI (i27 / 4)), .int ye, .int ac, .int (nI kc), .ref m1, .ref m2, .ref m3, .ref m4, .ref m5, .int (nI pl), .ref pg, .int fa, .int nf, .ref m6, .ref m7, .ref m8, .long sd, .int ik, .int kh, .int (nI km), .int ka, .int ks, .int kac, .ref m9, .ref m10, .ref m11, .ref m12, .long hv])), (m1, .inl (cI, 6, .inl g1)), (m2, .inl (cI, 6, .inl g2)), (m5, .inl (cI, 6, .inl g5))] := hD
          refine lv_aload_n hx hb dX7_stoodNow_58 rfl (lv_at hl 0 rfl) ?_
          refine lv_iload hx hb dX7_stoodNow_59 (lv_at hl 7 rfl) ?_
          refine lv_iconst (v := 4) hx hb dX7_stoodNow_61 (by decide) ?_
          refine lv_irem hx hb dX7_stoodNow_62 (by decide) ?_
          refine cz_i (y := (nI (i27 % 4))) (pk_rem (a := i27) (d := 4) (by omega) (by decide) (by decide)) ?_
          refine va_put (D := (dC, dI)) (ci := 7) (v := .int (nI (i27 % 4))) (ty := .int) (C := RX7) (T := TX7) (N := 31) hx hb hts hiX7 tyX7 tyX7_ok nmX7 hown hK hP hD hS 0 rfl rfl 4 (by decide) (hts (.fieldLink RX7 13 "LeftProfileModel" "dukeSide" "I") (List.mem_of_getElem? (i := 2) rfl)) (fun _ h9 => h9) rfl (by decide +kernel) rfl rfl (Nat.le_of_ble_eq_true rfl) dX7_stoodNow_63 (fun H locs hP hD hS => ?_)
          have hP : va_P (dC, dI) vwCl [(h0, .inr (7, [.int ih, .int hn, .int fl, .int (nI (i27 / 4)), .int (nI (i27 % 4)), .int ac, .int (nI kc), .ref m1, .ref m2, .ref m3, .ref m4, .ref m5, .int (nI pl), .ref pg, .int fa, .int nf, .ref m6, .ref m7, .ref m8, .long sd, .int ik, .int kh, .int (nI km), .int ka, .int ks, .int kac, .ref m9, .ref m10, .ref m11, .ref m12, .long hv])), (m1, .inl (cI, 6, .inl g1)), (m2, .inl (cI, 6, .inl g2)), (m5, .inl (cI, 6, .inl g5))] H := hP
          have hD : va_D A [(h0, .inr (7, [.int ih, .int hn, .int fl, .int (nI (i27 / 4)), .int (nI (i27 % 4)), .int ac, .int (nI kc), .ref m1, .ref m2, .ref m3, .ref m4, .ref m5, .int (nI pl), .ref pg, .int fa, .int nf, .ref m6, .ref m7, .ref m8, .long sd, .int ik, .int kh, .int (nI km), .int ka, .int ks, .int kac, .ref m9, .ref m10, .ref m11, .ref m12, .long hv])), (m1, .inl (cI, 6, .inl g1)), (m2, .inl (cI, 6, .inl g2)), (m5, .inl (cI, 6, .inl g5))] := hD
          refine lv_aload_n hx hb dX7_stoodNow_66 rfl (lv_at hl 0 rfl) ?_
          refine vp_callSi (cz_run (va_runV (As := []) (rest := []) ⟨hx, hb, hml, hown, hts⟩ (c_X7_isToldSo l dC dI cI cB h0 ih hn fl (nI (i27 / 4)) (nI (i27 % 4)) ac kc m1 m2 m3 m4 m5 pl pg fa nf m6 m7 m8 sd ik kh km ka ks kac m9 m10 m11 m12 hv g1 g2 g5 hkc hpl (cz_du_n (a := (i27 / 4)) (b := (i27 % 4)) (by omega) (by omega))) (cwV 0 hts gX7_stoodNow_X7_isToldSo rfl rfl rfl (by decide +kernel) ⟨Nat.le_of_ble_eq_true rfl, Nat.le_of_ble_eq_true rfl⟩) (cz_pV hP hN (va_recv hK hP (ci := 7) (q0 := 0) rfl rfl)) rfl rfl hl.1 rfl (lv_room (Nat.le_of_ble_eq_true rfl)) dX7_stoodNow_67 ⟨Nat.le_of_ble_eq_true rfl, Nat.le_of_ble_eq_true rfl⟩)) (fun r_7 hr_7 => ?_)
          refine lv_istore (lv' := [(8, .int r_7), (0, .ref h0), (1, .int p0), (2, .int da), (3, .int ds), (4, .int y4), (5, .int y5), (6, .int y6), (7, .int (nI i27))]) hx hb dX7_stoodNow_70 hl (by decide) rfl (fun ls hl => ?_)
          refine lv_iload hx hb dX7_stoodNow_72 (lv_at hl 5 rfl) ?_
          refine lv_iload hx hb dX7_stoodNow_74 (lv_at hl 0 rfl) ?_
          refine lv_if_eq (tgt := 83) hx hb dX7_stoodNow_76 (by decide) (fun c_8 => ?_) (fun c_8 => ?_)
          · refine lv_iconst (v := 0) hx hb dX7_stoodNow_83 (by decide) ?_
            refine lv_iadd hx hb dX7_stoodNow_84 ?_
            refine lv_topi (fun x_9 ex_9 => ?_)
            refine lv_istore (lv' := [(4, .int x_9), (8, .int r_7), (0, .ref h0), (1, .int p0), (2, .int da), (3, .int ds), (5, .int y5), (6, .int y6), (7, .int (nI i27))]) hx hb dX7_stoodNow_85 hl (by decide) rfl (fun ls hl => ?_)
            refine lv_iload hx hb dX7_stoodNow_87 (lv_at hl 6 rfl) ?_
            refine lv_iload hx hb dX7_stoodNow_89 (lv_at hl 1 rfl) ?_
            refine lv_if_eq (tgt := 103) hx hb dX7_stoodNow_91 (by decide) (fun c_10 => ?_) (fun c_10 => ?_)
            · refine lv_iconst (v := 0) hx hb dX7_stoodNow_103 (by decide) ?_
              refine lv_ior hx hb dX7_stoodNow_104 ?_
              refine lv_topi (fun x_11 ex_11 => ?_)
              refine lv_istore (lv' := [(5, .int x_11), (4, .int x_9), (8, .int r_7), (0, .ref h0), (1, .int p0), (2, .int da), (3, .int ds), (6, .int y6), (7, .int (nI i27))]) hx hb dX7_stoodNow_105 hl (by decide) rfl (fun ls hl => ?_)
              refine lv_iload hx hb dX7_stoodNow_107 (lv_at hl 7 rfl) ?_
              refine lv_iload hx hb dX7_stoodNow_109 (lv_at hl 2 rfl) ?_
              refine lv_if_eq (tgt := 123) hx hb dX7_stoodNow_111 (by decide) (fun c_12 => ?_) (fun c_12 => ?_)
              · refine lv_iconst (v := 0) hx hb dX7_stoodNow_123 (by decide) ?_
                refine lv_ior hx hb dX7_stoodNow_124 ?_
                refine lv_topi (fun x_13 ex_13 => ?_)
                refine lv_istore (lv' := [(6, .int x_13), (5, .int x_11), (4, .int x_9), (8, .int r_7), (0, .ref h0), (1, .int p0), (2, .int da), (3, .int ds), (7, .int (nI i27))]) hx hb dX7_stoodNow_125 hl (by decide) rfl (fun ls hl => ?_)
                refine lv_iinc (v := (nI (i27 + 1))) (lv' := [(7, .int (nI (i27 + 1))), (6, .int x_13), (5, .int x_11), (4, .int x_9), (8, .int r_7), (0, .ref h0), (1, .int p0), (2, .int da), (3, .int ds)]) hx hb dX7_stoodNow_127 hl (k := 8) rfl (nI_add i27 1) (by decide) rfl (fun ls hl => ?_)
                refine lv_goto (tgt := 27) hx hb dX7_stoodNow_130 (by decide) ?_
                exact ih27 (i27 + 1) x_9 x_11 x_13 (nI (i27 / 4)) (nI (i27 % 4)) H locs ls (by omega)  hP hD hS (lv_sub hl [5, 6, 7, 8, 3, 2, 1, 0] rfl)
              · refine lv_iconst (v := 1) hx hb dX7_stoodNow_114 (by decide) ?_
                refine lv_iload hx hb dX7_stoodNow_115 (lv_at hl 8 rfl) ?_
                refine lv_iconst (v := 4) hx hb dX7_stoodNow_117 (by decide) ?_
                refine lv_irem hx hb dX7_stoodNow_118 (by decide) ?_
                refine cz_i (y := (nI (i27 % 4))) (pk_rem (a := i27) (d := 4) (by omega) (by decide) (by decide)) ?_
                refine lv_ishl hx hb dX7_stoodNow_119 ?_
                refine lv_topi (fun x_14 ex_14 => ?_)
                refine lv_goto (tgt := 124) hx hb dX7_stoodNow_120 (by decide) ?_
                refine lv_ior hx hb dX7_stoodNow_124 ?_
                refine lv_topi (fun x_15 ex_15 => ?_)
                refine lv_istore (lv' := [(6, .int x_15), (5, .int x_11), (4, .int x_9), (8, .int r_7), (0, .ref h0), (1, .int p0), (2, .int da), (3, .int ds), (7, .int (nI i27))]) hx hb dX7_stoodNow_125 hl (by decide) rfl (fun ls hl => ?_)
                refine lv_iinc (v := (nI (i27 + 1))) (lv' := [(7, .int (nI (i27 + 1))), (6, .int x_15), (5, .int x_11), (4, .int x_9), (8, .int r_7), (0, .ref h0), (1, .int p0), (2, .int da), (3, .int ds)]) hx hb dX7_stoodNow_127 hl (k := 8) rfl (nI_add i27 1) (by decide) rfl (fun ls hl => ?_)
                refine lv_goto (tgt := 27) hx hb dX7_stoodNow_130 (by decide) ?_
                exact ih27 (i27 + 1) x_9 x_11 x_15 (nI (i27 / 4)) (nI (i27 % 4)) H locs ls (by omega)  hP hD hS (lv_sub hl [5, 6, 7, 8, 3, 2, 1, 0] rfl)
            · refine lv_iconst (v := 1) hx hb dX7_stoodNow_94 (by decide) ?_
              refine lv_iload hx hb dX7_stoodNow_95 (lv_at hl 8 rfl) ?_
              refine lv_iconst (v := 4) hx hb dX7_stoodNow_97 (by decide) ?_
              refine lv_idiv hx hb dX7_stoodNow_98 (by decide) ?_
              refine cz_i (y := (nI (i27 / 4))) (pk_div (a := i27) (d := 4) (by omega) (by decide) (by decide)) ?_
              refine lv_ishl hx hb dX7_stoodNow_99 ?_
              refine lv_topi (fun x_16 ex_16 => ?_)
              refine lv_goto (tgt := 104) hx hb dX7_stoodNow_100 (by decide) ?_
              refine lv_ior hx hb dX7_stoodNow_104 ?_
              refine lv_topi (fun x_17 ex_17 => ?_)
              refine lv_istore (lv' := [(5, .int x_17), (4, .int x_9), (8, .int r_7), (0, .ref h0), (1, .int p0), (2, .int da), (3, .int ds), (6, .int y6), (7, .int (nI i27))]) hx hb dX7_stoodNow_105 hl (by decide) rfl (fun ls hl => ?_)
              refine lv_iload hx hb dX7_stoodNow_107 (lv_at hl 7 rfl) ?_
              refine lv_iload hx hb dX7_stoodNow_109 (lv_at hl 2 rfl) ?_
              refine lv_if_eq (tgt := 123) hx hb dX7_stoodNow_111 (by decide) (fun c_18 => ?_) (fun c_18 => ?_)
              · refine lv_iconst (v := 0) hx hb dX7_stoodNow_123 (by decide) ?_
                refine lv_ior hx hb dX7_stoodNow_124 ?_
                refine lv_topi (fun x_19 ex_19 => ?_)
                refine lv_istore (lv' := [(6, .int x_19), (5, .int x_17), (4, .int x_9), (8, .int r_7), (0, .ref h0), (1, .int p0), (2, .int da), (3, .int ds), (7, .int (nI i27))]) hx hb dX7_stoodNow_125 hl (by decide) rfl (fun ls hl => ?_)
                refine lv_iinc (v := (nI (i27 + 1))) (lv' := [(7, .int (nI (i27 + 1))), (6, .int x_19), (5, .int x_17), (4, .int x_9), (8, .int r_7), (0, .ref h0), (1, .int p0), (2, .int da), (3, .int ds)]) hx hb dX7_stoodNow_127 hl (k := 8) rfl (nI_add i27 1) (by decide) rfl (fun ls hl => ?_)
                refine lv_goto (tgt := 27) hx hb dX7_stoodNow_130 (by decide) ?_
                exact ih27 (i27 + 1) x_9 x_17 x_19 (nI (i27 / 4)) (nI (i27 % 4)) H locs ls (by omega)  hP hD hS (lv_sub hl [5, 6, 7, 8, 3, 2, 1, 0] rfl)
              · refine lv_iconst (v := 1) hx hb dX7_stoodNow_114 (by decide) ?_
                refine lv_iload hx hb dX7_stoodNow_115 (lv_at hl 8 rfl) ?_
                refine lv_iconst (v := 4) hx hb dX7_stoodNow_117 (by decide) ?_
                refine lv_irem hx hb dX7_stoodNow_118 (by decide) ?_
                refine cz_i (y := (nI (i27 % 4))) (pk_rem (a := i27) (d := 4) (by omega) (by decide) (by decide)) ?_
                refine lv_ishl hx hb dX7_stoodNow_119 ?_
                refine lv_topi (fun x_20 ex_20 => ?_)
                refine lv_goto (tgt := 124) hx hb dX7_stoodNow_120 (by decide) ?_
                refine lv_ior hx hb dX7_stoodNow_124 ?_
                refine lv_topi (fun x_21 ex_21 => ?_)
                refine lv_istore (lv' := [(6, .int x_21), (5, .int x_17), (4, .int x_9), (8, .int r_7), (0, .ref h0), (1, .int p0), (2, .int da), (3, .int ds), (7, .int (nI i27))]) hx hb dX7_stoodNow_125 hl (by decide) rfl (fun ls hl => ?_)
                refine lv_iinc (v := (nI (i27 + 1))) (lv' := [(7, .int (nI (i27 + 1))), (6, .int x_21), (5, .int x_17), (4, .int x_9), (8, .int r_7), (0, .ref h0), (1, .int p0), (2, .int da), (3, .int ds)]) hx hb dX7_stoodNow_127 hl (k := 8) rfl (nI_add i27 1) (by decide) rfl (fun ls hl => ?_)
                refine lv_goto (tgt := 27) hx hb dX7_stoodNow_130 (by decide) ?_
                exact ih27 (i27 + 1) x_9 x_17 x_21 (nI (i27 / 4)) (nI (i27 % 4)) H locs ls (by omega)  hP hD hS (lv_sub hl [5, 6, 7, 8, 3, 2, 1, 0] rfl)
          · refine lv_iconst (v := 1) hx hb dX7_stoodNow_79 (by decide) ?_
            refine lv_goto (tgt := 84) hx hb dX7_stoodNow_80 (by decide) ?_
            refine lv_iadd hx hb dX7_stoodNow_84 ?_
            refine lv_topi (fun x_22 ex_22 => ?_)
            refine lv_istore (lv' := [(4, .int x_22), (8, .int r_7), (0, .ref h0), (1, .int p0), (2, .int da), (3, .int ds), (5, .int y5), (6, .int y6), (7, .int (nI i27))]) hx hb dX7_stoodNow_85 hl (by decide) rfl (fun ls hl => ?_)
            refine lv_iload hx hb dX7_stoodNow_87 (lv_at hl 6 rfl) ?_
            refine lv_iload hx hb dX7_stoodNow_89 (lv_at hl 1 rfl) ?_
            refine lv_if_eq (tgt := 103) hx hb dX7_stoodNow_91 (by decide) (fun c_23 => ?_) (fun c_23 => ?_)
            · refine lv_iconst (v := 0) hx hb dX7_stoodNow_103 (by decide) ?_
              refine lv_ior hx hb dX7_stoodNow_104 ?_
              refine lv_topi (fun x_24 ex_24 => ?_)
              refine lv_istore (lv' := [(5, .int x_24), (4, .int x_22), (8, .int r_7), (0, .ref h0), (1, .int p0), (2, .int da), (3, .int ds), (6, .int y6), (7, .int (nI i27))]) hx hb dX7_stoodNow_105 hl (by decide) rfl (fun ls hl => ?_)
              refine lv_iload hx hb dX7_stoodNow_107 (lv_at hl 7 rfl) ?_
              refine lv_iload hx hb dX7_stoodNow_109 (lv_at hl 2 rfl) ?_
              refine lv_if_eq (tgt := 123) hx hb dX7_stoodNow_111 (by decide) (fun c_25 => ?_) (fun c_25 => ?_)
              · refine lv_iconst (v := 0) hx hb dX7_stoodNow_123 (by decide) ?_
                refine lv_ior hx hb dX7_stoodNow_124 ?_
                refine lv_topi (fun x_26 ex_26 => ?_)
                refine lv_istore (lv' := [(6, .int x_26), (5, .int x_24), (4, .int x_22), (8, .int r_7), (0, .ref h0), (1, .int p0), (2, .int da), (3, .int ds), (7, .int (nI i27))]) hx hb dX7_stoodNow_125 hl (by decide) rfl (fun ls hl => ?_)
                refine lv_iinc (v := (nI (i27 + 1))) (lv' := [(7, .int (nI (i27 + 1))), (6, .int x_26), (5, .int x_24), (4, .int x_22), (8, .int r_7), (0, .ref h0), (1, .int p0), (2, .int da), (3, .int ds)]) hx hb dX7_stoodNow_127 hl (k := 8) rfl (nI_add i27 1) (by decide) rfl (fun ls hl => ?_)
                refine lv_goto (tgt := 27) hx hb dX7_stoodNow_130 (by decide) ?_
                exact ih27 (i27 + 1) x_22 x_24 x_26 (nI (i27 / 4)) (nI (i27 % 4)) H locs ls (by omega)  hP hD hS (lv_sub hl [5, 6, 7, 8, 3, 2, 1, 0] rfl)
              · refine lv_iconst (v := 1) hx hb dX7_stoodNow_114 (by decide) ?_
                refine lv_iload hx hb dX7_stoodNow_115 (lv_at hl 8 rfl) ?_
                refine lv_iconst (v := 4) hx hb dX7_stoodNow_117 (by decide) ?_
                refine lv_irem hx hb dX7_stoodNow_118 (by decide) ?_
                refine cz_i (y := (nI (i27 % 4))) (pk_rem (a := i27) (d := 4) (by omega) (by decide) (by decide)) ?_
                refine lv_ishl hx hb dX7_stoodNow_119 ?_
                refine lv_topi (fun x_27 ex_27 => ?_)
                refine lv_goto (tgt := 124) hx hb dX7_stoodNow_120 (by decide) ?_
                refine lv_ior hx hb dX7_stoodNow_124 ?_
                refine lv_topi (fun x_28 ex_28 => ?_)
                refine lv_istore (lv' := [(6, .int x_28), (5, .int x_24), (4, .int x_22), (8, .int r_7), (0, .ref h0), (1, .int p0), (2, .int da), (3, .int ds), (7, .int (nI i27))]) hx hb dX7_stoodNow_125 hl (by decide) rfl (fun ls hl => ?_)
                refine lv_iinc (v := (nI (i27 + 1))) (lv' := [(7, .int (nI (i27 + 1))), (6, .int x_28), (5, .int x_24), (4, .int x_22), (8, .int r_7), (0, .ref h0), (1, .int p0), (2, .int da), (3, .int ds)]) hx hb dX7_stoodNow_127 hl (k := 8) rfl (nI_add i27 1) (by decide) rfl (fun ls hl => ?_)
                refine lv_goto (tgt := 27) hx hb dX7_stoodNow_130 (by decide) ?_
                exact ih27 (i27 + 1) x_22 x_24 x_28 (nI (i27 / 4)) (nI (i27 % 4)) H locs ls (by omega)  hP hD hS (lv_sub hl [5, 6, 7, 8, 3, 2, 1, 0] rfl)
            · refine lv_iconst (v := 1) hx hb dX7_stoodNow_94 (by decide) ?_
              refine lv_iload hx hb dX7_stoodNow_95 (lv_at hl 8 rfl) ?_
              refine lv_iconst (v := 4) hx hb dX7_stoodNow_97 (by decide) ?_
              refine lv_idiv hx hb dX7_stoodNow_98 (by decide) ?_
              refine cz_i (y := (nI (i27 / 4))) (pk_div (a := i27) (d := 4) (by omega) (by decide) (by decide)) ?_
              refine lv_ishl hx hb dX7_stoodNow_99 ?_
              refine lv_topi (fun x_29 ex_29 => ?_)
              refine lv_goto (tgt := 104) hx hb dX7_stoodNow_100 (by decide) ?_
              refine lv_ior hx hb dX7_stoodNow_104 ?_
              refine lv_topi (fun x_30 ex_30 => ?_)
              refine lv_istore (lv' := [(5, .int x_30), (4, .int x_22), (8, .int r_7), (0, .ref h0), (1, .int p0), (2, .int da), (3, .int ds), (6, .int y6), (7, .int (nI i27))]) hx hb dX7_stoodNow_105 hl (by decide) rfl (fun ls hl => ?_)
              refine lv_iload hx hb dX7_stoodNow_107 (lv_at hl 7 rfl) ?_
              refine lv_iload hx hb dX7_stoodNow_109 (lv_at hl 2 rfl) ?_
              refine lv_if_eq (tgt := 123) hx hb dX7_stoodNow_111 (by decide) (fun c_31 => ?_) (fun c_31 => ?_)
              · refine lv_iconst (v := 0) hx hb dX7_stoodNow_123 (by decide) ?_
                refine lv_ior hx hb dX7_stoodNow_124 ?_
                refine lv_topi (fun x_32 ex_32 => ?_)
                refine lv_istore (lv' := [(6, .int x_32), (5, .int x_30), (4, .int x_22), (8, .int r_7), (0, .ref h0), (1, .int p0), (2, .int da), (3, .int ds), (7, .int (nI i27))]) hx hb dX7_stoodNow_125 hl (by decide) rfl (fun ls hl => ?_)
                refine lv_iinc (v := (nI (i27 + 1))) (lv' := [(7, .int (nI (i27 + 1))), (6, .int x_32), (5, .int x_30), (4, .int x_22), (8, .int r_7), (0, .ref h0), (1, .int p0), (2, .int da), (3, .int ds)]) hx hb dX7_stoodNow_127 hl (k := 8) rfl (nI_add i27 1) (by decide) rfl (fun ls hl => ?_)
                refine lv_goto (tgt := 27) hx hb dX7_stoodNow_130 (by decide) ?_
                exact ih27 (i27 + 1) x_22 x_30 x_32 (nI (i27 / 4)) (nI (i27 % 4)) H locs ls (by omega)  hP hD hS (lv_sub hl [5, 6, 7, 8, 3, 2, 1, 0] rfl)
              · refine lv_iconst (v := 1) hx hb dX7_stoodNow_114 (by decide) ?_
                refine lv_iload hx hb dX7_stoodNow_115 (lv_at hl 8 rfl) ?_
                refine lv_iconst (v := 4) hx hb dX7_stoodNow_117 (by decide) ?_
                refine lv_irem hx hb dX7_stoodNow_118 (by decide) ?_
                refine cz_i (y := (nI (i27 % 4))) (pk_rem (a := i27) (d := 4) (by omega) (by decide) (by decide)) ?_
                refine lv_ishl hx hb dX7_stoodNow_119 ?_
                refine lv_topi (fun x_33 ex_33 => ?_)
                refine lv_goto (tgt := 124) hx hb dX7_stoodNow_120 (by decide) ?_
                refine lv_ior hx hb dX7_stoodNow_124 ?_
                refine lv_topi (fun x_34 ex_34 => ?_)
                refine lv_istore (lv' := [(6, .int x_34), (5, .int x_30), (4, .int x_22), (8, .int r_7), (0, .ref h0), (1, .int p0), (2, .int da), (3, .int ds), (7, .int (nI i27))]) hx hb dX7_stoodNow_125 hl (by decide) rfl (fun ls hl => ?_)
                refine lv_iinc (v := (nI (i27 + 1))) (lv' := [(7, .int (nI (i27 + 1))), (6, .int x_34), (5, .int x_30), (4, .int x_22), (8, .int r_7), (0, .ref h0), (1, .int p0), (2, .int da), (3, .int ds)]) hx hb dX7_stoodNow_127 hl (k := 8) rfl (nI_add i27 1) (by decide) rfl (fun ls hl => ?_)
                refine lv_goto (tgt := 27) hx hb dX7_stoodNow_130 (by decide) ?_
                exact ih27 (i27 + 1) x_22 x_30 x_34 (nI (i27 / 4)) (nI (i27 % 4)) H locs ls (by omega)  hP hD hS (lv_sub hl [5, 6, 7, 8, 3, 2, 1, 0] rfl)
  exact lp27 80 0 0 0 0 (-1) ds H locs ls (by omega)  hP hD hS (lv_sub hl [6, 7, 5, 4, 3, 2, 1, 0] rfl)

set_option maxHeartbeats 4000000 in
set_option maxRecDepth 100000 in
theorem c_X7_stood (l : Launch) (dC : Nat → ClassId) (dI : Nat → Nat → Nat) (cI cB : ClassId) (h0 : Nat) (p0 : Int32) (ih : Int32) (hn : Int32) (fl : Int32) (da : Int32) (ds : Int32) (ac : Int32) (kc : Nat) (m1 : Nat) (m2 : Nat) (m3 : Nat) (m4 : Nat) (m5 : Nat) (pl : Nat) (pg : Nat) (fa : Int32) (nf : Int32) (m6 : Nat) (m7 : Nat) (m8 : Nat) (sd : Int64) (ik : Int32) (kh : Int32) (km : Nat) (ka : Int32) (ks : Int32) (kac : Int32) (m9 : Nat) (m10 : Nat) (m11 : Nat) (m12 : Nat) (hv : Int64) (g1 : Nat → Int32) (g2 : Nat → Int32) (g5 : Nat → Int32) (sz : Nat) (hkc : kc ≤ 6) (hpl : cz_pl g2) : Met l yX7_stood wsX7_stood ({ frames := 5, cells := 0, slots := 0, locals := 122 }) (cz_Pm dC dI cI cB [.ref h0, .int p0] [(h0, .inr (7, [.int ih, .int hn, .int fl, .int da, .int ds, .int ac, .int (nI kc), .ref m1, .ref m2, .ref m3, .ref m4, .ref m5, .int (nI pl), .ref pg, .int fa, .int nf, .ref m6, .ref m7, .ref m8, .long sd, .int ik, .int kh, .int (nI km), .int ka, .int ks, .int kac, .ref m9, .ref m10, .ref m11, .ref m12, .long hv])), (m1, .inl (cI, 6, .inl g1)), (m2, .inl (cI, 6, .inl g2)), (m5, .inl (cI, 6, .inl g5))] sz) (va_Qi (fun (r : Int32) (_ : Unit) => True) (fun _ t => va_P (dC, dI) vwCl [(h0, .inr (7, [.int ih, .int hn, .int fl, .int da, .int ds, .int ac, .int (nI kc), .ref m1, .ref m2, .ref m3, .ref m4, .ref m5, .int (nI pl), .ref pg, .int fa, .int nf, .ref m6, .ref m7, .ref m8, .long sd, .int ik, .int kh, .int (nI km), .int ka, .int ks, .int kac, .ref m9, .ref m10, .ref m11, .ref m12, .long hv])), (m1, .inl (cI, 6, .inl g1)), (m2, .inl (cI, 6, .inl g2)), (m5, .inl (cI, 6, .inl g5))] t.heap ∧ va_D (va_A [(h0, .inr (7, [.int ih, .int hn, .int fl, .int da, .int ds, .int ac, .int (nI kc), .ref m1, .ref m2, .ref m3, .ref m4, .ref m5, .int (nI pl), .ref pg, .int fa, .int nf, .ref m6, .ref m7, .ref m8, .long sd, .int ik, .int kh, .int (nI km), .int ka, .int ks, .int kac, .ref m9, .ref m10, .ref m11, .ref m12, .long hv])), (m1, .inl (cI, 6, .inl g1)), (m2, .inl (cI, 6, .inl g2)), (m5, .inl (cI, 6, .inl g5))] sz) [(h0, .inr (7, [.int ih, .int hn, .int fl, .int da, .int ds, .int ac, .int (nI kc), .ref m1, .ref m2, .ref m3, .ref m4, .ref m5, .int (nI pl), .ref pg, .int fa, .int nf, .ref m6, .ref m7, .ref m8, .long sd, .int ik, .int kh, .int (nI km), .int ka, .int ks, .int kac, .ref m9, .ref m10, .ref m11, .ref m12, .long hv])), (m1, .inl (cI, 6, .inl g1)), (m2, .inl (cI, 6, .inl g2)), (m5, .inl (cI, 6, .inl g5))]) (va_A [(h0, .inr (7, [.int ih, .int hn, .int fl, .int da, .int ds, .int ac, .int (nI kc), .ref m1, .ref m2, .ref m3, .ref m4, .ref m5, .int (nI pl), .ref pg, .int fa, .int nf, .ref m6, .ref m7, .ref m8, .long sd, .int ik, .int kh, .int (nI km), .int ka, .int ks, .int kac, .ref m9, .ref m10, .ref m11, .ref m12, .long hv])), (m1, .inl (cI, 6, .inl g1)), (m2, .inl (cI, 6, .inl g2)), (m5, .inl (cI, 6, .inl g5))] sz)) 0 0 (va_A [(h0, .inr (7, [.int ih, .int hn, .int fl, .int da, .int ds, .int ac, .int (nI kc), .ref m1, .ref m2, .ref m3, .ref m4, .ref m5, .int (nI pl), .ref pg, .int fa, .int nf, .ref m6, .ref m7, .ref m8, .long sd, .int ik, .int kh, .int (nI km), .int ka, .int ks, .int kac, .ref m9, .ref m10, .ref m11, .ref m12, .long hv])), (m1, .inl (cI, 6, .inl g1)), (m2, .inl (cI, 6, .inl g2)), (m5, .inl (cI, 6, .inl g5))] sz) := by
  refine cz_of (cc := cX7_stood) (maxL := 2) (ret := (some .int)) (by decide) rfl ?_
  intro p e s m args below meth c s₁ Q B hml hv hQ
  obtain ⟨rfl, hsz, hP, hN, hD0⟩ := hv
  have hx := B.exec
  have hb := B.bytes
  have hr := B.returns
  have hts := atoms_spec (ws := wsX7_stood) B.pre
  have hown : s.vm.findClass RX7 = some m.cls := findClass_of_methodNamed B.named
  have hlocks := B.notSynchronized
  have hK := hN.1
  have hiX7 : ∀ w ∈ wsX70, w ∈ wsX7_stood := (fun _ h => List.mem_cons_of_mem _ (List.mem_append_right _ h))
  subst hsz
  have hD := hD0.self (sz := s.heap.size)
  generalize hAe : va_A [(h0, .inr (7, [.int ih, .int hn, .int fl, .int da, .int ds, .int ac, .int (nI kc), .ref m1, .ref m2, .ref m3, .ref m4, .ref m5, .int (nI pl), .ref pg, .int fa, .int nf, .ref m6, .ref m7, .ref m8, .long sd, .int ik, .int kh, .int (nI km), .int ka, .int ks, .int kac, .ref m9, .ref m10, .ref m11, .ref m12, .long hv])), (m1, .inl (cI, 6, .inl g1)), (m2, .inl (cI, 6, .inl g2)), (m5, .inl (cI, 6, .inl g5))] s.heap.size = A at hD hQ ⊢
  have hA : ∀ q : Nat, s.heap.size ≤ q → A q := fun q h => by rw [← hAe]; exact Or.inr h
  have hS : va_S A s.heap s.heap [] := va_S.rf
  obtain ⟨H, eH⟩ : ∃ H, H = s.heap := ⟨_, rfl⟩
  have hP : va_P (dC, dI) vwCl [(h0, .inr (7, [.int ih, .int hn, .int fl, .int da, .int ds, .int ac, .int (nI kc), .ref m1, .ref m2, .ref m3, .ref m4, .ref m5, .int (nI pl), .ref pg, .int fa, .int nf, .ref m6, .ref m7, .ref m8, .long sd, .int ik, .int kh, .int (nI km), .int ka, .int ks, .int kac, .ref m9, .ref m10, .ref m11, .ref m12, .long hv])), (m1, .inl (cI, 6, .inl g1)), (m2, .inl (cI, 6, .inl g2)), (m5, .inl (cI, 6, .inl g5))] s.heap := hP
  have hl := lv_entry ([.ref h0, .int p0]) (n := 2) (Nat.le_of_ble_eq_true rfl)
  rw [lg_entry_eq]
  generalize (lg_sl ([.ref h0, .int p0]) ++ List.replicate (2 - (lg_sl ([.ref h0, .int p0])).length) Slot.unset).toArray = ls at hl ⊢
  have hl : lv_has ls 2 [(0, .ref h0), (1, .int p0)] := hl
  refine lv_iload_n hx hb dX7_stood_0 rfl (lv_at hl 1 rfl) ?_
  refine lv_iconst (v := 0) hx hb dX7_stood_1 (by decide) ?_
  refine lv_iconst (v := 2) hx hb dX7_stood_2 (by decide) ?_
  refine vp_callSi (cz_run (va_runS (As := [.int p0, .int 0, .int 2]) (rest := []) ⟨hx, hb, hml, hown, hts⟩ (c_X7_within l dC dI cI cB p0 0 2 ) (va_cwS 3 hts gX7_stood_X7_within rfl rfl rfl (by decide +kernel) ⟨Nat.le_of_ble_eq_true rfl, Nat.le_of_ble_eq_true rfl⟩) (cz_pS (hP.sub (ws' := []) [] rfl) hN) rfl rfl hl.1 rfl (lv_room (Nat.le_of_ble_eq_true rfl)) dX7_stood_3 ⟨Nat.le_of_ble_eq_true rfl, Nat.le_of_ble_eq_true rfl⟩)) (fun r_1 hr_1 => ?_)
  rcases hr_1 with ⟨rfl, hr_1⟩ | ⟨rfl, hr_1⟩
  · refine lv_if_ne (tgt := 12) hx hb dX7_stood_6 (by decide) (fun c => absurd (by decide) c) (fun _ => ?_)
    refine lv_bipush (v := (-102)) hx hb dX7_stood_9 (by decide) ?_
    refine W.widen (k := 0) (n := 0) (Nat.le_of_ble_eq_true rfl) (Nat.le_of_ble_eq_true rfl) ?_
    have hP9 := hP.sub (ws' := [(h0, .inr (7, [.int ih, .int hn, .int fl, .int da, .int ds, .int ac, .int (nI kc), .ref m1, .ref m2, .ref m3, .ref m4, .ref m5, .int (nI pl), .ref pg, .int fa, .int nf, .ref m6, .ref m7, .ref m8, .long sd, .int ik, .int kh, .int (nI km), .int ka, .int ks, .int kac, .ref m9, .ref m10, .ref m11, .ref m12, .long hv])), (m1, .inl (cI, 6, .inl g1)), (m2, .inl (cI, 6, .inl g2)), (m5, .inl (cI, 6, .inl g5))]) [0, 1, 2, 3] rfl
    have hD9 := hD.sub (ws' := [(h0, .inr (7, [.int ih, .int hn, .int fl, .int da, .int ds, .int ac, .int (nI kc), .ref m1, .ref m2, .ref m3, .ref m4, .ref m5, .int (nI pl), .ref pg, .int fa, .int nf, .ref m6, .ref m7, .ref m8, .long sd, .int ik, .int kh, .int (nI km), .int ka, .int ks, .int kac, .ref m9, .ref m10, .ref m11, .ref m12, .long hv])), (m1, .inl (cI, 6, .inl g1)), (m2, .inl (cI, 6, .inl g2)), (m5, .inl (cI, 6, .inl g5))]) [0, 1, 2, 3] (by decide) rfl
    rw [hQ]; exact W.iret (v := (-102)) hx hb hr (fun t ht hW => ⟨⟨(-102), (), rfl, trivial, ⟨by rw [ht]; exact hP9, hD9⟩⟩, hS.F ht⟩) hS.2.2 dX7_stood_11
  · refine lv_if_ne (tgt := 12) hx hb dX7_stood_6 (by decide) (fun _ => ?_) (fun c => absurd c (by decide))
    refine lv_aload_n hx hb dX7_stood_12 rfl (lv_at hl 0 rfl) ?_
    refine va_get (D := (dC, dI)) (ci := 7) (v := .int ih) (C := RX7) (T := TX7) (N := 31) hx hb hts hiX7 hown hK hP 0 rfl rfl 0 (by decide) (hts (.fieldLink RX7 76 "LeftProfileModel" "isHall" "Z") (List.mem_of_getElem? (i := 1) rfl)) (fun _ h9 => h9) rfl dX7_stood_13 ?_
    refine lv_if_eq (tgt := 27) hx hb dX7_stood_16 (by decide) (fun c_2 => ?_) (fun c_2 => ?_)
    · refine lv_bipush (v := (-103)) hx hb dX7_stood_27 (by decide) ?_
      refine W.widen (k := 0) (n := 0) (Nat.le_of_ble_eq_true rfl) (Nat.le_of_ble_eq_true rfl) ?_
      have hP9 := hP.sub (ws' := [(h0, .inr (7, [.int ih, .int hn, .int fl, .int da, .int ds, .int ac, .int (nI kc), .ref m1, .ref m2, .ref m3, .ref m4, .ref m5, .int (nI pl), .ref pg, .int fa, .int nf, .ref m6, .ref m7, .ref m8, .long sd, .int ik, .int kh, .int (nI km), .int ka, .int ks, .int kac, .ref m9, .ref m10, .ref m11, .ref m12, .long hv])), (m1, .inl (cI, 6, .inl g1)), (m2, .inl (cI, 6, .inl g2)), (m5, .inl (cI, 6, .inl g5))]) [0, 1, 2, 3] rfl
      have hD9 := hD.sub (ws' := [(h0, .inr (7, [.int ih, .int hn, .int fl, .int da, .int ds, .int ac, .int (nI kc), .ref m1, .ref m2, .ref m3, .ref m4, .ref m5, .int (nI pl), .ref pg, .int fa, .int nf, .ref m6, .ref m7, .ref m8, .long sd, .int ik, .int kh, .int (nI km), .int ka, .int ks, .int kac, .ref m9, .ref m10, .ref m11, .ref m12, .long hv])), (m1, .inl (cI, 6, .inl g1)), (m2, .inl (cI, 6, .inl g2)), (m5, .inl (cI, 6, .inl g5))]) [0, 1, 2, 3] (by decide) rfl
      rw [hQ]; exact W.iret (v := (-103)) hx hb hr (fun t ht hW => ⟨⟨(-103), (), rfl, trivial, ⟨by rw [ht]; exact hP9, hD9⟩⟩, hS.F ht⟩) hS.2.2 dX7_stood_29
    · refine lv_aload_n hx hb dX7_stood_19 rfl (lv_at hl 0 rfl) ?_
      refine lv_iload_n hx hb dX7_stood_20 rfl (lv_at hl 1 rfl) ?_
      have hPc := hP.sub (ws' := [(h0, .inr (7, [.int ih, .int hn, .int fl, .int da, .int ds, .int ac, .int (nI kc), .ref m1, .ref m2, .ref m3, .ref m4, .ref m5, .int (nI pl), .ref pg, .int fa, .int nf, .ref m6, .ref m7, .ref m8, .long sd, .int ik, .int kh, .int (nI km), .int ka, .int ks, .int kac, .ref m9, .ref m10, .ref m11, .ref m12, .long hv])), (m1, .inl (cI, 6, .inl g1)), (m2, .inl (cI, 6, .inl g2)), (m5, .inl (cI, 6, .inl g5))]) [0, 1, 2, 3] rfl
      have hDc := hD.sub (ws' := [(h0, .inr (7, [.int ih, .int hn, .int fl, .int da, .int ds, .int ac, .int (nI kc), .ref m1, .ref m2, .ref m3, .ref m4, .ref m5, .int (nI pl), .ref pg, .int fa, .int nf, .ref m6, .ref m7, .ref m8, .long sd, .int ik, .int kh, .int (nI km), .int ka, .int ks, .int kac, .ref m9, .ref m10, .ref m11, .ref m12, .long hv])), (m1, .inl (cI, 6, .inl g1)), (m2, .inl (cI, 6, .inl g2)), (m5, .inl (cI, 6, .inl g5))]) [0, 1, 2, 3] (by decide) rfl
      have hFc := va_free (wc := [(h0, .inr (7, [.int ih, .int hn, .int fl, .int da, .int ds, .int ac, .int (nI kc), .ref m1, .ref m2, .ref m3, .ref m4, .ref m5, .int (nI pl), .ref pg, .int fa, .int nf, .ref m6, .ref m7, .ref m8, .long sd, .int ik, .int kh, .int (nI km), .int ka, .int ks, .int kac, .ref m9, .ref m10, .ref m11, .ref m12, .long hv])), (m1, .inl (cI, 6, .inl g1)), (m2, .inl (cI, 6, .inl g2)), (m5, .inl (cI, 6, .inl g5))]) hD hS hA [0, 1, 2, 3] rfl
      refine va_calli (va_runV (As := [.int p0]) (rest := []) ⟨hx, hb, hml, hown, hts⟩ (c_X7_stoodNow l dC dI cI cB h0 p0 ih hn fl da ds ac kc m1 m2 m3 m4 m5 pl pg fa nf m6 m7 m8 sd ik kh km ka ks kac m9 m10 m11 m12 hv g1 g2 g5 s.heap.size hkc hpl) (cwV 1 hts gX7_stood_X7_stoodNow rfl rfl rfl (by decide +kernel) ⟨Nat.le_of_ble_eq_true rfl, Nat.le_of_ble_eq_true rfl⟩) (cz_mV hPc hN hDc (va_recv hK hPc (ci := 7) (q0 := 0) rfl rfl)) rfl rfl hl.1 rfl (lv_room (Nat.le_of_ble_eq_true rfl)) dX7_stood_21 ⟨Nat.le_of_ble_eq_true rfl, Nat.le_of_ble_eq_true rfl⟩) hS (fun q _ h => hFc q h) hFc (fun r_3 u t H1 locs ht hvm hr_3 hB hz1 hk1 hS => ?_)
      obtain ⟨hP1, hD1⟩ := hB
      rw [ht] at hP1
      obtain ⟨hP, hD⟩ := va_join (wr := []) (w1 := [(h0, .inr (7, [.int ih, .int hn, .int fl, .int da, .int ds, .int ac, .int (nI kc), .ref m1, .ref m2, .ref m3, .ref m4, .ref m5, .int (nI pl), .ref pg, .int fa, .int nf, .ref m6, .ref m7, .ref m8, .long sd, .int ik, .int kh, .int (nI km), .int ka, .int ks, .int kac, .ref m9, .ref m10, .ref m11, .ref m12, .long hv])), (m1, .inl (cI, 6, .inl g1)), (m2, .inl (cI, 6, .inl g2)), (m5, .inl (cI, 6, .inl g5))]) hP hD [0, 1, 2, 3] [] rfl rfl (by decide) (by decide) hk1 hFc hP1 hD1
      generalize H1 = H at hP hS ⊢
      have hP : va_P (dC, dI) vwCl [(h0, .inr (7, [.int ih, .int hn, .int fl, .int da, .int ds, .int ac, .int (nI kc), .ref m1, .ref m2, .ref m3, .ref m4, .ref m5, .int (nI pl), .ref pg, .int fa, .int nf, .ref m6, .ref m7, .ref m8, .long sd, .int ik, .int kh, .int (nI km), .int ka, .int ks, .int kac, .ref m9, .ref m10, .ref m11, .ref m12, .long hv])), (m1, .inl (cI, 6, .inl g1)), (m2, .inl (cI, 6, .inl g2)), (m5, .inl (cI, 6, .inl g5))] H := hP
      have hD : va_D A [(h0, .inr (7, [.int ih, .int hn, .int fl, .int da, .int ds, .int ac, .int (nI kc), .ref m1, .ref m2, .ref m3, .ref m4, .ref m5, .int (nI pl), .ref pg, .int fa, .int nf, .ref m6, .ref m7, .ref m8, .long sd, .int ik, .int kh, .int (nI km), .int ka, .int ks, .int kac, .ref m9, .ref m10, .ref m11, .ref m12, .long hv])), (m1, .inl (cI, 6, .inl g1)), (m2, .inl (cI, 6, .inl g2)), (m5, .inl (cI, 6, .inl g5))] := hD
      refine lv_goto (tgt := 29) hx hb dX7_stood_24 (by decide) ?_
      refine W.widen (k := 0) (n := 0) (Nat.le_of_ble_eq_true rfl) (Nat.le_of_ble_eq_true rfl) ?_
      have hP9 := hP.sub (ws' := [(h0, .inr (7, [.int ih, .int hn, .int fl, .int da, .int ds, .int ac, .int (nI kc), .ref m1, .ref m2, .ref m3, .ref m4, .ref m5, .int (nI pl), .ref pg, .int fa, .int nf, .ref m6, .ref m7, .ref m8, .long sd, .int ik, .int kh, .int (nI km), .int ka, .int ks, .int kac, .ref m9, .ref m10, .ref m11, .ref m12, .long hv])), (m1, .inl (cI, 6, .inl g1)), (m2, .inl (cI, 6, .inl g2)), (m5, .inl (cI, 6, .inl g5))]) [0, 1, 2, 3] rfl
      have hD9 := hD.sub (ws' := [(h0, .inr (7, [.int ih, .int hn, .int fl, .int da, .int ds, .int ac, .int (nI kc), .ref m1, .ref m2, .ref m3, .ref m4, .ref m5, .int (nI pl), .ref pg, .int fa, .int nf, .ref m6, .ref m7, .ref m8, .long sd, .int ik, .int kh, .int (nI km), .int ka, .int ks, .int kac, .ref m9, .ref m10, .ref m11, .ref m12, .long hv])), (m1, .inl (cI, 6, .inl g1)), (m2, .inl (cI, 6, .inl g2)), (m5, .inl (cI, 6, .inl g5))]) [0, 1, 2, 3] (by decide) rfl
      rw [hQ]; exact W.iret (v := r_3) hx hb hr (fun t ht hW => ⟨⟨r_3, (), rfl, trivial, ⟨by rw [ht]; exact hP9, hD9⟩⟩, hS.F ht⟩) hS.2.2 dX7_stood_29

set_option maxHeartbeats 4000000 in
set_option maxRecDepth 100000 in
theorem c_X7_draw (l : Launch) (dC : Nat → ClassId) (dI : Nat → Nat → Nat) (cI cB : ClassId) (h0 : Nat) (ih : Int32) (hn : Int32) (fl : Int32) (da : Int32) (ds : Int32) (ac : Int32) (kc : Nat) (m1 : Nat) (m2 : Nat) (m3 : Nat) (m4 : Nat) (m5 : Nat) (pl : Nat) (pg : Nat) (fa : Int32) (nf : Int32) (m6 : Nat) (m7 : Nat) (m8 : Nat) (sd : Int64) (ik : Int32) (kh : Int32) (km : Nat) (ka : Int32) (ks : Int32) (kac : Int32) (m9 : Nat) (m10 : Nat) (m11 : Nat) (m12 : Nat) (hv : Int64) (sz : Nat) : Met l yX7_draw wsX7_draw ({ frames := 0, cells := 0, slots := 0, locals := 0 }) (cz_Pm dC dI cI cB [.ref h0, .int 3] [(h0, .inr (7, [.int ih, .int hn, .int fl, .int da, .int ds, .int ac, .int (nI kc), .ref m1, .ref m2, .ref m3, .ref m4, .ref m5, .int (nI pl), .ref pg, .int fa, .int nf, .ref m6, .ref m7, .ref m8, .long sd, .int ik, .int kh, .int (nI km), .int ka, .int ks, .int kac, .ref m9, .ref m10, .ref m11, .ref m12, .long hv]))] sz) (va_Qi (fun (r : Int32) (_ : Unit) => True) (fun _ t => ∃ (z9 : Int64), va_P (dC, dI) vwCl [(h0, .inr (7, [.int ih, .int hn, .int fl, .int da, .int ds, .int ac, .int (nI kc), .ref m1, .ref m2, .ref m3, .ref m4, .ref m5, .int (nI pl), .ref pg, .int fa, .int nf, .ref m6, .ref m7, .ref m8, .long z9, .int ik, .int kh, .int (nI km), .int ka, .int ks, .int kac, .ref m9, .ref m10, .ref m11, .ref m12, .long hv]))] t.heap ∧ va_D (va_A [(h0, .inr (7, [.int ih, .int hn, .int fl, .int da, .int ds, .int ac, .int (nI kc), .ref m1, .ref m2, .ref m3, .ref m4, .ref m5, .int (nI pl), .ref pg, .int fa, .int nf, .ref m6, .ref m7, .ref m8, .long sd, .int ik, .int kh, .int (nI km), .int ka, .int ks, .int kac, .ref m9, .ref m10, .ref m11, .ref m12, .long hv]))] sz) [(h0, .inr (7, [.int ih, .int hn, .int fl, .int da, .int ds, .int ac, .int (nI kc), .ref m1, .ref m2, .ref m3, .ref m4, .ref m5, .int (nI pl), .ref pg, .int fa, .int nf, .ref m6, .ref m7, .ref m8, .long z9, .int ik, .int kh, .int (nI km), .int ka, .int ks, .int kac, .ref m9, .ref m10, .ref m11, .ref m12, .long hv]))]) (va_A [(h0, .inr (7, [.int ih, .int hn, .int fl, .int da, .int ds, .int ac, .int (nI kc), .ref m1, .ref m2, .ref m3, .ref m4, .ref m5, .int (nI pl), .ref pg, .int fa, .int nf, .ref m6, .ref m7, .ref m8, .long sd, .int ik, .int kh, .int (nI km), .int ka, .int ks, .int kac, .ref m9, .ref m10, .ref m11, .ref m12, .long hv]))] sz)) 0 0 (va_A [(h0, .inr (7, [.int ih, .int hn, .int fl, .int da, .int ds, .int ac, .int (nI kc), .ref m1, .ref m2, .ref m3, .ref m4, .ref m5, .int (nI pl), .ref pg, .int fa, .int nf, .ref m6, .ref m7, .ref m8, .long sd, .int ik, .int kh, .int (nI km), .int ka, .int ks, .int kac, .ref m9, .ref m10, .ref m11, .ref m12, .long hv]))] sz) := by
  refine cz_of (cc := cX7_draw) (maxL := 2) (ret := (some .int)) (by decide) rfl ?_
  intro p e s m args below meth c s₁ Q B hml hv hQ
  obtain ⟨rfl, hsz, hP, hN, hD0⟩ := hv
  have hx := B.exec
  have hb := B.bytes
  have hr := B.returns
  have hts := atoms_spec (ws := wsX7_draw) B.pre
  have hown : s.vm.findClass RX7 = some m.cls := findClass_of_methodNamed B.named
  have hlocks := B.notSynchronized
  have hK := hN.1
  have hiX7 : ∀ w ∈ wsX70, w ∈ wsX7_draw := (fun _ h => List.mem_cons_of_mem _ (List.mem_append_right _ h))
  subst hsz
  have hD := hD0.self (sz := s.heap.size)
  generalize hAe : va_A [(h0, .inr (7, [.int ih, .int hn, .int fl, .int da, .int ds, .int ac, .int (nI kc), .ref m1, .ref m2, .ref m3, .ref m4, .ref m5, .int (nI pl), .ref pg, .int fa, .int nf, .ref m6, .ref m7, .ref m8, .long sd, .int ik, .int kh, .int (nI km), .int ka, .int ks, .int kac, .ref m9, .ref m10, .ref m11, .ref m12, .long hv]))] s.heap.size = A at hD hQ ⊢
  have hA : ∀ q : Nat, s.heap.size ≤ q → A q := fun q h => by rw [← hAe]; exact Or.inr h
  have hS : va_S A s.heap s.heap [] := va_S.rf
  obtain ⟨H, eH⟩ : ∃ H, H = s.heap := ⟨_, rfl⟩
  have hP : va_P (dC, dI) vwCl [(h0, .inr (7, [.int ih, .int hn, .int fl, .int da, .int ds, .int ac, .int (nI kc), .ref m1, .ref m2, .ref m3, .ref m4, .ref m5, .int (nI pl), .ref pg, .int fa, .int nf, .ref m6, .ref m7, .ref m8, .long sd, .int ik, .int kh, .int (nI km), .int ka, .int ks, .int kac, .ref m9, .ref m10, .ref m11, .ref m12, .long hv]))] s.heap := hP
  have hl := lv_entry ([.ref h0, .int 3]) (n := 2) (Nat.le_of_ble_eq_true rfl)
  rw [lg_entry_eq]
  generalize (lg_sl ([.ref h0, .int 3]) ++ List.replicate (2 - (lg_sl ([.ref h0, .int 3])).length) Slot.unset).toArray = ls at hl ⊢
  have hl : lv_has ls 2 [(0, .ref h0), (1, .int 3)] := hl
  refine lv_aload_n hx hb dX7_draw_0 rfl (lv_at hl 0 rfl) ?_
  refine lv_ldc2 (v := 1103515245) hx hb hown (hts (.constantLong RX7 191 (1103515245)) (List.mem_of_getElem? (i := 1) rfl)) dX7_draw_1 ?_
  refine lv_aload_n hx hb dX7_draw_4 rfl (lv_at hl 0 rfl) ?_
  refine va_get (D := (dC, dI)) (ci := 7) (v := .long sd) (C := RX7) (T := TX7) (N := 31) hx hb hts hiX7 hown hK hP 0 rfl rfl 19 (by decide) (hts (.fieldLink RX7 193 "LeftProfileModel" "seedNow" "J") (List.mem_of_getElem? (i := 2) rfl)) (fun _ h9 => h9) rfl dX7_draw_5 ?_
  refine lv_lmul hx hb dX7_draw_8 ?_
  refine lv_topl (fun x_1 ex_1 => ?_)
  refine lv_ldc2 (v := 12345) hx hb hown (hts (.constantLong RX7 197 (12345)) (List.mem_of_getElem? (i := 3) rfl)) dX7_draw_9 ?_
  refine lv_ladd hx hb dX7_draw_12 ?_
  refine lv_topl (fun x_2 ex_2 => ?_)
  refine lv_ldc2 (v := 2147483647) hx hb hown (hts (.constantLong RX7 199 (2147483647)) (List.mem_of_getElem? (i := 4) rfl)) dX7_draw_13 ?_
  refine lv_land hx hb dX7_draw_16 ?_
  refine lv_topl (fun x_3 ex_3 => ?_)
  refine va_put (D := (dC, dI)) (ci := 7) (v := .long x_3) (ty := .long) (C := RX7) (T := TX7) (N := 31) hx hb hts hiX7 tyX7 tyX7_ok nmX7 hown hK hP hD hS 0 rfl rfl 19 (by decide) (hts (.fieldLink RX7 193 "LeftProfileModel" "seedNow" "J") (List.mem_of_getElem? (i := 2) rfl)) (fun _ h9 => h9) rfl (by decide +kernel) rfl rfl (Nat.le_of_ble_eq_true rfl) dX7_draw_17 (fun H locs hP hD hS => ?_)
  have hP : va_P (dC, dI) vwCl [(h0, .inr (7, [.int ih, .int hn, .int fl, .int da, .int ds, .int ac, .int (nI kc), .ref m1, .ref m2, .ref m3, .ref m4, .ref m5, .int (nI pl), .ref pg, .int fa, .int nf, .ref m6, .ref m7, .ref m8, .long x_3, .int ik, .int kh, .int (nI km), .int ka, .int ks, .int kac, .ref m9, .ref m10, .ref m11, .ref m12, .long hv]))] H := hP
  have hD : va_D A [(h0, .inr (7, [.int ih, .int hn, .int fl, .int da, .int ds, .int ac, .int (nI kc), .ref m1, .ref m2, .ref m3, .ref m4, .ref m5, .int (nI pl), .ref pg, .int fa, .int nf, .ref m6, .ref m7, .ref m8, .long x_3, .int ik, .int kh, .int (nI km), .int ka, .int ks, .int kac, .ref m9, .ref m10, .ref m11, .ref m12, .long hv]))] := hD
  refine lv_aload_n hx hb dX7_draw_20 rfl (lv_at hl 0 rfl) ?_
  refine va_get (D := (dC, dI)) (ci := 7) (v := .long x_3) (C := RX7) (T := TX7) (N := 31) hx hb hts hiX7 hown hK hP 0 rfl rfl 19 (by decide) (hts (.fieldLink RX7 193 "LeftProfileModel" "seedNow" "J") (List.mem_of_getElem? (i := 2) rfl)) (fun _ h9 => h9) rfl dX7_draw_21 ?_
  refine lv_ldc2 (v := 65536) hx hb hown (hts (.constantLong RX7 201 (65536)) (List.mem_of_getElem? (i := 5) rfl)) dX7_draw_24 ?_
  refine lv_ldiv hx hb dX7_draw_27 (by decide) ?_
  refine lv_topl (fun x_4 ex_4 => ?_)
  refine lv_iload_n hx hb dX7_draw_28 rfl (lv_at hl 1 rfl) ?_
  refine lv_i2l hx hb dX7_draw_29 rfl ?_
  refine cz_lg (y := 3) (by decide) ?_
  refine lv_lrem hx hb dX7_draw_30 (by decide) ?_
  refine lv_topl (fun x_5 ex_5 => ?_)
  refine lv_l2i hx hb dX7_draw_31 rfl ?_
  refine lv_topi (fun x_6 ex_6 => ?_)
  refine W.widen (k := 0) (n := 0) (Nat.le_of_ble_eq_true rfl) (Nat.le_of_ble_eq_true rfl) ?_
  have hP9 := hP.sub (ws' := [(h0, .inr (7, [.int ih, .int hn, .int fl, .int da, .int ds, .int ac, .int (nI kc), .ref m1, .ref m2, .ref m3, .ref m4, .ref m5, .int (nI pl), .ref pg, .int fa, .int nf, .ref m6, .ref m7, .ref m8, .long x_3, .int ik, .int kh, .int (nI km), .int ka, .int ks, .int kac, .ref m9, .ref m10, .ref m11, .ref m12, .long hv]))]) [0] rfl
  have hD9 := hD.sub (ws' := [(h0, .inr (7, [.int ih, .int hn, .int fl, .int da, .int ds, .int ac, .int (nI kc), .ref m1, .ref m2, .ref m3, .ref m4, .ref m5, .int (nI pl), .ref pg, .int fa, .int nf, .ref m6, .ref m7, .ref m8, .long x_3, .int ik, .int kh, .int (nI km), .int ka, .int ks, .int kac, .ref m9, .ref m10, .ref m11, .ref m12, .long hv]))]) [0] (by decide) rfl
  rw [hQ]; exact W.iret (v := x_6) hx hb hr (fun t ht hW => ⟨⟨x_6, (), rfl, trivial, ⟨x_3, by rw [ht]; exact hP9, hD9⟩⟩, hS.F ht⟩) hS.2.2 dX7_draw_32

set_option maxHeartbeats 4000000 in
set_option maxRecDepth 100000 in
theorem c_X7_walkNow (l : Launch) (dC : Nat → ClassId) (dI : Nat → Nat → Nat) (cI cB : ClassId) (h0 : Nat) (t0 : Nat) (p1 : Int32) (p2 : Int32) (ih : Int32) (hn : Int32) (fl : Int32) (d0 : Nat) (e0 : Nat) (ac : Int32) (kc : Nat) (m1 : Nat) (m2 : Nat) (m3 : Nat) (m4 : Nat) (m5 : Nat) (pl : Nat) (pg : Nat) (fa : Int32) (nf : Int32) (m6 : Nat) (m7 : Nat) (m8 : Nat) (sd : Int64) (ik : Int32) (kh : Int32) (km : Nat) (ka : Int32) (ks : Int32) (kac : Int32) (m9 : Nat) (m10 : Nat) (m11 : Nat) (m12 : Nat) (hv : Int64) (g1 : Nat → Int32) (g2 : Nat → Int32) (sz : Nat) (hkc : kc ≤ 6) (hpl : cz_pl g2) (hd0 : d0 < 20) (he0 : e0 < 4) (ht60 : t0 ≤ 60) : Met l yX7_walkNow wsX7_walkNow ({ frames := 5, cells := 0, slots := 0, locals := 116 }) (cz_Pm dC dI cI cB [.ref h0, .int (nI t0), .int p1, .int p2] [(h0, .inr (7, [.int ih, .int hn, .int fl, .int (nI d0), .int (nI e0), .int ac, .int (nI kc), .ref m1, .ref m2, .ref m3, .ref m4, .ref m5, .int (nI pl), .ref pg, .int fa, .int nf, .ref m6, .ref m7, .ref m8, .long sd, .int ik, .int kh, .int (nI km), .int ka, .int ks, .int kac, .ref m9, .ref m10, .ref m11, .ref m12, .long hv])), (m1, .inl (cI, 6, .inl g1)), (m2, .inl (cI, 6, .inl g2))] sz) (va_Qi (fun (r : Int32) (_ : Unit) => True) (fun _ t => ∃ (z9 : Int64), va_P (dC, dI) vwCl [(h0, .inr (7, [.int ih, .int hn, .int fl, .int (nI d0), .int (nI e0), .int ac, .int (nI kc), .ref m1, .ref m2, .ref m3, .ref m4, .ref m5, .int (nI pl), .ref pg, .int fa, .int nf, .ref m6, .ref m7, .ref m8, .long z9, .int ik, .int kh, .int (nI km), .int ka, .int ks, .int kac, .ref m9, .ref m10, .ref m11, .ref m12, .long hv])), (m1, .inl (cI, 6, .inl g1)), (m2, .inl (cI, 6, .inl g2))] t.heap ∧ va_D (va_A [(h0, .inr (7, [.int ih, .int hn, .int fl, .int (nI d0), .int (nI e0), .int ac, .int (nI kc), .ref m1, .ref m2, .ref m3, .ref m4, .ref m5, .int (nI pl), .ref pg, .int fa, .int nf, .ref m6, .ref m7, .ref m8, .long sd, .int ik, .int kh, .int (nI km), .int ka, .int ks, .int kac, .ref m9, .ref m10, .ref m11, .ref m12, .long hv])), (m1, .inl (cI, 6, .inl g1)), (m2, .inl (cI, 6, .inl g2))] sz) [(h0, .inr (7, [.int ih, .int hn, .int fl, .int (nI d0), .int (nI e0), .int ac, .int (nI kc), .ref m1, .ref m2, .ref m3, .ref m4, .ref m5, .int (nI pl), .ref pg, .int fa, .int nf, .ref m6, .ref m7, .ref m8, .long z9, .int ik, .int kh, .int (nI km), .int ka, .int ks, .int kac, .ref m9, .ref m10, .ref m11, .ref m12, .long hv])), (m1, .inl (cI, 6, .inl g1)), (m2, .inl (cI, 6, .inl g2))]) (va_A [(h0, .inr (7, [.int ih, .int hn, .int fl, .int (nI d0), .int (nI e0), .int ac, .int (nI kc), .ref m1, .ref m2, .ref m3, .ref m4, .ref m5, .int (nI pl), .ref pg, .int fa, .int nf, .ref m6, .ref m7, .ref m8, .long sd, .int ik, .int kh, .int (nI km), .int ka, .int ks, .int kac, .ref m9, .ref m10, .ref m11, .ref m12, .long hv])), (m1, .inl (cI, 6, .inl g1)), (m2, .inl (cI, 6, .inl g2))] sz)) 0 0 (va_A [(h0, .inr (7, [.int ih, .int hn, .int fl, .int (nI d0), .int (nI e0), .int ac, .int (nI kc), .ref m1, .ref m2, .ref m3, .ref m4, .ref m5, .int (nI pl), .ref pg, .int fa, .int nf, .ref m6, .ref m7, .ref m8, .long sd, .int ik, .int kh, .int (nI km), .int ka, .int ks, .int kac, .ref m9, .ref m10, .ref m11, .ref m12, .long hv])), (m1, .inl (cI, 6, .inl g1)), (m2, .inl (cI, 6, .inl g2))] sz) := by
  refine cz_of (cc := cX7_walkNow) (maxL := 9) (ret := (some .int)) (by decide) rfl ?_
  intro p e s m args below meth c s₁ Q B hml hv hQ
  obtain ⟨rfl, hsz, hP, hN, hD0⟩ := hv
  have hx := B.exec
  have hb := B.bytes
  have hr := B.returns
  have hts := atoms_spec (ws := wsX7_walkNow) B.pre
  have hown : s.vm.findClass RX7 = some m.cls := findClass_of_methodNamed B.named
  have hlocks := B.notSynchronized
  have hK := hN.1
  have hiX7 : ∀ w ∈ wsX70, w ∈ wsX7_walkNow := (fun _ h => List.mem_cons_of_mem _ (List.mem_append_right _ h))
  subst hsz
  have hD := hD0.self (sz := s.heap.size)
  generalize hAe : va_A [(h0, .inr (7, [.int ih, .int hn, .int fl, .int (nI d0), .int (nI e0), .int ac, .int (nI kc), .ref m1, .ref m2, .ref m3, .ref m4, .ref m5, .int (nI pl), .ref pg, .int fa, .int nf, .ref m6, .ref m7, .ref m8, .long sd, .int ik, .int kh, .int (nI km), .int ka, .int ks, .int kac, .ref m9, .ref m10, .ref m11, .ref m12, .long hv])), (m1, .inl (cI, 6, .inl g1)), (m2, .inl (cI, 6, .inl g2))] s.heap.size = A at hD hQ ⊢
  have hA : ∀ q : Nat, s.heap.size ≤ q → A q := fun q h => by rw [← hAe]; exact Or.inr h
  have hS : va_S A s.heap s.heap [] := va_S.rf
  obtain ⟨H, eH⟩ : ∃ H, H = s.heap := ⟨_, rfl⟩
  have hP : va_P (dC, dI) vwCl [(h0, .inr (7, [.int ih, .int hn, .int fl, .int (nI d0), .int (nI e0), .int ac, .int (nI kc), .ref m1, .ref m2, .ref m3, .ref m4, .ref m5, .int (nI pl), .ref pg, .int fa, .int nf, .ref m6, .ref m7, .ref m8, .long sd, .int ik, .int kh, .int (nI km), .int ka, .int ks, .int kac, .ref m9, .ref m10, .ref m11, .ref m12, .long hv])), (m1, .inl (cI, 6, .inl g1)), (m2, .inl (cI, 6, .inl g2))] s.heap := hP
  have hl := lv_entry ([.ref h0, .int (nI t0), .int p1, .int p2]) (n := 9) (Nat.le_of_ble_eq_true rfl)
  rw [lg_entry_eq]
  generalize (lg_sl ([.ref h0, .int (nI t0), .int p1, .int p2]) ++ List.replicate (9 - (lg_sl ([.ref h0, .int (nI t0), .int p1, .int p2])).length) Slot.unset).toArray = ls at hl ⊢
  have hl : lv_has ls 9 [(0, .ref h0), (1, .int (nI t0)), (2, .int p1), (3, .int p2)] := hl
  refine lv_aload_n hx hb dX7_walkNow_0 rfl (lv_at hl 0 rfl) ?_
  refine va_get (D := (dC, dI)) (ci := 7) (v := .int (nI d0)) (C := RX7) (T := TX7) (N := 31) hx hb hts hiX7 hown hK hP 0 rfl rfl 3 (by decide) (hts (.fieldLink RX7 7 "LeftProfileModel" "dukeAt" "I") (List.mem_of_getElem? (i := 1) rfl)) (fun _ h9 => h9) rfl dX7_walkNow_1 ?_
  refine lv_istore (lv' := [(4, .int (nI d0)), (0, .ref h0), (1, .int (nI t0)), (2, .int p1), (3, .int p2)]) hx hb dX7_walkNow_4 hl (by decide) rfl (fun ls hl => ?_)
  refine lv_aload_n hx hb dX7_walkNow_6 rfl (lv_at hl 1 rfl) ?_
  refine va_get (D := (dC, dI)) (ci := 7) (v := .int (nI e0)) (C := RX7) (T := TX7) (N := 31) hx hb hts hiX7 hown hK hP 0 rfl rfl 4 (by decide) (hts (.fieldLink RX7 13 "LeftProfileModel" "dukeSide" "I") (List.mem_of_getElem? (i := 2) rfl)) (fun _ h9 => h9) rfl dX7_walkNow_7 ?_
  refine lv_istore (lv' := [(5, .int (nI e0)), (4, .int (nI d0)), (0, .ref h0), (1, .int (nI t0)), (2, .int p1), (3, .int p2)]) hx hb dX7_walkNow_10 hl (by decide) rfl (fun ls hl => ?_)
  refine lv_aload_n hx hb dX7_walkNow_12 rfl (lv_at hl 2 rfl) ?_
  refine lv_iload_n hx hb dX7_walkNow_13 rfl (lv_at hl 4 rfl) ?_
  refine lv_i2l hx hb dX7_walkNow_14 rfl ?_
  refine lv_topl (fun x_1 ex_1 => ?_)
  refine va_put (D := (dC, dI)) (ci := 7) (v := .long x_1) (ty := .long) (C := RX7) (T := TX7) (N := 31) hx hb hts hiX7 tyX7 tyX7_ok nmX7 hown hK hP hD hS 0 rfl rfl 19 (by decide) (hts (.fieldLink RX7 193 "LeftProfileModel" "seedNow" "J") (List.mem_of_getElem? (i := 3) rfl)) (fun _ h9 => h9) rfl (by decide +kernel) rfl rfl (Nat.le_of_ble_eq_true rfl) dX7_walkNow_15 (fun H locs hP hD hS => ?_)
  have hP : va_P (dC, dI) vwCl [(h0, .inr (7, [.int ih, .int hn, .int fl, .int (nI d0), .int (nI e0), .int ac, .int (nI kc), .ref m1, .ref m2, .ref m3, .ref m4, .ref m5, .int (nI pl), .ref pg, .int fa, .int nf, .ref m6, .ref m7, .ref m8, .long x_1, .int ik, .int kh, .int (nI km), .int ka, .int ks, .int kac, .ref m9, .ref m10, .ref m11, .ref m12, .long hv])), (m1, .inl (cI, 6, .inl g1)), (m2, .inl (cI, 6, .inl g2))] H := hP
  have hD : va_D A [(h0, .inr (7, [.int ih, .int hn, .int fl, .int (nI d0), .int (nI e0), .int ac, .int (nI kc), .ref m1, .ref m2, .ref m3, .ref m4, .ref m5, .int (nI pl), .ref pg, .int fa, .int nf, .ref m6, .ref m7, .ref m8, .long x_1, .int ik, .int kh, .int (nI km), .int ka, .int ks, .int kac, .ref m9, .ref m10, .ref m11, .ref m12, .long hv])), (m1, .inl (cI, 6, .inl g1)), (m2, .inl (cI, 6, .inl g2))] := hD
  refine lv_iconst (v := 0) hx hb dX7_walkNow_18 (by decide) ?_
  refine lv_istore (lv' := [(6, .int 0), (5, .int (nI e0)), (4, .int (nI d0)), (0, .ref h0), (1, .int (nI t0)), (2, .int p1), (3, .int p2)]) hx hb dX7_walkNow_19 hl (by decide) rfl (fun ls hl => ?_)
  refine lv_iconst (v := 0) hx hb dX7_walkNow_21 (by decide) ?_
  refine lv_istore (lv' := [(7, .int 0), (6, .int 0), (5, .int (nI e0)), (4, .int (nI d0)), (0, .ref h0), (1, .int (nI t0)), (2, .int p1), (3, .int p2)]) hx hb dX7_walkNow_22 hl (by decide) rfl (fun ls hl => ?_)
  have lp24 : ∀ (n24 : Nat) (i24 : Nat) (y6 : Int32) (yd : Nat) (ye : Nat) (ysd : Int64) (H : Heap) (locs : List Loc) (ls : Array Slot), i24 + n24 = t0 → yd < 20 → ye < 4 → va_P (dC, dI) vwCl [(h0, .inr (7, [.int ih, .int hn, .int fl, .int (nI yd), .int (nI ye), .int ac, .int (nI kc), .ref m1, .ref m2, .ref m3, .ref m4, .ref m5, .int (nI pl), .ref pg, .int fa, .int nf, .ref m6, .ref m7, .ref m8, .long ysd, .int ik, .int kh, .int (nI km), .int ka, .int ks, .int kac, .ref m9, .ref m10, .ref m11, .ref m12, .long hv])), (m1, .inl (cI, 6, .inl g1)), (m2, .inl (cI, 6, .inl g2))] H → va_D A [(h0, .inr (7, [.int ih, .int hn, .int fl, .int (nI yd), .int (nI ye), .int ac, .int (nI kc), .ref m1, .ref m2, .ref m3, .ref m4, .ref m5, .int (nI pl), .ref pg, .int fa, .int nf, .ref m6, .ref m7, .ref m8, .long ysd, .int ik, .int kh, .int (nI km), .int ka, .int ks, .int kac, .ref m9, .ref m10, .ref m11, .ref m12, .long hv])), (m1, .inl (cI, 6, .inl g1)), (m2, .inl (cI, 6, .inl g2))] → va_S A s.heap H locs → lv_has ls 9 [(0, .ref h0), (1, .int (nI t0)), (2, .int p1), (3, .int p2), (4, .int (nI d0)), (5, .int (nI e0)), (6, .int y6), (7, .int (nI i24))] → W p l e ({ frames := 5, cells := 0, slots := 0, locals := 116 } : Room) s m #[Value.ref h0, Value.int (nI t0), Value.int p1, Value.int p2] below meth c H locs 0 0 Q (F0 m 24 ls []) := by
    intro n24
    induction n24 with
    | zero =>
      intro i24 y6 yd ye ysd H locs ls hi24 hyd hye hP hD hS hl
      obtain rfl : t0 = i24 := by omega
      refine lv_iload hx hb dX7_walkNow_24 (lv_at hl 7 rfl) ?_
      refine lv_iload_n hx hb dX7_walkNow_26 rfl (lv_at hl 1 rfl) ?_
      refine lv_icmp_ge (tgt := 70) hx hb dX7_walkNow_27 (by decide) (fun c_2 => ?_) (fun c_2 => ?_)
      · refine lv_iload_n hx hb dX7_walkNow_70 rfl (lv_at hl 3 rfl) ?_
        refine lv_if_ne (tgt := 81) hx hb dX7_walkNow_71 (by decide) (fun c_3 => ?_) (fun c_3 => ?_)
        · refine lv_iload_n hx hb dX7_walkNow_81 rfl (lv_at hl 3 rfl) ?_
          refine lv_iconst (v := 1) hx hb dX7_walkNow_82 (by decide) ?_
          refine lv_icmp_ne (tgt := 93) hx hb dX7_walkNow_83 (by decide) (fun c_4 => ?_) (fun c_4 => ?_)
          · refine lv_iload_n hx hb dX7_walkNow_93 rfl (lv_at hl 3 rfl) ?_
            refine lv_iconst (v := 2) hx hb dX7_walkNow_94 (by decide) ?_
            refine lv_icmp_ne (tgt := 103) hx hb dX7_walkNow_95 (by decide) (fun c_5 => ?_) (fun c_5 => ?_)
            · refine lv_aload_n hx hb dX7_walkNow_103 rfl (lv_at hl 0 rfl) ?_
              refine va_get (D := (dC, dI)) (ci := 7) (v := .long ysd) (C := RX7) (T := TX7) (N := 31) hx hb hts hiX7 hown hK hP 0 rfl rfl 19 (by decide) (hts (.fieldLink RX7 193 "LeftProfileModel" "seedNow" "J") (List.mem_of_getElem? (i := 3) rfl)) (fun _ h9 => h9) rfl dX7_walkNow_104 ?_
              refine lv_l2i hx hb dX7_walkNow_107 rfl ?_
              refine lv_topi (fun x_6 ex_6 => ?_)
              refine lv_istore (lv' := [(7, .int x_6), (0, .ref h0), (1, .int (nI t0)), (2, .int p1), (3, .int p2), (4, .int (nI d0)), (5, .int (nI e0)), (6, .int y6)]) hx hb dX7_walkNow_108 hl (by decide) rfl (fun ls hl => ?_)
              refine lv_aload_n hx hb dX7_walkNow_110 rfl (lv_at hl 1 rfl) ?_
              refine lv_iload hx hb dX7_walkNow_111 (lv_at hl 5 rfl) ?_
              refine va_put (D := (dC, dI)) (ci := 7) (v := .int (nI d0)) (ty := .int) (C := RX7) (T := TX7) (N := 31) hx hb hts hiX7 tyX7 tyX7_ok nmX7 hown hK hP hD hS 0 rfl rfl 3 (by decide) (hts (.fieldLink RX7 7 "LeftProfileModel" "dukeAt" "I") (List.mem_of_getElem? (i := 1) rfl)) (fun _ h9 => h9) rfl (by decide +kernel) rfl rfl (Nat.le_of_ble_eq_true rfl) dX7_walkNow_113 (fun H locs hP hD hS => ?_)
              have hP : va_P (dC, dI) vwCl [(h0, .inr (7, [.int ih, .int hn, .int fl, .int (nI d0), .int (nI ye), .int ac, .int (nI kc), .ref m1, .ref m2, .ref m3, .ref m4, .ref m5, .int (nI pl), .ref pg, .int fa, .int nf, .ref m6, .ref m7, .ref m8, .long ysd, .int ik, .int kh, .int (nI km), .int ka, .int ks, .int kac, .ref m9, .ref m10, .ref m11, .ref m12, .long hv])), (m1, .inl (cI, 6, .inl g1)), (m2, .inl (cI, 6, .inl g2))] H := hP
              have hD : va_D A [(h0, .inr (7, [.int ih, .int hn, .int fl, .int (nI d0), .int (nI ye), .int ac, .int (nI kc), .ref m1, .ref m2, .ref m3, .ref m4, .ref m5, .int (nI pl), .ref pg, .int fa, .int nf, .ref m6, .ref m7, .ref m8, .long ysd, .int ik, .int kh, .int (nI km), .int ka, .int ks, .int kac, .ref m9, .ref m10, .ref m11, .ref m12, .long hv])), (m1, .inl (cI, 6, .inl g1)), (m2, .inl (cI, 6, .inl g2))] := hD
              refine lv_aload_n hx hb dX7_walkNow_116 rfl (lv_at hl 1 rfl) ?_
              refine lv_iload hx hb dX7_walkNow_117 (lv_at hl 6 rfl) ?_
              refine va_put (D := (dC, dI)) (ci := 7) (v := .int (nI e0)) (ty := .int) (C := RX7) (T := TX7) (N := 31) hx hb hts hiX7 tyX7 tyX7_ok nmX7 hown hK hP hD hS 0 rfl rfl 4 (by decide) (hts (.fieldLink RX7 13 "LeftProfileModel" "dukeSide" "I") (List.mem_of_getElem? (i := 2) rfl)) (fun _ h9 => h9) rfl (by decide +kernel) rfl rfl (Nat.le_of_ble_eq_true rfl) dX7_walkNow_119 (fun H locs hP hD hS => ?_)
              have hP : va_P (dC, dI) vwCl [(h0, .inr (7, [.int ih, .int hn, .int fl, .int (nI d0), .int (nI e0), .int ac, .int (nI kc), .ref m1, .ref m2, .ref m3, .ref m4, .ref m5, .int (nI pl), .ref pg, .int fa, .int nf, .ref m6, .ref m7, .ref m8, .long ysd, .int ik, .int kh, .int (nI km), .int ka, .int ks, .int kac, .ref m9, .ref m10, .ref m11, .ref m12, .long hv])), (m1, .inl (cI, 6, .inl g1)), (m2, .inl (cI, 6, .inl g2))] H := hP
              have hD : va_D A [(h0, .inr (7, [.int ih, .int hn, .int fl, .int (nI d0), .int (nI e0), .int ac, .int (nI kc), .ref m1, .ref m2, .ref m3, .ref m4, .ref m5, .int (nI pl), .ref pg, .int fa, .int nf, .ref m6, .ref m7, .ref m8, .long ysd, .int ik, .int kh, .int (nI km), .int ka, .int ks, .int kac, .ref m9, .ref m10, .ref m11, .ref m12, .long hv])), (m1, .inl (cI, 6, .inl g1)), (m2, .inl (cI, 6, .inl g2))] := hD
              refine lv_iload hx hb dX7_walkNow_122 (lv_at hl 0 rfl) ?_
              refine W.widen (k := 0) (n := 0) (Nat.le_of_ble_eq_true rfl) (Nat.le_of_ble_eq_true rfl) ?_
              have hP9 := hP.sub (ws' := [(h0, .inr (7, [.int ih, .int hn, .int fl, .int (nI d0), .int (nI e0), .int ac, .int (nI kc), .ref m1, .ref m2, .ref m3, .ref m4, .ref m5, .int (nI pl), .ref pg, .int fa, .int nf, .ref m6, .ref m7, .ref m8, .long ysd, .int ik, .int kh, .int (nI km), .int ka, .int ks, .int kac, .ref m9, .ref m10, .ref m11, .ref m12, .long hv])), (m1, .inl (cI, 6, .inl g1)), (m2, .inl (cI, 6, .inl g2))]) [0, 1, 2] rfl
              have hD9 := hD.sub (ws' := [(h0, .inr (7, [.int ih, .int hn, .int fl, .int (nI d0), .int (nI e0), .int ac, .int (nI kc), .ref m1, .ref m2, .ref m3, .ref m4, .ref m5, .int (nI pl), .ref pg, .int fa, .int nf, .ref m6, .ref m7, .ref m8, .long ysd, .int ik, .int kh, .int (nI km), .int ka, .int ks, .int kac, .ref m9, .ref m10, .ref m11, .ref m12, .long hv])), (m1, .inl (cI, 6, .inl g1)), (m2, .inl (cI, 6, .inl g2))]) [0, 1, 2] (by decide) rfl
              rw [hQ]; exact W.iret (v := x_6) hx hb hr (fun t ht hW => ⟨⟨x_6, (), rfl, trivial, ⟨ysd, by rw [ht]; exact hP9, hD9⟩⟩, hS.F ht⟩) hS.2.2 dX7_walkNow_124
            · refine lv_iload hx hb dX7_walkNow_98 (lv_at hl 6 rfl) ?_
              refine lv_goto (tgt := 108) hx hb dX7_walkNow_100 (by decide) ?_
              refine lv_istore (lv' := [(7, .int y6), (0, .ref h0), (1, .int (nI t0)), (2, .int p1), (3, .int p2), (4, .int (nI d0)), (5, .int (nI e0)), (6, .int y6)]) hx hb dX7_walkNow_108 hl (by decide) rfl (fun ls hl => ?_)
              refine lv_aload_n hx hb dX7_walkNow_110 rfl (lv_at hl 1 rfl) ?_
              refine lv_iload hx hb dX7_walkNow_111 (lv_at hl 5 rfl) ?_
              refine va_put (D := (dC, dI)) (ci := 7) (v := .int (nI d0)) (ty := .int) (C := RX7) (T := TX7) (N := 31) hx hb hts hiX7 tyX7 tyX7_ok nmX7 hown hK hP hD hS 0 rfl rfl 3 (by decide) (hts (.fieldLink RX7 7 "LeftProfileModel" "dukeAt" "I") (List.mem_of_getElem? (i := 1) rfl)) (fun _ h9 => h9) rfl (by decide +kernel) rfl rfl (Nat.le_of_ble_eq_true rfl) dX7_walkNow_113 (fun H locs hP hD hS => ?_)
              have hP : va_P (dC, dI) vwCl [(h0, .inr (7, [.int ih, .int hn, .int fl, .int (nI d0), .int (nI ye), .int ac, .int (nI kc), .ref m1, .ref m2, .ref m3, .ref m4, .ref m5, .int (nI pl), .ref pg, .int fa, .int nf, .ref m6, .ref m7, .ref m8, .long ysd, .int ik, .int kh, .int (nI km), .int ka, .int ks, .int kac, .ref m9, .ref m10, .ref m11, .ref m12, .long hv])), (m1, .inl (cI, 6, .inl g1)), (m2, .inl (cI, 6, .inl g2))] H := hP
              have hD : va_D A [(h0, .inr (7, [.int ih, .int hn, .int fl, .int (nI d0), .int (nI ye), .int ac, .int (nI kc), .ref m1, .ref m2, .ref m3, .ref m4, .ref m5, .int (nI pl), .ref pg, .int fa, .int nf, .ref m6, .ref m7, .ref m8, .long ysd, .int ik, .int kh, .int (nI km), .int ka, .int ks, .int kac, .ref m9, .ref m10, .ref m11, .ref m12, .long hv])), (m1, .inl (cI, 6, .inl g1)), (m2, .inl (cI, 6, .inl g2))] := hD
              refine lv_aload_n hx hb dX7_walkNow_116 rfl (lv_at hl 1 rfl) ?_
              refine lv_iload hx hb dX7_walkNow_117 (lv_at hl 6 rfl) ?_
              refine va_put (D := (dC, dI)) (ci := 7) (v := .int (nI e0)) (ty := .int) (C := RX7) (T := TX7) (N := 31) hx hb hts hiX7 tyX7 tyX7_ok nmX7 hown hK hP hD hS 0 rfl rfl 4 (by decide) (hts (.fieldLink RX7 13 "LeftProfileModel" "dukeSide" "I") (List.mem_of_getElem? (i := 2) rfl)) (fun _ h9 => h9) rfl (by decide +kernel) rfl rfl (Nat.le_of_ble_eq_true rfl) dX7_walkNow_119 (fun H locs hP hD hS => ?_)
              have hP : va_P (dC, dI) vwCl [(h0, .inr (7, [.int ih, .int hn, .int fl, .int (nI d0), .int (nI e0), .int ac, .int (nI kc), .ref m1, .ref m2, .ref m3, .ref m4, .ref m5, .int (nI pl), .ref pg, .int fa, .int nf, .ref m6, .ref m7, .ref m8, .long ysd, .int ik, .int kh, .int (nI km), .int ka, .int ks, .int kac, .ref m9, .ref m10, .ref m11, .ref m12, .long hv])), (m1, .inl (cI, 6, .inl g1)), (m2, .inl (cI, 6, .inl g2))] H := hP
              have hD : va_D A [(h0, .inr (7, [.int ih, .int hn, .int fl, .int (nI d0), .int (nI e0), .int ac, .int (nI kc), .ref m1, .ref m2, .ref m3, .ref m4, .ref m5, .int (nI pl), .ref pg, .int fa, .int nf, .ref m6, .ref m7, .ref m8, .long ysd, .int ik, .int kh, .int (nI km), .int ka, .int ks, .int kac, .ref m9, .ref m10, .ref m11, .ref m12, .long hv])), (m1, .inl (cI, 6, .inl g1)), (m2, .inl (cI, 6, .inl g2))] := hD
              refine lv_iload hx hb dX7_walkNow_122 (lv_at hl 0 rfl) ?_
              refine W.widen (k := 0) (n := 0) (Nat.le_of_ble_eq_true rfl) (Nat.le_of_ble_eq_true rfl) ?_
              have hP9 := hP.sub (ws' := [(h0, .inr (7, [.int ih, .int hn, .int fl, .int (nI d0), .int (nI e0), .int ac, .int (nI kc), .ref m1, .ref m2, .ref m3, .ref m4, .ref m5, .int (nI pl), .ref pg, .int fa, .int nf, .ref m6, .ref m7, .ref m8, .long ysd, .int ik, .int kh, .int (nI km), .int ka, .int ks, .int kac, .ref m9, .ref m10, .ref m11, .ref m12, .long hv])), (m1, .inl (cI, 6, .inl g1)), (m2, .inl (cI, 6, .inl g2))]) [0, 1, 2] rfl
              have hD9 := hD.sub (ws' := [(h0, .inr (7, [.int ih, .int hn, .int fl, .int (nI d0), .int (nI e0), .int ac, .int (nI kc), .ref m1, .ref m2, .ref m3, .ref m4, .ref m5, .int (nI pl), .ref pg, .int fa, .int nf, .ref m6, .ref m7, .ref m8, .long ysd, .int ik, .int kh, .int (nI km), .int ka, .int ks, .int kac, .ref m9, .ref m10, .ref m11, .ref m12, .long hv])), (m1, .inl (cI, 6, .inl g1)), (m2, .inl (cI, 6, .inl g2))]) [0, 1, 2] (by decide) rfl
              rw [hQ]; exact W.iret (v := y6) hx hb hr (fun t ht hW => ⟨⟨y6, (), rfl, trivial, ⟨ysd, by rw [ht]; exact hP9, hD9⟩⟩, hS.F ht⟩) hS.2.2 dX7_walkNow_124
          · refine lv_aload_n hx hb dX7_walkNow_86 rfl (lv_at hl 0 rfl) ?_
            refine va_get (D := (dC, dI)) (ci := 7) (v := .int (nI ye)) (C := RX7) (T := TX7) (N := 31) hx hb hts hiX7 hown hK hP 0 rfl rfl 4 (by decide) (hts (.fieldLink RX7 13 "LeftProfileModel" "dukeSide" "I") (List.mem_of_getElem? (i := 2) rfl)) (fun _ h9 => h9) rfl dX7_walkNow_87 ?_
            refine lv_goto (tgt := 108) hx hb dX7_walkNow_90 (by decide) ?_
            refine lv_istore (lv' := [(7, .int (nI ye)), (0, .ref h0), (1, .int (nI t0)), (2, .int p1), (3, .int p2), (4, .int (nI d0)), (5, .int (nI e0)), (6, .int y6)]) hx hb dX7_walkNow_108 hl (by decide) rfl (fun ls hl => ?_)
            refine lv_aload_n hx hb dX7_walkNow_110 rfl (lv_at hl 1 rfl) ?_
            refine lv_iload hx hb dX7_walkNow_111 (lv_at hl 5 rfl) ?_
            refine va_put (D := (dC, dI)) (ci := 7) (v := .int (nI d0)) (ty := .int) (C := RX7) (T := TX7) (N := 31) hx hb hts hiX7 tyX7 tyX7_ok nmX7 hown hK hP hD hS 0 rfl rfl 3 (by decide) (hts (.fieldLink RX7 7 "LeftProfileModel" "dukeAt" "I") (List.mem_of_getElem? (i := 1) rfl)) (fun _ h9 => h9) rfl (by decide +kernel) rfl rfl (Nat.le_of_ble_eq_true rfl) dX7_walkNow_113 (fun H locs hP hD hS => ?_)
            have hP : va_P (dC, dI) vwCl [(h0, .inr (7, [.int ih, .int hn, .int fl, .int (nI d0), .int (nI ye), .int ac, .int (nI kc), .ref m1, .ref m2, .ref m3, .ref m4, .ref m5, .int (nI pl), .ref pg, .int fa, .int nf, .ref m6, .ref m7, .ref m8, .long ysd, .int ik, .int kh, .int (nI km), .int ka, .int ks, .int kac, .ref m9, .ref m10, .ref m11, .ref m12, .long hv])), (m1, .inl (cI, 6, .inl g1)), (m2, .inl (cI, 6, .inl g2))] H := hP
            have hD : va_D A [(h0, .inr (7, [.int ih, .int hn, .int fl, .int (nI d0), .int (nI ye), .int ac, .int (nI kc), .ref m1, .ref m2, .ref m3, .ref m4, .ref m5, .int (nI pl), .ref pg, .int fa, .int nf, .ref m6, .ref m7, .ref m8, .long ysd, .int ik, .int kh, .int (nI km), .int ka, .int ks, .int kac, .ref m9, .ref m10, .ref m11, .ref m12, .long hv])), (m1, .inl (cI, 6, .inl g1)), (m2, .inl (cI, 6, .inl g2))] := hD
            refine lv_aload_n hx hb dX7_walkNow_116 rfl (lv_at hl 1 rfl) ?_
            refine lv_iload hx hb dX7_walkNow_117 (lv_at hl 6 rfl) ?_
            refine va_put (D := (dC, dI)) (ci := 7) (v := .int (nI e0)) (ty := .int) (C := RX7) (T := TX7) (N := 31) hx hb hts hiX7 tyX7 tyX7_ok nmX7 hown hK hP hD hS 0 rfl rfl 4 (by decide) (hts (.fieldLink RX7 13 "LeftProfileModel" "dukeSide" "I") (List.mem_of_getElem? (i := 2) rfl)) (fun _ h9 => h9) rfl (by decide +kernel) rfl rfl (Nat.le_of_ble_eq_true rfl) dX7_walkNow_119 (fun H locs hP hD hS => ?_)
            have hP : va_P (dC, dI) vwCl [(h0, .inr (7, [.int ih, .int hn, .int fl, .int (nI d0), .int (nI e0), .int ac, .int (nI kc), .ref m1, .ref m2, .ref m3, .ref m4, .ref m5, .int (nI pl), .ref pg, .int fa, .int nf, .ref m6, .ref m7, .ref m8, .long ysd, .int ik, .int kh, .int (nI km), .int ka, .int ks, .int kac, .ref m9, .ref m10, .ref m11, .ref m12, .long hv])), (m1, .inl (cI, 6, .inl g1)), (m2, .inl (cI, 6, .inl g2))] H := hP
            have hD : va_D A [(h0, .inr (7, [.int ih, .int hn, .int fl, .int (nI d0), .int (nI e0), .int ac, .int (nI kc), .ref m1, .ref m2, .ref m3, .ref m4, .ref m5, .int (nI pl), .ref pg, .int fa, .int nf, .ref m6, .ref m7, .ref m8, .long ysd, .int ik, .int kh, .int (nI km), .int ka, .int ks, .int kac, .ref m9, .ref m10, .ref m11, .ref m12, .long hv])), (m1, .inl (cI, 6, .inl g1)), (m2, .inl (cI, 6, .inl g2))] := hD
            refine lv_iload hx hb dX7_walkNow_122 (lv_at hl 0 rfl) ?_
            refine W.widen (k := 0) (n := 0) (Nat.le_of_ble_eq_true rfl) (Nat.le_of_ble_eq_true rfl) ?_
            have hP9 := hP.sub (ws' := [(h0, .inr (7, [.int ih, .int hn, .int fl, .int (nI d0), .int (nI e0), .int ac, .int (nI kc), .ref m1, .ref m2, .ref m3, .ref m4, .ref m5, .int (nI pl), .ref pg, .int fa, .int nf, .ref m6, .ref m7, .ref m8, .long ysd, .int ik, .int kh, .int (nI km), .int ka, .int ks, .int kac, .ref m9, .ref m10, .ref m11, .ref m12, .long hv])), (m1, .inl (cI, 6, .inl g1)), (m2, .inl (cI, 6, .inl g2))]) [0, 1, 2] rfl
            have hD9 := hD.sub (ws' := [(h0, .inr (7, [.int ih, .int hn, .int fl, .int (nI d0), .int (nI e0), .int ac, .int (nI kc), .ref m1, .ref m2, .ref m3, .ref m4, .ref m5, .int (nI pl), .ref pg, .int fa, .int nf, .ref m6, .ref m7, .ref m8, .long ysd, .int ik, .int kh, .int (nI km), .int ka, .int ks, .int kac, .ref m9, .ref m10, .ref m11, .ref m12, .long hv])), (m1, .inl (cI, 6, .inl g1)), (m2, .inl (cI, 6, .inl g2))]) [0, 1, 2] (by decide) rfl
            rw [hQ]; exact W.iret (v := (nI ye)) hx hb hr (fun t ht hW => ⟨⟨(nI ye), (), rfl, trivial, ⟨ysd, by rw [ht]; exact hP9, hD9⟩⟩, hS.F ht⟩) hS.2.2 dX7_walkNow_124
        · refine lv_aload_n hx hb dX7_walkNow_74 rfl (lv_at hl 0 rfl) ?_
          refine va_get (D := (dC, dI)) (ci := 7) (v := .int (nI yd)) (C := RX7) (T := TX7) (N := 31) hx hb hts hiX7 hown hK hP 0 rfl rfl 3 (by decide) (hts (.fieldLink RX7 7 "LeftProfileModel" "dukeAt" "I") (List.mem_of_getElem? (i := 1) rfl)) (fun _ h9 => h9) rfl dX7_walkNow_75 ?_
          refine lv_goto (tgt := 108) hx hb dX7_walkNow_78 (by decide) ?_
          refine lv_istore (lv' := [(7, .int (nI yd)), (0, .ref h0), (1, .int (nI t0)), (2, .int p1), (3, .int p2), (4, .int (nI d0)), (5, .int (nI e0)), (6, .int y6)]) hx hb dX7_walkNow_108 hl (by decide) rfl (fun ls hl => ?_)
          refine lv_aload_n hx hb dX7_walkNow_110 rfl (lv_at hl 1 rfl) ?_
          refine lv_iload hx hb dX7_walkNow_111 (lv_at hl 5 rfl) ?_
          refine va_put (D := (dC, dI)) (ci := 7) (v := .int (nI d0)) (ty := .int) (C := RX7) (T := TX7) (N := 31) hx hb hts hiX7 tyX7 tyX7_ok nmX7 hown hK hP hD hS 0 rfl rfl 3 (by decide) (hts (.fieldLink RX7 7 "LeftProfileModel" "dukeAt" "I") (List.mem_of_getElem? (i := 1) rfl)) (fun _ h9 => h9) rfl (by decide +kernel) rfl rfl (Nat.le_of_ble_eq_true rfl) dX7_walkNow_113 (fun H locs hP hD hS => ?_)
          have hP : va_P (dC, dI) vwCl [(h0, .inr (7, [.int ih, .int hn, .int fl, .int (nI d0), .int (nI ye), .int ac, .int (nI kc), .ref m1, .ref m2, .ref m3, .ref m4, .ref m5, .int (nI pl), .ref pg, .int fa, .int nf, .ref m6, .ref m7, .ref m8, .long ysd, .int ik, .int kh, .int (nI km), .int ka, .int ks, .int kac, .ref m9, .ref m10, .ref m11, .ref m12, .long hv])), (m1, .inl (cI, 6, .inl g1)), (m2, .inl (cI, 6, .inl g2))] H := hP
          have hD : va_D A [(h0, .inr (7, [.int ih, .int hn, .int fl, .int (nI d0), .int (nI ye), .int ac, .int (nI kc), .ref m1, .ref m2, .ref m3, .ref m4, .ref m5, .int (nI pl), .ref pg, .int fa, .int nf, .ref m6, .ref m7, .ref m8, .long ysd, .int ik, .int kh, .int (nI km), .int ka, .int ks, .int kac, .ref m9, .ref m10, .ref m11, .ref m12, .long hv])), (m1, .inl (cI, 6, .inl g1)), (m2, .inl (cI, 6, .inl g2))] := hD
          refine lv_aload_n hx hb dX7_walkNow_116 rfl (lv_at hl 1 rfl) ?_
          refine lv_iload hx hb dX7_walkNow_117 (lv_at hl 6 rfl) ?_
          refine va_put (D := (dC, dI)) (ci := 7) (v := .int (nI e0)) (ty := .int) (C := RX7) (T := TX7) (N := 31) hx hb hts hiX7 tyX7 tyX7_ok nmX7 hown hK hP hD hS 0 rfl rfl 4 (by decide) (hts (.fieldLink RX7 13 "LeftProfileModel" "dukeSide" "I") (List.mem_of_getElem? (i := 2) rfl)) (fun _ h9 => h9) rfl (by decide +kernel) rfl rfl (Nat.le_of_ble_eq_true rfl) dX7_walkNow_119 (fun H locs hP hD hS => ?_)
          have hP : va_P (dC, dI) vwCl [(h0, .inr (7, [.int ih, .int hn, .int fl, .int (nI d0), .int (nI e0), .int ac, .int (nI kc), .ref m1, .ref m2, .ref m3, .ref m4, .ref m5, .int (nI pl), .ref pg, .int fa, .int nf, .ref m6, .ref m7, .ref m8, .long ysd, .int ik, .int kh, .int (nI km), .int ka, .int ks, .int kac, .ref m9, .ref m10, .ref m11, .ref m12, .long hv])), (m1, .inl (cI, 6, .inl g1)), (m2, .inl (cI, 6, .inl g2))] H := hP
          have hD : va_D A [(h0, .inr (7, [.int ih, .int hn, .int fl, .int (nI d0), .int (nI e0), .int ac, .int (nI kc), .ref m1, .ref m2, .ref m3, .ref m4, .ref m5, .int (nI pl), .ref pg, .int fa, .int nf, .ref m6, .ref m7, .ref m8, .long ysd, .int ik, .int kh, .int (nI km), .int ka, .int ks, .int kac, .ref m9, .ref m10, .ref m11, .ref m12, .long hv])), (m1, .inl (cI, 6, .inl g1)), (m2, .inl (cI, 6, .inl g2))] := hD
          refine lv_iload hx hb dX7_walkNow_122 (lv_at hl 0 rfl) ?_
          refine W.widen (k := 0) (n := 0) (Nat.le_of_ble_eq_true rfl) (Nat.le_of_ble_eq_true rfl) ?_
          have hP9 := hP.sub (ws' := [(h0, .inr (7, [.int ih, .int hn, .int fl, .int (nI d0), .int (nI e0), .int ac, .int (nI kc), .ref m1, .ref m2, .ref m3, .ref m4, .ref m5, .int (nI pl), .ref pg, .int fa, .int nf, .ref m6, .ref m7, .ref m8, .long ysd, .int ik, .int kh, .int (nI km), .int ka, .int ks, .int kac, .ref m9, .ref m10, .ref m11, .ref m12, .long hv])), (m1, .inl (cI, 6, .inl g1)), (m2, .inl (cI, 6, .inl g2))]) [0, 1, 2] rfl
          have hD9 := hD.sub (ws' := [(h0, .inr (7, [.int ih, .int hn, .int fl, .int (nI d0), .int (nI e0), .int ac, .int (nI kc), .ref m1, .ref m2, .ref m3, .ref m4, .ref m5, .int (nI pl), .ref pg, .int fa, .int nf, .ref m6, .ref m7, .ref m8, .long ysd, .int ik, .int kh, .int (nI km), .int ka, .int ks, .int kac, .ref m9, .ref m10, .ref m11, .ref m12, .long hv])), (m1, .inl (cI, 6, .inl g1)), (m2, .inl (cI, 6, .inl g2))]) [0, 1, 2] (by decide) rfl
          rw [hQ]; exact W.iret (v := (nI yd)) hx hb hr (fun t ht hW => ⟨⟨(nI yd), (), rfl, trivial, ⟨ysd, by rw [ht]; exact hP9, hD9⟩⟩, hS.F ht⟩) hS.2.2 dX7_walkNow_124
      · exact absurd (show nI t0 ≤ nI t0 from nI_le (a := t0) (b := t0) (by omega) (by omega)) c_2
    | succ n24 ih24 =>
      intro i24 y6 yd ye ysd H locs ls hi24 hyd hye hP hD hS hl
      refine lv_iload hx hb dX7_walkNow_24 (lv_at hl 7 rfl) ?_
      refine lv_iload_n hx hb dX7_walkNow_26 rfl (lv_at hl 1 rfl) ?_
      refine lv_icmp_ge (tgt := 70) hx hb dX7_walkNow_27 (by decide) (fun c_7 => ?_) (fun c_7 => ?_)
      · exact absurd c_7 (show ¬ nI t0 ≤ nI i24 from nI_ge (a := i24) (b := t0) (by omega) (by omega))
      · refine lv_aload_n hx hb dX7_walkNow_30 rfl (lv_at hl 0 rfl) ?_
        refine lv_iconst (v := 3) hx hb dX7_walkNow_31 (by decide) ?_
        have hPc := hP.sub (ws' := [(h0, .inr (7, [.int ih, .int hn, .int fl, .int (nI yd), .int (nI ye), .int ac, .int (nI kc), .ref m1, .ref m2, .ref m3, .ref m4, .ref m5, .int (nI pl), .ref pg, .int fa, .int nf, .ref m6, .ref m7, .ref m8, .long ysd, .int ik, .int kh, .int (nI km), .int ka, .int ks, .int kac, .ref m9, .ref m10, .ref m11, .ref m12, .long hv]))]) [0] rfl
        have hDc := hD.sub (ws' := [(h0, .inr (7, [.int ih, .int hn, .int fl, .int (nI yd), .int (nI ye), .int ac, .int (nI kc), .ref m1, .ref m2, .ref m3, .ref m4, .ref m5, .int (nI pl), .ref pg, .int fa, .int nf, .ref m6, .ref m7, .ref m8, .long ysd, .int ik, .int kh, .int (nI km), .int ka, .int ks, .int kac, .ref m9, .ref m10, .ref m11, .ref m12, .long hv]))]) [0] (by decide) rfl
        have hFc := va_free (wc := [(h0, .inr (7, [.int ih, .int hn, .int fl, .int (nI yd), .int (nI ye), .int ac, .int (nI kc), .ref m1, .ref m2, .ref m3, .ref m4, .ref m5, .int (nI pl), .ref pg, .int fa, .int nf, .ref m6, .ref m7, .ref m8, .long ysd, .int ik, .int kh, .int (nI km), .int ka, .int ks, .int kac, .ref m9, .ref m10, .ref m11, .ref m12, .long hv]))]) hD hS hA [0] rfl
        refine va_calli (va_runV (As := [.int 3]) (rest := []) ⟨hx, hb, hml, hown, hts⟩ (c_X7_draw l dC dI cI cB h0 ih hn fl (nI yd) (nI ye) ac kc m1 m2 m3 m4 m5 pl pg fa nf m6 m7 m8 ysd ik kh km ka ks kac m9 m10 m11 m12 hv H.size ) (cwV 1 hts gX7_walkNow_X7_draw rfl rfl rfl (by decide +kernel) ⟨Nat.le_of_ble_eq_true rfl, Nat.le_of_ble_eq_true rfl⟩) (cz_mV hPc hN hDc (va_recv hK hPc (ci := 7) (q0 := 0) rfl rfl)) rfl rfl hl.1 rfl (lv_room (Nat.le_of_ble_eq_true rfl)) dX7_walkNow_32 ⟨Nat.le_of_ble_eq_true rfl, Nat.le_of_ble_eq_true rfl⟩) hS (fun q _ h => hFc q h) hFc (fun r_8 u t H1 locs ht hvm hr_8 hB hz1 hk1 hS => ?_)
        obtain ⟨f_9, hP1, hD1⟩ := hB
        rw [ht] at hP1
        obtain ⟨hP, hD⟩ := va_join (wr := [(m1, .inl (cI, 6, .inl g1)), (m2, .inl (cI, 6, .inl g2))]) (w1 := [(h0, .inr (7, [.int ih, .int hn, .int fl, .int (nI yd), .int (nI ye), .int ac, .int (nI kc), .ref m1, .ref m2, .ref m3, .ref m4, .ref m5, .int (nI pl), .ref pg, .int fa, .int nf, .ref m6, .ref m7, .ref m8, .long f_9, .int ik, .int kh, .int (nI km), .int ka, .int ks, .int kac, .ref m9, .ref m10, .ref m11, .ref m12, .long hv]))]) hP hD [0] [1, 2] rfl rfl (by decide) (by decide) hk1 hFc hP1 hD1
        generalize H1 = H at hP hS ⊢
        have hP : va_P (dC, dI) vwCl [(m1, .inl (cI, 6, .inl g1)), (m2, .inl (cI, 6, .inl g2)), (h0, .inr (7, [.int ih, .int hn, .int fl, .int (nI yd), .int (nI ye), .int ac, .int (nI kc), .ref m1, .ref m2, .ref m3, .ref m4, .ref m5, .int (nI pl), .ref pg, .int fa, .int nf, .ref m6, .ref m7, .ref m8, .long f_9, .int ik, .int kh, .int (nI km), .int ka, .int ks, .int kac, .ref m9, .ref m10, .ref m11, .ref m12, .long hv]))] H := hP
        have hD : va_D A [(m1, .inl (cI, 6, .inl g1)), (m2, .inl (cI, 6, .inl g2)), (h0, .inr (7, [.int ih, .int hn, .int fl, .int (nI yd), .int (nI ye), .int ac, .int (nI kc), .ref m1, .ref m2, .ref m3, .ref m4, .ref m5, .int (nI pl), .ref pg, .int fa, .int nf, .ref m6, .ref m7, .ref m8, .long f_9, .int ik, .int kh, .int (nI km), .int ka, .int ks, .int kac, .ref m9, .ref m10, .ref m11, .ref m12, .long hv]))] := hD
        refine lv_istore (lv' := [(8, .int r_8), (0, .ref h0), (1, .int (nI t0)), (2, .int p1), (3, .int p2), (4, .int (nI d0)), (5, .int (nI e0)), (6, .int y6), (7, .int (nI i24))]) hx hb dX7_walkNow_35 hl (by decide) rfl (fun ls hl => ?_)
        refine lv_aload_n hx hb dX7_walkNow_37 rfl (lv_at hl 1 rfl) ?_
        refine lv_iload hx hb dX7_walkNow_38 (lv_at hl 0 rfl) ?_
        refine vp_callSi (cz_run (va_runV (As := [.int r_8]) (rest := []) ⟨hx, hb, hml, hown, hts⟩ (c_X7_mayAct l dC dI cI cB h0 r_8 ih hn fl yd ye ac kc m1 m2 m3 m4 m5 pl pg fa nf m6 m7 m8 f_9 ik kh km ka ks kac m9 m10 m11 m12 hv g2 hkc hyd hye) (cwV 1 hts gX7_walkNow_X7_mayAct rfl rfl rfl (by decide +kernel) ⟨Nat.le_of_ble_eq_true rfl, Nat.le_of_ble_eq_true rfl⟩) (cz_pV (hP.sub (ws' := [(h0, .inr (7, [.int ih, .int hn, .int fl, .int (nI yd), .int (nI ye), .int ac, .int (nI kc), .ref m1, .ref m2, .ref m3, .ref m4, .ref m5, .int (nI pl), .ref pg, .int fa, .int nf, .ref m6, .ref m7, .ref m8, .long f_9, .int ik, .int kh, .int (nI km), .int ka, .int ks, .int kac, .ref m9, .ref m10, .ref m11, .ref m12, .long hv])), (m2, .inl (cI, 6, .inl g2))]) [2, 1] rfl) hN (va_recv hK (hP.sub (ws' := [(h0, .inr (7, [.int ih, .int hn, .int fl, .int (nI yd), .int (nI ye), .int ac, .int (nI kc), .ref m1, .ref m2, .ref m3, .ref m4, .ref m5, .int (nI pl), .ref pg, .int fa, .int nf, .ref m6, .ref m7, .ref m8, .long f_9, .int ik, .int kh, .int (nI km), .int ka, .int ks, .int kac, .ref m9, .ref m10, .ref m11, .ref m12, .long hv])), (m2, .inl (cI, 6, .inl g2))]) [2, 1] rfl) (ci := 7) (q0 := 0) rfl rfl)) rfl rfl hl.1 rfl (lv_room (Nat.le_of_ble_eq_true rfl)) dX7_walkNow_40 ⟨Nat.le_of_ble_eq_true rfl, Nat.le_of_ble_eq_true rfl⟩)) (fun r_10 hr_10 => ?_)
        rcases hr_10 with ⟨rfl, hr_10⟩ | ⟨rfl, hr_10⟩
        · refine lv_if_eq (tgt := 64) hx hb dX7_walkNow_43 (by decide) (fun _ => ?_) (fun c => absurd (by decide) c)
          refine lv_iinc (v := (nI (i24 + 1))) (lv' := [(7, .int (nI (i24 + 1))), (8, .int r_8), (0, .ref h0), (1, .int (nI t0)), (2, .int p1), (3, .int p2), (4, .int (nI d0)), (5, .int (nI e0)), (6, .int y6)]) hx hb dX7_walkNow_64 hl (k := 8) rfl (nI_add i24 1) (by decide) rfl (fun ls hl => ?_)
          refine lv_goto (tgt := 24) hx hb dX7_walkNow_67 (by decide) ?_
          have hP := hP.sub (ws' := [(h0, .inr (7, [.int ih, .int hn, .int fl, .int (nI yd), .int (nI ye), .int ac, .int (nI kc), .ref m1, .ref m2, .ref m3, .ref m4, .ref m5, .int (nI pl), .ref pg, .int fa, .int nf, .ref m6, .ref m7, .ref m8, .long f_9, .int ik, .int kh, .int (nI km), .int ka, .int ks, .int kac, .ref m9, .ref m10, .ref m11, .ref m12, .long hv])), (m1, .inl (cI, 6, .inl g1)), (m2, .inl (cI, 6, .inl g2))]) [2, 0, 1] rfl
          have hD := hD.sub (ws' := [(h0, .inr (7, [.int ih, .int hn, .int fl, .int (nI yd), .int (nI ye), .int ac, .int (nI kc), .ref m1, .ref m2, .ref m3, .ref m4, .ref m5, .int (nI pl), .ref pg, .int fa, .int nf, .ref m6, .ref m7, .ref m8, .long f_9, .int ik, .int kh, .int (nI km), .int ka, .int ks, .int kac, .ref m9, .ref m10, .ref m11, .ref m12, .long hv])), (m1, .inl (cI, 6, .inl g1)), (m2, .inl (cI, 6, .inl g2))]) [2, 0, 1] (by decide) rfl
          exact ih24 (i24 + 1) y6 yd ye f_9 H locs ls (by omega) (by omega) (by omega) hP hD hS (lv_sub hl [2, 3, 4, 5, 6, 7, 8, 0] rfl)
        · refine lv_if_eq (tgt := 64) hx hb dX7_walkNow_43 (by decide) (fun c => absurd c (by decide)) (fun _ => ?_)
          refine lv_aload_n hx hb dX7_walkNow_46 rfl (lv_at hl 1 rfl) ?_
          refine lv_iload hx hb dX7_walkNow_47 (lv_at hl 0 rfl) ?_
          have hPc := hP.sub (ws' := [(h0, .inr (7, [.int ih, .int hn, .int fl, .int (nI yd), .int (nI ye), .int ac, .int (nI kc), .ref m1, .ref m2, .ref m3, .ref m4, .ref m5, .int (nI pl), .ref pg, .int fa, .int nf, .ref m6, .ref m7, .ref m8, .long f_9, .int ik, .int kh, .int (nI km), .int ka, .int ks, .int kac, .ref m9, .ref m10, .ref m11, .ref m12, .long hv]))]) [2] rfl
          have hDc := hD.sub (ws' := [(h0, .inr (7, [.int ih, .int hn, .int fl, .int (nI yd), .int (nI ye), .int ac, .int (nI kc), .ref m1, .ref m2, .ref m3, .ref m4, .ref m5, .int (nI pl), .ref pg, .int fa, .int nf, .ref m6, .ref m7, .ref m8, .long f_9, .int ik, .int kh, .int (nI km), .int ka, .int ks, .int kac, .ref m9, .ref m10, .ref m11, .ref m12, .long hv]))]) [2] (by decide) rfl
          have hFc := va_free (wc := [(h0, .inr (7, [.int ih, .int hn, .int fl, .int (nI yd), .int (nI ye), .int ac, .int (nI kc), .ref m1, .ref m2, .ref m3, .ref m4, .ref m5, .int (nI pl), .ref pg, .int fa, .int nf, .ref m6, .ref m7, .ref m8, .long f_9, .int ik, .int kh, .int (nI km), .int ka, .int ks, .int kac, .ref m9, .ref m10, .ref m11, .ref m12, .long hv]))]) hD hS hA [2] rfl
          refine va_callv (va_runV (As := [.int r_8]) (rest := []) ⟨hx, hb, hml, hown, hts⟩ (c_X7_doAct l dC dI cI cB h0 r_8 ih hn fl yd ye ac kc m1 m2 m3 m4 m5 pl pg fa nf m6 m7 m8 f_9 ik kh km ka ks kac m9 m10 m11 m12 hv H.size hyd hye (cz_may_lt hr_10)) (cwV 1 hts gX7_walkNow_X7_doAct rfl rfl rfl (by decide +kernel) ⟨Nat.le_of_ble_eq_true rfl, Nat.le_of_ble_eq_true rfl⟩) (cz_mV hPc hN hDc (va_recv hK hPc (ci := 7) (q0 := 0) rfl rfl)) rfl rfl hl.1 rfl (lv_room (Nat.le_of_ble_eq_true rfl)) dX7_walkNow_49 ⟨Nat.le_of_ble_eq_true rfl, Nat.le_of_ble_eq_true rfl⟩) hS (fun q _ h => hFc q h) hFc (fun u t H1 locs ht hvm hr_11 hB hz1 hk1 hS => ?_)
          obtain ⟨q_12, q_13, hr_11_d, hr_11_e, hr_11_x, hr_11_y, hP1, hD1⟩ := hB
          rw [ht] at hP1
          obtain ⟨hP, hD⟩ := va_join (wr := [(m1, .inl (cI, 6, .inl g1)), (m2, .inl (cI, 6, .inl g2))]) (w1 := [(h0, .inr (7, [.int ih, .int hn, .int fl, .int (nI q_12), .int (nI q_13), .int ac, .int (nI kc), .ref m1, .ref m2, .ref m3, .ref m4, .ref m5, .int (nI pl), .ref pg, .int fa, .int nf, .ref m6, .ref m7, .ref m8, .long f_9, .int ik, .int kh, .int (nI km), .int ka, .int ks, .int kac, .ref m9, .ref m10, .ref m11, .ref m12, .long hv]))]) hP hD [2] [0, 1] rfl rfl (by decide) (by decide) hk1 hFc hP1 hD1
          generalize H1 = H at hP hS ⊢
          have hP : va_P (dC, dI) vwCl [(m1, .inl (cI, 6, .inl g1)), (m2, .inl (cI, 6, .inl g2)), (h0, .inr (7, [.int ih, .int hn, .int fl, .int (nI q_12), .int (nI q_13), .int ac, .int (nI kc), .ref m1, .ref m2, .ref m3, .ref m4, .ref m5, .int (nI pl), .ref pg, .int fa, .int nf, .ref m6, .ref m7, .ref m8, .long f_9, .int ik, .int kh, .int (nI km), .int ka, .int ks, .int kac, .ref m9, .ref m10, .ref m11, .ref m12, .long hv]))] H := hP
          have hD : va_D A [(m1, .inl (cI, 6, .inl g1)), (m2, .inl (cI, 6, .inl g2)), (h0, .inr (7, [.int ih, .int hn, .int fl, .int (nI q_12), .int (nI q_13), .int ac, .int (nI kc), .ref m1, .ref m2, .ref m3, .ref m4, .ref m5, .int (nI pl), .ref pg, .int fa, .int nf, .ref m6, .ref m7, .ref m8, .long f_9, .int ik, .int kh, .int (nI km), .int ka, .int ks, .int kac, .ref m9, .ref m10, .ref m11, .ref m12, .long hv]))] := hD
          refine lv_iload hx hb dX7_walkNow_52 (lv_at hl 7 rfl) ?_
          refine lv_aload_n hx hb dX7_walkNow_54 rfl (lv_at hl 1 rfl) ?_
          refine vp_callSi (cz_run (va_runV (As := []) (rest := [.int y6]) ⟨hx, hb, hml, hown, hts⟩ (c_X7_guiltySet l dC dI cI cB h0 ih hn fl (nI q_12) (nI q_13) ac kc m1 m2 m3 m4 m5 pl pg fa nf m6 m7 m8 f_9 ik kh km ka ks kac m9 m10 m11 m12 hv g1 g2 hkc hpl (cz_du_n (a := q_12) (b := q_13) (by omega) (by omega))) (cwV 0 hts gX7_walkNow_X7_guiltySet rfl rfl rfl (by decide +kernel) ⟨Nat.le_of_ble_eq_true rfl, Nat.le_of_ble_eq_true rfl⟩) (cz_pV (hP.sub (ws' := [(h0, .inr (7, [.int ih, .int hn, .int fl, .int (nI q_12), .int (nI q_13), .int ac, .int (nI kc), .ref m1, .ref m2, .ref m3, .ref m4, .ref m5, .int (nI pl), .ref pg, .int fa, .int nf, .ref m6, .ref m7, .ref m8, .long f_9, .int ik, .int kh, .int (nI km), .int ka, .int ks, .int kac, .ref m9, .ref m10, .ref m11, .ref m12, .long hv])), (m1, .inl (cI, 6, .inl g1)), (m2, .inl (cI, 6, .inl g2))]) [2, 0, 1] rfl) hN (va_recv hK (hP.sub (ws' := [(h0, .inr (7, [.int ih, .int hn, .int fl, .int (nI q_12), .int (nI q_13), .int ac, .int (nI kc), .ref m1, .ref m2, .ref m3, .ref m4, .ref m5, .int (nI pl), .ref pg, .int fa, .int nf, .ref m6, .ref m7, .ref m8, .long f_9, .int ik, .int kh, .int (nI km), .int ka, .int ks, .int kac, .ref m9, .ref m10, .ref m11, .ref m12, .long hv])), (m1, .inl (cI, 6, .inl g1)), (m2, .inl (cI, 6, .inl g2))]) [2, 0, 1] rfl) (ci := 7) (q0 := 0) rfl rfl)) rfl rfl hl.1 rfl (lv_room (Nat.le_of_ble_eq_true rfl)) dX7_walkNow_55 ⟨Nat.le_of_ble_eq_true rfl, Nat.le_of_ble_eq_true rfl⟩)) (fun r_14 hr_14 => ?_)
          refine vp_callSi (cz_run (va_runS (As := [.int r_14]) (rest := [.int y6]) ⟨hx, hb, hml, hown, hts⟩ (c_X7_size l dC dI cI cB r_14 ) (va_cwS 1 hts gX7_walkNow_X7_size rfl rfl rfl (by decide +kernel) ⟨Nat.le_of_ble_eq_true rfl, Nat.le_of_ble_eq_true rfl⟩) (cz_pS (hP.sub (ws' := []) [] rfl) hN) rfl rfl hl.1 rfl (lv_room (Nat.le_of_ble_eq_true rfl)) dX7_walkNow_58 ⟨Nat.le_of_ble_eq_true rfl, Nat.le_of_ble_eq_true rfl⟩)) (fun r_15 hr_15 => ?_)
          refine lv_iadd hx hb dX7_walkNow_61 ?_
          refine lv_topi (fun x_16 ex_16 => ?_)
          refine lv_istore (lv' := [(6, .int x_16), (8, .int r_8), (0, .ref h0), (1, .int (nI t0)), (2, .int p1), (3, .int p2), (4, .int (nI d0)), (5, .int (nI e0)), (7, .int (nI i24))]) hx hb dX7_walkNow_62 hl (by decide) rfl (fun ls hl => ?_)
          refine lv_iinc (v := (nI (i24 + 1))) (lv' := [(7, .int (nI (i24 + 1))), (6, .int x_16), (8, .int r_8), (0, .ref h0), (1, .int (nI t0)), (2, .int p1), (3, .int p2), (4, .int (nI d0)), (5, .int (nI e0))]) hx hb dX7_walkNow_64 hl (k := 8) rfl (nI_add i24 1) (by decide) rfl (fun ls hl => ?_)
          refine lv_goto (tgt := 24) hx hb dX7_walkNow_67 (by decide) ?_
          have hP := hP.sub (ws' := [(h0, .inr (7, [.int ih, .int hn, .int fl, .int (nI q_12), .int (nI q_13), .int ac, .int (nI kc), .ref m1, .ref m2, .ref m3, .ref m4, .ref m5, .int (nI pl), .ref pg, .int fa, .int nf, .ref m6, .ref m7, .ref m8, .long f_9, .int ik, .int kh, .int (nI km), .int ka, .int ks, .int kac, .ref m9, .ref m10, .ref m11, .ref m12, .long hv])), (m1, .inl (cI, 6, .inl g1)), (m2, .inl (cI, 6, .inl g2))]) [2, 0, 1] rfl
          have hD := hD.sub (ws' := [(h0, .inr (7, [.int ih, .int hn, .int fl, .int (nI q_12), .int (nI q_13), .int ac, .int (nI kc), .ref m1, .ref m2, .ref m3, .ref m4, .ref m5, .int (nI pl), .ref pg, .int fa, .int nf, .ref m6, .ref m7, .ref m8, .long f_9, .int ik, .int kh, .int (nI km), .int ka, .int ks, .int kac, .ref m9, .ref m10, .ref m11, .ref m12, .long hv])), (m1, .inl (cI, 6, .inl g1)), (m2, .inl (cI, 6, .inl g2))]) [2, 0, 1] (by decide) rfl
          exact ih24 (i24 + 1) x_16 q_12 q_13 f_9 H locs ls (by omega) (by omega) (by omega) hP hD hS (lv_sub hl [3, 4, 5, 6, 7, 8, 1, 0] rfl)
  exact lp24 t0 0 0 d0 e0 x_1 H locs ls (by omega) (by omega) (by omega) hP hD hS (lv_sub hl [4, 5, 6, 7, 3, 2, 1, 0] rfl)

theorem c_X7_walk_a1 (p0 : Int32) (da : Int32) (ds : Int32) (kc : Nat) (g2 : Nat → Int32) (hkc : kc ≤ 6) (hpl : cz_pl g2) (hdu : cz_du da ds) (hr_1 : ¬ cz_in 1 p0 60) : da = da := by first | (subst_vars; rfl) | assumption | ((try subst_vars) <;> (repeat' split) <;> (first | rfl | contradiction | ((try simp only [cz_in, cz_du, cz_lt, cz_le, cz_eq, cz_l] at *) <;> (first | omega | (simp_all; done))))) | ((try subst_vars); simp only [cz_in, *, and_self, and_true, true_and, if_true, if_false])
theorem c_X7_walk_a2 (p0 : Int32) (da : Int32) (ds : Int32) (kc : Nat) (g2 : Nat → Int32) (hkc : kc ≤ 6) (hpl : cz_pl g2) (hdu : cz_du da ds) (hr_1 : ¬ cz_in 1 p0 60) : ds = ds := by first | (subst_vars; rfl) | assumption | ((try subst_vars) <;> (repeat' split) <;> (first | rfl | contradiction | ((try simp only [cz_in, cz_du, cz_lt, cz_le, cz_eq, cz_l] at *) <;> (first | omega | (simp_all; done))))) | ((try subst_vars); simp only [cz_in, *, and_self, and_true, true_and, if_true, if_false])
theorem c_X7_walk_a3 (p0 : Int32) (p1 : Int32) (da : Int32) (ds : Int32) (kc : Nat) (g2 : Nat → Int32) (hkc : kc ≤ 6) (hpl : cz_pl g2) (hdu : cz_du da ds) (hr_1 : cz_in 1 p0 60) (c_2 : p1 < 0) : da = da := by first | (subst_vars; rfl) | assumption | ((try subst_vars) <;> (repeat' split) <;> (first | rfl | contradiction | ((try simp only [cz_in, cz_du, cz_lt, cz_le, cz_eq, cz_l] at *) <;> (first | omega | (simp_all; done))))) | ((try subst_vars); simp only [cz_in, *, and_self, and_true, true_and, if_true, if_false])
theorem c_X7_walk_a4 (p0 : Int32) (p1 : Int32) (da : Int32) (ds : Int32) (kc : Nat) (g2 : Nat → Int32) (hkc : kc ≤ 6) (hpl : cz_pl g2) (hdu : cz_du da ds) (hr_1 : cz_in 1 p0 60) (c_2 : p1 < 0) : ds = ds := by first | (subst_vars; rfl) | assumption | ((try subst_vars) <;> (repeat' split) <;> (first | rfl | contradiction | ((try simp only [cz_in, cz_du, cz_lt, cz_le, cz_eq, cz_l] at *) <;> (first | omega | (simp_all; done))))) | ((try subst_vars); simp only [cz_in, *, and_self, and_true, true_and, if_true, if_false])
theorem c_X7_walk_a5 (p0 : Int32) (p1 : Int32) (p2 : Int32) (da : Int32) (ds : Int32) (kc : Nat) (g2 : Nat → Int32) (hkc : kc ≤ 6) (hpl : cz_pl g2) (hdu : cz_du da ds) (hr_1 : cz_in 1 p0 60) (c_2 : ¬ p1 < 0) (hr_3 : ¬ cz_in 0 p2 3) : da = da := by first | (subst_vars; rfl) | assumption | ((try subst_vars) <;> (repeat' split) <;> (first | rfl | contradiction | ((try simp only [cz_in, cz_du, cz_lt, cz_le, cz_eq, cz_l] at *) <;> (first | omega | (simp_all; done))))) | ((try subst_vars); simp only [cz_in, *, and_self, and_true, true_and, if_true, if_false])
theorem c_X7_walk_a6 (p0 : Int32) (p1 : Int32) (p2 : Int32) (da : Int32) (ds : Int32) (kc : Nat) (g2 : Nat → Int32) (hkc : kc ≤ 6) (hpl : cz_pl g2) (hdu : cz_du da ds) (hr_1 : cz_in 1 p0 60) (c_2 : ¬ p1 < 0) (hr_3 : ¬ cz_in 0 p2 3) : ds = ds := by first | (subst_vars; rfl) | assumption | ((try subst_vars) <;> (repeat' split) <;> (first | rfl | contradiction | ((try simp only [cz_in, cz_du, cz_lt, cz_le, cz_eq, cz_l] at *) <;> (first | omega | (simp_all; done))))) | ((try subst_vars); simp only [cz_in, *, and_self, and_true, true_and, if_true, if_false])
theorem c_X7_walk_a7 (p0 : Int32) (p1 : Int32) (p2 : Int32) (kc : Nat) (g2 : Nat → Int32) (d_5 : Nat) (e_6 : Nat) (hkc : kc ≤ 6) (hpl : cz_pl g2) (hdu : cz_du (nI d_5) (nI e_6)) (hr_1 : cz_in 1 p0 60) (c_2 : ¬ p1 < 0) (hr_3 : cz_in 0 p2 3) (c_4 : ¬ (nI d_5) = (-1)) (hd_5 : d_5 < 20) (he_6 : e_6 < 4) : ¬ p0 < 0 := by first | (subst_vars; rfl) | assumption | ((try subst_vars) <;> (repeat' split) <;> (first | rfl | contradiction | ((try simp only [cz_in, cz_du, cz_lt, cz_le, cz_eq, cz_l] at *) <;> (first | omega | (simp_all; done))))) | ((try subst_vars); simp only [cz_in, *, and_self, and_true, true_and, if_true, if_false])
theorem c_X7_walk_a8 (p0 : Int32) (p1 : Int32) (p2 : Int32) (kc : Nat) (g2 : Nat → Int32) (d_5 : Nat) (e_6 : Nat) (hkc : kc ≤ 6) (hpl : cz_pl g2) (hdu : cz_du (nI d_5) (nI e_6)) (hr_1 : cz_in 1 p0 60) (c_2 : ¬ p1 < 0) (hr_3 : cz_in 0 p2 3) (c_4 : ¬ (nI d_5) = (-1)) (hd_5 : d_5 < 20) (he_6 : e_6 < 4) : p0 ≤ 60 := by first | (subst_vars; rfl) | assumption | ((try subst_vars) <;> (repeat' split) <;> (first | rfl | contradiction | ((try simp only [cz_in, cz_du, cz_lt, cz_le, cz_eq, cz_l] at *) <;> (first | omega | (simp_all; done))))) | ((try subst_vars); simp only [cz_in, *, and_self, and_true, true_and, if_true, if_false])
theorem c_X7_walk_a9 (p1 : Int32) (p2 : Int32) (kc : Nat) (g2 : Nat → Int32) (d_5 : Nat) (e_6 : Nat) (j_7 : Nat) (hkc : kc ≤ 6) (hpl : cz_pl g2) (hdu : cz_du (nI d_5) (nI e_6)) (hr_1 : cz_in 1 (nI j_7) 60) (c_2 : ¬ p1 < 0) (hr_3 : cz_in 0 p2 3) (c_4 : ¬ (nI d_5) = (-1)) (hd_5 : d_5 < 20) (he_6 : e_6 < 4) (hj_7 : j_7 ≤ 60) : (nI d_5) = (nI d_5) := by first | (subst_vars; rfl) | assumption | ((try subst_vars) <;> (repeat' split) <;> (first | rfl | contradiction | ((try simp only [cz_in, cz_du, cz_lt, cz_le, cz_eq, cz_l] at *) <;> (first | omega | (simp_all; done))))) | ((try subst_vars); simp only [cz_in, *, and_self, and_true, true_and, if_true, if_false])
theorem c_X7_walk_a10 (p1 : Int32) (p2 : Int32) (kc : Nat) (g2 : Nat → Int32) (d_5 : Nat) (e_6 : Nat) (j_7 : Nat) (hkc : kc ≤ 6) (hpl : cz_pl g2) (hdu : cz_du (nI d_5) (nI e_6)) (hr_1 : cz_in 1 (nI j_7) 60) (c_2 : ¬ p1 < 0) (hr_3 : cz_in 0 p2 3) (c_4 : ¬ (nI d_5) = (-1)) (hd_5 : d_5 < 20) (he_6 : e_6 < 4) (hj_7 : j_7 ≤ 60) : (nI e_6) = (nI e_6) := by first | (subst_vars; rfl) | assumption | ((try subst_vars) <;> (repeat' split) <;> (first | rfl | contradiction | ((try simp only [cz_in, cz_du, cz_lt, cz_le, cz_eq, cz_l] at *) <;> (first | omega | (simp_all; done))))) | ((try subst_vars); simp only [cz_in, *, and_self, and_true, true_and, if_true, if_false])
theorem c_X7_walk_a11 (p0 : Int32) (p1 : Int32) (p2 : Int32) (da : Int32) (ds : Int32) (kc : Nat) (g2 : Nat → Int32) (hkc : kc ≤ 6) (hpl : cz_pl g2) (hdu : cz_du da ds) (hr_1 : cz_in 1 p0 60) (c_2 : ¬ p1 < 0) (hr_3 : cz_in 0 p2 3) (c_4 : da = (-1)) : da = da := by first | (subst_vars; rfl) | assumption | ((try subst_vars) <;> (repeat' split) <;> (first | rfl | contradiction | ((try simp only [cz_in, cz_du, cz_lt, cz_le, cz_eq, cz_l] at *) <;> (first | omega | (simp_all; done))))) | ((try subst_vars); simp only [cz_in, *, and_self, and_true, true_and, if_true, if_false])
theorem c_X7_walk_a12 (p0 : Int32) (p1 : Int32) (p2 : Int32) (da : Int32) (ds : Int32) (kc : Nat) (g2 : Nat → Int32) (hkc : kc ≤ 6) (hpl : cz_pl g2) (hdu : cz_du da ds) (hr_1 : cz_in 1 p0 60) (c_2 : ¬ p1 < 0) (hr_3 : cz_in 0 p2 3) (c_4 : da = (-1)) : ds = ds := by first | (subst_vars; rfl) | assumption | ((try subst_vars) <;> (repeat' split) <;> (first | rfl | contradiction | ((try simp only [cz_in, cz_du, cz_lt, cz_le, cz_eq, cz_l] at *) <;> (first | omega | (simp_all; done))))) | ((try subst_vars); simp only [cz_in, *, and_self, and_true, true_and, if_true, if_false])
set_option maxHeartbeats 4000000 in
set_option maxRecDepth 100000 in
theorem c_X7_walk (l : Launch) (dC : Nat → ClassId) (dI : Nat → Nat → Nat) (cI cB : ClassId) (h0 : Nat) (p0 : Int32) (p1 : Int32) (p2 : Int32) (ih : Int32) (hn : Int32) (fl : Int32) (da : Int32) (ds : Int32) (ac : Int32) (kc : Nat) (m1 : Nat) (m2 : Nat) (m3 : Nat) (m4 : Nat) (m5 : Nat) (pl : Nat) (pg : Nat) (fa : Int32) (nf : Int32) (m6 : Nat) (m7 : Nat) (m8 : Nat) (sd : Int64) (ik : Int32) (kh : Int32) (km : Nat) (ka : Int32) (ks : Int32) (kac : Int32) (m9 : Nat) (m10 : Nat) (m11 : Nat) (m12 : Nat) (hv : Int64) (g1 : Nat → Int32) (g2 : Nat → Int32) (sz : Nat) (hkc : kc ≤ 6) (hpl : cz_pl g2) (hdu : cz_du da ds) : Met l yX7_walk wsX7_walk ({ frames := 6, cells := 0, slots := 0, locals := 144 }) (cz_Pm dC dI cI cB [.ref h0, .int p0, .int p1, .int p2] [(h0, .inr (7, [.int ih, .int hn, .int fl, .int da, .int ds, .int ac, .int (nI kc), .ref m1, .ref m2, .ref m3, .ref m4, .ref m5, .int (nI pl), .ref pg, .int fa, .int nf, .ref m6, .ref m7, .ref m8, .long sd, .int ik, .int kh, .int (nI km), .int ka, .int ks, .int kac, .ref m9, .ref m10, .ref m11, .ref m12, .long hv])), (m1, .inl (cI, 6, .inl g1)), (m2, .inl (cI, 6, .inl g2))] sz) (va_Qi (fun (r : Int32) (_ : Unit) => True) (fun _ t => ∃ (z3 : Int32) (z4 : Int32) (z9 : Int64), (cz_du z3 z4) ∧ (z3 = da) ∧ (z4 = ds) ∧ va_P (dC, dI) vwCl [(h0, .inr (7, [.int ih, .int hn, .int fl, .int z3, .int z4, .int ac, .int (nI kc), .ref m1, .ref m2, .ref m3, .ref m4, .ref m5, .int (nI pl), .ref pg, .int fa, .int nf, .ref m6, .ref m7, .ref m8, .long z9, .int ik, .int kh, .int (nI km), .int ka, .int ks, .int kac, .ref m9, .ref m10, .ref m11, .ref m12, .long hv])), (m1, .inl (cI, 6, .inl g1)), (m2, .inl (cI, 6, .inl g2))] t.heap ∧ va_D (va_A [(h0, .inr (7, [.int ih, .int hn, .int fl, .int da, .int ds, .int ac, .int (nI kc), .ref m1, .ref m2, .ref m3, .ref m4, .ref m5, .int (nI pl), .ref pg, .int fa, .int nf, .ref m6, .ref m7, .ref m8, .long sd, .int ik, .int kh, .int (nI km), .int ka, .int ks, .int kac, .ref m9, .ref m10, .ref m11, .ref m12, .long hv])), (m1, .inl (cI, 6, .inl g1)), (m2, .inl (cI, 6, .inl g2))] sz) [(h0, .inr (7, [.int ih, .int hn, .int fl, .int z3, .int z4, .int ac, .int (nI kc), .ref m1, .ref m2, .ref m3, .ref m4, .ref m5, .int (nI pl), .ref pg, .int fa, .int nf, .ref m6, .ref m7, .ref m8, .long z9, .int ik, .int kh, .int (nI km), .int ka, .int ks, .int kac, .ref m9, .ref m10, .ref m11, .ref m12, .long hv])), (m1, .inl (cI, 6, .inl g1)), (m2, .inl (cI, 6, .inl g2))]) (va_A [(h0, .inr (7, [.int ih, .int hn, .int fl, .int da, .int ds, .int ac, .int (nI kc), .ref m1, .ref m2, .ref m3, .ref m4, .ref m5, .int (nI pl), .ref pg, .int fa, .int nf, .ref m6, .ref m7, .ref m8, .long sd, .int ik, .int kh, .int (nI km), .int ka, .int ks, .int kac, .ref m9, .ref m10, .ref m11, .ref m12, .long hv])), (m1, .inl (cI, 6, .inl g1)), (m2, .inl (cI, 6, .inl g2))] sz)) 0 0 (va_A [(h0, .inr (7, [.int ih, .int hn, .int fl, .int da, .int ds, .int ac, .int (nI kc), .ref m1, .ref m2, .ref m3, .ref m4, .ref m5, .int (nI pl), .ref pg, .int fa, .int nf, .ref m6, .ref m7, .ref m8, .long sd, .int ik, .int kh, .int (nI km), .int ka, .int ks, .int kac, .ref m9, .ref m10, .ref m11, .ref m12, .long hv])), (m1, .inl (cI, 6, .inl g1)), (m2, .inl (cI, 6, .inl g2))] sz) := by
  refine cz_of (cc := cX7_walk) (maxL := 4) (ret := (some .int)) (by decide) rfl ?_
  intro p e s m args below meth c s₁ Q B hml hv hQ
  obtain ⟨rfl, hsz, hP, hN, hD0⟩ := hv
  have hx := B.exec
  have hb := B.bytes
  have hr := B.returns
  have hts := atoms_spec (ws := wsX7_walk) B.pre
  have hown : s.vm.findClass RX7 = some m.cls := findClass_of_methodNamed B.named
  have hlocks := B.notSynchronized
  have hK := hN.1
  have hiX7 : ∀ w ∈ wsX70, w ∈ wsX7_walk := (fun _ h => List.mem_cons_of_mem _ (List.mem_append_right _ h))
  subst hsz
  have hD := hD0.self (sz := s.heap.size)
  generalize hAe : va_A [(h0, .inr (7, [.int ih, .int hn, .int fl, .int da, .int ds, .int ac, .int (nI kc), .ref m1, .ref m2, .ref m3, .ref m4, .ref m5, .int (nI pl), .ref pg, .int fa, .int nf, .ref m6, .ref m7, .ref m8, .long sd, .int ik, .int kh, .int (nI km), .int ka, .int ks, .int kac, .ref m9, .ref m10, .ref m11, .ref m12, .long hv])), (m1, .inl (cI, 6, .inl g1)), (m2, .inl (cI, 6, .inl g2))] s.heap.size = A at hD hQ ⊢
  have hA : ∀ q : Nat, s.heap.size ≤ q → A q := fun q h => by rw [← hAe]; exact Or.inr h
  have hS : va_S A s.heap s.heap [] := va_S.rf
  obtain ⟨H, eH⟩ : ∃ H, H = s.heap := ⟨_, rfl⟩
  have hP : va_P (dC, dI) vwCl [(h0, .inr (7, [.int ih, .int hn, .int fl, .int da, .int ds, .int ac, .int (nI kc), .ref m1, .ref m2, .ref m3, .ref m4, .ref m5, .int (nI pl), .ref pg, .int fa, .int nf, .ref m6, .ref m7, .ref m8, .long sd, .int ik, .int kh, .int (nI km), .int ka, .int ks, .int kac, .ref m9, .ref m10, .ref m11, .ref m12, .long hv])), (m1, .inl (cI, 6, .inl g1)), (m2, .inl (cI, 6, .inl g2))] s.heap := hP
  have hl := lv_entry ([.ref h0, .int p0, .int p1, .int p2]) (n := 4) (Nat.le_of_ble_eq_true rfl)
  rw [lg_entry_eq]
  generalize (lg_sl ([.ref h0, .int p0, .int p1, .int p2]) ++ List.replicate (4 - (lg_sl ([.ref h0, .int p0, .int p1, .int p2])).length) Slot.unset).toArray = ls at hl ⊢
  have hl : lv_has ls 4 [(0, .ref h0), (1, .int p0), (2, .int p1), (3, .int p2)] := hl
  refine lv_iload_n hx hb dX7_walk_0 rfl (lv_at hl 1 rfl) ?_
  refine lv_iconst (v := 1) hx hb dX7_walk_1 (by decide) ?_
  refine lv_bipush (v := 60) hx hb dX7_walk_2 (by decide) ?_
  refine vp_callSi (cz_run (va_runS (As := [.int p0, .int 1, .int 60]) (rest := []) ⟨hx, hb, hml, hown, hts⟩ (c_X7_within l dC dI cI cB p0 1 60 ) (va_cwS 3 hts gX7_walk_X7_within rfl rfl rfl (by decide +kernel) ⟨Nat.le_of_ble_eq_true rfl, Nat.le_of_ble_eq_true rfl⟩) (cz_pS (hP.sub (ws' := []) [] rfl) hN) rfl rfl hl.1 rfl (lv_room (Nat.le_of_ble_eq_true rfl)) dX7_walk_4 ⟨Nat.le_of_ble_eq_true rfl, Nat.le_of_ble_eq_true rfl⟩)) (fun r_1 hr_1 => ?_)
  rcases hr_1 with ⟨rfl, hr_1⟩ | ⟨rfl, hr_1⟩
  · refine lv_if_eq (tgt := 23) hx hb dX7_walk_7 (by decide) (fun _ => ?_) (fun c => absurd (by decide) c)
    refine lv_bipush (v := (-102)) hx hb dX7_walk_23 (by decide) ?_
    refine W.widen (k := 0) (n := 0) (Nat.le_of_ble_eq_true rfl) (Nat.le_of_ble_eq_true rfl) ?_
    have hP9 := hP.sub (ws' := [(h0, .inr (7, [.int ih, .int hn, .int fl, .int da, .int ds, .int ac, .int (nI kc), .ref m1, .ref m2, .ref m3, .ref m4, .ref m5, .int (nI pl), .ref pg, .int fa, .int nf, .ref m6, .ref m7, .ref m8, .long sd, .int ik, .int kh, .int (nI km), .int ka, .int ks, .int kac, .ref m9, .ref m10, .ref m11, .ref m12, .long hv])), (m1, .inl (cI, 6, .inl g1)), (m2, .inl (cI, 6, .inl g2))]) [0, 1, 2] rfl
    have hD9 := hD.sub (ws' := [(h0, .inr (7, [.int ih, .int hn, .int fl, .int da, .int ds, .int ac, .int (nI kc), .ref m1, .ref m2, .ref m3, .ref m4, .ref m5, .int (nI pl), .ref pg, .int fa, .int nf, .ref m6, .ref m7, .ref m8, .long sd, .int ik, .int kh, .int (nI km), .int ka, .int ks, .int kac, .ref m9, .ref m10, .ref m11, .ref m12, .long hv])), (m1, .inl (cI, 6, .inl g1)), (m2, .inl (cI, 6, .inl g2))]) [0, 1, 2] (by decide) rfl
    rw [hQ]; exact W.iret (v := (-102)) hx hb hr (fun t ht hW => ⟨⟨(-102), (), rfl, trivial, ⟨da, ds, sd, hdu, (c_X7_walk_a1 p0 da ds kc g2 hkc hpl hdu hr_1), (c_X7_walk_a2 p0 da ds kc g2 hkc hpl hdu hr_1), by rw [ht]; exact hP9, hD9⟩⟩, hS.F ht⟩) hS.2.2 dX7_walk_25
  · refine lv_if_eq (tgt := 23) hx hb dX7_walk_7 (by decide) (fun c => absurd c (by decide)) (fun _ => ?_)
    refine lv_iload_n hx hb dX7_walk_10 rfl (lv_at hl 2 rfl) ?_
    refine lv_if_lt (tgt := 23) hx hb dX7_walk_11 (by decide) (fun c_2 => ?_) (fun c_2 => ?_)
    · refine lv_bipush (v := (-102)) hx hb dX7_walk_23 (by decide) ?_
      refine W.widen (k := 0) (n := 0) (Nat.le_of_ble_eq_true rfl) (Nat.le_of_ble_eq_true rfl) ?_
      have hP9 := hP.sub (ws' := [(h0, .inr (7, [.int ih, .int hn, .int fl, .int da, .int ds, .int ac, .int (nI kc), .ref m1, .ref m2, .ref m3, .ref m4, .ref m5, .int (nI pl), .ref pg, .int fa, .int nf, .ref m6, .ref m7, .ref m8, .long sd, .int ik, .int kh, .int (nI km), .int ka, .int ks, .int kac, .ref m9, .ref m10, .ref m11, .ref m12, .long hv])), (m1, .inl (cI, 6, .inl g1)), (m2, .inl (cI, 6, .inl g2))]) [0, 1, 2] rfl
      have hD9 := hD.sub (ws' := [(h0, .inr (7, [.int ih, .int hn, .int fl, .int da, .int ds, .int ac, .int (nI kc), .ref m1, .ref m2, .ref m3, .ref m4, .ref m5, .int (nI pl), .ref pg, .int fa, .int nf, .ref m6, .ref m7, .ref m8, .long sd, .int ik, .int kh, .int (nI km), .int ka, .int ks, .int kac, .ref m9, .ref m10, .ref m11, .ref m12, .long hv])), (m1, .inl (cI, 6, .inl g1)), (m2, .inl (cI, 6, .inl g2))]) [0, 1, 2] (by decide) rfl
      rw [hQ]; exact W.iret (v := (-102)) hx hb hr (fun t ht hW => ⟨⟨(-102), (), rfl, trivial, ⟨da, ds, sd, hdu, (c_X7_walk_a3 p0 p1 da ds kc g2 hkc hpl hdu hr_1 c_2), (c_X7_walk_a4 p0 p1 da ds kc g2 hkc hpl hdu hr_1 c_2), by rw [ht]; exact hP9, hD9⟩⟩, hS.F ht⟩) hS.2.2 dX7_walk_25
    · refine lv_iload_n hx hb dX7_walk_14 rfl (lv_at hl 3 rfl) ?_
      refine lv_iconst (v := 0) hx hb dX7_walk_15 (by decide) ?_
      refine lv_iconst (v := 3) hx hb dX7_walk_16 (by decide) ?_
      refine vp_callSi (cz_run (va_runS (As := [.int p2, .int 0, .int 3]) (rest := []) ⟨hx, hb, hml, hown, hts⟩ (c_X7_within l dC dI cI cB p2 0 3 ) (va_cwS 3 hts gX7_walk_X7_within rfl rfl rfl (by decide +kernel) ⟨Nat.le_of_ble_eq_true rfl, Nat.le_of_ble_eq_true rfl⟩) (cz_pS (hP.sub (ws' := []) [] rfl) hN) rfl rfl hl.1 rfl (lv_room (Nat.le_of_ble_eq_true rfl)) dX7_walk_17 ⟨Nat.le_of_ble_eq_true rfl, Nat.le_of_ble_eq_true rfl⟩)) (fun r_3 hr_3 => ?_)
      rcases hr_3 with ⟨rfl, hr_3⟩ | ⟨rfl, hr_3⟩
      · refine lv_if_ne (tgt := 26) hx hb dX7_walk_20 (by decide) (fun c => absurd (by decide) c) (fun _ => ?_)
        refine lv_bipush (v := (-102)) hx hb dX7_walk_23 (by decide) ?_
        refine W.widen (k := 0) (n := 0) (Nat.le_of_ble_eq_true rfl) (Nat.le_of_ble_eq_true rfl) ?_
        have hP9 := hP.sub (ws' := [(h0, .inr (7, [.int ih, .int hn, .int fl, .int da, .int ds, .int ac, .int (nI kc), .ref m1, .ref m2, .ref m3, .ref m4, .ref m5, .int (nI pl), .ref pg, .int fa, .int nf, .ref m6, .ref m7, .ref m8, .long sd, .int ik, .int kh, .int (nI km), .int ka, .int ks, .int kac, .ref m9, .ref m10, .ref m11, .ref m12, .long hv])), (m1, .inl (cI, 6, .inl g1)), (m2, .inl (cI, 6, .inl g2))]) [0, 1, 2] rfl
        have hD9 := hD.sub (ws' := [(h0, .inr (7, [.int ih, .int hn, .int fl, .int da, .int ds, .int ac, .int (nI kc), .ref m1, .ref m2, .ref m3, .ref m4, .ref m5, .int (nI pl), .ref pg, .int fa, .int nf, .ref m6, .ref m7, .ref m8, .long sd, .int ik, .int kh, .int (nI km), .int ka, .int ks, .int kac, .ref m9, .ref m10, .ref m11, .ref m12, .long hv])), (m1, .inl (cI, 6, .inl g1)), (m2, .inl (cI, 6, .inl g2))]) [0, 1, 2] (by decide) rfl
        rw [hQ]; exact W.iret (v := (-102)) hx hb hr (fun t ht hW => ⟨⟨(-102), (), rfl, trivial, ⟨da, ds, sd, hdu, (c_X7_walk_a5 p0 p1 p2 da ds kc g2 hkc hpl hdu hr_1 c_2 hr_3), (c_X7_walk_a6 p0 p1 p2 da ds kc g2 hkc hpl hdu hr_1 c_2 hr_3), by rw [ht]; exact hP9, hD9⟩⟩, hS.F ht⟩) hS.2.2 dX7_walk_25
      · refine lv_if_ne (tgt := 26) hx hb dX7_walk_20 (by decide) (fun _ => ?_) (fun c => absurd c (by decide))
        refine lv_aload_n hx hb dX7_walk_26 rfl (lv_at hl 0 rfl) ?_
        refine va_get (D := (dC, dI)) (ci := 7) (v := .int da) (C := RX7) (T := TX7) (N := 31) hx hb hts hiX7 hown hK hP 0 rfl rfl 3 (by decide) (hts (.fieldLink RX7 7 "LeftProfileModel" "dukeAt" "I") (List.mem_of_getElem? (i := 1) rfl)) (fun _ h9 => h9) rfl dX7_walk_27 ?_
        refine lv_iconst (v := (-1)) hx hb dX7_walk_30 (by decide) ?_
        refine lv_icmp_ne (tgt := 39) hx hb dX7_walk_31 (by decide) (fun c_4 => ?_) (fun c_4 => ?_)
        · obtain ⟨⟨d_5, hd_5, rfl⟩, e_6, he_6, rfl⟩ := cz_du_ex hdu c_4
          refine lv_aload_n hx hb dX7_walk_39 rfl (lv_at hl 0 rfl) ?_
          refine lv_iload_n hx hb dX7_walk_40 rfl (lv_at hl 1 rfl) ?_
          refine lv_iload_n hx hb dX7_walk_41 rfl (lv_at hl 2 rfl) ?_
          refine lv_iload_n hx hb dX7_walk_42 rfl (lv_at hl 3 rfl) ?_
          obtain ⟨j_7, hj_7, rfl⟩ := nI_of2 (x := p0) (M := 60) (n := 60) (by decide) (c_X7_walk_a7 p0 p1 p2 kc g2 d_5 e_6 hkc hpl hdu hr_1 c_2 hr_3 c_4 hd_5 he_6) (c_X7_walk_a8 p0 p1 p2 kc g2 d_5 e_6 hkc hpl hdu hr_1 c_2 hr_3 c_4 hd_5 he_6)
          have hPc := hP.sub (ws' := [(h0, .inr (7, [.int ih, .int hn, .int fl, .int (nI d_5), .int (nI e_6), .int ac, .int (nI kc), .ref m1, .ref m2, .ref m3, .ref m4, .ref m5, .int (nI pl), .ref pg, .int fa, .int nf, .ref m6, .ref m7, .ref m8, .long sd, .int ik, .int kh, .int (nI km), .int ka, .int ks, .int kac, .ref m9, .ref m10, .ref m11, .ref m12, .long hv])), (m1, .inl (cI, 6, .inl g1)), (m2, .inl (cI, 6, .inl g2))]) [0, 1, 2] rfl
          have hDc := hD.sub (ws' := [(h0, .inr (7, [.int ih, .int hn, .int fl, .int (nI d_5), .int (nI e_6), .int ac, .int (nI kc), .ref m1, .ref m2, .ref m3, .ref m4, .ref m5, .int (nI pl), .ref pg, .int fa, .int nf, .ref m6, .ref m7, .ref m8, .long sd, .int ik, .int kh, .int (nI km), .int ka, .int ks, .int kac, .ref m9, .ref m10, .ref m11, .ref m12, .long hv])), (m1, .inl (cI, 6, .inl g1)), (m2, .inl (cI, 6, .inl g2))]) [0, 1, 2] (by decide) rfl
          have hFc := va_free (wc := [(h0, .inr (7, [.int ih, .int hn, .int fl, .int (nI d_5), .int (nI e_6), .int ac, .int (nI kc), .ref m1, .ref m2, .ref m3, .ref m4, .ref m5, .int (nI pl), .ref pg, .int fa, .int nf, .ref m6, .ref m7, .ref m8, .long sd, .int ik, .int kh, .int (nI km), .int ka, .int ks, .int kac, .ref m9, .ref m10, .ref m11, .ref m12, .long hv])), (m1, .inl (cI, 6, .inl g1)), (m2, .inl (cI, 6, .inl g2))]) hD hS hA [0, 1, 2] rfl
          refine va_calli (va_runV (As := [.int (nI j_7), .int p1, .int p2]) (rest := []) ⟨hx, hb, hml, hown, hts⟩ (c_X7_walkNow l dC dI cI cB h0 j_7 p1 p2 ih hn fl d_5 e_6 ac kc m1 m2 m3 m4 m5 pl pg fa nf m6 m7 m8 sd ik kh km ka ks kac m9 m10 m11 m12 hv g1 g2 s.heap.size hkc hpl hd_5 he_6 hj_7) (cwV 3 hts gX7_walk_X7_walkNow rfl rfl rfl (by decide +kernel) ⟨Nat.le_of_ble_eq_true rfl, Nat.le_of_ble_eq_true rfl⟩) (cz_mV hPc hN hDc (va_recv hK hPc (ci := 7) (q0 := 0) rfl rfl)) rfl rfl hl.1 rfl (lv_room (Nat.le_of_ble_eq_true rfl)) dX7_walk_43 ⟨Nat.le_of_ble_eq_true rfl, Nat.le_of_ble_eq_true rfl⟩) hS (fun q _ h => hFc q h) hFc (fun r_8 u t H1 locs ht hvm hr_8 hB hz1 hk1 hS => ?_)
          obtain ⟨f_9, hP1, hD1⟩ := hB
          rw [ht] at hP1
          obtain ⟨hP, hD⟩ := va_join (wr := []) (w1 := [(h0, .inr (7, [.int ih, .int hn, .int fl, .int (nI d_5), .int (nI e_6), .int ac, .int (nI kc), .ref m1, .ref m2, .ref m3, .ref m4, .ref m5, .int (nI pl), .ref pg, .int fa, .int nf, .ref m6, .ref m7, .ref m8, .long f_9, .int ik, .int kh, .int (nI km), .int ka, .int ks, .int kac, .ref m9, .ref m10, .ref m11, .ref m12, .long hv])), (m1, .inl (cI, 6, .inl g1)), (m2, .inl (cI, 6, .inl g2))]) hP hD [0, 1, 2] [] rfl rfl (by decide) (by decide) hk1 hFc hP1 hD1
          generalize H1 = H at hP hS ⊢
          have hP : va_P (dC, dI) vwCl [(h0, .inr (7, [.int ih, .int hn, .int fl, .int (nI d_5), .int (nI e_6), .int ac, .int (nI kc), .ref m1, .ref m2, .ref m3, .ref m4, .ref m5, .int (nI pl), .ref pg, .int fa, .int nf, .ref m6, .ref m7, .ref m8, .long f_9, .int ik, .int kh, .int (nI km), .int ka, .int ks, .int kac, .ref m9, .ref m10, .ref m11, .ref m12, .long hv])), (m1, .inl (cI, 6, .inl g1)), (m2, .inl (cI, 6, .inl g2))] H := hP
          have hD : va_D A [(h0, .inr (7, [.int ih, .int hn, .int fl, .int (nI d_5), .int (nI e_6), .int ac, .int (nI kc), .ref m1, .ref m2, .ref m3, .ref m4, .ref m5, .int (nI pl), .ref pg, .int fa, .int nf, .ref m6, .ref m7, .ref m8, .long f_9, .int ik, .int kh, .int (nI km), .int ka, .int ks, .int kac, .ref m9, .ref m10, .ref m11, .ref m12, .long hv])), (m1, .inl (cI, 6, .inl g1)), (m2, .inl (cI, 6, .inl g2))] := hD
          refine W.widen (k := 0) (n := 0) (Nat.le_of_ble_eq_true rfl) (Nat.le_of_ble_eq_true rfl) ?_
          have hP9 := hP.sub (ws' := [(h0, .inr (7, [.int ih, .int hn, .int fl, .int (nI d_5), .int (nI e_6), .int ac, .int (nI kc), .ref m1, .ref m2, .ref m3, .ref m4, .ref m5, .int (nI pl), .ref pg, .int fa, .int nf, .ref m6, .ref m7, .ref m8, .long f_9, .int ik, .int kh, .int (nI km), .int ka, .int ks, .int kac, .ref m9, .ref m10, .ref m11, .ref m12, .long hv])), (m1, .inl (cI, 6, .inl g1)), (m2, .inl (cI, 6, .inl g2))]) [0, 1, 2] rfl
          have hD9 := hD.sub (ws' := [(h0, .inr (7, [.int ih, .int hn, .int fl, .int (nI d_5), .int (nI e_6), .int ac, .int (nI kc), .ref m1, .ref m2, .ref m3, .ref m4, .ref m5, .int (nI pl), .ref pg, .int fa, .int nf, .ref m6, .ref m7, .ref m8, .long f_9, .int ik, .int kh, .int (nI km), .int ka, .int ks, .int kac, .ref m9, .ref m10, .ref m11, .ref m12, .long hv])), (m1, .inl (cI, 6, .inl g1)), (m2, .inl (cI, 6, .inl g2))]) [0, 1, 2] (by decide) rfl
          rw [hQ]; exact W.iret (v := r_8) hx hb hr (fun t ht hW => ⟨⟨r_8, (), rfl, trivial, ⟨(nI d_5), (nI e_6), f_9, hdu, (c_X7_walk_a9 p1 p2 kc g2 d_5 e_6 j_7 hkc hpl hdu hr_1 c_2 hr_3 c_4 hd_5 he_6 hj_7), (c_X7_walk_a10 p1 p2 kc g2 d_5 e_6 j_7 hkc hpl hdu hr_1 c_2 hr_3 c_4 hd_5 he_6 hj_7), by rw [ht]; exact hP9, hD9⟩⟩, hS.F ht⟩) hS.2.2 dX7_walk_46
        · refine lv_bipush (v := (-103)) hx hb dX7_walk_34 (by decide) ?_
          refine lv_goto (tgt := 46) hx hb dX7_walk_36 (by decide) ?_
          refine W.widen (k := 0) (n := 0) (Nat.le_of_ble_eq_true rfl) (Nat.le_of_ble_eq_true rfl) ?_
          have hP9 := hP.sub (ws' := [(h0, .inr (7, [.int ih, .int hn, .int fl, .int da, .int ds, .int ac, .int (nI kc), .ref m1, .ref m2, .ref m3, .ref m4, .ref m5, .int (nI pl), .ref pg, .int fa, .int nf, .ref m6, .ref m7, .ref m8, .long sd, .int ik, .int kh, .int (nI km), .int ka, .int ks, .int kac, .ref m9, .ref m10, .ref m11, .ref m12, .long hv])), (m1, .inl (cI, 6, .inl g1)), (m2, .inl (cI, 6, .inl g2))]) [0, 1, 2] rfl
          have hD9 := hD.sub (ws' := [(h0, .inr (7, [.int ih, .int hn, .int fl, .int da, .int ds, .int ac, .int (nI kc), .ref m1, .ref m2, .ref m3, .ref m4, .ref m5, .int (nI pl), .ref pg, .int fa, .int nf, .ref m6, .ref m7, .ref m8, .long sd, .int ik, .int kh, .int (nI km), .int ka, .int ks, .int kac, .ref m9, .ref m10, .ref m11, .ref m12, .long hv])), (m1, .inl (cI, 6, .inl g1)), (m2, .inl (cI, 6, .inl g2))]) [0, 1, 2] (by decide) rfl
          rw [hQ]; exact W.iret (v := (-103)) hx hb hr (fun t ht hW => ⟨⟨(-103), (), rfl, trivial, ⟨da, ds, sd, hdu, (c_X7_walk_a11 p0 p1 p2 da ds kc g2 hkc hpl hdu hr_1 c_2 hr_3 c_4), (c_X7_walk_a12 p0 p1 p2 da ds kc g2 hkc hpl hdu hr_1 c_2 hr_3 c_4), by rw [ht]; exact hP9, hD9⟩⟩, hS.F ht⟩) hS.2.2 dX7_walk_46
