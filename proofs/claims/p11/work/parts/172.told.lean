theorem c_X7_isToldSo_a1 (fl : Int32) (da : Int32) (ds : Int32) (kc : Nat) (g1 : Nat → Int32) (g2 : Nat → Int32) (g5 : Nat → Int32) (i4 : Nat) (y1 : Int32) (n4 : Nat) (hkc : kc ≤ 6) (hpl : cz_pl g2) (hdu : cz_du da ds) (hi4 : i4 + (n4 + 1) = kc) (h01 : y1 = 0 ∨ y1 = 1) (hm : y1 = cz_b1 (cz_atB (fun c => cz_sw (g1 c) (g2 c) da ds fl g2 kc) g5 i4)) (c_3 : y1 = 0) : (0 : Int32) = cz_b1 (cz_atB (fun c => cz_sw (g1 c) (g2 c) da ds fl g2 kc) g5 (i4 + 1)) := by first | exact cz_mt0 hm (by assumption) | exact cz_mt1 hm (by assumption) (Or.inl (by assumption)) | (refine cz_mt1 hm (by assumption) (Or.inr ?_); subst_vars; assumption) | (refine cz_mt2 (by assumption) ?_; subst_vars; assumption)
theorem c_X7_isToldSo_a2 (fl : Int32) (da : Int32) (ds : Int32) (kc : Nat) (g1 : Nat → Int32) (g2 : Nat → Int32) (g5 : Nat → Int32) (i4 : Nat) (y1 : Int32) (n4 : Nat) (hkc : kc ≤ 6) (hpl : cz_pl g2) (hdu : cz_du da ds) (hi4 : i4 + (n4 + 1) = kc) (h01 : y1 = 0 ∨ y1 = 1) (hm : y1 = cz_b1 (cz_atB (fun c => cz_sw (g1 c) (g2 c) da ds fl g2 kc) g5 i4)) (c_3 : ¬ y1 = 0) (c_4 : (g5 i4) = (-1)) : (1 : Int32) = cz_b1 (cz_atB (fun c => cz_sw (g1 c) (g2 c) da ds fl g2 kc) g5 (i4 + 1)) := by first | exact cz_mt0 hm (by assumption) | exact cz_mt1 hm (by assumption) (Or.inl (by assumption)) | (refine cz_mt1 hm (by assumption) (Or.inr ?_); subst_vars; assumption) | (refine cz_mt2 (by assumption) ?_; subst_vars; assumption)
theorem c_X7_isToldSo_a3 (fl : Int32) (da : Int32) (ds : Int32) (kc : Nat) (g1 : Nat → Int32) (g2 : Nat → Int32) (g5 : Nat → Int32) (i4 : Nat) (y1 : Int32) (n4 : Nat) (r_5 : Int32) (hkc : kc ≤ 6) (hpl : cz_pl g2) (hdu : cz_du da ds) (hi4 : i4 + (n4 + 1) = kc) (h01 : y1 = 0 ∨ y1 = 1) (hm : y1 = cz_b1 (cz_atB (fun c => cz_sw (g1 c) (g2 c) da ds fl g2 kc) g5 i4)) (c_3 : ¬ y1 = 0) (c_4 : ¬ (g5 i4) = (-1)) (hr_5 : r_5 = cz_sw (g1 i4) (g2 i4) da ds fl g2 kc) (c_6 : ¬ (g5 i4) = r_5) : (0 : Int32) = cz_b1 (cz_atB (fun c => cz_sw (g1 c) (g2 c) da ds fl g2 kc) g5 (i4 + 1)) := by first | exact cz_mt0 hm (by assumption) | exact cz_mt1 hm (by assumption) (Or.inl (by assumption)) | (refine cz_mt1 hm (by assumption) (Or.inr ?_); subst_vars; assumption) | (refine cz_mt2 (by assumption) ?_; subst_vars; assumption)
theorem c_X7_isToldSo_a4 (fl : Int32) (da : Int32) (ds : Int32) (kc : Nat) (g1 : Nat → Int32) (g2 : Nat → Int32) (g5 : Nat → Int32) (i4 : Nat) (y1 : Int32) (n4 : Nat) (r_5 : Int32) (hkc : kc ≤ 6) (hpl : cz_pl g2) (hdu : cz_du da ds) (hi4 : i4 + (n4 + 1) = kc) (h01 : y1 = 0 ∨ y1 = 1) (hm : y1 = cz_b1 (cz_atB (fun c => cz_sw (g1 c) (g2 c) da ds fl g2 kc) g5 i4)) (c_3 : ¬ y1 = 0) (c_4 : ¬ (g5 i4) = (-1)) (hr_5 : r_5 = cz_sw (g1 i4) (g2 i4) da ds fl g2 kc) (c_6 : (g5 i4) = r_5) : (1 : Int32) = cz_b1 (cz_atB (fun c => cz_sw (g1 c) (g2 c) da ds fl g2 kc) g5 (i4 + 1)) := by first | exact cz_mt0 hm (by assumption) | exact cz_mt1 hm (by assumption) (Or.inl (by assumption)) | (refine cz_mt1 hm (by assumption) (Or.inr ?_); subst_vars; assumption) | (refine cz_mt2 (by assumption) ?_; subst_vars; assumption)
set_option maxHeartbeats 4000000 in
set_option maxRecDepth 100000 in
theorem c_X7_isToldSo (l : Launch) (dC : Nat → ClassId) (dI : Nat → Nat → Nat) (cI cB : ClassId) (h0 : Nat) (ih : Int32) (hn : Int32) (fl : Int32) (da : Int32) (ds : Int32) (ac : Int32) (kc : Nat) (m1 : Nat) (m2 : Nat) (m3 : Nat) (m4 : Nat) (m5 : Nat) (pl : Nat) (pg : Nat) (fa : Int32) (nf : Int32) (m6 : Nat) (m7 : Nat) (m8 : Nat) (sd : Int64) (ik : Int32) (kh : Int32) (km : Nat) (ka : Int32) (ks : Int32) (kac : Int32) (m9 : Nat) (m10 : Nat) (m11 : Nat) (m12 : Nat) (hv : Int64) (g1 : Nat → Int32) (g2 : Nat → Int32) (g5 : Nat → Int32) (hkc : kc ≤ 6) (hpl : cz_pl g2) (hdu : cz_du da ds) : Met l yX7_isToldSo wsX7_isToldSo ({ frames := 3, cells := 0, slots := 0, locals := 72 }) (cz_Pp dC dI cI cB [.ref h0] [(h0, .inr (7, [.int ih, .int hn, .int fl, .int da, .int ds, .int ac, .int (nI kc), .ref m1, .ref m2, .ref m3, .ref m4, .ref m5, .int (nI pl), .ref pg, .int fa, .int nf, .ref m6, .ref m7, .ref m8, .long sd, .int ik, .int kh, .int (nI km), .int ka, .int ks, .int kac, .ref m9, .ref m10, .ref m11, .ref m12, .long hv])), (m1, .inl (cI, 6, .inl g1)), (m2, .inl (cI, 6, .inl g2)), (m5, .inl (cI, 6, .inl g5))]) (vp_Si (fun r : Int32 => r = cz_b1 (cz_atB (fun c => cz_sw (g1 c) (g2 c) da ds fl g2 kc) g5 kc))) 0 0 (fun _ => False) := by
  refine cz_of (cc := cX7_isToldSo) (maxL := 3) (ret := (some .boolean)) (by decide) rfl ?_
  intro p e s m args below meth c s₁ Q B hml hv hQ
  obtain ⟨rfl, hP, hN⟩ := hv
  have hx := B.exec
  have hb := B.bytes
  have hr := B.returns
  have hts := atoms_spec (ws := wsX7_isToldSo) B.pre
  have hown : s.vm.findClass RX7 = some m.cls := findClass_of_methodNamed B.named
  have hlocks := B.notSynchronized
  have hK := hN.1
  have hiX7 : ∀ w ∈ wsX70, w ∈ wsX7_isToldSo := (fun _ h => List.mem_cons_of_mem _ (List.mem_append_right _ h))
  have hl := lv_entry ([.ref h0]) (n := 3) (Nat.le_of_ble_eq_true rfl)
  rw [lg_entry_eq]
  generalize (lg_sl ([.ref h0]) ++ List.replicate (3 - (lg_sl ([.ref h0])).length) Slot.unset).toArray = ls at hl ⊢
  have hl : lv_has ls 3 [(0, .ref h0)] := hl
  refine lv_iconst (v := 1) hx hb dX7_isToldSo_0 (by decide) ?_
  refine lv_istore_n (lv' := [(1, .int 1), (0, .ref h0)]) hx hb dX7_isToldSo_1 rfl hl (by decide) rfl (fun ls hl => ?_)
  refine lv_iconst (v := 0) hx hb dX7_isToldSo_2 (by decide) ?_
  refine lv_istore_n (lv' := [(2, .int 0), (1, .int 1), (0, .ref h0)]) hx hb dX7_isToldSo_3 rfl hl (by decide) rfl (fun ls hl => ?_)
  have lp4 : ∀ (n4 : Nat) (i4 : Nat) (y1 : Int32) (ls : Array Slot), i4 + n4 = kc → y1 = 0 ∨ y1 = 1 → y1 = cz_b1 (cz_atB (fun c => cz_sw (g1 c) (g2 c) da ds fl g2 kc) g5 i4) → lv_has ls 3 [(0, .ref h0), (1, .int y1), (2, .int (nI i4))] → W p l e ({ frames := 3, cells := 0, slots := 0, locals := 72 } : Room) s m #[Value.ref h0] below meth c s.heap [] 0 0 Q (F0 m 4 ls []) := by
    intro n4
    induction n4 with
    | zero =>
      intro i4 y1 ls hi4 h01 hm hl
      obtain rfl : kc = i4 := by omega
      refine lv_iload_n hx hb dX7_isToldSo_4 rfl (lv_at hl 2 rfl) ?_
      refine lv_aload_n hx hb dX7_isToldSo_5 rfl (lv_at hl 0 rfl) ?_
      refine va_get (D := (dC, dI)) (ci := 7) (v := .int (nI kc)) (C := RX7) (T := TX7) (N := 31) hx hb hts hiX7 hown hK hP 0 rfl rfl 6 (by decide) (hts (.fieldLink RX7 86 "LeftProfileModel" "courtiers" "I") (List.mem_of_getElem? (i := 1) rfl)) (fun _ h9 => h9) rfl dX7_isToldSo_6 ?_
      refine lv_icmp_ge (tgt := 52) hx hb dX7_isToldSo_9 (by decide) (fun c_1 => ?_) (fun c_1 => ?_)
      · refine lv_iload_n hx hb dX7_isToldSo_52 rfl (lv_at hl 1 rfl) ?_
        rw [hQ]; exact W.zret (v := y1) hx hb hr (cz_nar h01) (fun t ht hW => ⟨y1, rfl, hm, ht⟩) (fun _ h => absurd h List.not_mem_nil) dX7_isToldSo_53
      · exact absurd (show nI kc ≤ nI kc from nI_le (a := kc) (b := kc) (by omega) (by omega)) c_1
    | succ n4 ih4 =>
      intro i4 y1 ls hi4 h01 hm hl
      refine lv_iload_n hx hb dX7_isToldSo_4 rfl (lv_at hl 2 rfl) ?_
      refine lv_aload_n hx hb dX7_isToldSo_5 rfl (lv_at hl 0 rfl) ?_
      refine va_get (D := (dC, dI)) (ci := 7) (v := .int (nI kc)) (C := RX7) (T := TX7) (N := 31) hx hb hts hiX7 hown hK hP 0 rfl rfl 6 (by decide) (hts (.fieldLink RX7 86 "LeftProfileModel" "courtiers" "I") (List.mem_of_getElem? (i := 1) rfl)) (fun _ h9 => h9) rfl dX7_isToldSo_6 ?_
      refine lv_icmp_ge (tgt := 52) hx hb dX7_isToldSo_9 (by decide) (fun c_2 => ?_) (fun c_2 => ?_)
      · exact absurd c_2 (show ¬ nI kc ≤ nI i4 from nI_ge (a := i4) (b := kc) (by omega) (by omega))
      · refine lv_iload_n hx hb dX7_isToldSo_12 rfl (lv_at hl 1 rfl) ?_
        refine lv_if_eq (tgt := 44) hx hb dX7_isToldSo_13 (by decide) (fun c_3 => ?_) (fun c_3 => ?_)
        · refine lv_iconst (v := 0) hx hb dX7_isToldSo_44 (by decide) ?_
          refine lv_istore_n (lv' := [(1, .int 0), (0, .ref h0), (2, .int (nI i4))]) hx hb dX7_isToldSo_45 rfl hl (by decide) rfl (fun ls hl => ?_)
          refine lv_iinc (v := (nI (i4 + 1))) (lv' := [(2, .int (nI (i4 + 1))), (1, .int 0), (0, .ref h0)]) hx hb dX7_isToldSo_46 hl (k := 2) rfl (nI_add i4 1) (by decide) rfl (fun ls hl => ?_)
          refine lv_goto (tgt := 4) hx hb dX7_isToldSo_49 (by decide) ?_
          exact ih4 (i4 + 1) 0 ls (by omega) (Or.inl rfl) (c_X7_isToldSo_a1 fl da ds kc g1 g2 g5 i4 y1 n4 hkc hpl hdu hi4 h01 hm c_3) (lv_sub hl [2, 1, 0] rfl)
        · refine lv_aload_n hx hb dX7_isToldSo_16 rfl (lv_at hl 0 rfl) ?_
          refine va_get (D := (dC, dI)) (ci := 7) (v := .ref m5) (C := RX7) (T := TX7) (N := 31) hx hb hts hiX7 hown hK hP 0 rfl rfl 11 (by decide) (hts (.fieldLink RX7 29 "LeftProfileModel" "toldOf" "[I") (List.mem_of_getElem? (i := 2) rfl)) (fun _ h9 => h9) rfl dX7_isToldSo_17 ?_
          refine lv_iload_n hx hb dX7_isToldSo_20 rfl (lv_at hl 2 rfl) ?_
          refine va_iald hx hb hK hP 3 0 rfl rfl (vp_in_nI (n := i4) (by omega) (by omega)) dX7_isToldSo_21 ?_
          refine cz_i (y := (g5 i4)) (congrArg g5 (nI_clamp (n := i4) (by omega))) ?_
          refine lv_iconst (v := (-1)) hx hb dX7_isToldSo_22 (by decide) ?_
          refine lv_icmp_eq (tgt := 40) hx hb dX7_isToldSo_23 (by decide) (fun c_4 => ?_) (fun c_4 => ?_)
          · refine lv_iconst (v := 1) hx hb dX7_isToldSo_40 (by decide) ?_
            refine lv_goto (tgt := 45) hx hb dX7_isToldSo_41 (by decide) ?_
            refine lv_istore_n (lv' := [(1, .int 1), (0, .ref h0), (2, .int (nI i4))]) hx hb dX7_isToldSo_45 rfl hl (by decide) rfl (fun ls hl => ?_)
            refine lv_iinc (v := (nI (i4 + 1))) (lv' := [(2, .int (nI (i4 + 1))), (1, .int 1), (0, .ref h0)]) hx hb dX7_isToldSo_46 hl (k := 2) rfl (nI_add i4 1) (by decide) rfl (fun ls hl => ?_)
            refine lv_goto (tgt := 4) hx hb dX7_isToldSo_49 (by decide) ?_
            exact ih4 (i4 + 1) 1 ls (by omega) (Or.inr rfl) (c_X7_isToldSo_a2 fl da ds kc g1 g2 g5 i4 y1 n4 hkc hpl hdu hi4 h01 hm c_3 c_4) (lv_sub hl [2, 1, 0] rfl)
          · refine lv_aload_n hx hb dX7_isToldSo_26 rfl (lv_at hl 0 rfl) ?_
            refine va_get (D := (dC, dI)) (ci := 7) (v := .ref m5) (C := RX7) (T := TX7) (N := 31) hx hb hts hiX7 hown hK hP 0 rfl rfl 11 (by decide) (hts (.fieldLink RX7 29 "LeftProfileModel" "toldOf" "[I") (List.mem_of_getElem? (i := 2) rfl)) (fun _ h9 => h9) rfl dX7_isToldSo_27 ?_
            refine lv_iload_n hx hb dX7_isToldSo_30 rfl (lv_at hl 2 rfl) ?_
            refine va_iald hx hb hK hP 3 0 rfl rfl (vp_in_nI (n := i4) (by omega) (by omega)) dX7_isToldSo_31 ?_
            refine cz_i (y := (g5 i4)) (congrArg g5 (nI_clamp (n := i4) (by omega))) ?_
            refine lv_aload_n hx hb dX7_isToldSo_32 rfl (lv_at hl 0 rfl) ?_
            refine lv_iload_n hx hb dX7_isToldSo_33 rfl (lv_at hl 2 rfl) ?_
            refine vp_callSi (cz_run (va_runV (As := [.int (nI i4)]) (rest := [.int (g5 i4)]) ⟨hx, hb, hml, hown, hts⟩ (c_X7_seesNow l dC dI cI cB h0 i4 ih hn fl da ds ac kc m1 m2 m3 m4 m5 pl pg fa nf m6 m7 m8 sd ik kh km ka ks kac m9 m10 m11 m12 hv g1 g2 hkc hpl hdu (by omega)) (cwV 1 hts gX7_isToldSo_X7_seesNow rfl rfl rfl (by decide +kernel) ⟨Nat.le_of_ble_eq_true rfl, Nat.le_of_ble_eq_true rfl⟩) (cz_pV (hP.sub (ws' := [(h0, .inr (7, [.int ih, .int hn, .int fl, .int da, .int ds, .int ac, .int (nI kc), .ref m1, .ref m2, .ref m3, .ref m4, .ref m5, .int (nI pl), .ref pg, .int fa, .int nf, .ref m6, .ref m7, .ref m8, .long sd, .int ik, .int kh, .int (nI km), .int ka, .int ks, .int kac, .ref m9, .ref m10, .ref m11, .ref m12, .long hv])), (m1, .inl (cI, 6, .inl g1)), (m2, .inl (cI, 6, .inl g2))]) [0, 1, 2] rfl) hN (va_recv hK (hP.sub (ws' := [(h0, .inr (7, [.int ih, .int hn, .int fl, .int da, .int ds, .int ac, .int (nI kc), .ref m1, .ref m2, .ref m3, .ref m4, .ref m5, .int (nI pl), .ref pg, .int fa, .int nf, .ref m6, .ref m7, .ref m8, .long sd, .int ik, .int kh, .int (nI km), .int ka, .int ks, .int kac, .ref m9, .ref m10, .ref m11, .ref m12, .long hv])), (m1, .inl (cI, 6, .inl g1)), (m2, .inl (cI, 6, .inl g2))]) [0, 1, 2] rfl) (ci := 7) (q0 := 0) rfl rfl)) rfl rfl hl.1 rfl (lv_room (Nat.le_of_ble_eq_true rfl)) dX7_isToldSo_34 ⟨Nat.le_of_ble_eq_true rfl, Nat.le_of_ble_eq_true rfl⟩)) (fun r_5 hr_5 => ?_)
            refine lv_icmp_ne (tgt := 44) hx hb dX7_isToldSo_37 (by decide) (fun c_6 => ?_) (fun c_6 => ?_)
            · refine lv_iconst (v := 0) hx hb dX7_isToldSo_44 (by decide) ?_
              refine lv_istore_n (lv' := [(1, .int 0), (0, .ref h0), (2, .int (nI i4))]) hx hb dX7_isToldSo_45 rfl hl (by decide) rfl (fun ls hl => ?_)
              refine lv_iinc (v := (nI (i4 + 1))) (lv' := [(2, .int (nI (i4 + 1))), (1, .int 0), (0, .ref h0)]) hx hb dX7_isToldSo_46 hl (k := 2) rfl (nI_add i4 1) (by decide) rfl (fun ls hl => ?_)
              refine lv_goto (tgt := 4) hx hb dX7_isToldSo_49 (by decide) ?_
              exact ih4 (i4 + 1) 0 ls (by omega) (Or.inl rfl) (c_X7_isToldSo_a3 fl da ds kc g1 g2 g5 i4 y1 n4 r_5 hkc hpl hdu hi4 h01 hm c_3 c_4 hr_5 c_6) (lv_sub hl [2, 1, 0] rfl)
            · refine lv_iconst (v := 1) hx hb dX7_isToldSo_40 (by decide) ?_
              refine lv_goto (tgt := 45) hx hb dX7_isToldSo_41 (by decide) ?_
              refine lv_istore_n (lv' := [(1, .int 1), (0, .ref h0), (2, .int (nI i4))]) hx hb dX7_isToldSo_45 rfl hl (by decide) rfl (fun ls hl => ?_)
              refine lv_iinc (v := (nI (i4 + 1))) (lv' := [(2, .int (nI (i4 + 1))), (1, .int 1), (0, .ref h0)]) hx hb dX7_isToldSo_46 hl (k := 2) rfl (nI_add i4 1) (by decide) rfl (fun ls hl => ?_)
              refine lv_goto (tgt := 4) hx hb dX7_isToldSo_49 (by decide) ?_
              exact ih4 (i4 + 1) 1 ls (by omega) (Or.inr rfl) (c_X7_isToldSo_a4 fl da ds kc g1 g2 g5 i4 y1 n4 r_5 hkc hpl hdu hi4 h01 hm c_3 c_4 hr_5 c_6) (lv_sub hl [2, 1, 0] rfl)
  exact lp4 kc 0 1 ls (by omega) (Or.inr rfl) rfl (lv_sub hl [2, 1, 0] rfl)
