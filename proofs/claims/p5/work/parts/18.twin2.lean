/-- the FLOOR as the reference reads it, letter by letter -/
def cz_fw (f : Nat → Int32) : Nat → Int32
  | 0 => 0
  | k + 1 => cz_fw f k ||| (if f k = 46 then 1 <<< (nI (k / 6 * 5 + k % 6) &&& 31) else 0)
def cz_mf (n : Nat) (f : Nat → Int32) (v : Int32) : Nat → Int32 := if cz_in 32 v 126 then (if 24 ≤ n then f else upd f n (vp_nar .byte v.toInt8.toInt32)) else f

theorem c_X7_letter_a1 (p0 : Int32) (pl : Nat) (hpl24 : pl ≤ 24) (hr_1 : ¬ cz_in 32 p0 126) : pl = cz_ln pl p0 := by first | (subst_vars; rfl) | assumption | ((try subst_vars) <;> (try simp only [cz_lr, cz_ln, cz_mf, cz_ar, cz_an]) <;> (repeat' split) <;> (first | rfl | ((try simp only [cz_in, cz_du, cz_lt, cz_le, cz_eq, cz_l] at *) <;> (first | omega | (simp_all; done)))))
theorem c_X7_letter_a2 (p0 : Int32) (pl : Nat) (f1 : Nat → Int32) (hpl24 : pl ≤ 24) (hr_1 : ¬ cz_in 32 p0 126) : f1 = cz_mf pl f1 p0 := by first | (subst_vars; rfl) | assumption | ((try subst_vars) <;> (try simp only [cz_lr, cz_ln, cz_mf, cz_ar, cz_an]) <;> (repeat' split) <;> (first | rfl | ((try simp only [cz_in, cz_du, cz_lt, cz_le, cz_eq, cz_l] at *) <;> (first | omega | (simp_all; done)))))
theorem c_X7_letter_a3 (p0 : Int32) (pl : Nat) (hpl24 : pl ≤ 24) (hr_1 : ¬ cz_in 32 p0 126) : ((-102) : Int32) = cz_lr pl p0 := by first | (subst_vars; rfl) | assumption | ((try subst_vars) <;> (try simp only [cz_lr, cz_ln, cz_mf, cz_ar, cz_an]) <;> (repeat' split) <;> (first | rfl | ((try simp only [cz_in, cz_du, cz_lt, cz_le, cz_eq, cz_l] at *) <;> (first | omega | (simp_all; done)))))
theorem c_X7_letter_a4 (p0 : Int32) (pl : Nat) (x_3 : Int32) (hpl24 : pl ≤ 24) (hr_1 : cz_in 32 p0 126) (c_2 : ¬ pl = 24) (ex_3 : x_3 = p0.toInt8.toInt32) : (pl + 1) = cz_ln pl p0 := by first | (subst_vars; rfl) | assumption | ((try subst_vars) <;> (try simp only [cz_lr, cz_ln, cz_mf, cz_ar, cz_an]) <;> (repeat' split) <;> (first | rfl | ((try simp only [cz_in, cz_du, cz_lt, cz_le, cz_eq, cz_l] at *) <;> (first | omega | (simp_all; done)))))
theorem c_X7_letter_a5 (p0 : Int32) (pl : Nat) (f1 : Nat → Int32) (x_3 : Int32) (hpl24 : pl ≤ 24) (hr_1 : cz_in 32 p0 126) (c_2 : ¬ pl = 24) (ex_3 : x_3 = p0.toInt8.toInt32) : (upd f1 pl (vp_nar .byte x_3)) = cz_mf pl f1 p0 := by first | (subst_vars; rfl) | assumption | ((try subst_vars) <;> (try simp only [cz_lr, cz_ln, cz_mf, cz_ar, cz_an]) <;> (repeat' split) <;> (first | rfl | ((try simp only [cz_in, cz_du, cz_lt, cz_le, cz_eq, cz_l] at *) <;> (first | omega | (simp_all; done)))))
theorem c_X7_letter_a6 (p0 : Int32) (pl : Nat) (x_3 : Int32) (hpl24 : pl ≤ 24) (hr_1 : cz_in 32 p0 126) (c_2 : ¬ pl = 24) (ex_3 : x_3 = p0.toInt8.toInt32) : ((nI (pl + 1)) : Int32) = cz_lr pl p0 := by first | (subst_vars; rfl) | assumption | ((try subst_vars) <;> (try simp only [cz_lr, cz_ln, cz_mf, cz_ar, cz_an]) <;> (repeat' split) <;> (first | rfl | ((try simp only [cz_in, cz_du, cz_lt, cz_le, cz_eq, cz_l] at *) <;> (first | omega | (simp_all; done)))))
theorem c_X7_letter_a7 (p0 : Int32) (pl : Nat) (hpl24 : pl ≤ 24) (hr_1 : cz_in 32 p0 126) (c_2 : pl = 24) : pl = cz_ln pl p0 := by first | (subst_vars; rfl) | assumption | ((try subst_vars) <;> (try simp only [cz_lr, cz_ln, cz_mf, cz_ar, cz_an]) <;> (repeat' split) <;> (first | rfl | ((try simp only [cz_in, cz_du, cz_lt, cz_le, cz_eq, cz_l] at *) <;> (first | omega | (simp_all; done)))))
theorem c_X7_letter_a8 (p0 : Int32) (pl : Nat) (f1 : Nat → Int32) (hpl24 : pl ≤ 24) (hr_1 : cz_in 32 p0 126) (c_2 : pl = 24) : f1 = cz_mf pl f1 p0 := by first | (subst_vars; rfl) | assumption | ((try subst_vars) <;> (try simp only [cz_lr, cz_ln, cz_mf, cz_ar, cz_an]) <;> (repeat' split) <;> (first | rfl | ((try simp only [cz_in, cz_du, cz_lt, cz_le, cz_eq, cz_l] at *) <;> (first | omega | (simp_all; done)))))
theorem c_X7_letter_a9 (p0 : Int32) (pl : Nat) (hpl24 : pl ≤ 24) (hr_1 : cz_in 32 p0 126) (c_2 : pl = 24) : ((-104) : Int32) = cz_lr pl p0 := by first | (subst_vars; rfl) | assumption | ((try subst_vars) <;> (try simp only [cz_lr, cz_ln, cz_mf, cz_ar, cz_an]) <;> (repeat' split) <;> (first | rfl | ((try simp only [cz_in, cz_du, cz_lt, cz_le, cz_eq, cz_l] at *) <;> (first | omega | (simp_all; done)))))
set_option maxHeartbeats 4000000 in
set_option maxRecDepth 100000 in
theorem c_X7_letter (l : Launch) (dC : Nat → ClassId) (dI : Nat → Nat → Nat) (cI cB : ClassId) (h0 : Nat) (p0 : Int32) (ih : Int32) (hn : Int32) (fl : Int32) (da : Int32) (ds : Int32) (ac : Int32) (kc : Nat) (m1 : Nat) (m2 : Nat) (m3 : Nat) (m4 : Nat) (m5 : Nat) (pl : Nat) (pg : Nat) (fa : Int32) (nf : Int32) (m6 : Nat) (m7 : Nat) (m8 : Nat) (sd : Int64) (ik : Int32) (kh : Int32) (km : Nat) (ka : Int32) (ks : Int32) (kac : Int32) (m9 : Nat) (m10 : Nat) (m11 : Nat) (m12 : Nat) (hv : Int64) (f1 : Nat → Int32) (sz : Nat) (hpl24 : pl ≤ 24) : Met l yX7_letter wsX7_letter ({ frames := 1, cells := 0, slots := 0, locals := 22 }) (cz_Pm dC dI cI cB [.ref h0, .int p0] [(h0, .inr (7, [.int ih, .int hn, .int fl, .int da, .int ds, .int ac, .int (nI kc), .ref m1, .ref m2, .ref m3, .ref m4, .ref m5, .int (nI pl), .ref pg, .int fa, .int nf, .ref m6, .ref m7, .ref m8, .long sd, .int ik, .int kh, .int (nI km), .int ka, .int ks, .int kac, .ref m9, .ref m10, .ref m11, .ref m12, .long hv])), (pg, .inl (cB, 24, .inl f1))] sz) (va_Qi (fun (r : Int32) (_ : Unit) => r = cz_lr pl p0) (fun _ t => ∃ (nn : Nat) (ff : Nat → Int32), (nn = cz_ln pl p0) ∧ (ff = cz_mf pl f1 p0) ∧ va_P (dC, dI) vwCl [(h0, .inr (7, [.int ih, .int hn, .int fl, .int da, .int ds, .int ac, .int (nI kc), .ref m1, .ref m2, .ref m3, .ref m4, .ref m5, .int (nI nn), .ref pg, .int fa, .int nf, .ref m6, .ref m7, .ref m8, .long sd, .int ik, .int kh, .int (nI km), .int ka, .int ks, .int kac, .ref m9, .ref m10, .ref m11, .ref m12, .long hv])), (pg, .inl (cB, 24, .inl ff))] t.heap ∧ va_D (va_A [(h0, .inr (7, [.int ih, .int hn, .int fl, .int da, .int ds, .int ac, .int (nI kc), .ref m1, .ref m2, .ref m3, .ref m4, .ref m5, .int (nI pl), .ref pg, .int fa, .int nf, .ref m6, .ref m7, .ref m8, .long sd, .int ik, .int kh, .int (nI km), .int ka, .int ks, .int kac, .ref m9, .ref m10, .ref m11, .ref m12, .long hv])), (pg, .inl (cB, 24, .inl f1))] sz) [(h0, .inr (7, [.int ih, .int hn, .int fl, .int da, .int ds, .int ac, .int (nI kc), .ref m1, .ref m2, .ref m3, .ref m4, .ref m5, .int (nI nn), .ref pg, .int fa, .int nf, .ref m6, .ref m7, .ref m8, .long sd, .int ik, .int kh, .int (nI km), .int ka, .int ks, .int kac, .ref m9, .ref m10, .ref m11, .ref m12, .long hv])), (pg, .inl (cB, 24, .inl ff))]) (va_A [(h0, .inr (7, [.int ih, .int hn, .int fl, .int da, .int ds, .int ac, .int (nI kc), .ref m1, .ref m2, .ref m3, .ref m4, .ref m5, .int (nI pl), .ref pg, .int fa, .int nf, .ref m6, .ref m7, .ref m8, .long sd, .int ik, .int kh, .int (nI km), .int ka, .int ks, .int kac, .ref m9, .ref m10, .ref m11, .ref m12, .long hv])), (pg, .inl (cB, 24, .inl f1))] sz)) 0 0 (va_A [(h0, .inr (7, [.int ih, .int hn, .int fl, .int da, .int ds, .int ac, .int (nI kc), .ref m1, .ref m2, .ref m3, .ref m4, .ref m5, .int (nI pl), .ref pg, .int fa, .int nf, .ref m6, .ref m7, .ref m8, .long sd, .int ik, .int kh, .int (nI km), .int ka, .int ks, .int kac, .ref m9, .ref m10, .ref m11, .ref m12, .long hv])), (pg, .inl (cB, 24, .inl f1))] sz) := by
  refine cz_of (cc := cX7_letter) (maxL := 2) (ret := (some .int)) (by decide) rfl ?_
  intro p e s m args below meth c s₁ Q B hml hv hQ
  obtain ⟨rfl, hsz, hP, hN, hD0⟩ := hv
  have hx := B.exec
  have hb := B.bytes
  have hr := B.returns
  have hts := atoms_spec (ws := wsX7_letter) B.pre
  have hown : s.vm.findClass RX7 = some m.cls := findClass_of_methodNamed B.named
  have hlocks := B.notSynchronized
  have hK := hN.1
  have hiX7 : ∀ w ∈ wsX70, w ∈ wsX7_letter := (fun _ h => List.mem_cons_of_mem _ (List.mem_append_right _ h))
  subst hsz
  have hD := hD0.self (sz := s.heap.size)
  generalize hAe : va_A [(h0, .inr (7, [.int ih, .int hn, .int fl, .int da, .int ds, .int ac, .int (nI kc), .ref m1, .ref m2, .ref m3, .ref m4, .ref m5, .int (nI pl), .ref pg, .int fa, .int nf, .ref m6, .ref m7, .ref m8, .long sd, .int ik, .int kh, .int (nI km), .int ka, .int ks, .int kac, .ref m9, .ref m10, .ref m11, .ref m12, .long hv])), (pg, .inl (cB, 24, .inl f1))] s.heap.size = A at hD hQ ⊢
  have hA : ∀ q : Nat, s.heap.size ≤ q → A q := fun q h => by rw [← hAe]; exact Or.inr h
  have hS : va_S A s.heap s.heap [] := va_S.rf
  obtain ⟨H, eH⟩ : ∃ H, H = s.heap := ⟨_, rfl⟩
  have hP : va_P (dC, dI) vwCl [(h0, .inr (7, [.int ih, .int hn, .int fl, .int da, .int ds, .int ac, .int (nI kc), .ref m1, .ref m2, .ref m3, .ref m4, .ref m5, .int (nI pl), .ref pg, .int fa, .int nf, .ref m6, .ref m7, .ref m8, .long sd, .int ik, .int kh, .int (nI km), .int ka, .int ks, .int kac, .ref m9, .ref m10, .ref m11, .ref m12, .long hv])), (pg, .inl (cB, 24, .inl f1))] s.heap := hP
  have hl := lv_entry ([.ref h0, .int p0]) (n := 2) (Nat.le_of_ble_eq_true rfl)
  rw [lg_entry_eq]
  generalize (lg_sl ([.ref h0, .int p0]) ++ List.replicate (2 - (lg_sl ([.ref h0, .int p0])).length) Slot.unset).toArray = ls at hl ⊢
  have hl : lv_has ls 2 [(0, .ref h0), (1, .int p0)] := hl
  refine lv_iload_n hx hb dX7_letter_0 rfl (lv_at hl 1 rfl) ?_
  refine lv_bipush (v := 32) hx hb dX7_letter_1 (by decide) ?_
  refine lv_bipush (v := 126) hx hb dX7_letter_3 (by decide) ?_
  refine vp_callSi (cz_run (va_runS (As := [.int p0, .int 32, .int 126]) (rest := []) ⟨hx, hb, hml, hown, hts⟩ (c_X7_within l dC dI cI cB p0 32 126 ) (va_cwS 3 hts gX7_letter_X7_within rfl rfl rfl (by decide +kernel) ⟨Nat.le_of_ble_eq_true rfl, Nat.le_of_ble_eq_true rfl⟩) (cz_pS (hP.sub (ws' := []) [] rfl) hN) rfl rfl hl.1 rfl (lv_room (Nat.le_of_ble_eq_true rfl)) dX7_letter_5 ⟨Nat.le_of_ble_eq_true rfl, Nat.le_of_ble_eq_true rfl⟩)) (fun r_1 hr_1 => ?_)
  rcases hr_1 with ⟨rfl, hr_1⟩ | ⟨rfl, hr_1⟩
  · refine lv_if_ne (tgt := 14) hx hb dX7_letter_8 (by decide) (fun c => absurd (by decide) c) (fun _ => ?_)
    refine lv_bipush (v := (-102)) hx hb dX7_letter_11 (by decide) ?_
    refine W.widen (k := 0) (n := 0) (Nat.le_of_ble_eq_true rfl) (Nat.le_of_ble_eq_true rfl) ?_
    have hP9 := hP.sub (ws' := [(h0, .inr (7, [.int ih, .int hn, .int fl, .int da, .int ds, .int ac, .int (nI kc), .ref m1, .ref m2, .ref m3, .ref m4, .ref m5, .int (nI pl), .ref pg, .int fa, .int nf, .ref m6, .ref m7, .ref m8, .long sd, .int ik, .int kh, .int (nI km), .int ka, .int ks, .int kac, .ref m9, .ref m10, .ref m11, .ref m12, .long hv])), (pg, .inl (cB, 24, .inl f1))]) [0, 1] rfl
    have hD9 := hD.sub (ws' := [(h0, .inr (7, [.int ih, .int hn, .int fl, .int da, .int ds, .int ac, .int (nI kc), .ref m1, .ref m2, .ref m3, .ref m4, .ref m5, .int (nI pl), .ref pg, .int fa, .int nf, .ref m6, .ref m7, .ref m8, .long sd, .int ik, .int kh, .int (nI km), .int ka, .int ks, .int kac, .ref m9, .ref m10, .ref m11, .ref m12, .long hv])), (pg, .inl (cB, 24, .inl f1))]) [0, 1] (by decide) rfl
    rw [hQ]; exact W.iret (v := (-102)) hx hb hr (fun t ht hW => ⟨⟨(-102), (), rfl, (c_X7_letter_a3 p0 pl hpl24 hr_1), ⟨pl, f1, (c_X7_letter_a1 p0 pl hpl24 hr_1), (c_X7_letter_a2 p0 pl f1 hpl24 hr_1), by rw [ht]; exact hP9, hD9⟩⟩, hS.F ht⟩) hS.2.2 dX7_letter_13
  · refine lv_if_ne (tgt := 14) hx hb dX7_letter_8 (by decide) (fun _ => ?_) (fun c => absurd c (by decide))
    refine lv_aload_n hx hb dX7_letter_14 rfl (lv_at hl 0 rfl) ?_
    refine va_get (D := (dC, dI)) (ci := 7) (v := .int (nI pl)) (C := RX7) (T := TX7) (N := 31) hx hb hts hiX7 hown hK hP 0 rfl rfl 12 (by decide) (hts (.fieldLink RX7 61 "LeftProfileModel" "pageLength" "I") (List.mem_of_getElem? (i := 1) rfl)) (fun _ h9 => h9) rfl dX7_letter_15 ?_
    refine lv_bipush (v := 24) hx hb dX7_letter_18 (by decide) ?_
    refine lv_icmp_ne (tgt := 26) hx hb dX7_letter_20 (by decide) (fun c_2 => ?_) (fun c_2 => ?_)
    · have c_2 : ¬ pl = 24 := fun h => c_2 ((nI_eq (a := pl) (b := 24) (by omega) (by omega)).mpr h)
      refine lv_aload_n hx hb dX7_letter_26 rfl (lv_at hl 0 rfl) ?_
      refine va_get (D := (dC, dI)) (ci := 7) (v := .ref pg) (C := RX7) (T := TX7) (N := 31) hx hb hts hiX7 hown hK hP 0 rfl rfl 13 (by decide) (hts (.fieldLink RX7 32 "LeftProfileModel" "page" "[B") (List.mem_of_getElem? (i := 2) rfl)) (fun _ h9 => h9) rfl dX7_letter_27 ?_
      refine lv_aload_n hx hb dX7_letter_30 rfl (lv_at hl 0 rfl) ?_
      refine va_get (D := (dC, dI)) (ci := 7) (v := .int (nI pl)) (C := RX7) (T := TX7) (N := 31) hx hb hts hiX7 hown hK hP 0 rfl rfl 12 (by decide) (hts (.fieldLink RX7 61 "LeftProfileModel" "pageLength" "I") (List.mem_of_getElem? (i := 1) rfl)) (fun _ h9 => h9) rfl dX7_letter_31 ?_
      refine lv_iload_n hx hb dX7_letter_34 rfl (lv_at hl 1 rfl) ?_
      refine lv_i2b hx hb dX7_letter_35 rfl ?_
      refine lv_topi (fun x_3 ex_3 => ?_)
      refine va_bast hx hb hK hP hD hS 1 1 rfl rfl (vp_in_nI (n := pl) (by omega) (by omega)) dX7_letter_36 (fun H locs hP hD hS => ?_)
      rw [show (nI pl).toNatClampNeg = pl from nI_clamp (n := pl) (by omega)] at hP hD
      have hP : va_P (dC, dI) vwCl [(h0, .inr (7, [.int ih, .int hn, .int fl, .int da, .int ds, .int ac, .int (nI kc), .ref m1, .ref m2, .ref m3, .ref m4, .ref m5, .int (nI pl), .ref pg, .int fa, .int nf, .ref m6, .ref m7, .ref m8, .long sd, .int ik, .int kh, .int (nI km), .int ka, .int ks, .int kac, .ref m9, .ref m10, .ref m11, .ref m12, .long hv])), (pg, .inl (cB, 24, .inl (upd f1 pl (vp_nar .byte x_3))))] H := hP
      have hD : va_D A [(h0, .inr (7, [.int ih, .int hn, .int fl, .int da, .int ds, .int ac, .int (nI kc), .ref m1, .ref m2, .ref m3, .ref m4, .ref m5, .int (nI pl), .ref pg, .int fa, .int nf, .ref m6, .ref m7, .ref m8, .long sd, .int ik, .int kh, .int (nI km), .int ka, .int ks, .int kac, .ref m9, .ref m10, .ref m11, .ref m12, .long hv])), (pg, .inl (cB, 24, .inl (upd f1 pl (vp_nar .byte x_3))))] := hD
      refine lv_aload_n hx hb dX7_letter_37 rfl (lv_at hl 0 rfl) ?_
      refine lv_dup hx hb dX7_letter_38 rfl ?_
      refine va_get (D := (dC, dI)) (ci := 7) (v := .int (nI pl)) (C := RX7) (T := TX7) (N := 31) hx hb hts hiX7 hown hK hP 0 rfl rfl 12 (by decide) (hts (.fieldLink RX7 61 "LeftProfileModel" "pageLength" "I") (List.mem_of_getElem? (i := 1) rfl)) (fun _ h9 => h9) rfl dX7_letter_39 ?_
      refine lv_iconst (v := 1) hx hb dX7_letter_42 (by decide) ?_
      refine lv_iadd hx hb dX7_letter_43 ?_
      refine cz_i (y := (nI (pl + 1))) (nI_add pl 1) ?_
      refine va_put (D := (dC, dI)) (ci := 7) (v := .int (nI (pl + 1))) (ty := .int) (C := RX7) (T := TX7) (N := 31) hx hb hts hiX7 tyX7 tyX7_ok nmX7 hown hK hP hD hS 0 rfl rfl 12 (by decide) (hts (.fieldLink RX7 61 "LeftProfileModel" "pageLength" "I") (List.mem_of_getElem? (i := 1) rfl)) (fun _ h9 => h9) rfl (by decide +kernel) rfl rfl (Nat.le_of_ble_eq_true rfl) dX7_letter_44 (fun H locs hP hD hS => ?_)
      have hP : va_P (dC, dI) vwCl [(h0, .inr (7, [.int ih, .int hn, .int fl, .int da, .int ds, .int ac, .int (nI kc), .ref m1, .ref m2, .ref m3, .ref m4, .ref m5, .int (nI (pl + 1)), .ref pg, .int fa, .int nf, .ref m6, .ref m7, .ref m8, .long sd, .int ik, .int kh, .int (nI km), .int ka, .int ks, .int kac, .ref m9, .ref m10, .ref m11, .ref m12, .long hv])), (pg, .inl (cB, 24, .inl (upd f1 pl (vp_nar .byte x_3))))] H := hP
      have hD : va_D A [(h0, .inr (7, [.int ih, .int hn, .int fl, .int da, .int ds, .int ac, .int (nI kc), .ref m1, .ref m2, .ref m3, .ref m4, .ref m5, .int (nI (pl + 1)), .ref pg, .int fa, .int nf, .ref m6, .ref m7, .ref m8, .long sd, .int ik, .int kh, .int (nI km), .int ka, .int ks, .int kac, .ref m9, .ref m10, .ref m11, .ref m12, .long hv])), (pg, .inl (cB, 24, .inl (upd f1 pl (vp_nar .byte x_3))))] := hD
      refine lv_aload_n hx hb dX7_letter_47 rfl (lv_at hl 0 rfl) ?_
      refine va_get (D := (dC, dI)) (ci := 7) (v := .int (nI (pl + 1))) (C := RX7) (T := TX7) (N := 31) hx hb hts hiX7 hown hK hP 0 rfl rfl 12 (by decide) (hts (.fieldLink RX7 61 "LeftProfileModel" "pageLength" "I") (List.mem_of_getElem? (i := 1) rfl)) (fun _ h9 => h9) rfl dX7_letter_48 ?_
      refine W.widen (k := 0) (n := 0) (Nat.le_of_ble_eq_true rfl) (Nat.le_of_ble_eq_true rfl) ?_
      have hP9 := hP.sub (ws' := [(h0, .inr (7, [.int ih, .int hn, .int fl, .int da, .int ds, .int ac, .int (nI kc), .ref m1, .ref m2, .ref m3, .ref m4, .ref m5, .int (nI (pl + 1)), .ref pg, .int fa, .int nf, .ref m6, .ref m7, .ref m8, .long sd, .int ik, .int kh, .int (nI km), .int ka, .int ks, .int kac, .ref m9, .ref m10, .ref m11, .ref m12, .long hv])), (pg, .inl (cB, 24, .inl (upd f1 pl (vp_nar .byte x_3))))]) [0, 1] rfl
      have hD9 := hD.sub (ws' := [(h0, .inr (7, [.int ih, .int hn, .int fl, .int da, .int ds, .int ac, .int (nI kc), .ref m1, .ref m2, .ref m3, .ref m4, .ref m5, .int (nI (pl + 1)), .ref pg, .int fa, .int nf, .ref m6, .ref m7, .ref m8, .long sd, .int ik, .int kh, .int (nI km), .int ka, .int ks, .int kac, .ref m9, .ref m10, .ref m11, .ref m12, .long hv])), (pg, .inl (cB, 24, .inl (upd f1 pl (vp_nar .byte x_3))))]) [0, 1] (by decide) rfl
      rw [hQ]; exact W.iret (v := (nI (pl + 1))) hx hb hr (fun t ht hW => ⟨⟨(nI (pl + 1)), (), rfl, (c_X7_letter_a6 p0 pl x_3 hpl24 hr_1 c_2 ex_3), ⟨(pl + 1), (upd f1 pl (vp_nar .byte x_3)), (c_X7_letter_a4 p0 pl x_3 hpl24 hr_1 c_2 ex_3), (c_X7_letter_a5 p0 pl f1 x_3 hpl24 hr_1 c_2 ex_3), by rw [ht]; exact hP9, hD9⟩⟩, hS.F ht⟩) hS.2.2 dX7_letter_51
    · have c_2 : pl = 24 := (nI_eq (a := pl) (b := 24) (by omega) (by omega)).mp c_2
      refine lv_bipush (v := (-104)) hx hb dX7_letter_23 (by decide) ?_
      refine W.widen (k := 0) (n := 0) (Nat.le_of_ble_eq_true rfl) (Nat.le_of_ble_eq_true rfl) ?_
      have hP9 := hP.sub (ws' := [(h0, .inr (7, [.int ih, .int hn, .int fl, .int da, .int ds, .int ac, .int (nI kc), .ref m1, .ref m2, .ref m3, .ref m4, .ref m5, .int (nI pl), .ref pg, .int fa, .int nf, .ref m6, .ref m7, .ref m8, .long sd, .int ik, .int kh, .int (nI km), .int ka, .int ks, .int kac, .ref m9, .ref m10, .ref m11, .ref m12, .long hv])), (pg, .inl (cB, 24, .inl f1))]) [0, 1] rfl
      have hD9 := hD.sub (ws' := [(h0, .inr (7, [.int ih, .int hn, .int fl, .int da, .int ds, .int ac, .int (nI kc), .ref m1, .ref m2, .ref m3, .ref m4, .ref m5, .int (nI pl), .ref pg, .int fa, .int nf, .ref m6, .ref m7, .ref m8, .long sd, .int ik, .int kh, .int (nI km), .int ka, .int ks, .int kac, .ref m9, .ref m10, .ref m11, .ref m12, .long hv])), (pg, .inl (cB, 24, .inl f1))]) [0, 1] (by decide) rfl
      rw [hQ]; exact W.iret (v := (-104)) hx hb hr (fun t ht hW => ⟨⟨(-104), (), rfl, (c_X7_letter_a9 p0 pl hpl24 hr_1 c_2), ⟨pl, f1, (c_X7_letter_a7 p0 pl hpl24 hr_1 c_2), (c_X7_letter_a8 p0 pl f1 hpl24 hr_1 c_2), by rw [ht]; exact hP9, hD9⟩⟩, hS.F ht⟩) hS.2.2 dX7_letter_25

set_option maxHeartbeats 4000000 in
set_option maxRecDepth 100000 in
theorem c_X7_blank (l : Launch) (dC : Nat → ClassId) (dI : Nat → Nat → Nat) (cI cB : ClassId) (h0 : Nat) (ih : Int32) (hn : Int32) (fl : Int32) (da : Int32) (ds : Int32) (ac : Int32) (kc : Nat) (m1 : Nat) (m2 : Nat) (m3 : Nat) (m4 : Nat) (m5 : Nat) (pl : Nat) (pg : Nat) (fa : Int32) (nf : Int32) (m6 : Nat) (m7 : Nat) (m8 : Nat) (sd : Int64) (ik : Int32) (kh : Int32) (km : Nat) (ka : Int32) (ks : Int32) (kac : Int32) (m9 : Nat) (m10 : Nat) (m11 : Nat) (m12 : Nat) (hv : Int64) (sz : Nat) : Met l yX7_blank wsX7_blank ({ frames := 0, cells := 0, slots := 0, locals := 0 }) (cz_Pm dC dI cI cB [.ref h0] [(h0, .inr (7, [.int ih, .int hn, .int fl, .int da, .int ds, .int ac, .int (nI kc), .ref m1, .ref m2, .ref m3, .ref m4, .ref m5, .int (nI pl), .ref pg, .int fa, .int nf, .ref m6, .ref m7, .ref m8, .long sd, .int ik, .int kh, .int (nI km), .int ka, .int ks, .int kac, .ref m9, .ref m10, .ref m11, .ref m12, .long hv]))] sz) (va_Qi (fun (r : Int32) (_ : Unit) => r = (nI pl)) (fun _ t => va_P (dC, dI) vwCl [(h0, .inr (7, [.int ih, .int hn, .int fl, .int da, .int ds, .int ac, .int (nI kc), .ref m1, .ref m2, .ref m3, .ref m4, .ref m5, .int (nI 0), .ref pg, .int fa, .int nf, .ref m6, .ref m7, .ref m8, .long sd, .int ik, .int kh, .int (nI km), .int ka, .int ks, .int kac, .ref m9, .ref m10, .ref m11, .ref m12, .long hv]))] t.heap ∧ va_D (va_A [(h0, .inr (7, [.int ih, .int hn, .int fl, .int da, .int ds, .int ac, .int (nI kc), .ref m1, .ref m2, .ref m3, .ref m4, .ref m5, .int (nI pl), .ref pg, .int fa, .int nf, .ref m6, .ref m7, .ref m8, .long sd, .int ik, .int kh, .int (nI km), .int ka, .int ks, .int kac, .ref m9, .ref m10, .ref m11, .ref m12, .long hv]))] sz) [(h0, .inr (7, [.int ih, .int hn, .int fl, .int da, .int ds, .int ac, .int (nI kc), .ref m1, .ref m2, .ref m3, .ref m4, .ref m5, .int (nI 0), .ref pg, .int fa, .int nf, .ref m6, .ref m7, .ref m8, .long sd, .int ik, .int kh, .int (nI km), .int ka, .int ks, .int kac, .ref m9, .ref m10, .ref m11, .ref m12, .long hv]))]) (va_A [(h0, .inr (7, [.int ih, .int hn, .int fl, .int da, .int ds, .int ac, .int (nI kc), .ref m1, .ref m2, .ref m3, .ref m4, .ref m5, .int (nI pl), .ref pg, .int fa, .int nf, .ref m6, .ref m7, .ref m8, .long sd, .int ik, .int kh, .int (nI km), .int ka, .int ks, .int kac, .ref m9, .ref m10, .ref m11, .ref m12, .long hv]))] sz)) 0 0 (va_A [(h0, .inr (7, [.int ih, .int hn, .int fl, .int da, .int ds, .int ac, .int (nI kc), .ref m1, .ref m2, .ref m3, .ref m4, .ref m5, .int (nI pl), .ref pg, .int fa, .int nf, .ref m6, .ref m7, .ref m8, .long sd, .int ik, .int kh, .int (nI km), .int ka, .int ks, .int kac, .ref m9, .ref m10, .ref m11, .ref m12, .long hv]))] sz) := by
  refine cz_of (cc := cX7_blank) (maxL := 2) (ret := (some .int)) (by decide) rfl ?_
  intro p e s m args below meth c s₁ Q B hml hv hQ
  obtain ⟨rfl, hsz, hP, hN, hD0⟩ := hv
  have hx := B.exec
  have hb := B.bytes
  have hr := B.returns
  have hts := atoms_spec (ws := wsX7_blank) B.pre
  have hown : s.vm.findClass RX7 = some m.cls := findClass_of_methodNamed B.named
  have hlocks := B.notSynchronized
  have hK := hN.1
  have hiX7 : ∀ w ∈ wsX70, w ∈ wsX7_blank := (fun _ h => List.mem_cons_of_mem _ (List.mem_append_right _ h))
  subst hsz
  have hD := hD0.self (sz := s.heap.size)
  generalize hAe : va_A [(h0, .inr (7, [.int ih, .int hn, .int fl, .int da, .int ds, .int ac, .int (nI kc), .ref m1, .ref m2, .ref m3, .ref m4, .ref m5, .int (nI pl), .ref pg, .int fa, .int nf, .ref m6, .ref m7, .ref m8, .long sd, .int ik, .int kh, .int (nI km), .int ka, .int ks, .int kac, .ref m9, .ref m10, .ref m11, .ref m12, .long hv]))] s.heap.size = A at hD hQ ⊢
  have hA : ∀ q : Nat, s.heap.size ≤ q → A q := fun q h => by rw [← hAe]; exact Or.inr h
  have hS : va_S A s.heap s.heap [] := va_S.rf
  obtain ⟨H, eH⟩ : ∃ H, H = s.heap := ⟨_, rfl⟩
  have hP : va_P (dC, dI) vwCl [(h0, .inr (7, [.int ih, .int hn, .int fl, .int da, .int ds, .int ac, .int (nI kc), .ref m1, .ref m2, .ref m3, .ref m4, .ref m5, .int (nI pl), .ref pg, .int fa, .int nf, .ref m6, .ref m7, .ref m8, .long sd, .int ik, .int kh, .int (nI km), .int ka, .int ks, .int kac, .ref m9, .ref m10, .ref m11, .ref m12, .long hv]))] s.heap := hP
  have hl := lv_entry ([.ref h0]) (n := 2) (Nat.le_of_ble_eq_true rfl)
  rw [lg_entry_eq]
  generalize (lg_sl ([.ref h0]) ++ List.replicate (2 - (lg_sl ([.ref h0])).length) Slot.unset).toArray = ls at hl ⊢
  have hl : lv_has ls 2 [(0, .ref h0)] := hl
  refine lv_aload_n hx hb dX7_blank_0 rfl (lv_at hl 0 rfl) ?_
  refine va_get (D := (dC, dI)) (ci := 7) (v := .int (nI pl)) (C := RX7) (T := TX7) (N := 31) hx hb hts hiX7 hown hK hP 0 rfl rfl 12 (by decide) (hts (.fieldLink RX7 61 "LeftProfileModel" "pageLength" "I") (List.mem_of_getElem? (i := 1) rfl)) (fun _ h9 => h9) rfl dX7_blank_1 ?_
  refine lv_istore_n (lv' := [(1, .int (nI pl)), (0, .ref h0)]) hx hb dX7_blank_4 rfl hl (by decide) rfl (fun ls hl => ?_)
  refine lv_aload_n hx hb dX7_blank_5 rfl (lv_at hl 1 rfl) ?_
  refine lv_iconst (v := 0) hx hb dX7_blank_6 (by decide) ?_
  refine va_put (D := (dC, dI)) (ci := 7) (v := .int 0) (ty := .int) (C := RX7) (T := TX7) (N := 31) hx hb hts hiX7 tyX7 tyX7_ok nmX7 hown hK hP hD hS 0 rfl rfl 12 (by decide) (hts (.fieldLink RX7 61 "LeftProfileModel" "pageLength" "I") (List.mem_of_getElem? (i := 1) rfl)) (fun _ h9 => h9) rfl (by decide +kernel) rfl rfl (Nat.le_of_ble_eq_true rfl) dX7_blank_7 (fun H locs hP hD hS => ?_)
  have hP : va_P (dC, dI) vwCl [(h0, .inr (7, [.int ih, .int hn, .int fl, .int da, .int ds, .int ac, .int (nI kc), .ref m1, .ref m2, .ref m3, .ref m4, .ref m5, .int 0, .ref pg, .int fa, .int nf, .ref m6, .ref m7, .ref m8, .long sd, .int ik, .int kh, .int (nI km), .int ka, .int ks, .int kac, .ref m9, .ref m10, .ref m11, .ref m12, .long hv]))] H := hP
  have hD : va_D A [(h0, .inr (7, [.int ih, .int hn, .int fl, .int da, .int ds, .int ac, .int (nI kc), .ref m1, .ref m2, .ref m3, .ref m4, .ref m5, .int 0, .ref pg, .int fa, .int nf, .ref m6, .ref m7, .ref m8, .long sd, .int ik, .int kh, .int (nI km), .int ka, .int ks, .int kac, .ref m9, .ref m10, .ref m11, .ref m12, .long hv]))] := hD
  refine lv_iload_n hx hb dX7_blank_10 rfl (lv_at hl 0 rfl) ?_
  refine W.widen (k := 0) (n := 0) (Nat.le_of_ble_eq_true rfl) (Nat.le_of_ble_eq_true rfl) ?_
  have hP9 := hP.sub (ws' := [(h0, .inr (7, [.int ih, .int hn, .int fl, .int da, .int ds, .int ac, .int (nI kc), .ref m1, .ref m2, .ref m3, .ref m4, .ref m5, .int 0, .ref pg, .int fa, .int nf, .ref m6, .ref m7, .ref m8, .long sd, .int ik, .int kh, .int (nI km), .int ka, .int ks, .int kac, .ref m9, .ref m10, .ref m11, .ref m12, .long hv]))]) [0] rfl
  have hD9 := hD.sub (ws' := [(h0, .inr (7, [.int ih, .int hn, .int fl, .int da, .int ds, .int ac, .int (nI kc), .ref m1, .ref m2, .ref m3, .ref m4, .ref m5, .int 0, .ref pg, .int fa, .int nf, .ref m6, .ref m7, .ref m8, .long sd, .int ik, .int kh, .int (nI km), .int ka, .int ks, .int kac, .ref m9, .ref m10, .ref m11, .ref m12, .long hv]))]) [0] (by decide) rfl
  rw [hQ]; exact W.iret (v := (nI pl)) hx hb hr (fun t ht hW => ⟨⟨(nI pl), (), rfl, rfl, ⟨by rw [ht]; exact hP9, hD9⟩⟩, hS.F ht⟩) hS.2.2 dX7_blank_11

theorem c_X7_readHall_a1 (pl : Nat) (f1 : Nat → Int32) (i9 : Nat) (y2 : Int32) (yn : Int32) (n9 : Nat) (x_7 : Int32) (hpl24 : pl ≤ 24) (hi9 : (y2 = 1 ∧ pl + 1 ≤ i9 + (n9 + 1)) ∨ (y2 = 0 ∧ i9 ≤ pl)) (hm : i9 ≤ pl ∧ cz_fits f1 i9 ∧ (y2 = 0 → i9 < pl ∧ ¬ cz_fit f1 i9)) (hfw : yn = cz_fw f1 i9) (c_3 : ¬ pl ≤ i9) (c_4 : ¬ y2 = 0) (c_5 : ¬ (i9 % 6) = 5) (c_6 : 23 ≤ i9) (ex_7 : x_7 = yn ||| 0) : ¬ cz_fit f1 i9 := by first | (subst_vars; rfl) | assumption | ((try subst_vars) <;> (try simp only [cz_fit]) <;> (repeat' split) <;> (first | rfl | ((try simp only [cz_in, cz_du, cz_lt, cz_le, cz_eq, cz_l] at *) <;> (first | omega | (simp_all; done)))))
theorem c_X7_readHall_a2 (pl : Nat) (f1 : Nat → Int32) (i9 : Nat) (y2 : Int32) (yn : Int32) (n9 : Nat) (x_7 : Int32) (hpl24 : pl ≤ 24) (hi9 : (y2 = 1 ∧ pl + 1 ≤ i9 + (n9 + 1)) ∨ (y2 = 0 ∧ i9 ≤ pl)) (hm : i9 ≤ pl ∧ cz_fits f1 i9 ∧ (y2 = 0 → i9 < pl ∧ ¬ cz_fit f1 i9)) (hfw : yn = cz_fw f1 i9) (c_3 : ¬ pl ≤ i9) (c_4 : ¬ y2 = 0) (c_5 : ¬ (i9 % 6) = 5) (c_6 : 23 ≤ i9) (ex_7 : x_7 = yn ||| 0) : x_7 = cz_fw f1 i9 := by first | (subst_vars; exact Int32.or_zero) | (simp_all; done)
theorem c_X7_readHall_a3 (pl : Nat) (f1 : Nat → Int32) (i9 : Nat) (y2 : Int32) (yn : Int32) (n9 : Nat) (x_10 : Int32) (hpl24 : pl ≤ 24) (hi9 : (y2 = 1 ∧ pl + 1 ≤ i9 + (n9 + 1)) ∨ (y2 = 0 ∧ i9 ≤ pl)) (hm : i9 ≤ pl ∧ cz_fits f1 i9 ∧ (y2 = 0 → i9 < pl ∧ ¬ cz_fit f1 i9)) (hfw : yn = cz_fw f1 i9) (c_3 : ¬ pl ≤ i9) (c_4 : ¬ y2 = 0) (c_5 : ¬ (i9 % 6) = 5) (c_6 : ¬ 23 ≤ i9) (c_8 : (f1 i9) = 46) (c_9 : ¬ (f1 i9) = 46) (ex_10 : x_10 = yn ||| 0) : cz_fit f1 i9 := by first | (subst_vars; rfl) | assumption | ((try subst_vars) <;> (try simp only [cz_fit]) <;> (repeat' split) <;> (first | rfl | ((try simp only [cz_in, cz_du, cz_lt, cz_le, cz_eq, cz_l] at *) <;> (first | omega | (simp_all; done)))))
theorem c_X7_readHall_a4 (pl : Nat) (f1 : Nat → Int32) (i9 : Nat) (y2 : Int32) (yn : Int32) (n9 : Nat) (x_10 : Int32) (hpl24 : pl ≤ 24) (hi9 : (y2 = 1 ∧ pl + 1 ≤ i9 + (n9 + 1)) ∨ (y2 = 0 ∧ i9 ≤ pl)) (hm : i9 ≤ pl ∧ cz_fits f1 i9 ∧ (y2 = 0 → i9 < pl ∧ ¬ cz_fit f1 i9)) (hfw : yn = cz_fw f1 i9) (c_3 : ¬ pl ≤ i9) (c_4 : ¬ y2 = 0) (c_5 : ¬ (i9 % 6) = 5) (c_6 : ¬ 23 ≤ i9) (c_8 : (f1 i9) = 46) (c_9 : ¬ (f1 i9) = 46) (ex_10 : x_10 = yn ||| 0) : x_10 = cz_fw f1 (i9 + 1) := by (try subst_vars); simp only [cz_fw]; split <;> first | rfl | contradiction | (simp_all; done)
theorem c_X7_readHall_a5 (pl : Nat) (f1 : Nat → Int32) (i9 : Nat) (y2 : Int32) (yn : Int32) (n9 : Nat) (x_11 : Int32) (x_12 : Int32) (hpl24 : pl ≤ 24) (hi9 : (y2 = 1 ∧ pl + 1 ≤ i9 + (n9 + 1)) ∨ (y2 = 0 ∧ i9 ≤ pl)) (hm : i9 ≤ pl ∧ cz_fits f1 i9 ∧ (y2 = 0 → i9 < pl ∧ ¬ cz_fit f1 i9)) (hfw : yn = cz_fw f1 i9) (c_3 : ¬ pl ≤ i9) (c_4 : ¬ y2 = 0) (c_5 : ¬ (i9 % 6) = 5) (c_6 : ¬ 23 ≤ i9) (c_8 : (f1 i9) = 46) (c_9 : (f1 i9) = 46) (ex_11 : x_11 = 1 <<< ((nI (((i9 / 6) * 5) + (i9 % 6))) &&& 31)) (ex_12 : x_12 = yn ||| x_11) : cz_fit f1 i9 := by first | (subst_vars; rfl) | assumption | ((try subst_vars) <;> (try simp only [cz_fit]) <;> (repeat' split) <;> (first | rfl | ((try simp only [cz_in, cz_du, cz_lt, cz_le, cz_eq, cz_l] at *) <;> (first | omega | (simp_all; done)))))
theorem c_X7_readHall_a6 (pl : Nat) (f1 : Nat → Int32) (i9 : Nat) (y2 : Int32) (yn : Int32) (n9 : Nat) (x_11 : Int32) (x_12 : Int32) (hpl24 : pl ≤ 24) (hi9 : (y2 = 1 ∧ pl + 1 ≤ i9 + (n9 + 1)) ∨ (y2 = 0 ∧ i9 ≤ pl)) (hm : i9 ≤ pl ∧ cz_fits f1 i9 ∧ (y2 = 0 → i9 < pl ∧ ¬ cz_fit f1 i9)) (hfw : yn = cz_fw f1 i9) (c_3 : ¬ pl ≤ i9) (c_4 : ¬ y2 = 0) (c_5 : ¬ (i9 % 6) = 5) (c_6 : ¬ 23 ≤ i9) (c_8 : (f1 i9) = 46) (c_9 : (f1 i9) = 46) (ex_11 : x_11 = 1 <<< ((nI (((i9 / 6) * 5) + (i9 % 6))) &&& 31)) (ex_12 : x_12 = yn ||| x_11) : x_12 = cz_fw f1 (i9 + 1) := by (try subst_vars); simp only [cz_fw]; split <;> first | rfl | contradiction | (simp_all; done)
theorem c_X7_readHall_a7 (pl : Nat) (f1 : Nat → Int32) (i9 : Nat) (y2 : Int32) (yn : Int32) (n9 : Nat) (x_14 : Int32) (hpl24 : pl ≤ 24) (hi9 : (y2 = 1 ∧ pl + 1 ≤ i9 + (n9 + 1)) ∨ (y2 = 0 ∧ i9 ≤ pl)) (hm : i9 ≤ pl ∧ cz_fits f1 i9 ∧ (y2 = 0 → i9 < pl ∧ ¬ cz_fit f1 i9)) (hfw : yn = cz_fw f1 i9) (c_3 : ¬ pl ≤ i9) (c_4 : ¬ y2 = 0) (c_5 : ¬ (i9 % 6) = 5) (c_6 : ¬ 23 ≤ i9) (c_8 : ¬ (f1 i9) = 46) (c_13 : ¬ (f1 i9) = 35) (ex_14 : x_14 = yn ||| 0) : ¬ cz_fit f1 i9 := by first | (subst_vars; rfl) | assumption | ((try subst_vars) <;> (try simp only [cz_fit]) <;> (repeat' split) <;> (first | rfl | ((try simp only [cz_in, cz_du, cz_lt, cz_le, cz_eq, cz_l] at *) <;> (first | omega | (simp_all; done)))))
theorem c_X7_readHall_a8 (pl : Nat) (f1 : Nat → Int32) (i9 : Nat) (y2 : Int32) (yn : Int32) (n9 : Nat) (x_14 : Int32) (hpl24 : pl ≤ 24) (hi9 : (y2 = 1 ∧ pl + 1 ≤ i9 + (n9 + 1)) ∨ (y2 = 0 ∧ i9 ≤ pl)) (hm : i9 ≤ pl ∧ cz_fits f1 i9 ∧ (y2 = 0 → i9 < pl ∧ ¬ cz_fit f1 i9)) (hfw : yn = cz_fw f1 i9) (c_3 : ¬ pl ≤ i9) (c_4 : ¬ y2 = 0) (c_5 : ¬ (i9 % 6) = 5) (c_6 : ¬ 23 ≤ i9) (c_8 : ¬ (f1 i9) = 46) (c_13 : ¬ (f1 i9) = 35) (ex_14 : x_14 = yn ||| 0) : x_14 = cz_fw f1 i9 := by first | (subst_vars; exact Int32.or_zero) | (simp_all; done)
theorem c_X7_readHall_a9 (pl : Nat) (f1 : Nat → Int32) (i9 : Nat) (y2 : Int32) (yn : Int32) (n9 : Nat) (x_16 : Int32) (hpl24 : pl ≤ 24) (hi9 : (y2 = 1 ∧ pl + 1 ≤ i9 + (n9 + 1)) ∨ (y2 = 0 ∧ i9 ≤ pl)) (hm : i9 ≤ pl ∧ cz_fits f1 i9 ∧ (y2 = 0 → i9 < pl ∧ ¬ cz_fit f1 i9)) (hfw : yn = cz_fw f1 i9) (c_3 : ¬ pl ≤ i9) (c_4 : ¬ y2 = 0) (c_5 : ¬ (i9 % 6) = 5) (c_6 : ¬ 23 ≤ i9) (c_8 : ¬ (f1 i9) = 46) (c_13 : (f1 i9) = 35) (c_15 : ¬ (f1 i9) = 46) (ex_16 : x_16 = yn ||| 0) : cz_fit f1 i9 := by first | (subst_vars; rfl) | assumption | ((try subst_vars) <;> (try simp only [cz_fit]) <;> (repeat' split) <;> (first | rfl | ((try simp only [cz_in, cz_du, cz_lt, cz_le, cz_eq, cz_l] at *) <;> (first | omega | (simp_all; done)))))
theorem c_X7_readHall_a10 (pl : Nat) (f1 : Nat → Int32) (i9 : Nat) (y2 : Int32) (yn : Int32) (n9 : Nat) (x_16 : Int32) (hpl24 : pl ≤ 24) (hi9 : (y2 = 1 ∧ pl + 1 ≤ i9 + (n9 + 1)) ∨ (y2 = 0 ∧ i9 ≤ pl)) (hm : i9 ≤ pl ∧ cz_fits f1 i9 ∧ (y2 = 0 → i9 < pl ∧ ¬ cz_fit f1 i9)) (hfw : yn = cz_fw f1 i9) (c_3 : ¬ pl ≤ i9) (c_4 : ¬ y2 = 0) (c_5 : ¬ (i9 % 6) = 5) (c_6 : ¬ 23 ≤ i9) (c_8 : ¬ (f1 i9) = 46) (c_13 : (f1 i9) = 35) (c_15 : ¬ (f1 i9) = 46) (ex_16 : x_16 = yn ||| 0) : x_16 = cz_fw f1 (i9 + 1) := by (try subst_vars); simp only [cz_fw]; split <;> first | rfl | contradiction | (simp_all; done)
theorem c_X7_readHall_a11 (pl : Nat) (f1 : Nat → Int32) (i9 : Nat) (y2 : Int32) (yn : Int32) (n9 : Nat) (x_17 : Int32) (x_18 : Int32) (hpl24 : pl ≤ 24) (hi9 : (y2 = 1 ∧ pl + 1 ≤ i9 + (n9 + 1)) ∨ (y2 = 0 ∧ i9 ≤ pl)) (hm : i9 ≤ pl ∧ cz_fits f1 i9 ∧ (y2 = 0 → i9 < pl ∧ ¬ cz_fit f1 i9)) (hfw : yn = cz_fw f1 i9) (c_3 : ¬ pl ≤ i9) (c_4 : ¬ y2 = 0) (c_5 : ¬ (i9 % 6) = 5) (c_6 : ¬ 23 ≤ i9) (c_8 : ¬ (f1 i9) = 46) (c_13 : (f1 i9) = 35) (c_15 : (f1 i9) = 46) (ex_17 : x_17 = 1 <<< ((nI (((i9 / 6) * 5) + (i9 % 6))) &&& 31)) (ex_18 : x_18 = yn ||| x_17) : cz_fit f1 i9 := by first | (subst_vars; rfl) | assumption | ((try subst_vars) <;> (try simp only [cz_fit]) <;> (repeat' split) <;> (first | rfl | ((try simp only [cz_in, cz_du, cz_lt, cz_le, cz_eq, cz_l] at *) <;> (first | omega | (simp_all; done)))))
theorem c_X7_readHall_a12 (pl : Nat) (f1 : Nat → Int32) (i9 : Nat) (y2 : Int32) (yn : Int32) (n9 : Nat) (x_17 : Int32) (x_18 : Int32) (hpl24 : pl ≤ 24) (hi9 : (y2 = 1 ∧ pl + 1 ≤ i9 + (n9 + 1)) ∨ (y2 = 0 ∧ i9 ≤ pl)) (hm : i9 ≤ pl ∧ cz_fits f1 i9 ∧ (y2 = 0 → i9 < pl ∧ ¬ cz_fit f1 i9)) (hfw : yn = cz_fw f1 i9) (c_3 : ¬ pl ≤ i9) (c_4 : ¬ y2 = 0) (c_5 : ¬ (i9 % 6) = 5) (c_6 : ¬ 23 ≤ i9) (c_8 : ¬ (f1 i9) = 46) (c_13 : (f1 i9) = 35) (c_15 : (f1 i9) = 46) (ex_17 : x_17 = 1 <<< ((nI (((i9 / 6) * 5) + (i9 % 6))) &&& 31)) (ex_18 : x_18 = yn ||| x_17) : x_18 = cz_fw f1 (i9 + 1) := by (try subst_vars); simp only [cz_fw]; split <;> first | rfl | contradiction | (simp_all; done)
theorem c_X7_readHall_a13 (pl : Nat) (f1 : Nat → Int32) (i9 : Nat) (y2 : Int32) (yn : Int32) (n9 : Nat) (x_20 : Int32) (hpl24 : pl ≤ 24) (hi9 : (y2 = 1 ∧ pl + 1 ≤ i9 + (n9 + 1)) ∨ (y2 = 0 ∧ i9 ≤ pl)) (hm : i9 ≤ pl ∧ cz_fits f1 i9 ∧ (y2 = 0 → i9 < pl ∧ ¬ cz_fit f1 i9)) (hfw : yn = cz_fw f1 i9) (c_3 : ¬ pl ≤ i9) (c_4 : ¬ y2 = 0) (c_5 : (i9 % 6) = 5) (c_19 : 23 ≤ i9) (ex_20 : x_20 = yn ||| 0) : ¬ cz_fit f1 i9 := by first | (subst_vars; rfl) | assumption | ((try subst_vars) <;> (try simp only [cz_fit]) <;> (repeat' split) <;> (first | rfl | ((try simp only [cz_in, cz_du, cz_lt, cz_le, cz_eq, cz_l] at *) <;> (first | omega | (simp_all; done)))))
theorem c_X7_readHall_a14 (pl : Nat) (f1 : Nat → Int32) (i9 : Nat) (y2 : Int32) (yn : Int32) (n9 : Nat) (x_20 : Int32) (hpl24 : pl ≤ 24) (hi9 : (y2 = 1 ∧ pl + 1 ≤ i9 + (n9 + 1)) ∨ (y2 = 0 ∧ i9 ≤ pl)) (hm : i9 ≤ pl ∧ cz_fits f1 i9 ∧ (y2 = 0 → i9 < pl ∧ ¬ cz_fit f1 i9)) (hfw : yn = cz_fw f1 i9) (c_3 : ¬ pl ≤ i9) (c_4 : ¬ y2 = 0) (c_5 : (i9 % 6) = 5) (c_19 : 23 ≤ i9) (ex_20 : x_20 = yn ||| 0) : x_20 = cz_fw f1 i9 := by first | (subst_vars; exact Int32.or_zero) | (simp_all; done)
theorem c_X7_readHall_a15 (pl : Nat) (f1 : Nat → Int32) (i9 : Nat) (y2 : Int32) (yn : Int32) (n9 : Nat) (x_22 : Int32) (hpl24 : pl ≤ 24) (hi9 : (y2 = 1 ∧ pl + 1 ≤ i9 + (n9 + 1)) ∨ (y2 = 0 ∧ i9 ≤ pl)) (hm : i9 ≤ pl ∧ cz_fits f1 i9 ∧ (y2 = 0 → i9 < pl ∧ ¬ cz_fit f1 i9)) (hfw : yn = cz_fw f1 i9) (c_3 : ¬ pl ≤ i9) (c_4 : ¬ y2 = 0) (c_5 : (i9 % 6) = 5) (c_19 : ¬ 23 ≤ i9) (c_21 : ¬ (f1 i9) = 47) (ex_22 : x_22 = yn ||| 0) : ¬ cz_fit f1 i9 := by first | (subst_vars; rfl) | assumption | ((try subst_vars) <;> (try simp only [cz_fit]) <;> (repeat' split) <;> (first | rfl | ((try simp only [cz_in, cz_du, cz_lt, cz_le, cz_eq, cz_l] at *) <;> (first | omega | (simp_all; done)))))
theorem c_X7_readHall_a16 (pl : Nat) (f1 : Nat → Int32) (i9 : Nat) (y2 : Int32) (yn : Int32) (n9 : Nat) (x_22 : Int32) (hpl24 : pl ≤ 24) (hi9 : (y2 = 1 ∧ pl + 1 ≤ i9 + (n9 + 1)) ∨ (y2 = 0 ∧ i9 ≤ pl)) (hm : i9 ≤ pl ∧ cz_fits f1 i9 ∧ (y2 = 0 → i9 < pl ∧ ¬ cz_fit f1 i9)) (hfw : yn = cz_fw f1 i9) (c_3 : ¬ pl ≤ i9) (c_4 : ¬ y2 = 0) (c_5 : (i9 % 6) = 5) (c_19 : ¬ 23 ≤ i9) (c_21 : ¬ (f1 i9) = 47) (ex_22 : x_22 = yn ||| 0) : x_22 = cz_fw f1 i9 := by first | (subst_vars; exact Int32.or_zero) | (simp_all; done)
theorem c_X7_readHall_a17 (pl : Nat) (f1 : Nat → Int32) (i9 : Nat) (y2 : Int32) (yn : Int32) (n9 : Nat) (x_24 : Int32) (hpl24 : pl ≤ 24) (hi9 : (y2 = 1 ∧ pl + 1 ≤ i9 + (n9 + 1)) ∨ (y2 = 0 ∧ i9 ≤ pl)) (hm : i9 ≤ pl ∧ cz_fits f1 i9 ∧ (y2 = 0 → i9 < pl ∧ ¬ cz_fit f1 i9)) (hfw : yn = cz_fw f1 i9) (c_3 : ¬ pl ≤ i9) (c_4 : ¬ y2 = 0) (c_5 : (i9 % 6) = 5) (c_19 : ¬ 23 ≤ i9) (c_21 : (f1 i9) = 47) (c_23 : ¬ (f1 i9) = 46) (ex_24 : x_24 = yn ||| 0) : cz_fit f1 i9 := by first | (subst_vars; rfl) | assumption | ((try subst_vars) <;> (try simp only [cz_fit]) <;> (repeat' split) <;> (first | rfl | ((try simp only [cz_in, cz_du, cz_lt, cz_le, cz_eq, cz_l] at *) <;> (first | omega | (simp_all; done)))))
theorem c_X7_readHall_a18 (pl : Nat) (f1 : Nat → Int32) (i9 : Nat) (y2 : Int32) (yn : Int32) (n9 : Nat) (x_24 : Int32) (hpl24 : pl ≤ 24) (hi9 : (y2 = 1 ∧ pl + 1 ≤ i9 + (n9 + 1)) ∨ (y2 = 0 ∧ i9 ≤ pl)) (hm : i9 ≤ pl ∧ cz_fits f1 i9 ∧ (y2 = 0 → i9 < pl ∧ ¬ cz_fit f1 i9)) (hfw : yn = cz_fw f1 i9) (c_3 : ¬ pl ≤ i9) (c_4 : ¬ y2 = 0) (c_5 : (i9 % 6) = 5) (c_19 : ¬ 23 ≤ i9) (c_21 : (f1 i9) = 47) (c_23 : ¬ (f1 i9) = 46) (ex_24 : x_24 = yn ||| 0) : x_24 = cz_fw f1 (i9 + 1) := by (try subst_vars); simp only [cz_fw]; split <;> first | rfl | contradiction | (simp_all; done)
theorem c_X7_readHall_a19 (pl : Nat) (f1 : Nat → Int32) (i9 : Nat) (y2 : Int32) (yn : Int32) (n9 : Nat) (x_25 : Int32) (x_26 : Int32) (hpl24 : pl ≤ 24) (hi9 : (y2 = 1 ∧ pl + 1 ≤ i9 + (n9 + 1)) ∨ (y2 = 0 ∧ i9 ≤ pl)) (hm : i9 ≤ pl ∧ cz_fits f1 i9 ∧ (y2 = 0 → i9 < pl ∧ ¬ cz_fit f1 i9)) (hfw : yn = cz_fw f1 i9) (c_3 : ¬ pl ≤ i9) (c_4 : ¬ y2 = 0) (c_5 : (i9 % 6) = 5) (c_19 : ¬ 23 ≤ i9) (c_21 : (f1 i9) = 47) (c_23 : (f1 i9) = 46) (ex_25 : x_25 = 1 <<< ((nI (((i9 / 6) * 5) + (i9 % 6))) &&& 31)) (ex_26 : x_26 = yn ||| x_25) : cz_fit f1 i9 := by first | (subst_vars; rfl) | assumption | ((try subst_vars) <;> (try simp only [cz_fit]) <;> (repeat' split) <;> (first | rfl | ((try simp only [cz_in, cz_du, cz_lt, cz_le, cz_eq, cz_l] at *) <;> (first | omega | (simp_all; done)))))
theorem c_X7_readHall_a20 (pl : Nat) (f1 : Nat → Int32) (i9 : Nat) (y2 : Int32) (yn : Int32) (n9 : Nat) (x_25 : Int32) (x_26 : Int32) (hpl24 : pl ≤ 24) (hi9 : (y2 = 1 ∧ pl + 1 ≤ i9 + (n9 + 1)) ∨ (y2 = 0 ∧ i9 ≤ pl)) (hm : i9 ≤ pl ∧ cz_fits f1 i9 ∧ (y2 = 0 → i9 < pl ∧ ¬ cz_fit f1 i9)) (hfw : yn = cz_fw f1 i9) (c_3 : ¬ pl ≤ i9) (c_4 : ¬ y2 = 0) (c_5 : (i9 % 6) = 5) (c_19 : ¬ 23 ≤ i9) (c_21 : (f1 i9) = 47) (c_23 : (f1 i9) = 46) (ex_25 : x_25 = 1 <<< ((nI (((i9 / 6) * 5) + (i9 % 6))) &&& 31)) (ex_26 : x_26 = yn ||| x_25) : x_26 = cz_fw f1 (i9 + 1) := by (try subst_vars); simp only [cz_fw]; split <;> first | rfl | contradiction | (simp_all; done)
set_option maxHeartbeats 4000000 in
set_option maxRecDepth 100000 in
theorem c_X7_readHall (l : Launch) (dC : Nat → ClassId) (dI : Nat → Nat → Nat) (cI cB : ClassId) (h0 : Nat) (ih : Int32) (hn : Int32) (fl : Int32) (da : Int32) (ds : Int32) (ac : Int32) (kc : Nat) (m1 : Nat) (m2 : Nat) (m3 : Nat) (m4 : Nat) (m5 : Nat) (pl : Nat) (pg : Nat) (fa : Int32) (nf : Int32) (m6 : Nat) (m7 : Nat) (m8 : Nat) (sd : Int64) (ik : Int32) (kh : Int32) (km : Nat) (ka : Int32) (ks : Int32) (kac : Int32) (m9 : Nat) (m10 : Nat) (m11 : Nat) (m12 : Nat) (hv : Int64) (f1 : Nat → Int32) (sz : Nat) (hpl24 : pl ≤ 24) : Met l yX7_readHall wsX7_readHall ({ frames := 0, cells := 0, slots := 0, locals := 0 }) (cz_Pm dC dI cI cB [.ref h0] [(h0, .inr (7, [.int ih, .int hn, .int fl, .int da, .int ds, .int ac, .int (nI kc), .ref m1, .ref m2, .ref m3, .ref m4, .ref m5, .int (nI pl), .ref pg, .int fa, .int nf, .ref m6, .ref m7, .ref m8, .long sd, .int ik, .int kh, .int (nI km), .int ka, .int ks, .int kac, .ref m9, .ref m10, .ref m11, .ref m12, .long hv])), (pg, .inl (cB, 24, .inl f1))] sz) (va_Qv (fun _ : Unit => True) (fun _ t => ∃ (kk : Nat) (z5 : Int32), (kk ≤ pl) ∧ (cz_fits f1 kk) ∧ (kk = pl ∨ ¬ cz_fit f1 kk) ∧ (z5 = cz_fw f1 kk) ∧ va_P (dC, dI) vwCl [(h0, .inr (7, [.int ih, .int hn, .int fl, .int da, .int ds, .int ac, .int (nI kc), .ref m1, .ref m2, .ref m3, .ref m4, .ref m5, .int (nI pl), .ref pg, .int (nI kk), .int z5, .ref m6, .ref m7, .ref m8, .long sd, .int ik, .int kh, .int (nI km), .int ka, .int ks, .int kac, .ref m9, .ref m10, .ref m11, .ref m12, .long hv])), (pg, .inl (cB, 24, .inl f1))] t.heap ∧ va_D (va_A [(h0, .inr (7, [.int ih, .int hn, .int fl, .int da, .int ds, .int ac, .int (nI kc), .ref m1, .ref m2, .ref m3, .ref m4, .ref m5, .int (nI pl), .ref pg, .int fa, .int nf, .ref m6, .ref m7, .ref m8, .long sd, .int ik, .int kh, .int (nI km), .int ka, .int ks, .int kac, .ref m9, .ref m10, .ref m11, .ref m12, .long hv])), (pg, .inl (cB, 24, .inl f1))] sz) [(h0, .inr (7, [.int ih, .int hn, .int fl, .int da, .int ds, .int ac, .int (nI kc), .ref m1, .ref m2, .ref m3, .ref m4, .ref m5, .int (nI pl), .ref pg, .int (nI kk), .int z5, .ref m6, .ref m7, .ref m8, .long sd, .int ik, .int kh, .int (nI km), .int ka, .int ks, .int kac, .ref m9, .ref m10, .ref m11, .ref m12, .long hv])), (pg, .inl (cB, 24, .inl f1))]) (va_A [(h0, .inr (7, [.int ih, .int hn, .int fl, .int da, .int ds, .int ac, .int (nI kc), .ref m1, .ref m2, .ref m3, .ref m4, .ref m5, .int (nI pl), .ref pg, .int fa, .int nf, .ref m6, .ref m7, .ref m8, .long sd, .int ik, .int kh, .int (nI km), .int ka, .int ks, .int kac, .ref m9, .ref m10, .ref m11, .ref m12, .long hv])), (pg, .inl (cB, 24, .inl f1))] sz)) 0 0 (va_A [(h0, .inr (7, [.int ih, .int hn, .int fl, .int da, .int ds, .int ac, .int (nI kc), .ref m1, .ref m2, .ref m3, .ref m4, .ref m5, .int (nI pl), .ref pg, .int fa, .int nf, .ref m6, .ref m7, .ref m8, .long sd, .int ik, .int kh, .int (nI km), .int ka, .int ks, .int kac, .ref m9, .ref m10, .ref m11, .ref m12, .long hv])), (pg, .inl (cB, 24, .inl f1))] sz) := by
  refine cz_of (cc := cX7_readHall) (maxL := 4) (ret := none) (by decide) rfl ?_
  intro p e s m args below meth c s₁ Q B hml hv hQ
  obtain ⟨rfl, hsz, hP, hN, hD0⟩ := hv
  have hx := B.exec
  have hb := B.bytes
  have hr := B.returns
  have hts := atoms_spec (ws := wsX7_readHall) B.pre
  have hown : s.vm.findClass RX7 = some m.cls := findClass_of_methodNamed B.named
  have hlocks := B.notSynchronized
  have hK := hN.1
  have hiX7 : ∀ w ∈ wsX70, w ∈ wsX7_readHall := (fun _ h => List.mem_cons_of_mem _ (List.mem_append_right _ h))
  subst hsz
  have hD := hD0.self (sz := s.heap.size)
  generalize hAe : va_A [(h0, .inr (7, [.int ih, .int hn, .int fl, .int da, .int ds, .int ac, .int (nI kc), .ref m1, .ref m2, .ref m3, .ref m4, .ref m5, .int (nI pl), .ref pg, .int fa, .int nf, .ref m6, .ref m7, .ref m8, .long sd, .int ik, .int kh, .int (nI km), .int ka, .int ks, .int kac, .ref m9, .ref m10, .ref m11, .ref m12, .long hv])), (pg, .inl (cB, 24, .inl f1))] s.heap.size = A at hD hQ ⊢
  have hA : ∀ q : Nat, s.heap.size ≤ q → A q := fun q h => by rw [← hAe]; exact Or.inr h
  have hS : va_S A s.heap s.heap [] := va_S.rf
  obtain ⟨H, eH⟩ : ∃ H, H = s.heap := ⟨_, rfl⟩
  have hP : va_P (dC, dI) vwCl [(h0, .inr (7, [.int ih, .int hn, .int fl, .int da, .int ds, .int ac, .int (nI kc), .ref m1, .ref m2, .ref m3, .ref m4, .ref m5, .int (nI pl), .ref pg, .int fa, .int nf, .ref m6, .ref m7, .ref m8, .long sd, .int ik, .int kh, .int (nI km), .int ka, .int ks, .int kac, .ref m9, .ref m10, .ref m11, .ref m12, .long hv])), (pg, .inl (cB, 24, .inl f1))] s.heap := hP
  have hl := lv_entry ([.ref h0]) (n := 4) (Nat.le_of_ble_eq_true rfl)
  rw [lg_entry_eq]
  generalize (lg_sl ([.ref h0]) ++ List.replicate (4 - (lg_sl ([.ref h0])).length) Slot.unset).toArray = ls at hl ⊢
  have hl : lv_has ls 4 [(0, .ref h0)] := hl
  refine lv_aload_n hx hb dX7_readHall_0 rfl (lv_at hl 0 rfl) ?_
  refine lv_iconst (v := 0) hx hb dX7_readHall_1 (by decide) ?_
  refine va_put (D := (dC, dI)) (ci := 7) (v := .int 0) (ty := .int) (C := RX7) (T := TX7) (N := 31) hx hb hts hiX7 tyX7 tyX7_ok nmX7 hown hK hP hD hS 0 rfl rfl 15 (by decide) (hts (.fieldLink RX7 64 "LeftProfileModel" "newFloor" "I") (List.mem_of_getElem? (i := 1) rfl)) (fun _ h9 => h9) rfl (by decide +kernel) rfl rfl (Nat.le_of_ble_eq_true rfl) dX7_readHall_2 (fun H locs hP hD hS => ?_)
  have hP : va_P (dC, dI) vwCl [(h0, .inr (7, [.int ih, .int hn, .int fl, .int da, .int ds, .int ac, .int (nI kc), .ref m1, .ref m2, .ref m3, .ref m4, .ref m5, .int (nI pl), .ref pg, .int fa, .int 0, .ref m6, .ref m7, .ref m8, .long sd, .int ik, .int kh, .int (nI km), .int ka, .int ks, .int kac, .ref m9, .ref m10, .ref m11, .ref m12, .long hv])), (pg, .inl (cB, 24, .inl f1))] H := hP
  have hD : va_D A [(h0, .inr (7, [.int ih, .int hn, .int fl, .int da, .int ds, .int ac, .int (nI kc), .ref m1, .ref m2, .ref m3, .ref m4, .ref m5, .int (nI pl), .ref pg, .int fa, .int 0, .ref m6, .ref m7, .ref m8, .long sd, .int ik, .int kh, .int (nI km), .int ka, .int ks, .int kac, .ref m9, .ref m10, .ref m11, .ref m12, .long hv])), (pg, .inl (cB, 24, .inl f1))] := hD
  refine lv_iconst (v := 0) hx hb dX7_readHall_5 (by decide) ?_
  refine lv_istore_n (lv' := [(1, .int 0), (0, .ref h0)]) hx hb dX7_readHall_6 rfl hl (by decide) rfl (fun ls hl => ?_)
  refine lv_iconst (v := 1) hx hb dX7_readHall_7 (by decide) ?_
  refine lv_istore_n (lv' := [(2, .int 1), (1, .int 0), (0, .ref h0)]) hx hb dX7_readHall_8 rfl hl (by decide) rfl (fun ls hl => ?_)
  have hex143 : ∀ (i9 : Nat) (y2 : Int32) (yn : Int32) (H : Heap) (locs : List Loc) (ls : Array Slot), i9 ≤ pl → cz_fits f1 i9 → i9 = pl ∨ ¬ cz_fit f1 i9 → yn = cz_fw f1 i9 → va_P (dC, dI) vwCl [(h0, .inr (7, [.int ih, .int hn, .int fl, .int da, .int ds, .int ac, .int (nI kc), .ref m1, .ref m2, .ref m3, .ref m4, .ref m5, .int (nI pl), .ref pg, .int fa, .int yn, .ref m6, .ref m7, .ref m8, .long sd, .int ik, .int kh, .int (nI km), .int ka, .int ks, .int kac, .ref m9, .ref m10, .ref m11, .ref m12, .long hv])), (pg, .inl (cB, 24, .inl f1))] H → va_D A [(h0, .inr (7, [.int ih, .int hn, .int fl, .int da, .int ds, .int ac, .int (nI kc), .ref m1, .ref m2, .ref m3, .ref m4, .ref m5, .int (nI pl), .ref pg, .int fa, .int yn, .ref m6, .ref m7, .ref m8, .long sd, .int ik, .int kh, .int (nI km), .int ka, .int ks, .int kac, .ref m9, .ref m10, .ref m11, .ref m12, .long hv])), (pg, .inl (cB, 24, .inl f1))] → va_S A s.heap H locs → lv_has ls 4 [(0, .ref h0), (1, .int (nI i9))] → W p l e ({ frames := 0, cells := 0, slots := 0, locals := 0 } : Room) s m #[Value.ref h0] below meth c H locs 0 0 Q (F0 m 143 ls []) := by
    intro i9 y2 yn H locs ls hk_ hf_ hn_ hz_ hP hD hS hl
    refine lv_aload_n hx hb dX7_readHall_143 rfl (lv_at hl 0 rfl) ?_
    refine lv_iload_n hx hb dX7_readHall_144 rfl (lv_at hl 1 rfl) ?_
    refine va_put (D := (dC, dI)) (ci := 7) (v := .int (nI i9)) (ty := .int) (C := RX7) (T := TX7) (N := 31) hx hb hts hiX7 tyX7 tyX7_ok nmX7 hown hK hP hD hS 0 rfl rfl 14 (by decide) (hts (.fieldLink RX7 67 "LeftProfileModel" "faultAt" "I") (List.mem_of_getElem? (i := 4) rfl)) (fun _ h9 => h9) rfl (by decide +kernel) rfl rfl (Nat.le_of_ble_eq_true rfl) dX7_readHall_145 (fun H locs hP hD hS => ?_)
    have hP : va_P (dC, dI) vwCl [(h0, .inr (7, [.int ih, .int hn, .int fl, .int da, .int ds, .int ac, .int (nI kc), .ref m1, .ref m2, .ref m3, .ref m4, .ref m5, .int (nI pl), .ref pg, .int (nI i9), .int yn, .ref m6, .ref m7, .ref m8, .long sd, .int ik, .int kh, .int (nI km), .int ka, .int ks, .int kac, .ref m9, .ref m10, .ref m11, .ref m12, .long hv])), (pg, .inl (cB, 24, .inl f1))] H := hP
    have hD : va_D A [(h0, .inr (7, [.int ih, .int hn, .int fl, .int da, .int ds, .int ac, .int (nI kc), .ref m1, .ref m2, .ref m3, .ref m4, .ref m5, .int (nI pl), .ref pg, .int (nI i9), .int yn, .ref m6, .ref m7, .ref m8, .long sd, .int ik, .int kh, .int (nI km), .int ka, .int ks, .int kac, .ref m9, .ref m10, .ref m11, .ref m12, .long hv])), (pg, .inl (cB, 24, .inl f1))] := hD
    refine W.widen (k := 0) (n := 0) (Nat.le_of_ble_eq_true rfl) (Nat.le_of_ble_eq_true rfl) ?_
    have hP9 := hP.sub (ws' := [(h0, .inr (7, [.int ih, .int hn, .int fl, .int da, .int ds, .int ac, .int (nI kc), .ref m1, .ref m2, .ref m3, .ref m4, .ref m5, .int (nI pl), .ref pg, .int (nI i9), .int yn, .ref m6, .ref m7, .ref m8, .long sd, .int ik, .int kh, .int (nI km), .int ka, .int ks, .int kac, .ref m9, .ref m10, .ref m11, .ref m12, .long hv])), (pg, .inl (cB, 24, .inl f1))]) [0, 1] rfl
    have hD9 := hD.sub (ws' := [(h0, .inr (7, [.int ih, .int hn, .int fl, .int da, .int ds, .int ac, .int (nI kc), .ref m1, .ref m2, .ref m3, .ref m4, .ref m5, .int (nI pl), .ref pg, .int (nI i9), .int yn, .ref m6, .ref m7, .ref m8, .long sd, .int ik, .int kh, .int (nI km), .int ka, .int ks, .int kac, .ref m9, .ref m10, .ref m11, .ref m12, .long hv])), (pg, .inl (cB, 24, .inl f1))]) [0, 1] (by decide) rfl
    rw [hQ]; exact W.vret hx hb hr (fun t ht hW => ⟨⟨(), rfl, trivial, ⟨i9, yn, hk_, hf_, hn_, hz_, by rw [ht]; exact hP9, hD9⟩⟩, hS.F ht⟩) hS.2.2 dX7_readHall_148
  have lp9 : ∀ (n9 : Nat) (i9 : Nat) (y2 : Int32) (yn : Int32) (H : Heap) (locs : List Loc) (ls : Array Slot), (y2 = 1 ∧ pl + 1 ≤ i9 + n9) ∨ (y2 = 0 ∧ i9 ≤ pl) → i9 ≤ pl ∧ cz_fits f1 i9 ∧ (y2 = 0 → i9 < pl ∧ ¬ cz_fit f1 i9) → yn = cz_fw f1 i9 → va_P (dC, dI) vwCl [(h0, .inr (7, [.int ih, .int hn, .int fl, .int da, .int ds, .int ac, .int (nI kc), .ref m1, .ref m2, .ref m3, .ref m4, .ref m5, .int (nI pl), .ref pg, .int fa, .int yn, .ref m6, .ref m7, .ref m8, .long sd, .int ik, .int kh, .int (nI km), .int ka, .int ks, .int kac, .ref m9, .ref m10, .ref m11, .ref m12, .long hv])), (pg, .inl (cB, 24, .inl f1))] H → va_D A [(h0, .inr (7, [.int ih, .int hn, .int fl, .int da, .int ds, .int ac, .int (nI kc), .ref m1, .ref m2, .ref m3, .ref m4, .ref m5, .int (nI pl), .ref pg, .int fa, .int yn, .ref m6, .ref m7, .ref m8, .long sd, .int ik, .int kh, .int (nI km), .int ka, .int ks, .int kac, .ref m9, .ref m10, .ref m11, .ref m12, .long hv])), (pg, .inl (cB, 24, .inl f1))] → va_S A s.heap H locs → lv_has ls 4 [(0, .ref h0), (1, .int (nI i9)), (2, .int y2)] → W p l e ({ frames := 0, cells := 0, slots := 0, locals := 0 } : Room) s m #[Value.ref h0] below meth c H locs 0 0 Q (F0 m 9 ls []) := by
    intro n9
    induction n9 with
    | zero =>
      intro i9 y2 yn H locs ls hi9 hm hfw hP hD hS hl
      refine lv_iload_n hx hb dX7_readHall_9 rfl (lv_at hl 1 rfl) ?_
      refine lv_aload_n hx hb dX7_readHall_10 rfl (lv_at hl 0 rfl) ?_
      refine va_get (D := (dC, dI)) (ci := 7) (v := .int (nI pl)) (C := RX7) (T := TX7) (N := 31) hx hb hts hiX7 hown hK hP 0 rfl rfl 12 (by decide) (hts (.fieldLink RX7 61 "LeftProfileModel" "pageLength" "I") (List.mem_of_getElem? (i := 2) rfl)) (fun _ h9 => h9) rfl dX7_readHall_11 ?_
      refine lv_icmp_ge (tgt := 143) hx hb dX7_readHall_14 (by decide) (fun c_1 => ?_) (fun c_1 => ?_)
      · have c_1 : pl ≤ i9 := (nI_leI (a := pl) (b := i9) (by omega) (by omega)).mp c_1
        exact hex143 i9 y2 yn H locs ls (by omega) hm.2.1 (Or.inl (by omega)) hfw hP hD hS (lv_sub hl [0, 1] rfl)
      · have c_1 : ¬ pl ≤ i9 := fun h => c_1 ((nI_leI (a := pl) (b := i9) (by omega) (by omega)).mpr h)
        refine lv_iload_n hx hb dX7_readHall_17 rfl (lv_at hl 2 rfl) ?_
        refine lv_if_eq (tgt := 143) hx hb dX7_readHall_18 (by decide) (fun c_2 => ?_) (fun c_2 => ?_)
        · exact hex143 i9 y2 yn H locs ls (by omega) hm.2.1 (Or.inr (hm.2.2 c_2).2) hfw hP hD hS (lv_sub hl [0, 1] rfl)
        · exact (by rcases hi9 with h | h; omega; exact absurd h.1 c_2)
    | succ n9 ih9 =>
      intro i9 y2 yn H locs ls hi9 hm hfw hP hD hS hl
      refine lv_iload_n hx hb dX7_readHall_9 rfl (lv_at hl 1 rfl) ?_
      refine lv_aload_n hx hb dX7_readHall_10 rfl (lv_at hl 0 rfl) ?_
      refine va_get (D := (dC, dI)) (ci := 7) (v := .int (nI pl)) (C := RX7) (T := TX7) (N := 31) hx hb hts hiX7 hown hK hP 0 rfl rfl 12 (by decide) (hts (.fieldLink RX7 61 "LeftProfileModel" "pageLength" "I") (List.mem_of_getElem? (i := 2) rfl)) (fun _ h9 => h9) rfl dX7_readHall_11 ?_
      refine lv_icmp_ge (tgt := 143) hx hb dX7_readHall_14 (by decide) (fun c_3 => ?_) (fun c_3 => ?_)
      · have c_3 : pl ≤ i9 := (nI_leI (a := pl) (b := i9) (by omega) (by omega)).mp c_3
        exact hex143 i9 y2 yn H locs ls (by omega) hm.2.1 (Or.inl (by omega)) hfw hP hD hS (lv_sub hl [0, 1] rfl)
      · have c_3 : ¬ pl ≤ i9 := fun h => c_3 ((nI_leI (a := pl) (b := i9) (by omega) (by omega)).mpr h)
        refine lv_iload_n hx hb dX7_readHall_17 rfl (lv_at hl 2 rfl) ?_
        refine lv_if_eq (tgt := 143) hx hb dX7_readHall_18 (by decide) (fun c_4 => ?_) (fun c_4 => ?_)
        · exact hex143 i9 y2 yn H locs ls (by omega) hm.2.1 (Or.inr (hm.2.2 c_4).2) hfw hP hD hS (lv_sub hl [0, 1] rfl)
        · refine lv_iload_n hx hb dX7_readHall_21 rfl (lv_at hl 1 rfl) ?_
          refine lv_bipush (v := 6) hx hb dX7_readHall_22 (by decide) ?_
          refine lv_irem hx hb dX7_readHall_24 (by decide) ?_
          refine cz_i (y := (nI (i9 % 6))) (pk_rem (a := i9) (d := 6) (by omega) (by decide) (by decide)) ?_
          refine lv_iconst (v := 5) hx hb dX7_readHall_25 (by decide) ?_
          refine lv_icmp_ne (tgt := 33) hx hb dX7_readHall_26 (by decide) (fun c_5 => ?_) (fun c_5 => ?_)
          · have c_5 : ¬ (i9 % 6) = 5 := fun h => c_5 ((nI_eq (a := (i9 % 6)) (b := 5) (by omega) (by omega)).mpr h)
            refine lv_iconst (v := 0) hx hb dX7_readHall_33 (by decide) ?_
            refine lv_istore_n (lv' := [(3, .int 0), (0, .ref h0), (1, .int (nI i9)), (2, .int y2)]) hx hb dX7_readHall_34 rfl hl (by decide) rfl (fun ls hl => ?_)
            refine lv_iload_n hx hb dX7_readHall_35 rfl (lv_at hl 2 rfl) ?_
            refine lv_bipush (v := 23) hx hb dX7_readHall_36 (by decide) ?_
            refine lv_icmp_ge (tgt := 85) hx hb dX7_readHall_38 (by decide) (fun c_6 => ?_) (fun c_6 => ?_)
            · have c_6 : 23 ≤ i9 := (nI_leI (a := 23) (b := i9) (by omega) (by omega)).mp c_6
              refine lv_iconst (v := 0) hx hb dX7_readHall_85 (by decide) ?_
              refine lv_istore_n (lv' := [(2, .int 0), (3, .int 0), (0, .ref h0), (1, .int (nI i9))]) hx hb dX7_readHall_86 rfl hl (by decide) rfl (fun ls hl => ?_)
              refine lv_aload_n hx hb dX7_readHall_87 rfl (lv_at hl 2 rfl) ?_
              refine lv_dup hx hb dX7_readHall_88 rfl ?_
              refine va_get (D := (dC, dI)) (ci := 7) (v := .int yn) (C := RX7) (T := TX7) (N := 31) hx hb hts hiX7 hown hK hP 0 rfl rfl 15 (by decide) (hts (.fieldLink RX7 64 "LeftProfileModel" "newFloor" "I") (List.mem_of_getElem? (i := 1) rfl)) (fun _ h9 => h9) rfl dX7_readHall_89 ?_
              refine lv_iload_n hx hb dX7_readHall_92 rfl (lv_at hl 0 rfl) ?_
              refine lv_if_eq (tgt := 123) hx hb dX7_readHall_93 (by decide) (fun _ => ?_) (fun c => absurd (by decide) c)
              refine lv_iconst (v := 0) hx hb dX7_readHall_123 (by decide) ?_
              refine lv_ior hx hb dX7_readHall_124 ?_
              refine lv_topi (fun x_7 ex_7 => ?_)
              refine va_put (D := (dC, dI)) (ci := 7) (v := .int x_7) (ty := .int) (C := RX7) (T := TX7) (N := 31) hx hb hts hiX7 tyX7 tyX7_ok nmX7 hown hK hP hD hS 0 rfl rfl 15 (by decide) (hts (.fieldLink RX7 64 "LeftProfileModel" "newFloor" "I") (List.mem_of_getElem? (i := 1) rfl)) (fun _ h9 => h9) rfl (by decide +kernel) rfl rfl (Nat.le_of_ble_eq_true rfl) dX7_readHall_125 (fun H locs hP hD hS => ?_)
              have hP : va_P (dC, dI) vwCl [(h0, .inr (7, [.int ih, .int hn, .int fl, .int da, .int ds, .int ac, .int (nI kc), .ref m1, .ref m2, .ref m3, .ref m4, .ref m5, .int (nI pl), .ref pg, .int fa, .int x_7, .ref m6, .ref m7, .ref m8, .long sd, .int ik, .int kh, .int (nI km), .int ka, .int ks, .int kac, .ref m9, .ref m10, .ref m11, .ref m12, .long hv])), (pg, .inl (cB, 24, .inl f1))] H := hP
              have hD : va_D A [(h0, .inr (7, [.int ih, .int hn, .int fl, .int da, .int ds, .int ac, .int (nI kc), .ref m1, .ref m2, .ref m3, .ref m4, .ref m5, .int (nI pl), .ref pg, .int fa, .int x_7, .ref m6, .ref m7, .ref m8, .long sd, .int ik, .int kh, .int (nI km), .int ka, .int ks, .int kac, .ref m9, .ref m10, .ref m11, .ref m12, .long hv])), (pg, .inl (cB, 24, .inl f1))] := hD
              refine lv_iload_n hx hb dX7_readHall_128 rfl (lv_at hl 3 rfl) ?_
              refine lv_iload_n hx hb dX7_readHall_129 rfl (lv_at hl 0 rfl) ?_
              refine lv_if_eq (tgt := 137) hx hb dX7_readHall_130 (by decide) (fun _ => ?_) (fun c => absurd (by decide) c)
              refine lv_iconst (v := 0) hx hb dX7_readHall_137 (by decide) ?_
              refine lv_iadd hx hb dX7_readHall_138 ?_
              refine cz_i (y := (nI (i9 + 0))) (nI_add i9 0) ?_
              refine lv_istore_n (lv' := [(1, .int (nI (i9 + 0))), (2, .int 0), (3, .int 0), (0, .ref h0)]) hx hb dX7_readHall_139 rfl hl (by decide) rfl (fun ls hl => ?_)
              refine lv_goto (tgt := 9) hx hb dX7_readHall_140 (by decide) ?_
              exact ih9 (i9 + 0) 0 x_7 H locs ls (Or.inr ⟨rfl, by omega⟩) ⟨by omega, hm.2.1, fun _ => ⟨by omega, (c_X7_readHall_a1 pl f1 i9 y2 yn n9 x_7 hpl24 hi9 hm hfw c_3 c_4 c_5 c_6 ex_7)⟩⟩ (c_X7_readHall_a2 pl f1 i9 y2 yn n9 x_7 hpl24 hi9 hm hfw c_3 c_4 c_5 c_6 ex_7) hP hD hS (lv_sub hl [3, 0, 1] rfl)
            · have c_6 : ¬ 23 ≤ i9 := fun h => c_6 ((nI_leI (a := 23) (b := i9) (by omega) (by omega)).mpr h)
              refine lv_iload_n hx hb dX7_readHall_41 rfl (lv_at hl 0 rfl) ?_
              refine lv_if_eq (tgt := 59) hx hb dX7_readHall_42 (by decide) (fun _ => ?_) (fun c => absurd (by decide) c)
              refine lv_aload_n hx hb dX7_readHall_59 rfl (lv_at hl 1 rfl) ?_
              refine va_get (D := (dC, dI)) (ci := 7) (v := .ref pg) (C := RX7) (T := TX7) (N := 31) hx hb hts hiX7 hown hK hP 0 rfl rfl 13 (by decide) (hts (.fieldLink RX7 32 "LeftProfileModel" "page" "[B") (List.mem_of_getElem? (i := 3) rfl)) (fun _ h9 => h9) rfl dX7_readHall_60 ?_
              refine lv_iload_n hx hb dX7_readHall_63 rfl (lv_at hl 2 rfl) ?_
              refine va_bald hx hb hK hP 1 1 rfl rfl (vp_in_nI (n := i9) (by omega) (by omega)) dX7_readHall_64 ?_
              refine cz_i (y := (f1 i9)) (congrArg f1 (nI_clamp (n := i9) (by omega))) ?_
              refine lv_bipush (v := 46) hx hb dX7_readHall_65 (by decide) ?_
              refine lv_icmp_eq (tgt := 81) hx hb dX7_readHall_67 (by decide) (fun c_8 => ?_) (fun c_8 => ?_)
              · refine lv_iconst (v := 1) hx hb dX7_readHall_81 (by decide) ?_
                refine lv_goto (tgt := 86) hx hb dX7_readHall_82 (by decide) ?_
                refine lv_istore_n (lv' := [(2, .int 1), (3, .int 0), (0, .ref h0), (1, .int (nI i9))]) hx hb dX7_readHall_86 rfl hl (by decide) rfl (fun ls hl => ?_)
                refine lv_aload_n hx hb dX7_readHall_87 rfl (lv_at hl 2 rfl) ?_
                refine lv_dup hx hb dX7_readHall_88 rfl ?_
                refine va_get (D := (dC, dI)) (ci := 7) (v := .int yn) (C := RX7) (T := TX7) (N := 31) hx hb hts hiX7 hown hK hP 0 rfl rfl 15 (by decide) (hts (.fieldLink RX7 64 "LeftProfileModel" "newFloor" "I") (List.mem_of_getElem? (i := 1) rfl)) (fun _ h9 => h9) rfl dX7_readHall_89 ?_
                refine lv_iload_n hx hb dX7_readHall_92 rfl (lv_at hl 0 rfl) ?_
                refine lv_if_eq (tgt := 123) hx hb dX7_readHall_93 (by decide) (fun c => absurd c (by decide)) (fun _ => ?_)
                refine lv_aload_n hx hb dX7_readHall_96 rfl (lv_at hl 2 rfl) ?_
                refine va_get (D := (dC, dI)) (ci := 7) (v := .ref pg) (C := RX7) (T := TX7) (N := 31) hx hb hts hiX7 hown hK hP 0 rfl rfl 13 (by decide) (hts (.fieldLink RX7 32 "LeftProfileModel" "page" "[B") (List.mem_of_getElem? (i := 3) rfl)) (fun _ h9 => h9) rfl dX7_readHall_97 ?_
                refine lv_iload_n hx hb dX7_readHall_100 rfl (lv_at hl 3 rfl) ?_
                refine va_bald hx hb hK hP 1 1 rfl rfl (vp_in_nI (n := i9) (by omega) (by omega)) dX7_readHall_101 ?_
                refine cz_i (y := (f1 i9)) (congrArg f1 (nI_clamp (n := i9) (by omega))) ?_
                refine lv_bipush (v := 46) hx hb dX7_readHall_102 (by decide) ?_
                refine lv_icmp_ne (tgt := 123) hx hb dX7_readHall_104 (by decide) (fun c_9 => ?_) (fun c_9 => ?_)
                · refine lv_iconst (v := 0) hx hb dX7_readHall_123 (by decide) ?_
                  refine lv_ior hx hb dX7_readHall_124 ?_
                  refine lv_topi (fun x_10 ex_10 => ?_)
                  refine va_put (D := (dC, dI)) (ci := 7) (v := .int x_10) (ty := .int) (C := RX7) (T := TX7) (N := 31) hx hb hts hiX7 tyX7 tyX7_ok nmX7 hown hK hP hD hS 0 rfl rfl 15 (by decide) (hts (.fieldLink RX7 64 "LeftProfileModel" "newFloor" "I") (List.mem_of_getElem? (i := 1) rfl)) (fun _ h9 => h9) rfl (by decide +kernel) rfl rfl (Nat.le_of_ble_eq_true rfl) dX7_readHall_125 (fun H locs hP hD hS => ?_)
                  have hP : va_P (dC, dI) vwCl [(h0, .inr (7, [.int ih, .int hn, .int fl, .int da, .int ds, .int ac, .int (nI kc), .ref m1, .ref m2, .ref m3, .ref m4, .ref m5, .int (nI pl), .ref pg, .int fa, .int x_10, .ref m6, .ref m7, .ref m8, .long sd, .int ik, .int kh, .int (nI km), .int ka, .int ks, .int kac, .ref m9, .ref m10, .ref m11, .ref m12, .long hv])), (pg, .inl (cB, 24, .inl f1))] H := hP
                  have hD : va_D A [(h0, .inr (7, [.int ih, .int hn, .int fl, .int da, .int ds, .int ac, .int (nI kc), .ref m1, .ref m2, .ref m3, .ref m4, .ref m5, .int (nI pl), .ref pg, .int fa, .int x_10, .ref m6, .ref m7, .ref m8, .long sd, .int ik, .int kh, .int (nI km), .int ka, .int ks, .int kac, .ref m9, .ref m10, .ref m11, .ref m12, .long hv])), (pg, .inl (cB, 24, .inl f1))] := hD
                  refine lv_iload_n hx hb dX7_readHall_128 rfl (lv_at hl 3 rfl) ?_
                  refine lv_iload_n hx hb dX7_readHall_129 rfl (lv_at hl 0 rfl) ?_
                  refine lv_if_eq (tgt := 137) hx hb dX7_readHall_130 (by decide) (fun c => absurd c (by decide)) (fun _ => ?_)
                  refine lv_iconst (v := 1) hx hb dX7_readHall_133 (by decide) ?_
                  refine lv_goto (tgt := 138) hx hb dX7_readHall_134 (by decide) ?_
                  refine lv_iadd hx hb dX7_readHall_138 ?_
                  refine cz_i (y := (nI (i9 + 1))) (nI_add i9 1) ?_
                  refine lv_istore_n (lv' := [(1, .int (nI (i9 + 1))), (2, .int 1), (3, .int 0), (0, .ref h0)]) hx hb dX7_readHall_139 rfl hl (by decide) rfl (fun ls hl => ?_)
                  refine lv_goto (tgt := 9) hx hb dX7_readHall_140 (by decide) ?_
                  exact ih9 (i9 + 1) 1 x_10 H locs ls (by rcases hi9 with h | h; exact Or.inl ⟨rfl, by omega⟩; exact absurd h.1 c_4) ⟨by omega, cz_fits1 hm.2.1 (c_X7_readHall_a3 pl f1 i9 y2 yn n9 x_10 hpl24 hi9 hm hfw c_3 c_4 c_5 c_6 c_8 c_9 ex_10), fun h => absurd h (by decide)⟩ (c_X7_readHall_a4 pl f1 i9 y2 yn n9 x_10 hpl24 hi9 hm hfw c_3 c_4 c_5 c_6 c_8 c_9 ex_10) hP hD hS (lv_sub hl [3, 0, 1] rfl)
                · refine lv_iconst (v := 1) hx hb dX7_readHall_107 (by decide) ?_
                  refine lv_iload_n hx hb dX7_readHall_108 rfl (lv_at hl 3 rfl) ?_
                  refine lv_bipush (v := 6) hx hb dX7_readHall_109 (by decide) ?_
                  refine lv_idiv hx hb dX7_readHall_111 (by decide) ?_
                  refine cz_i (y := (nI (i9 / 6))) (pk_div (a := i9) (d := 6) (by omega) (by decide) (by decide)) ?_
                  refine lv_iconst (v := 5) hx hb dX7_readHall_112 (by decide) ?_
                  refine lv_imul hx hb dX7_readHall_113 ?_
                  refine cz_i (y := (nI ((i9 / 6) * 5))) (pk_mul (i9 / 6) 5) ?_
                  refine lv_iload_n hx hb dX7_readHall_114 rfl (lv_at hl 3 rfl) ?_
                  refine lv_bipush (v := 6) hx hb dX7_readHall_115 (by decide) ?_
                  refine lv_irem hx hb dX7_readHall_117 (by decide) ?_
                  refine cz_i (y := (nI (i9 % 6))) (pk_rem (a := i9) (d := 6) (by omega) (by decide) (by decide)) ?_
                  refine lv_iadd hx hb dX7_readHall_118 ?_
                  refine cz_i (y := (nI (((i9 / 6) * 5) + (i9 % 6)))) (nI_add ((i9 / 6) * 5) (i9 % 6)) ?_
                  refine lv_ishl hx hb dX7_readHall_119 ?_
                  refine lv_topi (fun x_11 ex_11 => ?_)
                  refine lv_goto (tgt := 124) hx hb dX7_readHall_120 (by decide) ?_
                  refine lv_ior hx hb dX7_readHall_124 ?_
                  refine lv_topi (fun x_12 ex_12 => ?_)
                  refine va_put (D := (dC, dI)) (ci := 7) (v := .int x_12) (ty := .int) (C := RX7) (T := TX7) (N := 31) hx hb hts hiX7 tyX7 tyX7_ok nmX7 hown hK hP hD hS 0 rfl rfl 15 (by decide) (hts (.fieldLink RX7 64 "LeftProfileModel" "newFloor" "I") (List.mem_of_getElem? (i := 1) rfl)) (fun _ h9 => h9) rfl (by decide +kernel) rfl rfl (Nat.le_of_ble_eq_true rfl) dX7_readHall_125 (fun H locs hP hD hS => ?_)
                  have hP : va_P (dC, dI) vwCl [(h0, .inr (7, [.int ih, .int hn, .int fl, .int da, .int ds, .int ac, .int (nI kc), .ref m1, .ref m2, .ref m3, .ref m4, .ref m5, .int (nI pl), .ref pg, .int fa, .int x_12, .ref m6, .ref m7, .ref m8, .long sd, .int ik, .int kh, .int (nI km), .int ka, .int ks, .int kac, .ref m9, .ref m10, .ref m11, .ref m12, .long hv])), (pg, .inl (cB, 24, .inl f1))] H := hP
                  have hD : va_D A [(h0, .inr (7, [.int ih, .int hn, .int fl, .int da, .int ds, .int ac, .int (nI kc), .ref m1, .ref m2, .ref m3, .ref m4, .ref m5, .int (nI pl), .ref pg, .int fa, .int x_12, .ref m6, .ref m7, .ref m8, .long sd, .int ik, .int kh, .int (nI km), .int ka, .int ks, .int kac, .ref m9, .ref m10, .ref m11, .ref m12, .long hv])), (pg, .inl (cB, 24, .inl f1))] := hD
                  refine lv_iload_n hx hb dX7_readHall_128 rfl (lv_at hl 3 rfl) ?_
                  refine lv_iload_n hx hb dX7_readHall_129 rfl (lv_at hl 0 rfl) ?_
                  refine lv_if_eq (tgt := 137) hx hb dX7_readHall_130 (by decide) (fun c => absurd c (by decide)) (fun _ => ?_)
                  refine lv_iconst (v := 1) hx hb dX7_readHall_133 (by decide) ?_
                  refine lv_goto (tgt := 138) hx hb dX7_readHall_134 (by decide) ?_
                  refine lv_iadd hx hb dX7_readHall_138 ?_
                  refine cz_i (y := (nI (i9 + 1))) (nI_add i9 1) ?_
                  refine lv_istore_n (lv' := [(1, .int (nI (i9 + 1))), (2, .int 1), (3, .int 0), (0, .ref h0)]) hx hb dX7_readHall_139 rfl hl (by decide) rfl (fun ls hl => ?_)
                  refine lv_goto (tgt := 9) hx hb dX7_readHall_140 (by decide) ?_
                  exact ih9 (i9 + 1) 1 x_12 H locs ls (by rcases hi9 with h | h; exact Or.inl ⟨rfl, by omega⟩; exact absurd h.1 c_4) ⟨by omega, cz_fits1 hm.2.1 (c_X7_readHall_a5 pl f1 i9 y2 yn n9 x_11 x_12 hpl24 hi9 hm hfw c_3 c_4 c_5 c_6 c_8 c_9 ex_11 ex_12), fun h => absurd h (by decide)⟩ (c_X7_readHall_a6 pl f1 i9 y2 yn n9 x_11 x_12 hpl24 hi9 hm hfw c_3 c_4 c_5 c_6 c_8 c_9 ex_11 ex_12) hP hD hS (lv_sub hl [3, 0, 1] rfl)
              · refine lv_aload_n hx hb dX7_readHall_70 rfl (lv_at hl 1 rfl) ?_
                refine va_get (D := (dC, dI)) (ci := 7) (v := .ref pg) (C := RX7) (T := TX7) (N := 31) hx hb hts hiX7 hown hK hP 0 rfl rfl 13 (by decide) (hts (.fieldLink RX7 32 "LeftProfileModel" "page" "[B") (List.mem_of_getElem? (i := 3) rfl)) (fun _ h9 => h9) rfl dX7_readHall_71 ?_
                refine lv_iload_n hx hb dX7_readHall_74 rfl (lv_at hl 2 rfl) ?_
                refine va_bald hx hb hK hP 1 1 rfl rfl (vp_in_nI (n := i9) (by omega) (by omega)) dX7_readHall_75 ?_
                refine cz_i (y := (f1 i9)) (congrArg f1 (nI_clamp (n := i9) (by omega))) ?_
                refine lv_bipush (v := 35) hx hb dX7_readHall_76 (by decide) ?_
                refine lv_icmp_ne (tgt := 85) hx hb dX7_readHall_78 (by decide) (fun c_13 => ?_) (fun c_13 => ?_)
                · refine lv_iconst (v := 0) hx hb dX7_readHall_85 (by decide) ?_
                  refine lv_istore_n (lv' := [(2, .int 0), (3, .int 0), (0, .ref h0), (1, .int (nI i9))]) hx hb dX7_readHall_86 rfl hl (by decide) rfl (fun ls hl => ?_)
                  refine lv_aload_n hx hb dX7_readHall_87 rfl (lv_at hl 2 rfl) ?_
                  refine lv_dup hx hb dX7_readHall_88 rfl ?_
                  refine va_get (D := (dC, dI)) (ci := 7) (v := .int yn) (C := RX7) (T := TX7) (N := 31) hx hb hts hiX7 hown hK hP 0 rfl rfl 15 (by decide) (hts (.fieldLink RX7 64 "LeftProfileModel" "newFloor" "I") (List.mem_of_getElem? (i := 1) rfl)) (fun _ h9 => h9) rfl dX7_readHall_89 ?_
                  refine lv_iload_n hx hb dX7_readHall_92 rfl (lv_at hl 0 rfl) ?_
                  refine lv_if_eq (tgt := 123) hx hb dX7_readHall_93 (by decide) (fun _ => ?_) (fun c => absurd (by decide) c)
                  refine lv_iconst (v := 0) hx hb dX7_readHall_123 (by decide) ?_
                  refine lv_ior hx hb dX7_readHall_124 ?_
                  refine lv_topi (fun x_14 ex_14 => ?_)
                  refine va_put (D := (dC, dI)) (ci := 7) (v := .int x_14) (ty := .int) (C := RX7) (T := TX7) (N := 31) hx hb hts hiX7 tyX7 tyX7_ok nmX7 hown hK hP hD hS 0 rfl rfl 15 (by decide) (hts (.fieldLink RX7 64 "LeftProfileModel" "newFloor" "I") (List.mem_of_getElem? (i := 1) rfl)) (fun _ h9 => h9) rfl (by decide +kernel) rfl rfl (Nat.le_of_ble_eq_true rfl) dX7_readHall_125 (fun H locs hP hD hS => ?_)
                  have hP : va_P (dC, dI) vwCl [(h0, .inr (7, [.int ih, .int hn, .int fl, .int da, .int ds, .int ac, .int (nI kc), .ref m1, .ref m2, .ref m3, .ref m4, .ref m5, .int (nI pl), .ref pg, .int fa, .int x_14, .ref m6, .ref m7, .ref m8, .long sd, .int ik, .int kh, .int (nI km), .int ka, .int ks, .int kac, .ref m9, .ref m10, .ref m11, .ref m12, .long hv])), (pg, .inl (cB, 24, .inl f1))] H := hP
                  have hD : va_D A [(h0, .inr (7, [.int ih, .int hn, .int fl, .int da, .int ds, .int ac, .int (nI kc), .ref m1, .ref m2, .ref m3, .ref m4, .ref m5, .int (nI pl), .ref pg, .int fa, .int x_14, .ref m6, .ref m7, .ref m8, .long sd, .int ik, .int kh, .int (nI km), .int ka, .int ks, .int kac, .ref m9, .ref m10, .ref m11, .ref m12, .long hv])), (pg, .inl (cB, 24, .inl f1))] := hD
                  refine lv_iload_n hx hb dX7_readHall_128 rfl (lv_at hl 3 rfl) ?_
                  refine lv_iload_n hx hb dX7_readHall_129 rfl (lv_at hl 0 rfl) ?_
                  refine lv_if_eq (tgt := 137) hx hb dX7_readHall_130 (by decide) (fun _ => ?_) (fun c => absurd (by decide) c)
                  refine lv_iconst (v := 0) hx hb dX7_readHall_137 (by decide) ?_
                  refine lv_iadd hx hb dX7_readHall_138 ?_
                  refine cz_i (y := (nI (i9 + 0))) (nI_add i9 0) ?_
                  refine lv_istore_n (lv' := [(1, .int (nI (i9 + 0))), (2, .int 0), (3, .int 0), (0, .ref h0)]) hx hb dX7_readHall_139 rfl hl (by decide) rfl (fun ls hl => ?_)
                  refine lv_goto (tgt := 9) hx hb dX7_readHall_140 (by decide) ?_
                  exact ih9 (i9 + 0) 0 x_14 H locs ls (Or.inr ⟨rfl, by omega⟩) ⟨by omega, hm.2.1, fun _ => ⟨by omega, (c_X7_readHall_a7 pl f1 i9 y2 yn n9 x_14 hpl24 hi9 hm hfw c_3 c_4 c_5 c_6 c_8 c_13 ex_14)⟩⟩ (c_X7_readHall_a8 pl f1 i9 y2 yn n9 x_14 hpl24 hi9 hm hfw c_3 c_4 c_5 c_6 c_8 c_13 ex_14) hP hD hS (lv_sub hl [3, 0, 1] rfl)
                · refine lv_iconst (v := 1) hx hb dX7_readHall_81 (by decide) ?_
                  refine lv_goto (tgt := 86) hx hb dX7_readHall_82 (by decide) ?_
                  refine lv_istore_n (lv' := [(2, .int 1), (3, .int 0), (0, .ref h0), (1, .int (nI i9))]) hx hb dX7_readHall_86 rfl hl (by decide) rfl (fun ls hl => ?_)
                  refine lv_aload_n hx hb dX7_readHall_87 rfl (lv_at hl 2 rfl) ?_
                  refine lv_dup hx hb dX7_readHall_88 rfl ?_
                  refine va_get (D := (dC, dI)) (ci := 7) (v := .int yn) (C := RX7) (T := TX7) (N := 31) hx hb hts hiX7 hown hK hP 0 rfl rfl 15 (by decide) (hts (.fieldLink RX7 64 "LeftProfileModel" "newFloor" "I") (List.mem_of_getElem? (i := 1) rfl)) (fun _ h9 => h9) rfl dX7_readHall_89 ?_
                  refine lv_iload_n hx hb dX7_readHall_92 rfl (lv_at hl 0 rfl) ?_
                  refine lv_if_eq (tgt := 123) hx hb dX7_readHall_93 (by decide) (fun c => absurd c (by decide)) (fun _ => ?_)
                  refine lv_aload_n hx hb dX7_readHall_96 rfl (lv_at hl 2 rfl) ?_
                  refine va_get (D := (dC, dI)) (ci := 7) (v := .ref pg) (C := RX7) (T := TX7) (N := 31) hx hb hts hiX7 hown hK hP 0 rfl rfl 13 (by decide) (hts (.fieldLink RX7 32 "LeftProfileModel" "page" "[B") (List.mem_of_getElem? (i := 3) rfl)) (fun _ h9 => h9) rfl dX7_readHall_97 ?_
                  refine lv_iload_n hx hb dX7_readHall_100 rfl (lv_at hl 3 rfl) ?_
                  refine va_bald hx hb hK hP 1 1 rfl rfl (vp_in_nI (n := i9) (by omega) (by omega)) dX7_readHall_101 ?_
                  refine cz_i (y := (f1 i9)) (congrArg f1 (nI_clamp (n := i9) (by omega))) ?_
                  refine lv_bipush (v := 46) hx hb dX7_readHall_102 (by decide) ?_
                  refine lv_icmp_ne (tgt := 123) hx hb dX7_readHall_104 (by decide) (fun c_15 => ?_) (fun c_15 => ?_)
                  · refine lv_iconst (v := 0) hx hb dX7_readHall_123 (by decide) ?_
                    refine lv_ior hx hb dX7_readHall_124 ?_
                    refine lv_topi (fun x_16 ex_16 => ?_)
                    refine va_put (D := (dC, dI)) (ci := 7) (v := .int x_16) (ty := .int) (C := RX7) (T := TX7) (N := 31) hx hb hts hiX7 tyX7 tyX7_ok nmX7 hown hK hP hD hS 0 rfl rfl 15 (by decide) (hts (.fieldLink RX7 64 "LeftProfileModel" "newFloor" "I") (List.mem_of_getElem? (i := 1) rfl)) (fun _ h9 => h9) rfl (by decide +kernel) rfl rfl (Nat.le_of_ble_eq_true rfl) dX7_readHall_125 (fun H locs hP hD hS => ?_)
                    have hP : va_P (dC, dI) vwCl [(h0, .inr (7, [.int ih, .int hn, .int fl, .int da, .int ds, .int ac, .int (nI kc), .ref m1, .ref m2, .ref m3, .ref m4, .ref m5, .int (nI pl), .ref pg, .int fa, .int x_16, .ref m6, .ref m7, .ref m8, .long sd, .int ik, .int kh, .int (nI km), .int ka, .int ks, .int kac, .ref m9, .ref m10, .ref m11, .ref m12, .long hv])), (pg, .inl (cB, 24, .inl f1))] H := hP
                    have hD : va_D A [(h0, .inr (7, [.int ih, .int hn, .int fl, .int da, .int ds, .int ac, .int (nI kc), .ref m1, .ref m2, .ref m3, .ref m4, .ref m5, .int (nI pl), .ref pg, .int fa, .int x_16, .ref m6, .ref m7, .ref m8, .long sd, .int ik, .int kh, .int (nI km), .int ka, .int ks, .int kac, .ref m9, .ref m10, .ref m11, .ref m12, .long hv])), (pg, .inl (cB, 24, .inl f1))] := hD
                    refine lv_iload_n hx hb dX7_readHall_128 rfl (lv_at hl 3 rfl) ?_
                    refine lv_iload_n hx hb dX7_readHall_129 rfl (lv_at hl 0 rfl) ?_
                    refine lv_if_eq (tgt := 137) hx hb dX7_readHall_130 (by decide) (fun c => absurd c (by decide)) (fun _ => ?_)
                    refine lv_iconst (v := 1) hx hb dX7_readHall_133 (by decide) ?_
                    refine lv_goto (tgt := 138) hx hb dX7_readHall_134 (by decide) ?_
                    refine lv_iadd hx hb dX7_readHall_138 ?_
                    refine cz_i (y := (nI (i9 + 1))) (nI_add i9 1) ?_
                    refine lv_istore_n (lv' := [(1, .int (nI (i9 + 1))), (2, .int 1), (3, .int 0), (0, .ref h0)]) hx hb dX7_readHall_139 rfl hl (by decide) rfl (fun ls hl => ?_)
                    refine lv_goto (tgt := 9) hx hb dX7_readHall_140 (by decide) ?_
                    exact ih9 (i9 + 1) 1 x_16 H locs ls (by rcases hi9 with h | h; exact Or.inl ⟨rfl, by omega⟩; exact absurd h.1 c_4) ⟨by omega, cz_fits1 hm.2.1 (c_X7_readHall_a9 pl f1 i9 y2 yn n9 x_16 hpl24 hi9 hm hfw c_3 c_4 c_5 c_6 c_8 c_13 c_15 ex_16), fun h => absurd h (by decide)⟩ (c_X7_readHall_a10 pl f1 i9 y2 yn n9 x_16 hpl24 hi9 hm hfw c_3 c_4 c_5 c_6 c_8 c_13 c_15 ex_16) hP hD hS (lv_sub hl [3, 0, 1] rfl)
                  · refine lv_iconst (v := 1) hx hb dX7_readHall_107 (by decide) ?_
                    refine lv_iload_n hx hb dX7_readHall_108 rfl (lv_at hl 3 rfl) ?_
                    refine lv_bipush (v := 6) hx hb dX7_readHall_109 (by decide) ?_
                    refine lv_idiv hx hb dX7_readHall_111 (by decide) ?_
                    refine cz_i (y := (nI (i9 / 6))) (pk_div (a := i9) (d := 6) (by omega) (by decide) (by decide)) ?_
                    refine lv_iconst (v := 5) hx hb dX7_readHall_112 (by decide) ?_
                    refine lv_imul hx hb dX7_readHall_113 ?_
                    refine cz_i (y := (nI ((i9 / 6) * 5))) (pk_mul (i9 / 6) 5) ?_
                    refine lv_iload_n hx hb dX7_readHall_114 rfl (lv_at hl 3 rfl) ?_
                    refine lv_bipush (v := 6) hx hb dX7_readHall_115 (by decide) ?_
                    refine lv_irem hx hb dX7_readHall_117 (by decide) ?_
                    refine cz_i (y := (nI (i9 % 6))) (pk_rem (a := i9) (d := 6) (by omega) (by decide) (by decide)) ?_
                    refine lv_iadd hx hb dX7_readHall_118 ?_
                    refine cz_i (y := (nI (((i9 / 6) * 5) + (i9 % 6)))) (nI_add ((i9 / 6) * 5) (i9 % 6)) ?_
                    refine lv_ishl hx hb dX7_readHall_119 ?_
                    refine lv_topi (fun x_17 ex_17 => ?_)
                    refine lv_goto (tgt := 124) hx hb dX7_readHall_120 (by decide) ?_
                    refine lv_ior hx hb dX7_readHall_124 ?_
                    refine lv_topi (fun x_18 ex_18 => ?_)
                    refine va_put (D := (dC, dI)) (ci := 7) (v := .int x_18) (ty := .int) (C := RX7) (T := TX7) (N := 31) hx hb hts hiX7 tyX7 tyX7_ok nmX7 hown hK hP hD hS 0 rfl rfl 15 (by decide) (hts (.fieldLink RX7 64 "LeftProfileModel" "newFloor" "I") (List.mem_of_getElem? (i := 1) rfl)) (fun _ h9 => h9) rfl (by decide +kernel) rfl rfl (Nat.le_of_ble_eq_true rfl) dX7_readHall_125 (fun H locs hP hD hS => ?_)
                    have hP : va_P (dC, dI) vwCl [(h0, .inr (7, [.int ih, .int hn, .int fl, .int da, .int ds, .int ac, .int (nI kc), .ref m1, .ref m2, .ref m3, .ref m4, .ref m5, .int (nI pl), .ref pg, .int fa, .int x_18, .ref m6, .ref m7, .ref m8, .long sd, .int ik, .int kh, .int (nI km), .int ka, .int ks, .int kac, .ref m9, .ref m10, .ref m11, .ref m12, .long hv])), (pg, .inl (cB, 24, .inl f1))] H := hP
                    have hD : va_D A [(h0, .inr (7, [.int ih, .int hn, .int fl, .int da, .int ds, .int ac, .int (nI kc), .ref m1, .ref m2, .ref m3, .ref m4, .ref m5, .int (nI pl), .ref pg, .int fa, .int x_18, .ref m6, .ref m7, .ref m8, .long sd, .int ik, .int kh, .int (nI km), .int ka, .int ks, .int kac, .ref m9, .ref m10, .ref m11, .ref m12, .long hv])), (pg, .inl (cB, 24, .inl f1))] := hD
                    refine lv_iload_n hx hb dX7_readHall_128 rfl (lv_at hl 3 rfl) ?_
                    refine lv_iload_n hx hb dX7_readHall_129 rfl (lv_at hl 0 rfl) ?_
                    refine lv_if_eq (tgt := 137) hx hb dX7_readHall_130 (by decide) (fun c => absurd c (by decide)) (fun _ => ?_)
                    refine lv_iconst (v := 1) hx hb dX7_readHall_133 (by decide) ?_
                    refine lv_goto (tgt := 138) hx hb dX7_readHall_134 (by decide) ?_
                    refine lv_iadd hx hb dX7_readHall_138 ?_
                    refine cz_i (y := (nI (i9 + 1))) (nI_add i9 1) ?_
                    refine lv_istore_n (lv' := [(1, .int (nI (i9 + 1))), (2, .int 1), (3, .int 0), (0, .ref h0)]) hx hb dX7_readHall_139 rfl hl (by decide) rfl (fun ls hl => ?_)
                    refine lv_goto (tgt := 9) hx hb dX7_readHall_140 (by decide) ?_
                    exact ih9 (i9 + 1) 1 x_18 H locs ls (by rcases hi9 with h | h; exact Or.inl ⟨rfl, by omega⟩; exact absurd h.1 c_4) ⟨by omega, cz_fits1 hm.2.1 (c_X7_readHall_a11 pl f1 i9 y2 yn n9 x_17 x_18 hpl24 hi9 hm hfw c_3 c_4 c_5 c_6 c_8 c_13 c_15 ex_17 ex_18), fun h => absurd h (by decide)⟩ (c_X7_readHall_a12 pl f1 i9 y2 yn n9 x_17 x_18 hpl24 hi9 hm hfw c_3 c_4 c_5 c_6 c_8 c_13 c_15 ex_17 ex_18) hP hD hS (lv_sub hl [3, 0, 1] rfl)
          · have c_5 : (i9 % 6) = 5 := (nI_eq (a := (i9 % 6)) (b := 5) (by omega) (by omega)).mp c_5
            refine lv_iconst (v := 1) hx hb dX7_readHall_29 (by decide) ?_
            refine lv_goto (tgt := 34) hx hb dX7_readHall_30 (by decide) ?_
            refine lv_istore_n (lv' := [(3, .int 1), (0, .ref h0), (1, .int (nI i9)), (2, .int y2)]) hx hb dX7_readHall_34 rfl hl (by decide) rfl (fun ls hl => ?_)
            refine lv_iload_n hx hb dX7_readHall_35 rfl (lv_at hl 2 rfl) ?_
            refine lv_bipush (v := 23) hx hb dX7_readHall_36 (by decide) ?_
            refine lv_icmp_ge (tgt := 85) hx hb dX7_readHall_38 (by decide) (fun c_19 => ?_) (fun c_19 => ?_)
            · have c_19 : 23 ≤ i9 := (nI_leI (a := 23) (b := i9) (by omega) (by omega)).mp c_19
              refine lv_iconst (v := 0) hx hb dX7_readHall_85 (by decide) ?_
              refine lv_istore_n (lv' := [(2, .int 0), (3, .int 1), (0, .ref h0), (1, .int (nI i9))]) hx hb dX7_readHall_86 rfl hl (by decide) rfl (fun ls hl => ?_)
              refine lv_aload_n hx hb dX7_readHall_87 rfl (lv_at hl 2 rfl) ?_
              refine lv_dup hx hb dX7_readHall_88 rfl ?_
              refine va_get (D := (dC, dI)) (ci := 7) (v := .int yn) (C := RX7) (T := TX7) (N := 31) hx hb hts hiX7 hown hK hP 0 rfl rfl 15 (by decide) (hts (.fieldLink RX7 64 "LeftProfileModel" "newFloor" "I") (List.mem_of_getElem? (i := 1) rfl)) (fun _ h9 => h9) rfl dX7_readHall_89 ?_
              refine lv_iload_n hx hb dX7_readHall_92 rfl (lv_at hl 0 rfl) ?_
              refine lv_if_eq (tgt := 123) hx hb dX7_readHall_93 (by decide) (fun _ => ?_) (fun c => absurd (by decide) c)
              refine lv_iconst (v := 0) hx hb dX7_readHall_123 (by decide) ?_
              refine lv_ior hx hb dX7_readHall_124 ?_
              refine lv_topi (fun x_20 ex_20 => ?_)
              refine va_put (D := (dC, dI)) (ci := 7) (v := .int x_20) (ty := .int) (C := RX7) (T := TX7) (N := 31) hx hb hts hiX7 tyX7 tyX7_ok nmX7 hown hK hP hD hS 0 rfl rfl 15 (by decide) (hts (.fieldLink RX7 64 "LeftProfileModel" "newFloor" "I") (List.mem_of_getElem? (i := 1) rfl)) (fun _ h9 => h9) rfl (by decide +kernel) rfl rfl (Nat.le_of_ble_eq_true rfl) dX7_readHall_125 (fun H locs hP hD hS => ?_)
              have hP : va_P (dC, dI) vwCl [(h0, .inr (7, [.int ih, .int hn, .int fl, .int da, .int ds, .int ac, .int (nI kc), .ref m1, .ref m2, .ref m3, .ref m4, .ref m5, .int (nI pl), .ref pg, .int fa, .int x_20, .ref m6, .ref m7, .ref m8, .long sd, .int ik, .int kh, .int (nI km), .int ka, .int ks, .int kac, .ref m9, .ref m10, .ref m11, .ref m12, .long hv])), (pg, .inl (cB, 24, .inl f1))] H := hP
              have hD : va_D A [(h0, .inr (7, [.int ih, .int hn, .int fl, .int da, .int ds, .int ac, .int (nI kc), .ref m1, .ref m2, .ref m3, .ref m4, .ref m5, .int (nI pl), .ref pg, .int fa, .int x_20, .ref m6, .ref m7, .ref m8, .long sd, .int ik, .int kh, .int (nI km), .int ka, .int ks, .int kac, .ref m9, .ref m10, .ref m11, .ref m12, .long hv])), (pg, .inl (cB, 24, .inl f1))] := hD
              refine lv_iload_n hx hb dX7_readHall_128 rfl (lv_at hl 3 rfl) ?_
              refine lv_iload_n hx hb dX7_readHall_129 rfl (lv_at hl 0 rfl) ?_
              refine lv_if_eq (tgt := 137) hx hb dX7_readHall_130 (by decide) (fun _ => ?_) (fun c => absurd (by decide) c)
              refine lv_iconst (v := 0) hx hb dX7_readHall_137 (by decide) ?_
              refine lv_iadd hx hb dX7_readHall_138 ?_
              refine cz_i (y := (nI (i9 + 0))) (nI_add i9 0) ?_
              refine lv_istore_n (lv' := [(1, .int (nI (i9 + 0))), (2, .int 0), (3, .int 1), (0, .ref h0)]) hx hb dX7_readHall_139 rfl hl (by decide) rfl (fun ls hl => ?_)
              refine lv_goto (tgt := 9) hx hb dX7_readHall_140 (by decide) ?_
              exact ih9 (i9 + 0) 0 x_20 H locs ls (Or.inr ⟨rfl, by omega⟩) ⟨by omega, hm.2.1, fun _ => ⟨by omega, (c_X7_readHall_a13 pl f1 i9 y2 yn n9 x_20 hpl24 hi9 hm hfw c_3 c_4 c_5 c_19 ex_20)⟩⟩ (c_X7_readHall_a14 pl f1 i9 y2 yn n9 x_20 hpl24 hi9 hm hfw c_3 c_4 c_5 c_19 ex_20) hP hD hS (lv_sub hl [3, 0, 1] rfl)
            · have c_19 : ¬ 23 ≤ i9 := fun h => c_19 ((nI_leI (a := 23) (b := i9) (by omega) (by omega)).mpr h)
              refine lv_iload_n hx hb dX7_readHall_41 rfl (lv_at hl 0 rfl) ?_
              refine lv_if_eq (tgt := 59) hx hb dX7_readHall_42 (by decide) (fun c => absurd c (by decide)) (fun _ => ?_)
              refine lv_aload_n hx hb dX7_readHall_45 rfl (lv_at hl 1 rfl) ?_
              refine va_get (D := (dC, dI)) (ci := 7) (v := .ref pg) (C := RX7) (T := TX7) (N := 31) hx hb hts hiX7 hown hK hP 0 rfl rfl 13 (by decide) (hts (.fieldLink RX7 32 "LeftProfileModel" "page" "[B") (List.mem_of_getElem? (i := 3) rfl)) (fun _ h9 => h9) rfl dX7_readHall_46 ?_
              refine lv_iload_n hx hb dX7_readHall_49 rfl (lv_at hl 2 rfl) ?_
              refine va_bald hx hb hK hP 1 1 rfl rfl (vp_in_nI (n := i9) (by omega) (by omega)) dX7_readHall_50 ?_
              refine cz_i (y := (f1 i9)) (congrArg f1 (nI_clamp (n := i9) (by omega))) ?_
              refine lv_bipush (v := 47) hx hb dX7_readHall_51 (by decide) ?_
              refine lv_icmp_ne (tgt := 85) hx hb dX7_readHall_53 (by decide) (fun c_21 => ?_) (fun c_21 => ?_)
              · refine lv_iconst (v := 0) hx hb dX7_readHall_85 (by decide) ?_
                refine lv_istore_n (lv' := [(2, .int 0), (3, .int 1), (0, .ref h0), (1, .int (nI i9))]) hx hb dX7_readHall_86 rfl hl (by decide) rfl (fun ls hl => ?_)
                refine lv_aload_n hx hb dX7_readHall_87 rfl (lv_at hl 2 rfl) ?_
                refine lv_dup hx hb dX7_readHall_88 rfl ?_
                refine va_get (D := (dC, dI)) (ci := 7) (v := .int yn) (C := RX7) (T := TX7) (N := 31) hx hb hts hiX7 hown hK hP 0 rfl rfl 15 (by decide) (hts (.fieldLink RX7 64 "LeftProfileModel" "newFloor" "I") (List.mem_of_getElem? (i := 1) rfl)) (fun _ h9 => h9) rfl dX7_readHall_89 ?_
                refine lv_iload_n hx hb dX7_readHall_92 rfl (lv_at hl 0 rfl) ?_
                refine lv_if_eq (tgt := 123) hx hb dX7_readHall_93 (by decide) (fun _ => ?_) (fun c => absurd (by decide) c)
                refine lv_iconst (v := 0) hx hb dX7_readHall_123 (by decide) ?_
                refine lv_ior hx hb dX7_readHall_124 ?_
                refine lv_topi (fun x_22 ex_22 => ?_)
                refine va_put (D := (dC, dI)) (ci := 7) (v := .int x_22) (ty := .int) (C := RX7) (T := TX7) (N := 31) hx hb hts hiX7 tyX7 tyX7_ok nmX7 hown hK hP hD hS 0 rfl rfl 15 (by decide) (hts (.fieldLink RX7 64 "LeftProfileModel" "newFloor" "I") (List.mem_of_getElem? (i := 1) rfl)) (fun _ h9 => h9) rfl (by decide +kernel) rfl rfl (Nat.le_of_ble_eq_true rfl) dX7_readHall_125 (fun H locs hP hD hS => ?_)
                have hP : va_P (dC, dI) vwCl [(h0, .inr (7, [.int ih, .int hn, .int fl, .int da, .int ds, .int ac, .int (nI kc), .ref m1, .ref m2, .ref m3, .ref m4, .ref m5, .int (nI pl), .ref pg, .int fa, .int x_22, .ref m6, .ref m7, .ref m8, .long sd, .int ik, .int kh, .int (nI km), .int ka, .int ks, .int kac, .ref m9, .ref m10, .ref m11, .ref m12, .long hv])), (pg, .inl (cB, 24, .inl f1))] H := hP
                have hD : va_D A [(h0, .inr (7, [.int ih, .int hn, .int fl, .int da, .int ds, .int ac, .int (nI kc), .ref m1, .ref m2, .ref m3, .ref m4, .ref m5, .int (nI pl), .ref pg, .int fa, .int x_22, .ref m6, .ref m7, .ref m8, .long sd, .int ik, .int kh, .int (nI km), .int ka, .int ks, .int kac, .ref m9, .ref m10, .ref m11, .ref m12, .long hv])), (pg, .inl (cB, 24, .inl f1))] := hD
                refine lv_iload_n hx hb dX7_readHall_128 rfl (lv_at hl 3 rfl) ?_
                refine lv_iload_n hx hb dX7_readHall_129 rfl (lv_at hl 0 rfl) ?_
                refine lv_if_eq (tgt := 137) hx hb dX7_readHall_130 (by decide) (fun _ => ?_) (fun c => absurd (by decide) c)
                refine lv_iconst (v := 0) hx hb dX7_readHall_137 (by decide) ?_
                refine lv_iadd hx hb dX7_readHall_138 ?_
                refine cz_i (y := (nI (i9 + 0))) (nI_add i9 0) ?_
                refine lv_istore_n (lv' := [(1, .int (nI (i9 + 0))), (2, .int 0), (3, .int 1), (0, .ref h0)]) hx hb dX7_readHall_139 rfl hl (by decide) rfl (fun ls hl => ?_)
                refine lv_goto (tgt := 9) hx hb dX7_readHall_140 (by decide) ?_
                exact ih9 (i9 + 0) 0 x_22 H locs ls (Or.inr ⟨rfl, by omega⟩) ⟨by omega, hm.2.1, fun _ => ⟨by omega, (c_X7_readHall_a15 pl f1 i9 y2 yn n9 x_22 hpl24 hi9 hm hfw c_3 c_4 c_5 c_19 c_21 ex_22)⟩⟩ (c_X7_readHall_a16 pl f1 i9 y2 yn n9 x_22 hpl24 hi9 hm hfw c_3 c_4 c_5 c_19 c_21 ex_22) hP hD hS (lv_sub hl [3, 0, 1] rfl)
              · refine lv_goto (tgt := 81) hx hb dX7_readHall_56 (by decide) ?_
                refine lv_iconst (v := 1) hx hb dX7_readHall_81 (by decide) ?_
                refine lv_goto (tgt := 86) hx hb dX7_readHall_82 (by decide) ?_
                refine lv_istore_n (lv' := [(2, .int 1), (3, .int 1), (0, .ref h0), (1, .int (nI i9))]) hx hb dX7_readHall_86 rfl hl (by decide) rfl (fun ls hl => ?_)
                refine lv_aload_n hx hb dX7_readHall_87 rfl (lv_at hl 2 rfl) ?_
                refine lv_dup hx hb dX7_readHall_88 rfl ?_
                refine va_get (D := (dC, dI)) (ci := 7) (v := .int yn) (C := RX7) (T := TX7) (N := 31) hx hb hts hiX7 hown hK hP 0 rfl rfl 15 (by decide) (hts (.fieldLink RX7 64 "LeftProfileModel" "newFloor" "I") (List.mem_of_getElem? (i := 1) rfl)) (fun _ h9 => h9) rfl dX7_readHall_89 ?_
                refine lv_iload_n hx hb dX7_readHall_92 rfl (lv_at hl 0 rfl) ?_
                refine lv_if_eq (tgt := 123) hx hb dX7_readHall_93 (by decide) (fun c => absurd c (by decide)) (fun _ => ?_)
                refine lv_aload_n hx hb dX7_readHall_96 rfl (lv_at hl 2 rfl) ?_
                refine va_get (D := (dC, dI)) (ci := 7) (v := .ref pg) (C := RX7) (T := TX7) (N := 31) hx hb hts hiX7 hown hK hP 0 rfl rfl 13 (by decide) (hts (.fieldLink RX7 32 "LeftProfileModel" "page" "[B") (List.mem_of_getElem? (i := 3) rfl)) (fun _ h9 => h9) rfl dX7_readHall_97 ?_
                refine lv_iload_n hx hb dX7_readHall_100 rfl (lv_at hl 3 rfl) ?_
                refine va_bald hx hb hK hP 1 1 rfl rfl (vp_in_nI (n := i9) (by omega) (by omega)) dX7_readHall_101 ?_
                refine cz_i (y := (f1 i9)) (congrArg f1 (nI_clamp (n := i9) (by omega))) ?_
                refine lv_bipush (v := 46) hx hb dX7_readHall_102 (by decide) ?_
                refine lv_icmp_ne (tgt := 123) hx hb dX7_readHall_104 (by decide) (fun c_23 => ?_) (fun c_23 => ?_)
                · refine lv_iconst (v := 0) hx hb dX7_readHall_123 (by decide) ?_
                  refine lv_ior hx hb dX7_readHall_124 ?_
                  refine lv_topi (fun x_24 ex_24 => ?_)
                  refine va_put (D := (dC, dI)) (ci := 7) (v := .int x_24) (ty := .int) (C := RX7) (T := TX7) (N := 31) hx hb hts hiX7 tyX7 tyX7_ok nmX7 hown hK hP hD hS 0 rfl rfl 15 (by decide) (hts (.fieldLink RX7 64 "LeftProfileModel" "newFloor" "I") (List.mem_of_getElem? (i := 1) rfl)) (fun _ h9 => h9) rfl (by decide +kernel) rfl rfl (Nat.le_of_ble_eq_true rfl) dX7_readHall_125 (fun H locs hP hD hS => ?_)
                  have hP : va_P (dC, dI) vwCl [(h0, .inr (7, [.int ih, .int hn, .int fl, .int da, .int ds, .int ac, .int (nI kc), .ref m1, .ref m2, .ref m3, .ref m4, .ref m5, .int (nI pl), .ref pg, .int fa, .int x_24, .ref m6, .ref m7, .ref m8, .long sd, .int ik, .int kh, .int (nI km), .int ka, .int ks, .int kac, .ref m9, .ref m10, .ref m11, .ref m12, .long hv])), (pg, .inl (cB, 24, .inl f1))] H := hP
                  have hD : va_D A [(h0, .inr (7, [.int ih, .int hn, .int fl, .int da, .int ds, .int ac, .int (nI kc), .ref m1, .ref m2, .ref m3, .ref m4, .ref m5, .int (nI pl), .ref pg, .int fa, .int x_24, .ref m6, .ref m7, .ref m8, .long sd, .int ik, .int kh, .int (nI km), .int ka, .int ks, .int kac, .ref m9, .ref m10, .ref m11, .ref m12, .long hv])), (pg, .inl (cB, 24, .inl f1))] := hD
                  refine lv_iload_n hx hb dX7_readHall_128 rfl (lv_at hl 3 rfl) ?_
                  refine lv_iload_n hx hb dX7_readHall_129 rfl (lv_at hl 0 rfl) ?_
                  refine lv_if_eq (tgt := 137) hx hb dX7_readHall_130 (by decide) (fun c => absurd c (by decide)) (fun _ => ?_)
                  refine lv_iconst (v := 1) hx hb dX7_readHall_133 (by decide) ?_
                  refine lv_goto (tgt := 138) hx hb dX7_readHall_134 (by decide) ?_
                  refine lv_iadd hx hb dX7_readHall_138 ?_
                  refine cz_i (y := (nI (i9 + 1))) (nI_add i9 1) ?_
                  refine lv_istore_n (lv' := [(1, .int (nI (i9 + 1))), (2, .int 1), (3, .int 1), (0, .ref h0)]) hx hb dX7_readHall_139 rfl hl (by decide) rfl (fun ls hl => ?_)
                  refine lv_goto (tgt := 9) hx hb dX7_readHall_140 (by decide) ?_
                  exact ih9 (i9 + 1) 1 x_24 H locs ls (by rcases hi9 with h | h; exact Or.inl ⟨rfl, by omega⟩; exact absurd h.1 c_4) ⟨by omega, cz_fits1 hm.2.1 (c_X7_readHall_a17 pl f1 i9 y2 yn n9 x_24 hpl24 hi9 hm hfw c_3 c_4 c_5 c_19 c_21 c_23 ex_24), fun h => absurd h (by decide)⟩ (c_X7_readHall_a18 pl f1 i9 y2 yn n9 x_24 hpl24 hi9 hm hfw c_3 c_4 c_5 c_19 c_21 c_23 ex_24) hP hD hS (lv_sub hl [3, 0, 1] rfl)
                · refine lv_iconst (v := 1) hx hb dX7_readHall_107 (by decide) ?_
                  refine lv_iload_n hx hb dX7_readHall_108 rfl (lv_at hl 3 rfl) ?_
                  refine lv_bipush (v := 6) hx hb dX7_readHall_109 (by decide) ?_
                  refine lv_idiv hx hb dX7_readHall_111 (by decide) ?_
                  refine cz_i (y := (nI (i9 / 6))) (pk_div (a := i9) (d := 6) (by omega) (by decide) (by decide)) ?_
                  refine lv_iconst (v := 5) hx hb dX7_readHall_112 (by decide) ?_
                  refine lv_imul hx hb dX7_readHall_113 ?_
                  refine cz_i (y := (nI ((i9 / 6) * 5))) (pk_mul (i9 / 6) 5) ?_
                  refine lv_iload_n hx hb dX7_readHall_114 rfl (lv_at hl 3 rfl) ?_
                  refine lv_bipush (v := 6) hx hb dX7_readHall_115 (by decide) ?_
                  refine lv_irem hx hb dX7_readHall_117 (by decide) ?_
                  refine cz_i (y := (nI (i9 % 6))) (pk_rem (a := i9) (d := 6) (by omega) (by decide) (by decide)) ?_
                  refine lv_iadd hx hb dX7_readHall_118 ?_
                  refine cz_i (y := (nI (((i9 / 6) * 5) + (i9 % 6)))) (nI_add ((i9 / 6) * 5) (i9 % 6)) ?_
                  refine lv_ishl hx hb dX7_readHall_119 ?_
                  refine lv_topi (fun x_25 ex_25 => ?_)
                  refine lv_goto (tgt := 124) hx hb dX7_readHall_120 (by decide) ?_
                  refine lv_ior hx hb dX7_readHall_124 ?_
                  refine lv_topi (fun x_26 ex_26 => ?_)
                  refine va_put (D := (dC, dI)) (ci := 7) (v := .int x_26) (ty := .int) (C := RX7) (T := TX7) (N := 31) hx hb hts hiX7 tyX7 tyX7_ok nmX7 hown hK hP hD hS 0 rfl rfl 15 (by decide) (hts (.fieldLink RX7 64 "LeftProfileModel" "newFloor" "I") (List.mem_of_getElem? (i := 1) rfl)) (fun _ h9 => h9) rfl (by decide +kernel) rfl rfl (Nat.le_of_ble_eq_true rfl) dX7_readHall_125 (fun H locs hP hD hS => ?_)
                  have hP : va_P (dC, dI) vwCl [(h0, .inr (7, [.int ih, .int hn, .int fl, .int da, .int ds, .int ac, .int (nI kc), .ref m1, .ref m2, .ref m3, .ref m4, .ref m5, .int (nI pl), .ref pg, .int fa, .int x_26, .ref m6, .ref m7, .ref m8, .long sd, .int ik, .int kh, .int (nI km), .int ka, .int ks, .int kac, .ref m9, .ref m10, .ref m11, .ref m12, .long hv])), (pg, .inl (cB, 24, .inl f1))] H := hP
                  have hD : va_D A [(h0, .inr (7, [.int ih, .int hn, .int fl, .int da, .int ds, .int ac, .int (nI kc), .ref m1, .ref m2, .ref m3, .ref m4, .ref m5, .int (nI pl), .ref pg, .int fa, .int x_26, .ref m6, .ref m7, .ref m8, .long sd, .int ik, .int kh, .int (nI km), .int ka, .int ks, .int kac, .ref m9, .ref m10, .ref m11, .ref m12, .long hv])), (pg, .inl (cB, 24, .inl f1))] := hD
                  refine lv_iload_n hx hb dX7_readHall_128 rfl (lv_at hl 3 rfl) ?_
                  refine lv_iload_n hx hb dX7_readHall_129 rfl (lv_at hl 0 rfl) ?_
                  refine lv_if_eq (tgt := 137) hx hb dX7_readHall_130 (by decide) (fun c => absurd c (by decide)) (fun _ => ?_)
                  refine lv_iconst (v := 1) hx hb dX7_readHall_133 (by decide) ?_
                  refine lv_goto (tgt := 138) hx hb dX7_readHall_134 (by decide) ?_
                  refine lv_iadd hx hb dX7_readHall_138 ?_
                  refine cz_i (y := (nI (i9 + 1))) (nI_add i9 1) ?_
                  refine lv_istore_n (lv' := [(1, .int (nI (i9 + 1))), (2, .int 1), (3, .int 1), (0, .ref h0)]) hx hb dX7_readHall_139 rfl hl (by decide) rfl (fun ls hl => ?_)
                  refine lv_goto (tgt := 9) hx hb dX7_readHall_140 (by decide) ?_
                  exact ih9 (i9 + 1) 1 x_26 H locs ls (by rcases hi9 with h | h; exact Or.inl ⟨rfl, by omega⟩; exact absurd h.1 c_4) ⟨by omega, cz_fits1 hm.2.1 (c_X7_readHall_a19 pl f1 i9 y2 yn n9 x_25 x_26 hpl24 hi9 hm hfw c_3 c_4 c_5 c_19 c_21 c_23 ex_25 ex_26), fun h => absurd h (by decide)⟩ (c_X7_readHall_a20 pl f1 i9 y2 yn n9 x_25 x_26 hpl24 hi9 hm hfw c_3 c_4 c_5 c_19 c_21 c_23 ex_25 ex_26) hP hD hS (lv_sub hl [3, 0, 1] rfl)
  exact lp9 (pl + 1) 0 1 0 H locs ls (Or.inl ⟨rfl, by omega⟩) ⟨by omega, cz_fits0, fun h => absurd h (by decide)⟩ rfl hP hD hS (lv_sub hl [2, 1, 0] rfl)

set_option maxHeartbeats 4000000 in
set_option maxRecDepth 100000 in
theorem c_X7_fault (l : Launch) (dC : Nat → ClassId) (dI : Nat → Nat → Nat) (cI cB : ClassId) (h0 : Nat) (ih : Int32) (hn : Int32) (fl : Int32) (da : Int32) (ds : Int32) (ac : Int32) (kc : Nat) (m1 : Nat) (m2 : Nat) (m3 : Nat) (m4 : Nat) (m5 : Nat) (pl : Nat) (pg : Nat) (fa : Int32) (nf : Int32) (m6 : Nat) (m7 : Nat) (m8 : Nat) (sd : Int64) (ik : Int32) (kh : Int32) (km : Nat) (ka : Int32) (ks : Int32) (kac : Int32) (m9 : Nat) (m10 : Nat) (m11 : Nat) (m12 : Nat) (hv : Int64) (f1 : Nat → Int32) (sz : Nat) (hpl24 : pl ≤ 24) : Met l yX7_fault wsX7_fault ({ frames := 1, cells := 0, slots := 0, locals := 23 }) (cz_Pm dC dI cI cB [.ref h0] [(h0, .inr (7, [.int ih, .int hn, .int fl, .int da, .int ds, .int ac, .int (nI kc), .ref m1, .ref m2, .ref m3, .ref m4, .ref m5, .int (nI pl), .ref pg, .int fa, .int nf, .ref m6, .ref m7, .ref m8, .long sd, .int ik, .int kh, .int (nI km), .int ka, .int ks, .int kac, .ref m9, .ref m10, .ref m11, .ref m12, .long hv])), (pg, .inl (cB, 24, .inl f1))] sz) (va_Qi (fun (r : Int32) (kk : Nat) => r = nI kk) (fun kk t => ∃ (z5 : Int32), (kk ≤ pl) ∧ (cz_fits f1 kk) ∧ (kk = pl ∨ ¬ cz_fit f1 kk) ∧ va_P (dC, dI) vwCl [(h0, .inr (7, [.int ih, .int hn, .int fl, .int da, .int ds, .int ac, .int (nI kc), .ref m1, .ref m2, .ref m3, .ref m4, .ref m5, .int (nI pl), .ref pg, .int (nI kk), .int z5, .ref m6, .ref m7, .ref m8, .long sd, .int ik, .int kh, .int (nI km), .int ka, .int ks, .int kac, .ref m9, .ref m10, .ref m11, .ref m12, .long hv])), (pg, .inl (cB, 24, .inl f1))] t.heap ∧ va_D (va_A [(h0, .inr (7, [.int ih, .int hn, .int fl, .int da, .int ds, .int ac, .int (nI kc), .ref m1, .ref m2, .ref m3, .ref m4, .ref m5, .int (nI pl), .ref pg, .int fa, .int nf, .ref m6, .ref m7, .ref m8, .long sd, .int ik, .int kh, .int (nI km), .int ka, .int ks, .int kac, .ref m9, .ref m10, .ref m11, .ref m12, .long hv])), (pg, .inl (cB, 24, .inl f1))] sz) [(h0, .inr (7, [.int ih, .int hn, .int fl, .int da, .int ds, .int ac, .int (nI kc), .ref m1, .ref m2, .ref m3, .ref m4, .ref m5, .int (nI pl), .ref pg, .int (nI kk), .int z5, .ref m6, .ref m7, .ref m8, .long sd, .int ik, .int kh, .int (nI km), .int ka, .int ks, .int kac, .ref m9, .ref m10, .ref m11, .ref m12, .long hv])), (pg, .inl (cB, 24, .inl f1))]) (va_A [(h0, .inr (7, [.int ih, .int hn, .int fl, .int da, .int ds, .int ac, .int (nI kc), .ref m1, .ref m2, .ref m3, .ref m4, .ref m5, .int (nI pl), .ref pg, .int fa, .int nf, .ref m6, .ref m7, .ref m8, .long sd, .int ik, .int kh, .int (nI km), .int ka, .int ks, .int kac, .ref m9, .ref m10, .ref m11, .ref m12, .long hv])), (pg, .inl (cB, 24, .inl f1))] sz)) 0 0 (va_A [(h0, .inr (7, [.int ih, .int hn, .int fl, .int da, .int ds, .int ac, .int (nI kc), .ref m1, .ref m2, .ref m3, .ref m4, .ref m5, .int (nI pl), .ref pg, .int fa, .int nf, .ref m6, .ref m7, .ref m8, .long sd, .int ik, .int kh, .int (nI km), .int ka, .int ks, .int kac, .ref m9, .ref m10, .ref m11, .ref m12, .long hv])), (pg, .inl (cB, 24, .inl f1))] sz) := by
  refine cz_of (cc := cX7_fault) (maxL := 1) (ret := (some .int)) (by decide) rfl ?_
  intro p e s m args below meth c s₁ Q B hml hv hQ
  obtain ⟨rfl, hsz, hP, hN, hD0⟩ := hv
  have hx := B.exec
  have hb := B.bytes
  have hr := B.returns
  have hts := atoms_spec (ws := wsX7_fault) B.pre
  have hown : s.vm.findClass RX7 = some m.cls := findClass_of_methodNamed B.named
  have hlocks := B.notSynchronized
  have hK := hN.1
  have hiX7 : ∀ w ∈ wsX70, w ∈ wsX7_fault := (fun _ h => List.mem_cons_of_mem _ (List.mem_append_right _ h))
  subst hsz
  have hD := hD0.self (sz := s.heap.size)
  generalize hAe : va_A [(h0, .inr (7, [.int ih, .int hn, .int fl, .int da, .int ds, .int ac, .int (nI kc), .ref m1, .ref m2, .ref m3, .ref m4, .ref m5, .int (nI pl), .ref pg, .int fa, .int nf, .ref m6, .ref m7, .ref m8, .long sd, .int ik, .int kh, .int (nI km), .int ka, .int ks, .int kac, .ref m9, .ref m10, .ref m11, .ref m12, .long hv])), (pg, .inl (cB, 24, .inl f1))] s.heap.size = A at hD hQ ⊢
  have hA : ∀ q : Nat, s.heap.size ≤ q → A q := fun q h => by rw [← hAe]; exact Or.inr h
  have hS : va_S A s.heap s.heap [] := va_S.rf
  obtain ⟨H, eH⟩ : ∃ H, H = s.heap := ⟨_, rfl⟩
  have hP : va_P (dC, dI) vwCl [(h0, .inr (7, [.int ih, .int hn, .int fl, .int da, .int ds, .int ac, .int (nI kc), .ref m1, .ref m2, .ref m3, .ref m4, .ref m5, .int (nI pl), .ref pg, .int fa, .int nf, .ref m6, .ref m7, .ref m8, .long sd, .int ik, .int kh, .int (nI km), .int ka, .int ks, .int kac, .ref m9, .ref m10, .ref m11, .ref m12, .long hv])), (pg, .inl (cB, 24, .inl f1))] s.heap := hP
  have hl := lv_entry ([.ref h0]) (n := 1) (Nat.le_of_ble_eq_true rfl)
  rw [lg_entry_eq]
  generalize (lg_sl ([.ref h0]) ++ List.replicate (1 - (lg_sl ([.ref h0])).length) Slot.unset).toArray = ls at hl ⊢
  have hl : lv_has ls 1 [(0, .ref h0)] := hl
  refine lv_aload_n hx hb dX7_fault_0 rfl (lv_at hl 0 rfl) ?_
  have hPc := hP.sub (ws' := [(h0, .inr (7, [.int ih, .int hn, .int fl, .int da, .int ds, .int ac, .int (nI kc), .ref m1, .ref m2, .ref m3, .ref m4, .ref m5, .int (nI pl), .ref pg, .int fa, .int nf, .ref m6, .ref m7, .ref m8, .long sd, .int ik, .int kh, .int (nI km), .int ka, .int ks, .int kac, .ref m9, .ref m10, .ref m11, .ref m12, .long hv])), (pg, .inl (cB, 24, .inl f1))]) [0, 1] rfl
  have hDc := hD.sub (ws' := [(h0, .inr (7, [.int ih, .int hn, .int fl, .int da, .int ds, .int ac, .int (nI kc), .ref m1, .ref m2, .ref m3, .ref m4, .ref m5, .int (nI pl), .ref pg, .int fa, .int nf, .ref m6, .ref m7, .ref m8, .long sd, .int ik, .int kh, .int (nI km), .int ka, .int ks, .int kac, .ref m9, .ref m10, .ref m11, .ref m12, .long hv])), (pg, .inl (cB, 24, .inl f1))]) [0, 1] (by decide) rfl
  have hFc := va_free (wc := [(h0, .inr (7, [.int ih, .int hn, .int fl, .int da, .int ds, .int ac, .int (nI kc), .ref m1, .ref m2, .ref m3, .ref m4, .ref m5, .int (nI pl), .ref pg, .int fa, .int nf, .ref m6, .ref m7, .ref m8, .long sd, .int ik, .int kh, .int (nI km), .int ka, .int ks, .int kac, .ref m9, .ref m10, .ref m11, .ref m12, .long hv])), (pg, .inl (cB, 24, .inl f1))]) hD hS hA [0, 1] rfl
  refine va_callv (va_runV (As := []) (rest := []) ⟨hx, hb, hml, hown, hts⟩ (c_X7_readHall l dC dI cI cB h0 ih hn fl da ds ac kc m1 m2 m3 m4 m5 pl pg fa nf m6 m7 m8 sd ik kh km ka ks kac m9 m10 m11 m12 hv f1 s.heap.size hpl24) (cwV 0 hts gX7_fault_X7_readHall rfl rfl rfl (by decide +kernel) ⟨Nat.le_of_ble_eq_true rfl, Nat.le_of_ble_eq_true rfl⟩) (cz_mV hPc hN hDc (va_recv hK hPc (ci := 7) (q0 := 0) rfl rfl)) rfl rfl hl.1 rfl (lv_room (Nat.le_of_ble_eq_true rfl)) dX7_fault_1 ⟨Nat.le_of_ble_eq_true rfl, Nat.le_of_ble_eq_true rfl⟩) hS (fun q _ h => hFc q h) hFc (fun u t H1 locs ht hvm hr_1 hB hz1 hk1 hS => ?_)
  obtain ⟨q_2, f_3, hr_1_k, hr_1_f, hr_1_n, hr_1_z, hP1, hD1⟩ := hB
  rw [ht] at hP1
  obtain ⟨hP, hD⟩ := va_join (wr := []) (w1 := [(h0, .inr (7, [.int ih, .int hn, .int fl, .int da, .int ds, .int ac, .int (nI kc), .ref m1, .ref m2, .ref m3, .ref m4, .ref m5, .int (nI pl), .ref pg, .int (nI q_2), .int f_3, .ref m6, .ref m7, .ref m8, .long sd, .int ik, .int kh, .int (nI km), .int ka, .int ks, .int kac, .ref m9, .ref m10, .ref m11, .ref m12, .long hv])), (pg, .inl (cB, 24, .inl f1))]) hP hD [0, 1] [] rfl rfl (by decide) (by decide) hk1 hFc hP1 hD1
  generalize H1 = H at hP hS ⊢
  have hP : va_P (dC, dI) vwCl [(h0, .inr (7, [.int ih, .int hn, .int fl, .int da, .int ds, .int ac, .int (nI kc), .ref m1, .ref m2, .ref m3, .ref m4, .ref m5, .int (nI pl), .ref pg, .int (nI q_2), .int f_3, .ref m6, .ref m7, .ref m8, .long sd, .int ik, .int kh, .int (nI km), .int ka, .int ks, .int kac, .ref m9, .ref m10, .ref m11, .ref m12, .long hv])), (pg, .inl (cB, 24, .inl f1))] H := hP
  have hD : va_D A [(h0, .inr (7, [.int ih, .int hn, .int fl, .int da, .int ds, .int ac, .int (nI kc), .ref m1, .ref m2, .ref m3, .ref m4, .ref m5, .int (nI pl), .ref pg, .int (nI q_2), .int f_3, .ref m6, .ref m7, .ref m8, .long sd, .int ik, .int kh, .int (nI km), .int ka, .int ks, .int kac, .ref m9, .ref m10, .ref m11, .ref m12, .long hv])), (pg, .inl (cB, 24, .inl f1))] := hD
  refine lv_aload_n hx hb dX7_fault_4 rfl (lv_at hl 0 rfl) ?_
  refine va_get (D := (dC, dI)) (ci := 7) (v := .int (nI q_2)) (C := RX7) (T := TX7) (N := 31) hx hb hts hiX7 hown hK hP 0 rfl rfl 14 (by decide) (hts (.fieldLink RX7 67 "LeftProfileModel" "faultAt" "I") (List.mem_of_getElem? (i := 1) rfl)) (fun _ h9 => h9) rfl dX7_fault_5 ?_
  refine W.widen (k := 0) (n := 0) (Nat.le_of_ble_eq_true rfl) (Nat.le_of_ble_eq_true rfl) ?_
  have hP9 := hP.sub (ws' := [(h0, .inr (7, [.int ih, .int hn, .int fl, .int da, .int ds, .int ac, .int (nI kc), .ref m1, .ref m2, .ref m3, .ref m4, .ref m5, .int (nI pl), .ref pg, .int (nI q_2), .int f_3, .ref m6, .ref m7, .ref m8, .long sd, .int ik, .int kh, .int (nI km), .int ka, .int ks, .int kac, .ref m9, .ref m10, .ref m11, .ref m12, .long hv])), (pg, .inl (cB, 24, .inl f1))]) [0, 1] rfl
  have hD9 := hD.sub (ws' := [(h0, .inr (7, [.int ih, .int hn, .int fl, .int da, .int ds, .int ac, .int (nI kc), .ref m1, .ref m2, .ref m3, .ref m4, .ref m5, .int (nI pl), .ref pg, .int (nI q_2), .int f_3, .ref m6, .ref m7, .ref m8, .long sd, .int ik, .int kh, .int (nI km), .int ka, .int ks, .int kac, .ref m9, .ref m10, .ref m11, .ref m12, .long hv])), (pg, .inl (cB, 24, .inl f1))]) [0, 1] (by decide) rfl
  rw [hQ]; exact W.iret (v := (nI q_2)) hx hb hr (fun t ht hW => ⟨⟨(nI q_2), q_2, rfl, rfl, ⟨f_3, hr_1_k, hr_1_f, hr_1_n, by rw [ht]; exact hP9, hD9⟩⟩, hS.F ht⟩) hS.2.2 dX7_fault_8

set_option maxHeartbeats 4000000 in
set_option maxRecDepth 100000 in
theorem c_X7_hall (l : Launch) (dC : Nat → ClassId) (dI : Nat → Nat → Nat) (cI cB : ClassId) (h0 : Nat) (ih : Int32) (hn : Int32) (fl : Int32) (da : Int32) (ds : Int32) (ac : Int32) (kc : Nat) (m1 : Nat) (m2 : Nat) (m3 : Nat) (m4 : Nat) (m5 : Nat) (pl : Nat) (pg : Nat) (fa : Int32) (nf : Int32) (m6 : Nat) (m7 : Nat) (m8 : Nat) (sd : Int64) (ik : Int32) (kh : Int32) (km : Nat) (ka : Int32) (ks : Int32) (kac : Int32) (m9 : Nat) (m10 : Nat) (m11 : Nat) (m12 : Nat) (hv : Int64) (f1 : Nat → Int32) (sz : Nat) (hpl24 : pl ≤ 24) (hkc : kc ≤ 6) (hdu : cz_du da ds) : Met l yX7_hall wsX7_hall ({ frames := 1, cells := 0, slots := 0, locals := 23 }) (cz_Pm dC dI cI cB [.ref h0] [(h0, .inr (7, [.int ih, .int hn, .int fl, .int da, .int ds, .int ac, .int (nI kc), .ref m1, .ref m2, .ref m3, .ref m4, .ref m5, .int (nI pl), .ref pg, .int fa, .int nf, .ref m6, .ref m7, .ref m8, .long sd, .int ik, .int kh, .int (nI km), .int ka, .int ks, .int kac, .ref m9, .ref m10, .ref m11, .ref m12, .long hv])), (pg, .inl (cB, 24, .inl f1))] sz) (va_Qi (fun (r : Int32) (_ : Unit) => ((pl = 23 ∧ cz_fits f1 23) ∧ r = cz_sz (cz_fw f1 23) 20) ∨ (¬ (pl = 23 ∧ cz_fits f1 23) ∧ r = -103)) (fun _ t => ∃ (z0 : Int32) (z1 : Int32) (z2 : Int32) (z3 : Int32) (z4 : Int32) (z5 : Int32) (z6 : Int32) (z7 : Int32) (kk2 : Nat) (nn : Nat), (kk2 ≤ 6) ∧ (cz_du z3 z4) ∧ ((nn = pl ∧ ¬ (pl = 23 ∧ cz_fits f1 23)) ∨ (nn = 0 ∧ (pl = 23 ∧ cz_fits f1 23))) ∧ va_P (dC, dI) vwCl [(h0, .inr (7, [.int z0, .int z1, .int z2, .int z3, .int z4, .int z6, .int (nI kk2), .ref m1, .ref m2, .ref m3, .ref m4, .ref m5, .int (nI nn), .ref pg, .int z7, .int z5, .ref m6, .ref m7, .ref m8, .long sd, .int ik, .int kh, .int (nI km), .int ka, .int ks, .int kac, .ref m9, .ref m10, .ref m11, .ref m12, .long hv])), (pg, .inl (cB, 24, .inl f1))] t.heap ∧ va_D (va_A [(h0, .inr (7, [.int ih, .int hn, .int fl, .int da, .int ds, .int ac, .int (nI kc), .ref m1, .ref m2, .ref m3, .ref m4, .ref m5, .int (nI pl), .ref pg, .int fa, .int nf, .ref m6, .ref m7, .ref m8, .long sd, .int ik, .int kh, .int (nI km), .int ka, .int ks, .int kac, .ref m9, .ref m10, .ref m11, .ref m12, .long hv])), (pg, .inl (cB, 24, .inl f1))] sz) [(h0, .inr (7, [.int z0, .int z1, .int z2, .int z3, .int z4, .int z6, .int (nI kk2), .ref m1, .ref m2, .ref m3, .ref m4, .ref m5, .int (nI nn), .ref pg, .int z7, .int z5, .ref m6, .ref m7, .ref m8, .long sd, .int ik, .int kh, .int (nI km), .int ka, .int ks, .int kac, .ref m9, .ref m10, .ref m11, .ref m12, .long hv])), (pg, .inl (cB, 24, .inl f1))]) (va_A [(h0, .inr (7, [.int ih, .int hn, .int fl, .int da, .int ds, .int ac, .int (nI kc), .ref m1, .ref m2, .ref m3, .ref m4, .ref m5, .int (nI pl), .ref pg, .int fa, .int nf, .ref m6, .ref m7, .ref m8, .long sd, .int ik, .int kh, .int (nI km), .int ka, .int ks, .int kac, .ref m9, .ref m10, .ref m11, .ref m12, .long hv])), (pg, .inl (cB, 24, .inl f1))] sz)) 0 0 (va_A [(h0, .inr (7, [.int ih, .int hn, .int fl, .int da, .int ds, .int ac, .int (nI kc), .ref m1, .ref m2, .ref m3, .ref m4, .ref m5, .int (nI pl), .ref pg, .int fa, .int nf, .ref m6, .ref m7, .ref m8, .long sd, .int ik, .int kh, .int (nI km), .int ka, .int ks, .int kac, .ref m9, .ref m10, .ref m11, .ref m12, .long hv])), (pg, .inl (cB, 24, .inl f1))] sz) := by
  refine cz_of (cc := cX7_hall) (maxL := 1) (ret := (some .int)) (by decide) rfl ?_
  intro p e s m args below meth c s₁ Q B hml hv hQ
  obtain ⟨rfl, hsz, hP, hN, hD0⟩ := hv
  have hx := B.exec
  have hb := B.bytes
  have hr := B.returns
  have hts := atoms_spec (ws := wsX7_hall) B.pre
  have hown : s.vm.findClass RX7 = some m.cls := findClass_of_methodNamed B.named
  have hlocks := B.notSynchronized
  have hK := hN.1
  have hiX7 : ∀ w ∈ wsX70, w ∈ wsX7_hall := (fun _ h => List.mem_cons_of_mem _ (List.mem_append_right _ h))
  subst hsz
  have hD := hD0.self (sz := s.heap.size)
  generalize hAe : va_A [(h0, .inr (7, [.int ih, .int hn, .int fl, .int da, .int ds, .int ac, .int (nI kc), .ref m1, .ref m2, .ref m3, .ref m4, .ref m5, .int (nI pl), .ref pg, .int fa, .int nf, .ref m6, .ref m7, .ref m8, .long sd, .int ik, .int kh, .int (nI km), .int ka, .int ks, .int kac, .ref m9, .ref m10, .ref m11, .ref m12, .long hv])), (pg, .inl (cB, 24, .inl f1))] s.heap.size = A at hD hQ ⊢
  have hA : ∀ q : Nat, s.heap.size ≤ q → A q := fun q h => by rw [← hAe]; exact Or.inr h
  have hS : va_S A s.heap s.heap [] := va_S.rf
  obtain ⟨H, eH⟩ : ∃ H, H = s.heap := ⟨_, rfl⟩
  have hP : va_P (dC, dI) vwCl [(h0, .inr (7, [.int ih, .int hn, .int fl, .int da, .int ds, .int ac, .int (nI kc), .ref m1, .ref m2, .ref m3, .ref m4, .ref m5, .int (nI pl), .ref pg, .int fa, .int nf, .ref m6, .ref m7, .ref m8, .long sd, .int ik, .int kh, .int (nI km), .int ka, .int ks, .int kac, .ref m9, .ref m10, .ref m11, .ref m12, .long hv])), (pg, .inl (cB, 24, .inl f1))] s.heap := hP
  have hl := lv_entry ([.ref h0]) (n := 1) (Nat.le_of_ble_eq_true rfl)
  rw [lg_entry_eq]
  generalize (lg_sl ([.ref h0]) ++ List.replicate (1 - (lg_sl ([.ref h0])).length) Slot.unset).toArray = ls at hl ⊢
  have hl : lv_has ls 1 [(0, .ref h0)] := hl
  refine lv_aload_n hx hb dX7_hall_0 rfl (lv_at hl 0 rfl) ?_
  have hPc := hP.sub (ws' := [(h0, .inr (7, [.int ih, .int hn, .int fl, .int da, .int ds, .int ac, .int (nI kc), .ref m1, .ref m2, .ref m3, .ref m4, .ref m5, .int (nI pl), .ref pg, .int fa, .int nf, .ref m6, .ref m7, .ref m8, .long sd, .int ik, .int kh, .int (nI km), .int ka, .int ks, .int kac, .ref m9, .ref m10, .ref m11, .ref m12, .long hv])), (pg, .inl (cB, 24, .inl f1))]) [0, 1] rfl
  have hDc := hD.sub (ws' := [(h0, .inr (7, [.int ih, .int hn, .int fl, .int da, .int ds, .int ac, .int (nI kc), .ref m1, .ref m2, .ref m3, .ref m4, .ref m5, .int (nI pl), .ref pg, .int fa, .int nf, .ref m6, .ref m7, .ref m8, .long sd, .int ik, .int kh, .int (nI km), .int ka, .int ks, .int kac, .ref m9, .ref m10, .ref m11, .ref m12, .long hv])), (pg, .inl (cB, 24, .inl f1))]) [0, 1] (by decide) rfl
  have hFc := va_free (wc := [(h0, .inr (7, [.int ih, .int hn, .int fl, .int da, .int ds, .int ac, .int (nI kc), .ref m1, .ref m2, .ref m3, .ref m4, .ref m5, .int (nI pl), .ref pg, .int fa, .int nf, .ref m6, .ref m7, .ref m8, .long sd, .int ik, .int kh, .int (nI km), .int ka, .int ks, .int kac, .ref m9, .ref m10, .ref m11, .ref m12, .long hv])), (pg, .inl (cB, 24, .inl f1))]) hD hS hA [0, 1] rfl
  refine va_callv (va_runV (As := []) (rest := []) ⟨hx, hb, hml, hown, hts⟩ (c_X7_readHall l dC dI cI cB h0 ih hn fl da ds ac kc m1 m2 m3 m4 m5 pl pg fa nf m6 m7 m8 sd ik kh km ka ks kac m9 m10 m11 m12 hv f1 s.heap.size hpl24) (cwV 0 hts gX7_hall_X7_readHall rfl rfl rfl (by decide +kernel) ⟨Nat.le_of_ble_eq_true rfl, Nat.le_of_ble_eq_true rfl⟩) (cz_mV hPc hN hDc (va_recv hK hPc (ci := 7) (q0 := 0) rfl rfl)) rfl rfl hl.1 rfl (lv_room (Nat.le_of_ble_eq_true rfl)) dX7_hall_1 ⟨Nat.le_of_ble_eq_true rfl, Nat.le_of_ble_eq_true rfl⟩) hS (fun q _ h => hFc q h) hFc (fun u t H1 locs ht hvm hr_1 hB hz1 hk1 hS => ?_)
  obtain ⟨q_2, f_3, hr_1_k, hr_1_f, hr_1_n, hr_1_z, hP1, hD1⟩ := hB
  rw [ht] at hP1
  obtain ⟨hP, hD⟩ := va_join (wr := []) (w1 := [(h0, .inr (7, [.int ih, .int hn, .int fl, .int da, .int ds, .int ac, .int (nI kc), .ref m1, .ref m2, .ref m3, .ref m4, .ref m5, .int (nI pl), .ref pg, .int (nI q_2), .int f_3, .ref m6, .ref m7, .ref m8, .long sd, .int ik, .int kh, .int (nI km), .int ka, .int ks, .int kac, .ref m9, .ref m10, .ref m11, .ref m12, .long hv])), (pg, .inl (cB, 24, .inl f1))]) hP hD [0, 1] [] rfl rfl (by decide) (by decide) hk1 hFc hP1 hD1
  generalize H1 = H at hP hS ⊢
  have hP : va_P (dC, dI) vwCl [(h0, .inr (7, [.int ih, .int hn, .int fl, .int da, .int ds, .int ac, .int (nI kc), .ref m1, .ref m2, .ref m3, .ref m4, .ref m5, .int (nI pl), .ref pg, .int (nI q_2), .int f_3, .ref m6, .ref m7, .ref m8, .long sd, .int ik, .int kh, .int (nI km), .int ka, .int ks, .int kac, .ref m9, .ref m10, .ref m11, .ref m12, .long hv])), (pg, .inl (cB, 24, .inl f1))] H := hP
  have hD : va_D A [(h0, .inr (7, [.int ih, .int hn, .int fl, .int da, .int ds, .int ac, .int (nI kc), .ref m1, .ref m2, .ref m3, .ref m4, .ref m5, .int (nI pl), .ref pg, .int (nI q_2), .int f_3, .ref m6, .ref m7, .ref m8, .long sd, .int ik, .int kh, .int (nI km), .int ka, .int ks, .int kac, .ref m9, .ref m10, .ref m11, .ref m12, .long hv])), (pg, .inl (cB, 24, .inl f1))] := hD
  refine lv_aload_n hx hb dX7_hall_4 rfl (lv_at hl 0 rfl) ?_
  refine va_get (D := (dC, dI)) (ci := 7) (v := .int (nI q_2)) (C := RX7) (T := TX7) (N := 31) hx hb hts hiX7 hown hK hP 0 rfl rfl 14 (by decide) (hts (.fieldLink RX7 67 "LeftProfileModel" "faultAt" "I") (List.mem_of_getElem? (i := 1) rfl)) (fun _ h9 => h9) rfl dX7_hall_5 ?_
  refine lv_aload_n hx hb dX7_hall_8 rfl (lv_at hl 0 rfl) ?_
  refine va_get (D := (dC, dI)) (ci := 7) (v := .int (nI pl)) (C := RX7) (T := TX7) (N := 31) hx hb hts hiX7 hown hK hP 0 rfl rfl 12 (by decide) (hts (.fieldLink RX7 61 "LeftProfileModel" "pageLength" "I") (List.mem_of_getElem? (i := 2) rfl)) (fun _ h9 => h9) rfl dX7_hall_9 ?_
  refine lv_icmp_ne (tgt := 24) hx hb dX7_hall_12 (by decide) (fun c_4 => ?_) (fun c_4 => ?_)
  · have c_4 : ¬ q_2 = pl := fun h => c_4 ((nI_eq (a := q_2) (b := pl) (by omega) (by omega)).mpr h)
    refine lv_bipush (v := (-103)) hx hb dX7_hall_24 (by decide) ?_
    refine W.widen (k := 0) (n := 0) (Nat.le_of_ble_eq_true rfl) (Nat.le_of_ble_eq_true rfl) ?_
    have hP9 := hP.sub (ws' := [(h0, .inr (7, [.int ih, .int hn, .int fl, .int da, .int ds, .int ac, .int (nI kc), .ref m1, .ref m2, .ref m3, .ref m4, .ref m5, .int (nI pl), .ref pg, .int (nI q_2), .int f_3, .ref m6, .ref m7, .ref m8, .long sd, .int ik, .int kh, .int (nI km), .int ka, .int ks, .int kac, .ref m9, .ref m10, .ref m11, .ref m12, .long hv])), (pg, .inl (cB, 24, .inl f1))]) [0, 1] rfl
    have hD9 := hD.sub (ws' := [(h0, .inr (7, [.int ih, .int hn, .int fl, .int da, .int ds, .int ac, .int (nI kc), .ref m1, .ref m2, .ref m3, .ref m4, .ref m5, .int (nI pl), .ref pg, .int (nI q_2), .int f_3, .ref m6, .ref m7, .ref m8, .long sd, .int ik, .int kh, .int (nI km), .int ka, .int ks, .int kac, .ref m9, .ref m10, .ref m11, .ref m12, .long hv])), (pg, .inl (cB, 24, .inl f1))]) [0, 1] (by decide) rfl
    rw [hQ]; exact W.iret (v := (-103)) hx hb hr (fun t ht hW => ⟨⟨(-103), (), rfl, (Or.inr ⟨fun h => (by rcases hr_1_n with q | q; omega; exact q (h.2 q_2 (by omega))), rfl⟩), ⟨ih, hn, fl, da, ds, f_3, ac, (nI q_2), kc, pl, hkc, hdu, (Or.inl ⟨rfl, fun h => by rcases hr_1_n with q | q; omega; exact q (h.2 q_2 (by omega))⟩), by rw [ht]; exact hP9, hD9⟩⟩, hS.F ht⟩) hS.2.2 dX7_hall_26
  · have c_4 : q_2 = pl := (nI_eq (a := q_2) (b := pl) (by omega) (by omega)).mp c_4
    refine lv_aload_n hx hb dX7_hall_15 rfl (lv_at hl 0 rfl) ?_
    refine va_get (D := (dC, dI)) (ci := 7) (v := .int (nI pl)) (C := RX7) (T := TX7) (N := 31) hx hb hts hiX7 hown hK hP 0 rfl rfl 12 (by decide) (hts (.fieldLink RX7 61 "LeftProfileModel" "pageLength" "I") (List.mem_of_getElem? (i := 2) rfl)) (fun _ h9 => h9) rfl dX7_hall_16 ?_
    refine lv_bipush (v := 23) hx hb dX7_hall_19 (by decide) ?_
    refine lv_icmp_eq (tgt := 27) hx hb dX7_hall_21 (by decide) (fun c_5 => ?_) (fun c_5 => ?_)
    · have c_5 : pl = 23 := (nI_eq (a := pl) (b := 23) (by omega) (by omega)).mp c_5
      refine lv_aload_n hx hb dX7_hall_27 rfl (lv_at hl 0 rfl) ?_
      refine lv_aload_n hx hb dX7_hall_28 rfl (lv_at hl 0 rfl) ?_
      refine va_get (D := (dC, dI)) (ci := 7) (v := .int f_3) (C := RX7) (T := TX7) (N := 31) hx hb hts hiX7 hown hK hP 0 rfl rfl 15 (by decide) (hts (.fieldLink RX7 64 "LeftProfileModel" "newFloor" "I") (List.mem_of_getElem? (i := 3) rfl)) (fun _ h9 => h9) rfl dX7_hall_29 ?_
      refine va_put (D := (dC, dI)) (ci := 7) (v := .int f_3) (ty := .int) (C := RX7) (T := TX7) (N := 31) hx hb hts hiX7 tyX7 tyX7_ok nmX7 hown hK hP hD hS 0 rfl rfl 2 (by decide) (hts (.fieldLink RX7 73 "LeftProfileModel" "floor" "I") (List.mem_of_getElem? (i := 4) rfl)) (fun _ h9 => h9) rfl (by decide +kernel) rfl rfl (Nat.le_of_ble_eq_true rfl) dX7_hall_32 (fun H locs hP hD hS => ?_)
      have hP : va_P (dC, dI) vwCl [(h0, .inr (7, [.int ih, .int hn, .int f_3, .int da, .int ds, .int ac, .int (nI kc), .ref m1, .ref m2, .ref m3, .ref m4, .ref m5, .int (nI pl), .ref pg, .int (nI q_2), .int f_3, .ref m6, .ref m7, .ref m8, .long sd, .int ik, .int kh, .int (nI km), .int ka, .int ks, .int kac, .ref m9, .ref m10, .ref m11, .ref m12, .long hv])), (pg, .inl (cB, 24, .inl f1))] H := hP
      have hD : va_D A [(h0, .inr (7, [.int ih, .int hn, .int f_3, .int da, .int ds, .int ac, .int (nI kc), .ref m1, .ref m2, .ref m3, .ref m4, .ref m5, .int (nI pl), .ref pg, .int (nI q_2), .int f_3, .ref m6, .ref m7, .ref m8, .long sd, .int ik, .int kh, .int (nI km), .int ka, .int ks, .int kac, .ref m9, .ref m10, .ref m11, .ref m12, .long hv])), (pg, .inl (cB, 24, .inl f1))] := hD
      refine lv_aload_n hx hb dX7_hall_35 rfl (lv_at hl 0 rfl) ?_
      refine lv_iconst (v := 1) hx hb dX7_hall_36 (by decide) ?_
      refine va_put (D := (dC, dI)) (ci := 7) (v := .int 1) (ty := .boolean) (C := RX7) (T := TX7) (N := 31) hx hb hts hiX7 tyX7 tyX7_ok nmX7 hown hK hP hD hS 0 rfl rfl 0 (by decide) (hts (.fieldLink RX7 76 "LeftProfileModel" "isHall" "Z") (List.mem_of_getElem? (i := 5) rfl)) (fun _ h9 => h9) rfl (by decide +kernel) (by decide) (by decide) (Nat.le_of_ble_eq_true rfl) dX7_hall_37 (fun H locs hP hD hS => ?_)
      have hP : va_P (dC, dI) vwCl [(h0, .inr (7, [.int 1, .int hn, .int f_3, .int da, .int ds, .int ac, .int (nI kc), .ref m1, .ref m2, .ref m3, .ref m4, .ref m5, .int (nI pl), .ref pg, .int (nI q_2), .int f_3, .ref m6, .ref m7, .ref m8, .long sd, .int ik, .int kh, .int (nI km), .int ka, .int ks, .int kac, .ref m9, .ref m10, .ref m11, .ref m12, .long hv])), (pg, .inl (cB, 24, .inl f1))] H := hP
      have hD : va_D A [(h0, .inr (7, [.int 1, .int hn, .int f_3, .int da, .int ds, .int ac, .int (nI kc), .ref m1, .ref m2, .ref m3, .ref m4, .ref m5, .int (nI pl), .ref pg, .int (nI q_2), .int f_3, .ref m6, .ref m7, .ref m8, .long sd, .int ik, .int kh, .int (nI km), .int ka, .int ks, .int kac, .ref m9, .ref m10, .ref m11, .ref m12, .long hv])), (pg, .inl (cB, 24, .inl f1))] := hD
      refine lv_aload_n hx hb dX7_hall_40 rfl (lv_at hl 0 rfl) ?_
      refine lv_dup hx hb dX7_hall_41 rfl ?_
      refine va_get (D := (dC, dI)) (ci := 7) (v := .int hn) (C := RX7) (T := TX7) (N := 31) hx hb hts hiX7 hown hK hP 0 rfl rfl 1 (by decide) (hts (.fieldLink RX7 80 "LeftProfileModel" "halls" "I") (List.mem_of_getElem? (i := 6) rfl)) (fun _ h9 => h9) rfl dX7_hall_42 ?_
      refine lv_iconst (v := 1) hx hb dX7_hall_45 (by decide) ?_
      refine lv_iadd hx hb dX7_hall_46 ?_
      refine lv_topi (fun x_6 ex_6 => ?_)
      refine va_put (D := (dC, dI)) (ci := 7) (v := .int x_6) (ty := .int) (C := RX7) (T := TX7) (N := 31) hx hb hts hiX7 tyX7 tyX7_ok nmX7 hown hK hP hD hS 0 rfl rfl 1 (by decide) (hts (.fieldLink RX7 80 "LeftProfileModel" "halls" "I") (List.mem_of_getElem? (i := 6) rfl)) (fun _ h9 => h9) rfl (by decide +kernel) rfl rfl (Nat.le_of_ble_eq_true rfl) dX7_hall_47 (fun H locs hP hD hS => ?_)
      have hP : va_P (dC, dI) vwCl [(h0, .inr (7, [.int 1, .int x_6, .int f_3, .int da, .int ds, .int ac, .int (nI kc), .ref m1, .ref m2, .ref m3, .ref m4, .ref m5, .int (nI pl), .ref pg, .int (nI q_2), .int f_3, .ref m6, .ref m7, .ref m8, .long sd, .int ik, .int kh, .int (nI km), .int ka, .int ks, .int kac, .ref m9, .ref m10, .ref m11, .ref m12, .long hv])), (pg, .inl (cB, 24, .inl f1))] H := hP
      have hD : va_D A [(h0, .inr (7, [.int 1, .int x_6, .int f_3, .int da, .int ds, .int ac, .int (nI kc), .ref m1, .ref m2, .ref m3, .ref m4, .ref m5, .int (nI pl), .ref pg, .int (nI q_2), .int f_3, .ref m6, .ref m7, .ref m8, .long sd, .int ik, .int kh, .int (nI km), .int ka, .int ks, .int kac, .ref m9, .ref m10, .ref m11, .ref m12, .long hv])), (pg, .inl (cB, 24, .inl f1))] := hD
      refine lv_aload_n hx hb dX7_hall_50 rfl (lv_at hl 0 rfl) ?_
      refine lv_iconst (v := (-1)) hx hb dX7_hall_51 (by decide) ?_
      refine va_put (D := (dC, dI)) (ci := 7) (v := .int (-1)) (ty := .int) (C := RX7) (T := TX7) (N := 31) hx hb hts hiX7 tyX7 tyX7_ok nmX7 hown hK hP hD hS 0 rfl rfl 3 (by decide) (hts (.fieldLink RX7 7 "LeftProfileModel" "dukeAt" "I") (List.mem_of_getElem? (i := 7) rfl)) (fun _ h9 => h9) rfl (by decide +kernel) rfl rfl (Nat.le_of_ble_eq_true rfl) dX7_hall_52 (fun H locs hP hD hS => ?_)
      have hP : va_P (dC, dI) vwCl [(h0, .inr (7, [.int 1, .int x_6, .int f_3, .int (-1), .int ds, .int ac, .int (nI kc), .ref m1, .ref m2, .ref m3, .ref m4, .ref m5, .int (nI pl), .ref pg, .int (nI q_2), .int f_3, .ref m6, .ref m7, .ref m8, .long sd, .int ik, .int kh, .int (nI km), .int ka, .int ks, .int kac, .ref m9, .ref m10, .ref m11, .ref m12, .long hv])), (pg, .inl (cB, 24, .inl f1))] H := hP
      have hD : va_D A [(h0, .inr (7, [.int 1, .int x_6, .int f_3, .int (-1), .int ds, .int ac, .int (nI kc), .ref m1, .ref m2, .ref m3, .ref m4, .ref m5, .int (nI pl), .ref pg, .int (nI q_2), .int f_3, .ref m6, .ref m7, .ref m8, .long sd, .int ik, .int kh, .int (nI km), .int ka, .int ks, .int kac, .ref m9, .ref m10, .ref m11, .ref m12, .long hv])), (pg, .inl (cB, 24, .inl f1))] := hD
      refine lv_aload_n hx hb dX7_hall_55 rfl (lv_at hl 0 rfl) ?_
      refine lv_iconst (v := (-1)) hx hb dX7_hall_56 (by decide) ?_
      refine va_put (D := (dC, dI)) (ci := 7) (v := .int (-1)) (ty := .int) (C := RX7) (T := TX7) (N := 31) hx hb hts hiX7 tyX7 tyX7_ok nmX7 hown hK hP hD hS 0 rfl rfl 4 (by decide) (hts (.fieldLink RX7 13 "LeftProfileModel" "dukeSide" "I") (List.mem_of_getElem? (i := 8) rfl)) (fun _ h9 => h9) rfl (by decide +kernel) rfl rfl (Nat.le_of_ble_eq_true rfl) dX7_hall_57 (fun H locs hP hD hS => ?_)
      have hP : va_P (dC, dI) vwCl [(h0, .inr (7, [.int 1, .int x_6, .int f_3, .int (-1), .int (-1), .int ac, .int (nI kc), .ref m1, .ref m2, .ref m3, .ref m4, .ref m5, .int (nI pl), .ref pg, .int (nI q_2), .int f_3, .ref m6, .ref m7, .ref m8, .long sd, .int ik, .int kh, .int (nI km), .int ka, .int ks, .int kac, .ref m9, .ref m10, .ref m11, .ref m12, .long hv])), (pg, .inl (cB, 24, .inl f1))] H := hP
      have hD : va_D A [(h0, .inr (7, [.int 1, .int x_6, .int f_3, .int (-1), .int (-1), .int ac, .int (nI kc), .ref m1, .ref m2, .ref m3, .ref m4, .ref m5, .int (nI pl), .ref pg, .int (nI q_2), .int f_3, .ref m6, .ref m7, .ref m8, .long sd, .int ik, .int kh, .int (nI km), .int ka, .int ks, .int kac, .ref m9, .ref m10, .ref m11, .ref m12, .long hv])), (pg, .inl (cB, 24, .inl f1))] := hD
      refine lv_aload_n hx hb dX7_hall_60 rfl (lv_at hl 0 rfl) ?_
      refine lv_iconst (v := 0) hx hb dX7_hall_61 (by decide) ?_
      refine va_put (D := (dC, dI)) (ci := 7) (v := .int 0) (ty := .int) (C := RX7) (T := TX7) (N := 31) hx hb hts hiX7 tyX7 tyX7_ok nmX7 hown hK hP hD hS 0 rfl rfl 5 (by decide) (hts (.fieldLink RX7 83 "LeftProfileModel" "acts" "I") (List.mem_of_getElem? (i := 9) rfl)) (fun _ h9 => h9) rfl (by decide +kernel) rfl rfl (Nat.le_of_ble_eq_true rfl) dX7_hall_62 (fun H locs hP hD hS => ?_)
      have hP : va_P (dC, dI) vwCl [(h0, .inr (7, [.int 1, .int x_6, .int f_3, .int (-1), .int (-1), .int 0, .int (nI kc), .ref m1, .ref m2, .ref m3, .ref m4, .ref m5, .int (nI pl), .ref pg, .int (nI q_2), .int f_3, .ref m6, .ref m7, .ref m8, .long sd, .int ik, .int kh, .int (nI km), .int ka, .int ks, .int kac, .ref m9, .ref m10, .ref m11, .ref m12, .long hv])), (pg, .inl (cB, 24, .inl f1))] H := hP
      have hD : va_D A [(h0, .inr (7, [.int 1, .int x_6, .int f_3, .int (-1), .int (-1), .int 0, .int (nI kc), .ref m1, .ref m2, .ref m3, .ref m4, .ref m5, .int (nI pl), .ref pg, .int (nI q_2), .int f_3, .ref m6, .ref m7, .ref m8, .long sd, .int ik, .int kh, .int (nI km), .int ka, .int ks, .int kac, .ref m9, .ref m10, .ref m11, .ref m12, .long hv])), (pg, .inl (cB, 24, .inl f1))] := hD
      refine lv_aload_n hx hb dX7_hall_65 rfl (lv_at hl 0 rfl) ?_
      refine lv_iconst (v := 0) hx hb dX7_hall_66 (by decide) ?_
      refine va_put (D := (dC, dI)) (ci := 7) (v := .int 0) (ty := .int) (C := RX7) (T := TX7) (N := 31) hx hb hts hiX7 tyX7 tyX7_ok nmX7 hown hK hP hD hS 0 rfl rfl 6 (by decide) (hts (.fieldLink RX7 86 "LeftProfileModel" "courtiers" "I") (List.mem_of_getElem? (i := 10) rfl)) (fun _ h9 => h9) rfl (by decide +kernel) rfl rfl (Nat.le_of_ble_eq_true rfl) dX7_hall_67 (fun H locs hP hD hS => ?_)
      have hP : va_P (dC, dI) vwCl [(h0, .inr (7, [.int 1, .int x_6, .int f_3, .int (-1), .int (-1), .int 0, .int 0, .ref m1, .ref m2, .ref m3, .ref m4, .ref m5, .int (nI pl), .ref pg, .int (nI q_2), .int f_3, .ref m6, .ref m7, .ref m8, .long sd, .int ik, .int kh, .int (nI km), .int ka, .int ks, .int kac, .ref m9, .ref m10, .ref m11, .ref m12, .long hv])), (pg, .inl (cB, 24, .inl f1))] H := hP
      have hD : va_D A [(h0, .inr (7, [.int 1, .int x_6, .int f_3, .int (-1), .int (-1), .int 0, .int 0, .ref m1, .ref m2, .ref m3, .ref m4, .ref m5, .int (nI pl), .ref pg, .int (nI q_2), .int f_3, .ref m6, .ref m7, .ref m8, .long sd, .int ik, .int kh, .int (nI km), .int ka, .int ks, .int kac, .ref m9, .ref m10, .ref m11, .ref m12, .long hv])), (pg, .inl (cB, 24, .inl f1))] := hD
      refine lv_aload_n hx hb dX7_hall_70 rfl (lv_at hl 0 rfl) ?_
      refine lv_iconst (v := 0) hx hb dX7_hall_71 (by decide) ?_
      refine va_put (D := (dC, dI)) (ci := 7) (v := .int 0) (ty := .int) (C := RX7) (T := TX7) (N := 31) hx hb hts hiX7 tyX7 tyX7_ok nmX7 hown hK hP hD hS 0 rfl rfl 12 (by decide) (hts (.fieldLink RX7 61 "LeftProfileModel" "pageLength" "I") (List.mem_of_getElem? (i := 2) rfl)) (fun _ h9 => h9) rfl (by decide +kernel) rfl rfl (Nat.le_of_ble_eq_true rfl) dX7_hall_72 (fun H locs hP hD hS => ?_)
      have hP : va_P (dC, dI) vwCl [(h0, .inr (7, [.int 1, .int x_6, .int f_3, .int (-1), .int (-1), .int 0, .int 0, .ref m1, .ref m2, .ref m3, .ref m4, .ref m5, .int 0, .ref pg, .int (nI q_2), .int f_3, .ref m6, .ref m7, .ref m8, .long sd, .int ik, .int kh, .int (nI km), .int ka, .int ks, .int kac, .ref m9, .ref m10, .ref m11, .ref m12, .long hv])), (pg, .inl (cB, 24, .inl f1))] H := hP
      have hD : va_D A [(h0, .inr (7, [.int 1, .int x_6, .int f_3, .int (-1), .int (-1), .int 0, .int 0, .ref m1, .ref m2, .ref m3, .ref m4, .ref m5, .int 0, .ref pg, .int (nI q_2), .int f_3, .ref m6, .ref m7, .ref m8, .long sd, .int ik, .int kh, .int (nI km), .int ka, .int ks, .int kac, .ref m9, .ref m10, .ref m11, .ref m12, .long hv])), (pg, .inl (cB, 24, .inl f1))] := hD
      refine lv_aload_n hx hb dX7_hall_75 rfl (lv_at hl 0 rfl) ?_
      refine va_get (D := (dC, dI)) (ci := 7) (v := .int f_3) (C := RX7) (T := TX7) (N := 31) hx hb hts hiX7 hown hK hP 0 rfl rfl 2 (by decide) (hts (.fieldLink RX7 73 "LeftProfileModel" "floor" "I") (List.mem_of_getElem? (i := 4) rfl)) (fun _ h9 => h9) rfl dX7_hall_76 ?_
      refine vp_callSi (cz_run (va_runS (As := [.int f_3]) (rest := []) ⟨hx, hb, hml, hown, hts⟩ (c_X7_size l dC dI cI cB f_3 ) (va_cwS 1 hts gX7_hall_X7_size rfl rfl rfl (by decide +kernel) ⟨Nat.le_of_ble_eq_true rfl, Nat.le_of_ble_eq_true rfl⟩) (cz_pS (hP.sub (ws' := []) [] rfl) hN) rfl rfl hl.1 rfl (lv_room (Nat.le_of_ble_eq_true rfl)) dX7_hall_79 ⟨Nat.le_of_ble_eq_true rfl, Nat.le_of_ble_eq_true rfl⟩)) (fun r_7 hr_7 => ?_)
      refine W.widen (k := 0) (n := 0) (Nat.le_of_ble_eq_true rfl) (Nat.le_of_ble_eq_true rfl) ?_
      have hP9 := hP.sub (ws' := [(h0, .inr (7, [.int 1, .int x_6, .int f_3, .int (-1), .int (-1), .int 0, .int 0, .ref m1, .ref m2, .ref m3, .ref m4, .ref m5, .int 0, .ref pg, .int (nI q_2), .int f_3, .ref m6, .ref m7, .ref m8, .long sd, .int ik, .int kh, .int (nI km), .int ka, .int ks, .int kac, .ref m9, .ref m10, .ref m11, .ref m12, .long hv])), (pg, .inl (cB, 24, .inl f1))]) [0, 1] rfl
      have hD9 := hD.sub (ws' := [(h0, .inr (7, [.int 1, .int x_6, .int f_3, .int (-1), .int (-1), .int 0, .int 0, .ref m1, .ref m2, .ref m3, .ref m4, .ref m5, .int 0, .ref pg, .int (nI q_2), .int f_3, .ref m6, .ref m7, .ref m8, .long sd, .int ik, .int kh, .int (nI km), .int ka, .int ks, .int kac, .ref m9, .ref m10, .ref m11, .ref m12, .long hv])), (pg, .inl (cB, 24, .inl f1))]) [0, 1] (by decide) rfl
      rw [hQ]; exact W.iret (v := r_7) hx hb hr (fun t ht hW => ⟨⟨r_7, (), rfl, (Or.inl ⟨⟨c_5, by have e : q_2 = 23 := (by omega); rw [← e]; exact hr_1_f⟩, by have e : q_2 = 23 := (by omega); rw [hr_7, hr_1_z, e]⟩), ⟨1, x_6, f_3, (-1), (-1), f_3, 0, (nI q_2), 0, 0, (by omega), cz_du1, (Or.inr ⟨rfl, c_5, by have e : q_2 = 23 := (by omega); rw [← e]; exact hr_1_f⟩), by rw [ht]; exact hP9, hD9⟩⟩, hS.F ht⟩) hS.2.2 dX7_hall_82
    · have c_5 : ¬ pl = 23 := fun h => c_5 ((nI_eq (a := pl) (b := 23) (by omega) (by omega)).mpr h)
      refine lv_bipush (v := (-103)) hx hb dX7_hall_24 (by decide) ?_
      refine W.widen (k := 0) (n := 0) (Nat.le_of_ble_eq_true rfl) (Nat.le_of_ble_eq_true rfl) ?_
      have hP9 := hP.sub (ws' := [(h0, .inr (7, [.int ih, .int hn, .int fl, .int da, .int ds, .int ac, .int (nI kc), .ref m1, .ref m2, .ref m3, .ref m4, .ref m5, .int (nI pl), .ref pg, .int (nI q_2), .int f_3, .ref m6, .ref m7, .ref m8, .long sd, .int ik, .int kh, .int (nI km), .int ka, .int ks, .int kac, .ref m9, .ref m10, .ref m11, .ref m12, .long hv])), (pg, .inl (cB, 24, .inl f1))]) [0, 1] rfl
      have hD9 := hD.sub (ws' := [(h0, .inr (7, [.int ih, .int hn, .int fl, .int da, .int ds, .int ac, .int (nI kc), .ref m1, .ref m2, .ref m3, .ref m4, .ref m5, .int (nI pl), .ref pg, .int (nI q_2), .int f_3, .ref m6, .ref m7, .ref m8, .long sd, .int ik, .int kh, .int (nI km), .int ka, .int ks, .int kac, .ref m9, .ref m10, .ref m11, .ref m12, .long hv])), (pg, .inl (cB, 24, .inl f1))]) [0, 1] (by decide) rfl
      rw [hQ]; exact W.iret (v := (-103)) hx hb hr (fun t ht hW => ⟨⟨(-103), (), rfl, (Or.inr ⟨fun h => c_5 h.1, rfl⟩), ⟨ih, hn, fl, da, ds, f_3, ac, (nI q_2), kc, pl, hkc, hdu, (Or.inl ⟨rfl, fun h => c_5 h.1⟩), by rw [ht]; exact hP9, hD9⟩⟩, hS.F ht⟩) hS.2.2 dX7_hall_26

set_option maxHeartbeats 4000000 in
set_option maxRecDepth 100000 in
theorem c_X7_on (l : Launch) (dC : Nat → ClassId) (dI : Nat → Nat → Nat) (cI cB : ClassId) (h0 : Nat) (p0 : Int32) (ih : Int32) (hn : Int32) (fl : Int32) (da : Int32) (ds : Int32) (ac : Int32) (kc : Nat) (m1 : Nat) (m2 : Nat) (m3 : Nat) (m4 : Nat) (m5 : Nat) (pl : Nat) (pg : Nat) (fa : Int32) (nf : Int32) (m6 : Nat) (m7 : Nat) (m8 : Nat) (sd : Int64) (ik : Int32) (kh : Int32) (km : Nat) (ka : Int32) (ks : Int32) (kac : Int32) (m9 : Nat) (m10 : Nat) (m11 : Nat) (m12 : Nat) (hv : Int64) (g2 : Nat → Int32) (hkc : kc ≤ 6) : Met l yX7_on wsX7_on ({ frames := 2, cells := 0, slots := 0, locals := 44 }) (cz_Pp dC dI cI cB [.ref h0, .int p0] [(h0, .inr (7, [.int ih, .int hn, .int fl, .int da, .int ds, .int ac, .int (nI kc), .ref m1, .ref m2, .ref m3, .ref m4, .ref m5, .int (nI pl), .ref pg, .int fa, .int nf, .ref m6, .ref m7, .ref m8, .long sd, .int ik, .int kh, .int (nI km), .int ka, .int ks, .int kac, .ref m9, .ref m10, .ref m11, .ref m12, .long hv])), (m2, .inl (cI, 6, .inl g2))]) (vp_Si (fun r : Int32 => True)) 0 0 (fun _ => False) := by
  refine cz_of (cc := cX7_on) (maxL := 2) (ret := (some .int)) (by decide) rfl ?_
  intro p e s m args below meth c s₁ Q B hml hv hQ
  obtain ⟨rfl, hP, hN⟩ := hv
  have hx := B.exec
  have hb := B.bytes
  have hr := B.returns
  have hts := atoms_spec (ws := wsX7_on) B.pre
  have hown : s.vm.findClass RX7 = some m.cls := findClass_of_methodNamed B.named
  have hlocks := B.notSynchronized
  have hK := hN.1
  have hiX7 : ∀ w ∈ wsX70, w ∈ wsX7_on := (fun _ h => List.mem_cons_of_mem _ (List.mem_append_right _ h))
  have hl := lv_entry ([.ref h0, .int p0]) (n := 2) (Nat.le_of_ble_eq_true rfl)
  rw [lg_entry_eq]
  generalize (lg_sl ([.ref h0, .int p0]) ++ List.replicate (2 - (lg_sl ([.ref h0, .int p0])).length) Slot.unset).toArray = ls at hl ⊢
  have hl : lv_has ls 2 [(0, .ref h0), (1, .int p0)] := hl
  refine lv_iload_n hx hb dX7_on_0 rfl (lv_at hl 1 rfl) ?_
  refine vp_callSi (cz_run (va_runS (As := [.int p0]) (rest := []) ⟨hx, hb, hml, hown, hts⟩ (c_X7_isPlace l dC dI cI cB p0 ) (va_cwS 1 hts gX7_on_X7_isPlace rfl rfl rfl (by decide +kernel) ⟨Nat.le_of_ble_eq_true rfl, Nat.le_of_ble_eq_true rfl⟩) (cz_pS (hP.sub (ws' := []) [] rfl) hN) rfl rfl hl.1 rfl (lv_room (Nat.le_of_ble_eq_true rfl)) dX7_on_1 ⟨Nat.le_of_ble_eq_true rfl, Nat.le_of_ble_eq_true rfl⟩)) (fun r_1 hr_1 => ?_)
  rcases hr_1 with ⟨rfl, hr_1⟩ | ⟨rfl, hr_1⟩
  · refine lv_if_ne (tgt := 10) hx hb dX7_on_4 (by decide) (fun c => absurd (by decide) c) (fun _ => ?_)
    refine lv_bipush (v := (-101)) hx hb dX7_on_7 (by decide) ?_
    rw [hQ]; exact W.iret (v := (-101)) hx hb hr (fun t ht hW => ⟨(-101), rfl, trivial, ht⟩) (fun _ h => absurd h List.not_mem_nil) dX7_on_9
  · refine lv_if_ne (tgt := 10) hx hb dX7_on_4 (by decide) (fun _ => ?_) (fun c => absurd c (by decide))
    refine lv_aload_n hx hb dX7_on_10 rfl (lv_at hl 0 rfl) ?_
    refine va_get (D := (dC, dI)) (ci := 7) (v := .int ih) (C := RX7) (T := TX7) (N := 31) hx hb hts hiX7 hown hK hP 0 rfl rfl 0 (by decide) (hts (.fieldLink RX7 76 "LeftProfileModel" "isHall" "Z") (List.mem_of_getElem? (i := 1) rfl)) (fun _ h9 => h9) rfl dX7_on_11 ?_
    refine lv_if_eq (tgt := 25) hx hb dX7_on_14 (by decide) (fun c_2 => ?_) (fun c_2 => ?_)
    · refine lv_bipush (v := (-103)) hx hb dX7_on_25 (by decide) ?_
      rw [hQ]; exact W.iret (v := (-103)) hx hb hr (fun t ht hW => ⟨(-103), rfl, trivial, ht⟩) (fun _ h => absurd h List.not_mem_nil) dX7_on_27
    · refine lv_aload_n hx hb dX7_on_17 rfl (lv_at hl 0 rfl) ?_
      refine lv_iload_n hx hb dX7_on_18 rfl (lv_at hl 1 rfl) ?_
      refine vp_callSi (cz_run (va_runV (As := [.int p0]) (rest := []) ⟨hx, hb, hml, hown, hts⟩ (c_X7_onNow l dC dI cI cB h0 p0 ih hn fl da ds ac kc m1 m2 m3 m4 m5 pl pg fa nf m6 m7 m8 sd ik kh km ka ks kac m9 m10 m11 m12 hv g2 hkc) (cwV 1 hts gX7_on_X7_onNow rfl rfl rfl (by decide +kernel) ⟨Nat.le_of_ble_eq_true rfl, Nat.le_of_ble_eq_true rfl⟩) (cz_pV hP hN (va_recv hK hP (ci := 7) (q0 := 0) rfl rfl)) rfl rfl hl.1 rfl (lv_room (Nat.le_of_ble_eq_true rfl)) dX7_on_19 ⟨Nat.le_of_ble_eq_true rfl, Nat.le_of_ble_eq_true rfl⟩)) (fun r_3 hr_3 => ?_)
      refine lv_goto (tgt := 27) hx hb dX7_on_22 (by decide) ?_
      rw [hQ]; exact W.iret (v := r_3) hx hb hr (fun t ht hW => ⟨r_3, rfl, trivial, ht⟩) (fun _ h => absurd h List.not_mem_nil) dX7_on_27

theorem c_X7_duke_a1 (p0 : Int32) (p1 : Int32) (ih : Int32) (da : Int32) (ds : Int32) (kc : Nat) (r_4 : Int32) (x_6 : Int32) (x_7 : Int32) (hkc : kc ≤ 6) (hdu : cz_du da ds) (hr_1 : cz_in 0 p0 19) (hr_2 : cz_in 0 p1 3) (c_3 : ¬ ih = 0) (c_5 : ¬ r_4 = 0) (ex_6 : x_6 = 4 * p0) (ex_7 : x_7 = x_6 + p1) : cz_du p0 p1 := by first | (subst_vars; rfl) | assumption | ((try subst_vars) <;> (repeat' split) <;> (first | rfl | ((try simp only [cz_in, cz_du, cz_lt, cz_le, cz_eq, cz_l] at *) <;> (first | omega | (simp_all; done)))))
theorem c_X7_duke_a2 (p0 : Int32) (p1 : Int32) (ih : Int32) (da : Int32) (ds : Int32) (kc : Nat) (r_4 : Int32) (x_9 : Int32) (x_10 : Int32) (hkc : kc ≤ 6) (hdu : cz_du da ds) (hr_1 : cz_in 0 p0 19) (hr_2 : cz_in 0 p1 3) (c_3 : ¬ ih = 0) (c_5 : r_4 = 0) (c_8 : p0 = da) (ex_9 : x_9 = 4 * p0) (ex_10 : x_10 = x_9 + p1) : cz_du p0 p1 := by first | (subst_vars; rfl) | assumption | ((try subst_vars) <;> (repeat' split) <;> (first | rfl | ((try simp only [cz_in, cz_du, cz_lt, cz_le, cz_eq, cz_l] at *) <;> (first | omega | (simp_all; done)))))
set_option maxHeartbeats 4000000 in
set_option maxRecDepth 100000 in
theorem c_X7_duke (l : Launch) (dC : Nat → ClassId) (dI : Nat → Nat → Nat) (cI cB : ClassId) (h0 : Nat) (p0 : Int32) (p1 : Int32) (ih : Int32) (hn : Int32) (fl : Int32) (da : Int32) (ds : Int32) (ac : Int32) (kc : Nat) (m1 : Nat) (m2 : Nat) (m3 : Nat) (m4 : Nat) (m5 : Nat) (pl : Nat) (pg : Nat) (fa : Int32) (nf : Int32) (m6 : Nat) (m7 : Nat) (m8 : Nat) (sd : Int64) (ik : Int32) (kh : Int32) (km : Nat) (ka : Int32) (ks : Int32) (kac : Int32) (m9 : Nat) (m10 : Nat) (m11 : Nat) (m12 : Nat) (hv : Int64) (g2 : Nat → Int32) (sz : Nat) (hkc : kc ≤ 6) (hdu : cz_du da ds) : Met l yX7_duke wsX7_duke ({ frames := 2, cells := 0, slots := 0, locals := 44 }) (cz_Pm dC dI cI cB [.ref h0, .int p0, .int p1] [(h0, .inr (7, [.int ih, .int hn, .int fl, .int da, .int ds, .int ac, .int (nI kc), .ref m1, .ref m2, .ref m3, .ref m4, .ref m5, .int (nI pl), .ref pg, .int fa, .int nf, .ref m6, .ref m7, .ref m8, .long sd, .int ik, .int kh, .int (nI km), .int ka, .int ks, .int kac, .ref m9, .ref m10, .ref m11, .ref m12, .long hv])), (m2, .inl (cI, 6, .inl g2))] sz) (va_Qi (fun (r : Int32) (_ : Unit) => True) (fun _ t => ∃ (z3 : Int32) (z4 : Int32), (cz_du z3 z4) ∧ va_P (dC, dI) vwCl [(h0, .inr (7, [.int ih, .int hn, .int fl, .int z3, .int z4, .int ac, .int (nI kc), .ref m1, .ref m2, .ref m3, .ref m4, .ref m5, .int (nI pl), .ref pg, .int fa, .int nf, .ref m6, .ref m7, .ref m8, .long sd, .int ik, .int kh, .int (nI km), .int ka, .int ks, .int kac, .ref m9, .ref m10, .ref m11, .ref m12, .long hv])), (m2, .inl (cI, 6, .inl g2))] t.heap ∧ va_D (va_A [(h0, .inr (7, [.int ih, .int hn, .int fl, .int da, .int ds, .int ac, .int (nI kc), .ref m1, .ref m2, .ref m3, .ref m4, .ref m5, .int (nI pl), .ref pg, .int fa, .int nf, .ref m6, .ref m7, .ref m8, .long sd, .int ik, .int kh, .int (nI km), .int ka, .int ks, .int kac, .ref m9, .ref m10, .ref m11, .ref m12, .long hv])), (m2, .inl (cI, 6, .inl g2))] sz) [(h0, .inr (7, [.int ih, .int hn, .int fl, .int z3, .int z4, .int ac, .int (nI kc), .ref m1, .ref m2, .ref m3, .ref m4, .ref m5, .int (nI pl), .ref pg, .int fa, .int nf, .ref m6, .ref m7, .ref m8, .long sd, .int ik, .int kh, .int (nI km), .int ka, .int ks, .int kac, .ref m9, .ref m10, .ref m11, .ref m12, .long hv])), (m2, .inl (cI, 6, .inl g2))]) (va_A [(h0, .inr (7, [.int ih, .int hn, .int fl, .int da, .int ds, .int ac, .int (nI kc), .ref m1, .ref m2, .ref m3, .ref m4, .ref m5, .int (nI pl), .ref pg, .int fa, .int nf, .ref m6, .ref m7, .ref m8, .long sd, .int ik, .int kh, .int (nI km), .int ka, .int ks, .int kac, .ref m9, .ref m10, .ref m11, .ref m12, .long hv])), (m2, .inl (cI, 6, .inl g2))] sz)) 0 0 (va_A [(h0, .inr (7, [.int ih, .int hn, .int fl, .int da, .int ds, .int ac, .int (nI kc), .ref m1, .ref m2, .ref m3, .ref m4, .ref m5, .int (nI pl), .ref pg, .int fa, .int nf, .ref m6, .ref m7, .ref m8, .long sd, .int ik, .int kh, .int (nI km), .int ka, .int ks, .int kac, .ref m9, .ref m10, .ref m11, .ref m12, .long hv])), (m2, .inl (cI, 6, .inl g2))] sz) := by
  refine cz_of (cc := cX7_duke) (maxL := 3) (ret := (some .int)) (by decide) rfl ?_
  intro p e s m args below meth c s₁ Q B hml hv hQ
  obtain ⟨rfl, hsz, hP, hN, hD0⟩ := hv
  have hx := B.exec
  have hb := B.bytes
  have hr := B.returns
  have hts := atoms_spec (ws := wsX7_duke) B.pre
  have hown : s.vm.findClass RX7 = some m.cls := findClass_of_methodNamed B.named
  have hlocks := B.notSynchronized
  have hK := hN.1
  have hiX7 : ∀ w ∈ wsX70, w ∈ wsX7_duke := (fun _ h => List.mem_cons_of_mem _ (List.mem_append_right _ h))
  subst hsz
  have hD := hD0.self (sz := s.heap.size)
  generalize hAe : va_A [(h0, .inr (7, [.int ih, .int hn, .int fl, .int da, .int ds, .int ac, .int (nI kc), .ref m1, .ref m2, .ref m3, .ref m4, .ref m5, .int (nI pl), .ref pg, .int fa, .int nf, .ref m6, .ref m7, .ref m8, .long sd, .int ik, .int kh, .int (nI km), .int ka, .int ks, .int kac, .ref m9, .ref m10, .ref m11, .ref m12, .long hv])), (m2, .inl (cI, 6, .inl g2))] s.heap.size = A at hD hQ ⊢
  have hA : ∀ q : Nat, s.heap.size ≤ q → A q := fun q h => by rw [← hAe]; exact Or.inr h
  have hS : va_S A s.heap s.heap [] := va_S.rf
  obtain ⟨H, eH⟩ : ∃ H, H = s.heap := ⟨_, rfl⟩
  have hP : va_P (dC, dI) vwCl [(h0, .inr (7, [.int ih, .int hn, .int fl, .int da, .int ds, .int ac, .int (nI kc), .ref m1, .ref m2, .ref m3, .ref m4, .ref m5, .int (nI pl), .ref pg, .int fa, .int nf, .ref m6, .ref m7, .ref m8, .long sd, .int ik, .int kh, .int (nI km), .int ka, .int ks, .int kac, .ref m9, .ref m10, .ref m11, .ref m12, .long hv])), (m2, .inl (cI, 6, .inl g2))] s.heap := hP
  have hl := lv_entry ([.ref h0, .int p0, .int p1]) (n := 3) (Nat.le_of_ble_eq_true rfl)
  rw [lg_entry_eq]
  generalize (lg_sl ([.ref h0, .int p0, .int p1]) ++ List.replicate (3 - (lg_sl ([.ref h0, .int p0, .int p1])).length) Slot.unset).toArray = ls at hl ⊢
  have hl : lv_has ls 3 [(0, .ref h0), (1, .int p0), (2, .int p1)] := hl
  refine lv_iload_n hx hb dX7_duke_0 rfl (lv_at hl 1 rfl) ?_
  refine vp_callSi (cz_run (va_runS (As := [.int p0]) (rest := []) ⟨hx, hb, hml, hown, hts⟩ (c_X7_isPlace l dC dI cI cB p0 ) (va_cwS 1 hts gX7_duke_X7_isPlace rfl rfl rfl (by decide +kernel) ⟨Nat.le_of_ble_eq_true rfl, Nat.le_of_ble_eq_true rfl⟩) (cz_pS (hP.sub (ws' := []) [] rfl) hN) rfl rfl hl.1 rfl (lv_room (Nat.le_of_ble_eq_true rfl)) dX7_duke_1 ⟨Nat.le_of_ble_eq_true rfl, Nat.le_of_ble_eq_true rfl⟩)) (fun r_1 hr_1 => ?_)
  rcases hr_1 with ⟨rfl, hr_1⟩ | ⟨rfl, hr_1⟩
  · refine lv_if_ne (tgt := 10) hx hb dX7_duke_4 (by decide) (fun c => absurd (by decide) c) (fun _ => ?_)
    refine lv_bipush (v := (-101)) hx hb dX7_duke_7 (by decide) ?_
    refine W.widen (k := 0) (n := 0) (Nat.le_of_ble_eq_true rfl) (Nat.le_of_ble_eq_true rfl) ?_
    have hP9 := hP.sub (ws' := [(h0, .inr (7, [.int ih, .int hn, .int fl, .int da, .int ds, .int ac, .int (nI kc), .ref m1, .ref m2, .ref m3, .ref m4, .ref m5, .int (nI pl), .ref pg, .int fa, .int nf, .ref m6, .ref m7, .ref m8, .long sd, .int ik, .int kh, .int (nI km), .int ka, .int ks, .int kac, .ref m9, .ref m10, .ref m11, .ref m12, .long hv])), (m2, .inl (cI, 6, .inl g2))]) [0, 1] rfl
    have hD9 := hD.sub (ws' := [(h0, .inr (7, [.int ih, .int hn, .int fl, .int da, .int ds, .int ac, .int (nI kc), .ref m1, .ref m2, .ref m3, .ref m4, .ref m5, .int (nI pl), .ref pg, .int fa, .int nf, .ref m6, .ref m7, .ref m8, .long sd, .int ik, .int kh, .int (nI km), .int ka, .int ks, .int kac, .ref m9, .ref m10, .ref m11, .ref m12, .long hv])), (m2, .inl (cI, 6, .inl g2))]) [0, 1] (by decide) rfl
    rw [hQ]; exact W.iret (v := (-101)) hx hb hr (fun t ht hW => ⟨⟨(-101), (), rfl, trivial, ⟨da, ds, hdu, by rw [ht]; exact hP9, hD9⟩⟩, hS.F ht⟩) hS.2.2 dX7_duke_9
  · refine lv_if_ne (tgt := 10) hx hb dX7_duke_4 (by decide) (fun _ => ?_) (fun c => absurd c (by decide))
    refine lv_iload_n hx hb dX7_duke_10 rfl (lv_at hl 2 rfl) ?_
    refine lv_iconst (v := 0) hx hb dX7_duke_11 (by decide) ?_
    refine lv_iconst (v := 3) hx hb dX7_duke_12 (by decide) ?_
    refine vp_callSi (cz_run (va_runS (As := [.int p1, .int 0, .int 3]) (rest := []) ⟨hx, hb, hml, hown, hts⟩ (c_X7_within l dC dI cI cB p1 0 3 ) (va_cwS 3 hts gX7_duke_X7_within rfl rfl rfl (by decide +kernel) ⟨Nat.le_of_ble_eq_true rfl, Nat.le_of_ble_eq_true rfl⟩) (cz_pS (hP.sub (ws' := []) [] rfl) hN) rfl rfl hl.1 rfl (lv_room (Nat.le_of_ble_eq_true rfl)) dX7_duke_13 ⟨Nat.le_of_ble_eq_true rfl, Nat.le_of_ble_eq_true rfl⟩)) (fun r_2 hr_2 => ?_)
    rcases hr_2 with ⟨rfl, hr_2⟩ | ⟨rfl, hr_2⟩
    · refine lv_if_ne (tgt := 22) hx hb dX7_duke_16 (by decide) (fun c => absurd (by decide) c) (fun _ => ?_)
      refine lv_bipush (v := (-102)) hx hb dX7_duke_19 (by decide) ?_
      refine W.widen (k := 0) (n := 0) (Nat.le_of_ble_eq_true rfl) (Nat.le_of_ble_eq_true rfl) ?_
      have hP9 := hP.sub (ws' := [(h0, .inr (7, [.int ih, .int hn, .int fl, .int da, .int ds, .int ac, .int (nI kc), .ref m1, .ref m2, .ref m3, .ref m4, .ref m5, .int (nI pl), .ref pg, .int fa, .int nf, .ref m6, .ref m7, .ref m8, .long sd, .int ik, .int kh, .int (nI km), .int ka, .int ks, .int kac, .ref m9, .ref m10, .ref m11, .ref m12, .long hv])), (m2, .inl (cI, 6, .inl g2))]) [0, 1] rfl
      have hD9 := hD.sub (ws' := [(h0, .inr (7, [.int ih, .int hn, .int fl, .int da, .int ds, .int ac, .int (nI kc), .ref m1, .ref m2, .ref m3, .ref m4, .ref m5, .int (nI pl), .ref pg, .int fa, .int nf, .ref m6, .ref m7, .ref m8, .long sd, .int ik, .int kh, .int (nI km), .int ka, .int ks, .int kac, .ref m9, .ref m10, .ref m11, .ref m12, .long hv])), (m2, .inl (cI, 6, .inl g2))]) [0, 1] (by decide) rfl
      rw [hQ]; exact W.iret (v := (-102)) hx hb hr (fun t ht hW => ⟨⟨(-102), (), rfl, trivial, ⟨da, ds, hdu, by rw [ht]; exact hP9, hD9⟩⟩, hS.F ht⟩) hS.2.2 dX7_duke_21
    · refine lv_if_ne (tgt := 22) hx hb dX7_duke_16 (by decide) (fun _ => ?_) (fun c => absurd c (by decide))
      refine lv_aload_n hx hb dX7_duke_22 rfl (lv_at hl 0 rfl) ?_
      refine va_get (D := (dC, dI)) (ci := 7) (v := .int ih) (C := RX7) (T := TX7) (N := 31) hx hb hts hiX7 hown hK hP 0 rfl rfl 0 (by decide) (hts (.fieldLink RX7 76 "LeftProfileModel" "isHall" "Z") (List.mem_of_getElem? (i := 1) rfl)) (fun _ h9 => h9) rfl dX7_duke_23 ?_
      refine lv_if_eq (tgt := 45) hx hb dX7_duke_26 (by decide) (fun c_3 => ?_) (fun c_3 => ?_)
      · refine lv_bipush (v := (-103)) hx hb dX7_duke_45 (by decide) ?_
        refine W.widen (k := 0) (n := 0) (Nat.le_of_ble_eq_true rfl) (Nat.le_of_ble_eq_true rfl) ?_
        have hP9 := hP.sub (ws' := [(h0, .inr (7, [.int ih, .int hn, .int fl, .int da, .int ds, .int ac, .int (nI kc), .ref m1, .ref m2, .ref m3, .ref m4, .ref m5, .int (nI pl), .ref pg, .int fa, .int nf, .ref m6, .ref m7, .ref m8, .long sd, .int ik, .int kh, .int (nI km), .int ka, .int ks, .int kac, .ref m9, .ref m10, .ref m11, .ref m12, .long hv])), (m2, .inl (cI, 6, .inl g2))]) [0, 1] rfl
        have hD9 := hD.sub (ws' := [(h0, .inr (7, [.int ih, .int hn, .int fl, .int da, .int ds, .int ac, .int (nI kc), .ref m1, .ref m2, .ref m3, .ref m4, .ref m5, .int (nI pl), .ref pg, .int fa, .int nf, .ref m6, .ref m7, .ref m8, .long sd, .int ik, .int kh, .int (nI km), .int ka, .int ks, .int kac, .ref m9, .ref m10, .ref m11, .ref m12, .long hv])), (m2, .inl (cI, 6, .inl g2))]) [0, 1] (by decide) rfl
        rw [hQ]; exact W.iret (v := (-103)) hx hb hr (fun t ht hW => ⟨⟨(-103), (), rfl, trivial, ⟨da, ds, hdu, by rw [ht]; exact hP9, hD9⟩⟩, hS.F ht⟩) hS.2.2 dX7_duke_47
      · refine lv_aload_n hx hb dX7_duke_29 rfl (lv_at hl 0 rfl) ?_
        refine lv_iload_n hx hb dX7_duke_30 rfl (lv_at hl 1 rfl) ?_
        refine vp_callSi (cz_run (va_runV (As := [.int p0]) (rest := []) ⟨hx, hb, hml, hown, hts⟩ (c_X7_isEmpty l dC dI cI cB h0 p0 ih hn fl da ds ac kc m1 m2 m3 m4 m5 pl pg fa nf m6 m7 m8 sd ik kh km ka ks kac m9 m10 m11 m12 hv g2 hkc) (cwV 1 hts gX7_duke_X7_isEmpty rfl rfl rfl (by decide +kernel) ⟨Nat.le_of_ble_eq_true rfl, Nat.le_of_ble_eq_true rfl⟩) (cz_pV hP hN (va_recv hK hP (ci := 7) (q0 := 0) rfl rfl)) rfl rfl hl.1 rfl (lv_room (Nat.le_of_ble_eq_true rfl)) dX7_duke_31 ⟨Nat.le_of_ble_eq_true rfl, Nat.le_of_ble_eq_true rfl⟩)) (fun r_4 hr_4 => ?_)
        refine lv_if_ne (tgt := 48) hx hb dX7_duke_34 (by decide) (fun c_5 => ?_) (fun c_5 => ?_)
        · refine lv_aload_n hx hb dX7_duke_48 rfl (lv_at hl 0 rfl) ?_
          refine lv_iload_n hx hb dX7_duke_49 rfl (lv_at hl 1 rfl) ?_
          refine va_put (D := (dC, dI)) (ci := 7) (v := .int p0) (ty := .int) (C := RX7) (T := TX7) (N := 31) hx hb hts hiX7 tyX7 tyX7_ok nmX7 hown hK hP hD hS 0 rfl rfl 3 (by decide) (hts (.fieldLink RX7 7 "LeftProfileModel" "dukeAt" "I") (List.mem_of_getElem? (i := 2) rfl)) (fun _ h9 => h9) rfl (by decide +kernel) rfl rfl (Nat.le_of_ble_eq_true rfl) dX7_duke_50 (fun H locs hP hD hS => ?_)
          have hP : va_P (dC, dI) vwCl [(h0, .inr (7, [.int ih, .int hn, .int fl, .int p0, .int ds, .int ac, .int (nI kc), .ref m1, .ref m2, .ref m3, .ref m4, .ref m5, .int (nI pl), .ref pg, .int fa, .int nf, .ref m6, .ref m7, .ref m8, .long sd, .int ik, .int kh, .int (nI km), .int ka, .int ks, .int kac, .ref m9, .ref m10, .ref m11, .ref m12, .long hv])), (m2, .inl (cI, 6, .inl g2))] H := hP
          have hD : va_D A [(h0, .inr (7, [.int ih, .int hn, .int fl, .int p0, .int ds, .int ac, .int (nI kc), .ref m1, .ref m2, .ref m3, .ref m4, .ref m5, .int (nI pl), .ref pg, .int fa, .int nf, .ref m6, .ref m7, .ref m8, .long sd, .int ik, .int kh, .int (nI km), .int ka, .int ks, .int kac, .ref m9, .ref m10, .ref m11, .ref m12, .long hv])), (m2, .inl (cI, 6, .inl g2))] := hD
          refine lv_aload_n hx hb dX7_duke_53 rfl (lv_at hl 0 rfl) ?_
          refine lv_iload_n hx hb dX7_duke_54 rfl (lv_at hl 2 rfl) ?_
          refine va_put (D := (dC, dI)) (ci := 7) (v := .int p1) (ty := .int) (C := RX7) (T := TX7) (N := 31) hx hb hts hiX7 tyX7 tyX7_ok nmX7 hown hK hP hD hS 0 rfl rfl 4 (by decide) (hts (.fieldLink RX7 13 "LeftProfileModel" "dukeSide" "I") (List.mem_of_getElem? (i := 3) rfl)) (fun _ h9 => h9) rfl (by decide +kernel) rfl rfl (Nat.le_of_ble_eq_true rfl) dX7_duke_55 (fun H locs hP hD hS => ?_)
          have hP : va_P (dC, dI) vwCl [(h0, .inr (7, [.int ih, .int hn, .int fl, .int p0, .int p1, .int ac, .int (nI kc), .ref m1, .ref m2, .ref m3, .ref m4, .ref m5, .int (nI pl), .ref pg, .int fa, .int nf, .ref m6, .ref m7, .ref m8, .long sd, .int ik, .int kh, .int (nI km), .int ka, .int ks, .int kac, .ref m9, .ref m10, .ref m11, .ref m12, .long hv])), (m2, .inl (cI, 6, .inl g2))] H := hP
          have hD : va_D A [(h0, .inr (7, [.int ih, .int hn, .int fl, .int p0, .int p1, .int ac, .int (nI kc), .ref m1, .ref m2, .ref m3, .ref m4, .ref m5, .int (nI pl), .ref pg, .int fa, .int nf, .ref m6, .ref m7, .ref m8, .long sd, .int ik, .int kh, .int (nI km), .int ka, .int ks, .int kac, .ref m9, .ref m10, .ref m11, .ref m12, .long hv])), (m2, .inl (cI, 6, .inl g2))] := hD
          refine lv_iconst (v := 4) hx hb dX7_duke_58 (by decide) ?_
          refine lv_iload_n hx hb dX7_duke_59 rfl (lv_at hl 1 rfl) ?_
          refine lv_imul hx hb dX7_duke_60 ?_
          refine lv_topi (fun x_6 ex_6 => ?_)
          refine lv_iload_n hx hb dX7_duke_61 rfl (lv_at hl 2 rfl) ?_
          refine lv_iadd hx hb dX7_duke_62 ?_
          refine lv_topi (fun x_7 ex_7 => ?_)
          refine W.widen (k := 0) (n := 0) (Nat.le_of_ble_eq_true rfl) (Nat.le_of_ble_eq_true rfl) ?_
          have hP9 := hP.sub (ws' := [(h0, .inr (7, [.int ih, .int hn, .int fl, .int p0, .int p1, .int ac, .int (nI kc), .ref m1, .ref m2, .ref m3, .ref m4, .ref m5, .int (nI pl), .ref pg, .int fa, .int nf, .ref m6, .ref m7, .ref m8, .long sd, .int ik, .int kh, .int (nI km), .int ka, .int ks, .int kac, .ref m9, .ref m10, .ref m11, .ref m12, .long hv])), (m2, .inl (cI, 6, .inl g2))]) [0, 1] rfl
          have hD9 := hD.sub (ws' := [(h0, .inr (7, [.int ih, .int hn, .int fl, .int p0, .int p1, .int ac, .int (nI kc), .ref m1, .ref m2, .ref m3, .ref m4, .ref m5, .int (nI pl), .ref pg, .int fa, .int nf, .ref m6, .ref m7, .ref m8, .long sd, .int ik, .int kh, .int (nI km), .int ka, .int ks, .int kac, .ref m9, .ref m10, .ref m11, .ref m12, .long hv])), (m2, .inl (cI, 6, .inl g2))]) [0, 1] (by decide) rfl
          rw [hQ]; exact W.iret (v := x_7) hx hb hr (fun t ht hW => ⟨⟨x_7, (), rfl, trivial, ⟨p0, p1, (c_X7_duke_a1 p0 p1 ih da ds kc r_4 x_6 x_7 hkc hdu hr_1 hr_2 c_3 c_5 ex_6 ex_7), by rw [ht]; exact hP9, hD9⟩⟩, hS.F ht⟩) hS.2.2 dX7_duke_63
        · refine lv_iload_n hx hb dX7_duke_37 rfl (lv_at hl 1 rfl) ?_
          refine lv_aload_n hx hb dX7_duke_38 rfl (lv_at hl 0 rfl) ?_
          refine va_get (D := (dC, dI)) (ci := 7) (v := .int da) (C := RX7) (T := TX7) (N := 31) hx hb hts hiX7 hown hK hP 0 rfl rfl 3 (by decide) (hts (.fieldLink RX7 7 "LeftProfileModel" "dukeAt" "I") (List.mem_of_getElem? (i := 2) rfl)) (fun _ h9 => h9) rfl dX7_duke_39 ?_
          refine lv_icmp_eq (tgt := 48) hx hb dX7_duke_42 (by decide) (fun c_8 => ?_) (fun c_8 => ?_)
          · refine lv_aload_n hx hb dX7_duke_48 rfl (lv_at hl 0 rfl) ?_
            refine lv_iload_n hx hb dX7_duke_49 rfl (lv_at hl 1 rfl) ?_
            refine va_put (D := (dC, dI)) (ci := 7) (v := .int p0) (ty := .int) (C := RX7) (T := TX7) (N := 31) hx hb hts hiX7 tyX7 tyX7_ok nmX7 hown hK hP hD hS 0 rfl rfl 3 (by decide) (hts (.fieldLink RX7 7 "LeftProfileModel" "dukeAt" "I") (List.mem_of_getElem? (i := 2) rfl)) (fun _ h9 => h9) rfl (by decide +kernel) rfl rfl (Nat.le_of_ble_eq_true rfl) dX7_duke_50 (fun H locs hP hD hS => ?_)
            have hP : va_P (dC, dI) vwCl [(h0, .inr (7, [.int ih, .int hn, .int fl, .int p0, .int ds, .int ac, .int (nI kc), .ref m1, .ref m2, .ref m3, .ref m4, .ref m5, .int (nI pl), .ref pg, .int fa, .int nf, .ref m6, .ref m7, .ref m8, .long sd, .int ik, .int kh, .int (nI km), .int ka, .int ks, .int kac, .ref m9, .ref m10, .ref m11, .ref m12, .long hv])), (m2, .inl (cI, 6, .inl g2))] H := hP
            have hD : va_D A [(h0, .inr (7, [.int ih, .int hn, .int fl, .int p0, .int ds, .int ac, .int (nI kc), .ref m1, .ref m2, .ref m3, .ref m4, .ref m5, .int (nI pl), .ref pg, .int fa, .int nf, .ref m6, .ref m7, .ref m8, .long sd, .int ik, .int kh, .int (nI km), .int ka, .int ks, .int kac, .ref m9, .ref m10, .ref m11, .ref m12, .long hv])), (m2, .inl (cI, 6, .inl g2))] := hD
            refine lv_aload_n hx hb dX7_duke_53 rfl (lv_at hl 0 rfl) ?_
            refine lv_iload_n hx hb dX7_duke_54 rfl (lv_at hl 2 rfl) ?_
            refine va_put (D := (dC, dI)) (ci := 7) (v := .int p1) (ty := .int) (C := RX7) (T := TX7) (N := 31) hx hb hts hiX7 tyX7 tyX7_ok nmX7 hown hK hP hD hS 0 rfl rfl 4 (by decide) (hts (.fieldLink RX7 13 "LeftProfileModel" "dukeSide" "I") (List.mem_of_getElem? (i := 3) rfl)) (fun _ h9 => h9) rfl (by decide +kernel) rfl rfl (Nat.le_of_ble_eq_true rfl) dX7_duke_55 (fun H locs hP hD hS => ?_)
            have hP : va_P (dC, dI) vwCl [(h0, .inr (7, [.int ih, .int hn, .int fl, .int p0, .int p1, .int ac, .int (nI kc), .ref m1, .ref m2, .ref m3, .ref m4, .ref m5, .int (nI pl), .ref pg, .int fa, .int nf, .ref m6, .ref m7, .ref m8, .long sd, .int ik, .int kh, .int (nI km), .int ka, .int ks, .int kac, .ref m9, .ref m10, .ref m11, .ref m12, .long hv])), (m2, .inl (cI, 6, .inl g2))] H := hP
            have hD : va_D A [(h0, .inr (7, [.int ih, .int hn, .int fl, .int p0, .int p1, .int ac, .int (nI kc), .ref m1, .ref m2, .ref m3, .ref m4, .ref m5, .int (nI pl), .ref pg, .int fa, .int nf, .ref m6, .ref m7, .ref m8, .long sd, .int ik, .int kh, .int (nI km), .int ka, .int ks, .int kac, .ref m9, .ref m10, .ref m11, .ref m12, .long hv])), (m2, .inl (cI, 6, .inl g2))] := hD
            refine lv_iconst (v := 4) hx hb dX7_duke_58 (by decide) ?_
            refine lv_iload_n hx hb dX7_duke_59 rfl (lv_at hl 1 rfl) ?_
            refine lv_imul hx hb dX7_duke_60 ?_
            refine lv_topi (fun x_9 ex_9 => ?_)
            refine lv_iload_n hx hb dX7_duke_61 rfl (lv_at hl 2 rfl) ?_
            refine lv_iadd hx hb dX7_duke_62 ?_
            refine lv_topi (fun x_10 ex_10 => ?_)
            refine W.widen (k := 0) (n := 0) (Nat.le_of_ble_eq_true rfl) (Nat.le_of_ble_eq_true rfl) ?_
            have hP9 := hP.sub (ws' := [(h0, .inr (7, [.int ih, .int hn, .int fl, .int p0, .int p1, .int ac, .int (nI kc), .ref m1, .ref m2, .ref m3, .ref m4, .ref m5, .int (nI pl), .ref pg, .int fa, .int nf, .ref m6, .ref m7, .ref m8, .long sd, .int ik, .int kh, .int (nI km), .int ka, .int ks, .int kac, .ref m9, .ref m10, .ref m11, .ref m12, .long hv])), (m2, .inl (cI, 6, .inl g2))]) [0, 1] rfl
            have hD9 := hD.sub (ws' := [(h0, .inr (7, [.int ih, .int hn, .int fl, .int p0, .int p1, .int ac, .int (nI kc), .ref m1, .ref m2, .ref m3, .ref m4, .ref m5, .int (nI pl), .ref pg, .int fa, .int nf, .ref m6, .ref m7, .ref m8, .long sd, .int ik, .int kh, .int (nI km), .int ka, .int ks, .int kac, .ref m9, .ref m10, .ref m11, .ref m12, .long hv])), (m2, .inl (cI, 6, .inl g2))]) [0, 1] (by decide) rfl
            rw [hQ]; exact W.iret (v := x_10) hx hb hr (fun t ht hW => ⟨⟨x_10, (), rfl, trivial, ⟨p0, p1, (c_X7_duke_a2 p0 p1 ih da ds kc r_4 x_9 x_10 hkc hdu hr_1 hr_2 c_3 c_5 c_8 ex_9 ex_10), by rw [ht]; exact hP9, hD9⟩⟩, hS.F ht⟩) hS.2.2 dX7_duke_63
          · refine lv_bipush (v := (-103)) hx hb dX7_duke_45 (by decide) ?_
            refine W.widen (k := 0) (n := 0) (Nat.le_of_ble_eq_true rfl) (Nat.le_of_ble_eq_true rfl) ?_
            have hP9 := hP.sub (ws' := [(h0, .inr (7, [.int ih, .int hn, .int fl, .int da, .int ds, .int ac, .int (nI kc), .ref m1, .ref m2, .ref m3, .ref m4, .ref m5, .int (nI pl), .ref pg, .int fa, .int nf, .ref m6, .ref m7, .ref m8, .long sd, .int ik, .int kh, .int (nI km), .int ka, .int ks, .int kac, .ref m9, .ref m10, .ref m11, .ref m12, .long hv])), (m2, .inl (cI, 6, .inl g2))]) [0, 1] rfl
            have hD9 := hD.sub (ws' := [(h0, .inr (7, [.int ih, .int hn, .int fl, .int da, .int ds, .int ac, .int (nI kc), .ref m1, .ref m2, .ref m3, .ref m4, .ref m5, .int (nI pl), .ref pg, .int fa, .int nf, .ref m6, .ref m7, .ref m8, .long sd, .int ik, .int kh, .int (nI km), .int ka, .int ks, .int kac, .ref m9, .ref m10, .ref m11, .ref m12, .long hv])), (m2, .inl (cI, 6, .inl g2))]) [0, 1] (by decide) rfl
            rw [hQ]; exact W.iret (v := (-103)) hx hb hr (fun t ht hW => ⟨⟨(-103), (), rfl, trivial, ⟨da, ds, hdu, by rw [ht]; exact hP9, hD9⟩⟩, hS.F ht⟩) hS.2.2 dX7_duke_47

set_option maxHeartbeats 4000000 in
set_option maxRecDepth 100000 in
theorem c_X7_lay (l : Launch) (dC : Nat → ClassId) (dI : Nat → Nat → Nat) (cI cB : ClassId) (h0 : Nat) (p0 : Int32) (p1 : Int32) (ih : Int32) (hn : Int32) (fl : Int32) (da : Int32) (ds : Int32) (ac : Int32) (kc : Nat) (m1 : Nat) (m2 : Nat) (m3 : Nat) (m4 : Nat) (m5 : Nat) (pl : Nat) (pg : Nat) (fa : Int32) (nf : Int32) (m6 : Nat) (m7 : Nat) (m8 : Nat) (sd : Int64) (ik : Int32) (kh : Int32) (km : Nat) (ka : Int32) (ks : Int32) (kac : Int32) (m9 : Nat) (m10 : Nat) (m11 : Nat) (m12 : Nat) (hv : Int64) (g1 : Nat → Int32) (g2 : Nat → Int32) (g3 : Nat → Int32) (g4 : Nat → Int32) (g5 : Nat → Int32) (sz : Nat) (hkc5 : kc < 6) (hpl : cz_pl g2) (hp1 : cz_in 0 p1 19) : Met l yX7_lay wsX7_lay ({ frames := 0, cells := 0, slots := 0, locals := 0 }) (cz_Pm dC dI cI cB [.ref h0, .int p0, .int p1] [(h0, .inr (7, [.int ih, .int hn, .int fl, .int da, .int ds, .int ac, .int (nI kc), .ref m1, .ref m2, .ref m3, .ref m4, .ref m5, .int (nI pl), .ref pg, .int fa, .int nf, .ref m6, .ref m7, .ref m8, .long sd, .int ik, .int kh, .int (nI km), .int ka, .int ks, .int kac, .ref m9, .ref m10, .ref m11, .ref m12, .long hv])), (m1, .inl (cI, 6, .inl g1)), (m2, .inl (cI, 6, .inl g2)), (m3, .inl (cI, 6, .inl g3)), (m4, .inl (cI, 6, .inl g4)), (m5, .inl (cI, 6, .inl g5))] sz) (va_Qv (fun _ : Unit => True) (fun _ t => ∃ (kk : Nat) (t1 : Nat → Int32) (t2 : Nat → Int32) (t3 : Nat → Int32) (t4 : Nat → Int32) (t5 : Nat → Int32), (kk ≤ 6) ∧ (cz_pl t2) ∧ va_P (dC, dI) vwCl [(h0, .inr (7, [.int ih, .int hn, .int fl, .int da, .int ds, .int ac, .int (nI kk), .ref m1, .ref m2, .ref m3, .ref m4, .ref m5, .int (nI pl), .ref pg, .int fa, .int nf, .ref m6, .ref m7, .ref m8, .long sd, .int ik, .int kh, .int (nI km), .int ka, .int ks, .int kac, .ref m9, .ref m10, .ref m11, .ref m12, .long hv])), (m1, .inl (cI, 6, .inl t1)), (m2, .inl (cI, 6, .inl t2)), (m3, .inl (cI, 6, .inl t3)), (m4, .inl (cI, 6, .inl t4)), (m5, .inl (cI, 6, .inl t5))] t.heap ∧ va_D (va_A [(h0, .inr (7, [.int ih, .int hn, .int fl, .int da, .int ds, .int ac, .int (nI kc), .ref m1, .ref m2, .ref m3, .ref m4, .ref m5, .int (nI pl), .ref pg, .int fa, .int nf, .ref m6, .ref m7, .ref m8, .long sd, .int ik, .int kh, .int (nI km), .int ka, .int ks, .int kac, .ref m9, .ref m10, .ref m11, .ref m12, .long hv])), (m1, .inl (cI, 6, .inl g1)), (m2, .inl (cI, 6, .inl g2)), (m3, .inl (cI, 6, .inl g3)), (m4, .inl (cI, 6, .inl g4)), (m5, .inl (cI, 6, .inl g5))] sz) [(h0, .inr (7, [.int ih, .int hn, .int fl, .int da, .int ds, .int ac, .int (nI kk), .ref m1, .ref m2, .ref m3, .ref m4, .ref m5, .int (nI pl), .ref pg, .int fa, .int nf, .ref m6, .ref m7, .ref m8, .long sd, .int ik, .int kh, .int (nI km), .int ka, .int ks, .int kac, .ref m9, .ref m10, .ref m11, .ref m12, .long hv])), (m1, .inl (cI, 6, .inl t1)), (m2, .inl (cI, 6, .inl t2)), (m3, .inl (cI, 6, .inl t3)), (m4, .inl (cI, 6, .inl t4)), (m5, .inl (cI, 6, .inl t5))]) (va_A [(h0, .inr (7, [.int ih, .int hn, .int fl, .int da, .int ds, .int ac, .int (nI kc), .ref m1, .ref m2, .ref m3, .ref m4, .ref m5, .int (nI pl), .ref pg, .int fa, .int nf, .ref m6, .ref m7, .ref m8, .long sd, .int ik, .int kh, .int (nI km), .int ka, .int ks, .int kac, .ref m9, .ref m10, .ref m11, .ref m12, .long hv])), (m1, .inl (cI, 6, .inl g1)), (m2, .inl (cI, 6, .inl g2)), (m3, .inl (cI, 6, .inl g3)), (m4, .inl (cI, 6, .inl g4)), (m5, .inl (cI, 6, .inl g5))] sz)) 0 0 (va_A [(h0, .inr (7, [.int ih, .int hn, .int fl, .int da, .int ds, .int ac, .int (nI kc), .ref m1, .ref m2, .ref m3, .ref m4, .ref m5, .int (nI pl), .ref pg, .int fa, .int nf, .ref m6, .ref m7, .ref m8, .long sd, .int ik, .int kh, .int (nI km), .int ka, .int ks, .int kac, .ref m9, .ref m10, .ref m11, .ref m12, .long hv])), (m1, .inl (cI, 6, .inl g1)), (m2, .inl (cI, 6, .inl g2)), (m3, .inl (cI, 6, .inl g3)), (m4, .inl (cI, 6, .inl g4)), (m5, .inl (cI, 6, .inl g5))] sz) := by
  refine cz_of (cc := cX7_lay) (maxL := 3) (ret := none) (by decide) rfl ?_
  intro p e s m args below meth c s₁ Q B hml hv hQ
  obtain ⟨rfl, hsz, hP, hN, hD0⟩ := hv
  have hx := B.exec
  have hb := B.bytes
  have hr := B.returns
  have hts := atoms_spec (ws := wsX7_lay) B.pre
  have hown : s.vm.findClass RX7 = some m.cls := findClass_of_methodNamed B.named
  have hlocks := B.notSynchronized
  have hK := hN.1
  have hiX7 : ∀ w ∈ wsX70, w ∈ wsX7_lay := (fun _ h => List.mem_cons_of_mem _ (List.mem_append_right _ h))
  subst hsz
  have hD := hD0.self (sz := s.heap.size)
  generalize hAe : va_A [(h0, .inr (7, [.int ih, .int hn, .int fl, .int da, .int ds, .int ac, .int (nI kc), .ref m1, .ref m2, .ref m3, .ref m4, .ref m5, .int (nI pl), .ref pg, .int fa, .int nf, .ref m6, .ref m7, .ref m8, .long sd, .int ik, .int kh, .int (nI km), .int ka, .int ks, .int kac, .ref m9, .ref m10, .ref m11, .ref m12, .long hv])), (m1, .inl (cI, 6, .inl g1)), (m2, .inl (cI, 6, .inl g2)), (m3, .inl (cI, 6, .inl g3)), (m4, .inl (cI, 6, .inl g4)), (m5, .inl (cI, 6, .inl g5))] s.heap.size = A at hD hQ ⊢
  have hA : ∀ q : Nat, s.heap.size ≤ q → A q := fun q h => by rw [← hAe]; exact Or.inr h
  have hS : va_S A s.heap s.heap [] := va_S.rf
  obtain ⟨H, eH⟩ : ∃ H, H = s.heap := ⟨_, rfl⟩
  have hP : va_P (dC, dI) vwCl [(h0, .inr (7, [.int ih, .int hn, .int fl, .int da, .int ds, .int ac, .int (nI kc), .ref m1, .ref m2, .ref m3, .ref m4, .ref m5, .int (nI pl), .ref pg, .int fa, .int nf, .ref m6, .ref m7, .ref m8, .long sd, .int ik, .int kh, .int (nI km), .int ka, .int ks, .int kac, .ref m9, .ref m10, .ref m11, .ref m12, .long hv])), (m1, .inl (cI, 6, .inl g1)), (m2, .inl (cI, 6, .inl g2)), (m3, .inl (cI, 6, .inl g3)), (m4, .inl (cI, 6, .inl g4)), (m5, .inl (cI, 6, .inl g5))] s.heap := hP
  have hl := lv_entry ([.ref h0, .int p0, .int p1]) (n := 3) (Nat.le_of_ble_eq_true rfl)
  rw [lg_entry_eq]
  generalize (lg_sl ([.ref h0, .int p0, .int p1]) ++ List.replicate (3 - (lg_sl ([.ref h0, .int p0, .int p1])).length) Slot.unset).toArray = ls at hl ⊢
  have hl : lv_has ls 3 [(0, .ref h0), (1, .int p0), (2, .int p1)] := hl
  refine lv_aload_n hx hb dX7_lay_0 rfl (lv_at hl 0 rfl) ?_
  refine va_get (D := (dC, dI)) (ci := 7) (v := .ref m1) (C := RX7) (T := TX7) (N := 31) hx hb hts hiX7 hown hK hP 0 rfl rfl 7 (by decide) (hts (.fieldLink RX7 16 "LeftProfileModel" "kindOf" "[I") (List.mem_of_getElem? (i := 1) rfl)) (fun _ h9 => h9) rfl dX7_lay_1 ?_
  refine lv_aload_n hx hb dX7_lay_4 rfl (lv_at hl 0 rfl) ?_
  refine va_get (D := (dC, dI)) (ci := 7) (v := .int (nI kc)) (C := RX7) (T := TX7) (N := 31) hx hb hts hiX7 hown hK hP 0 rfl rfl 6 (by decide) (hts (.fieldLink RX7 86 "LeftProfileModel" "courtiers" "I") (List.mem_of_getElem? (i := 2) rfl)) (fun _ h9 => h9) rfl dX7_lay_5 ?_
  refine lv_iload_n hx hb dX7_lay_8 rfl (lv_at hl 1 rfl) ?_
  refine va_iast hx hb hK hP hD hS 1 0 rfl rfl (vp_in_nI (n := kc) (by omega) (by omega)) dX7_lay_9 (fun H locs hP hD hS => ?_)
  rw [show (nI kc).toNatClampNeg = kc from nI_clamp (n := kc) (by omega)] at hP hD
  have hP : va_P (dC, dI) vwCl [(h0, .inr (7, [.int ih, .int hn, .int fl, .int da, .int ds, .int ac, .int (nI kc), .ref m1, .ref m2, .ref m3, .ref m4, .ref m5, .int (nI pl), .ref pg, .int fa, .int nf, .ref m6, .ref m7, .ref m8, .long sd, .int ik, .int kh, .int (nI km), .int ka, .int ks, .int kac, .ref m9, .ref m10, .ref m11, .ref m12, .long hv])), (m1, .inl (cI, 6, .inl (upd g1 kc p0))), (m2, .inl (cI, 6, .inl g2)), (m3, .inl (cI, 6, .inl g3)), (m4, .inl (cI, 6, .inl g4)), (m5, .inl (cI, 6, .inl g5))] H := hP
  have hD : va_D A [(h0, .inr (7, [.int ih, .int hn, .int fl, .int da, .int ds, .int ac, .int (nI kc), .ref m1, .ref m2, .ref m3, .ref m4, .ref m5, .int (nI pl), .ref pg, .int fa, .int nf, .ref m6, .ref m7, .ref m8, .long sd, .int ik, .int kh, .int (nI km), .int ka, .int ks, .int kac, .ref m9, .ref m10, .ref m11, .ref m12, .long hv])), (m1, .inl (cI, 6, .inl (upd g1 kc p0))), (m2, .inl (cI, 6, .inl g2)), (m3, .inl (cI, 6, .inl g3)), (m4, .inl (cI, 6, .inl g4)), (m5, .inl (cI, 6, .inl g5))] := hD
  refine lv_aload_n hx hb dX7_lay_10 rfl (lv_at hl 0 rfl) ?_
  refine va_get (D := (dC, dI)) (ci := 7) (v := .ref m2) (C := RX7) (T := TX7) (N := 31) hx hb hts hiX7 hown hK hP 0 rfl rfl 8 (by decide) (hts (.fieldLink RX7 20 "LeftProfileModel" "placeOf" "[I") (List.mem_of_getElem? (i := 3) rfl)) (fun _ h9 => h9) rfl dX7_lay_11 ?_
  refine lv_aload_n hx hb dX7_lay_14 rfl (lv_at hl 0 rfl) ?_
  refine va_get (D := (dC, dI)) (ci := 7) (v := .int (nI kc)) (C := RX7) (T := TX7) (N := 31) hx hb hts hiX7 hown hK hP 0 rfl rfl 6 (by decide) (hts (.fieldLink RX7 86 "LeftProfileModel" "courtiers" "I") (List.mem_of_getElem? (i := 2) rfl)) (fun _ h9 => h9) rfl dX7_lay_15 ?_
  refine lv_iload_n hx hb dX7_lay_18 rfl (lv_at hl 2 rfl) ?_
  refine va_iast hx hb hK hP hD hS 2 0 rfl rfl (vp_in_nI (n := kc) (by omega) (by omega)) dX7_lay_19 (fun H locs hP hD hS => ?_)
  rw [show (nI kc).toNatClampNeg = kc from nI_clamp (n := kc) (by omega)] at hP hD
  have hP : va_P (dC, dI) vwCl [(h0, .inr (7, [.int ih, .int hn, .int fl, .int da, .int ds, .int ac, .int (nI kc), .ref m1, .ref m2, .ref m3, .ref m4, .ref m5, .int (nI pl), .ref pg, .int fa, .int nf, .ref m6, .ref m7, .ref m8, .long sd, .int ik, .int kh, .int (nI km), .int ka, .int ks, .int kac, .ref m9, .ref m10, .ref m11, .ref m12, .long hv])), (m1, .inl (cI, 6, .inl (upd g1 kc p0))), (m2, .inl (cI, 6, .inl (upd g2 kc p1))), (m3, .inl (cI, 6, .inl g3)), (m4, .inl (cI, 6, .inl g4)), (m5, .inl (cI, 6, .inl g5))] H := hP
  have hD : va_D A [(h0, .inr (7, [.int ih, .int hn, .int fl, .int da, .int ds, .int ac, .int (nI kc), .ref m1, .ref m2, .ref m3, .ref m4, .ref m5, .int (nI pl), .ref pg, .int fa, .int nf, .ref m6, .ref m7, .ref m8, .long sd, .int ik, .int kh, .int (nI km), .int ka, .int ks, .int kac, .ref m9, .ref m10, .ref m11, .ref m12, .long hv])), (m1, .inl (cI, 6, .inl (upd g1 kc p0))), (m2, .inl (cI, 6, .inl (upd g2 kc p1))), (m3, .inl (cI, 6, .inl g3)), (m4, .inl (cI, 6, .inl g4)), (m5, .inl (cI, 6, .inl g5))] := hD
  refine lv_aload_n hx hb dX7_lay_20 rfl (lv_at hl 0 rfl) ?_
  refine va_get (D := (dC, dI)) (ci := 7) (v := .ref m3) (C := RX7) (T := TX7) (N := 31) hx hb hts hiX7 hown hK hP 0 rfl rfl 9 (by decide) (hts (.fieldLink RX7 23 "LeftProfileModel" "sawLeft" "[I") (List.mem_of_getElem? (i := 4) rfl)) (fun _ h9 => h9) rfl dX7_lay_21 ?_
  refine lv_aload_n hx hb dX7_lay_24 rfl (lv_at hl 0 rfl) ?_
  refine va_get (D := (dC, dI)) (ci := 7) (v := .int (nI kc)) (C := RX7) (T := TX7) (N := 31) hx hb hts hiX7 hown hK hP 0 rfl rfl 6 (by decide) (hts (.fieldLink RX7 86 "LeftProfileModel" "courtiers" "I") (List.mem_of_getElem? (i := 2) rfl)) (fun _ h9 => h9) rfl dX7_lay_25 ?_
  refine lv_iconst (v := 0) hx hb dX7_lay_28 (by decide) ?_
  refine va_iast hx hb hK hP hD hS 3 0 rfl rfl (vp_in_nI (n := kc) (by omega) (by omega)) dX7_lay_29 (fun H locs hP hD hS => ?_)
  rw [show (nI kc).toNatClampNeg = kc from nI_clamp (n := kc) (by omega)] at hP hD
  have hP : va_P (dC, dI) vwCl [(h0, .inr (7, [.int ih, .int hn, .int fl, .int da, .int ds, .int ac, .int (nI kc), .ref m1, .ref m2, .ref m3, .ref m4, .ref m5, .int (nI pl), .ref pg, .int fa, .int nf, .ref m6, .ref m7, .ref m8, .long sd, .int ik, .int kh, .int (nI km), .int ka, .int ks, .int kac, .ref m9, .ref m10, .ref m11, .ref m12, .long hv])), (m1, .inl (cI, 6, .inl (upd g1 kc p0))), (m2, .inl (cI, 6, .inl (upd g2 kc p1))), (m3, .inl (cI, 6, .inl (upd g3 kc 0))), (m4, .inl (cI, 6, .inl g4)), (m5, .inl (cI, 6, .inl g5))] H := hP
  have hD : va_D A [(h0, .inr (7, [.int ih, .int hn, .int fl, .int da, .int ds, .int ac, .int (nI kc), .ref m1, .ref m2, .ref m3, .ref m4, .ref m5, .int (nI pl), .ref pg, .int fa, .int nf, .ref m6, .ref m7, .ref m8, .long sd, .int ik, .int kh, .int (nI km), .int ka, .int ks, .int kac, .ref m9, .ref m10, .ref m11, .ref m12, .long hv])), (m1, .inl (cI, 6, .inl (upd g1 kc p0))), (m2, .inl (cI, 6, .inl (upd g2 kc p1))), (m3, .inl (cI, 6, .inl (upd g3 kc 0))), (m4, .inl (cI, 6, .inl g4)), (m5, .inl (cI, 6, .inl g5))] := hD
  refine lv_aload_n hx hb dX7_lay_30 rfl (lv_at hl 0 rfl) ?_
  refine va_get (D := (dC, dI)) (ci := 7) (v := .ref m4) (C := RX7) (T := TX7) (N := 31) hx hb hts hiX7 hown hK hP 0 rfl rfl 10 (by decide) (hts (.fieldLink RX7 26 "LeftProfileModel" "sawRight" "[I") (List.mem_of_getElem? (i := 5) rfl)) (fun _ h9 => h9) rfl dX7_lay_31 ?_
  refine lv_aload_n hx hb dX7_lay_34 rfl (lv_at hl 0 rfl) ?_
  refine va_get (D := (dC, dI)) (ci := 7) (v := .int (nI kc)) (C := RX7) (T := TX7) (N := 31) hx hb hts hiX7 hown hK hP 0 rfl rfl 6 (by decide) (hts (.fieldLink RX7 86 "LeftProfileModel" "courtiers" "I") (List.mem_of_getElem? (i := 2) rfl)) (fun _ h9 => h9) rfl dX7_lay_35 ?_
  refine lv_iconst (v := 0) hx hb dX7_lay_38 (by decide) ?_
  refine va_iast hx hb hK hP hD hS 4 0 rfl rfl (vp_in_nI (n := kc) (by omega) (by omega)) dX7_lay_39 (fun H locs hP hD hS => ?_)
  rw [show (nI kc).toNatClampNeg = kc from nI_clamp (n := kc) (by omega)] at hP hD
  have hP : va_P (dC, dI) vwCl [(h0, .inr (7, [.int ih, .int hn, .int fl, .int da, .int ds, .int ac, .int (nI kc), .ref m1, .ref m2, .ref m3, .ref m4, .ref m5, .int (nI pl), .ref pg, .int fa, .int nf, .ref m6, .ref m7, .ref m8, .long sd, .int ik, .int kh, .int (nI km), .int ka, .int ks, .int kac, .ref m9, .ref m10, .ref m11, .ref m12, .long hv])), (m1, .inl (cI, 6, .inl (upd g1 kc p0))), (m2, .inl (cI, 6, .inl (upd g2 kc p1))), (m3, .inl (cI, 6, .inl (upd g3 kc 0))), (m4, .inl (cI, 6, .inl (upd g4 kc 0))), (m5, .inl (cI, 6, .inl g5))] H := hP
  have hD : va_D A [(h0, .inr (7, [.int ih, .int hn, .int fl, .int da, .int ds, .int ac, .int (nI kc), .ref m1, .ref m2, .ref m3, .ref m4, .ref m5, .int (nI pl), .ref pg, .int fa, .int nf, .ref m6, .ref m7, .ref m8, .long sd, .int ik, .int kh, .int (nI km), .int ka, .int ks, .int kac, .ref m9, .ref m10, .ref m11, .ref m12, .long hv])), (m1, .inl (cI, 6, .inl (upd g1 kc p0))), (m2, .inl (cI, 6, .inl (upd g2 kc p1))), (m3, .inl (cI, 6, .inl (upd g3 kc 0))), (m4, .inl (cI, 6, .inl (upd g4 kc 0))), (m5, .inl (cI, 6, .inl g5))] := hD
  refine lv_aload_n hx hb dX7_lay_40 rfl (lv_at hl 0 rfl) ?_
  refine va_get (D := (dC, dI)) (ci := 7) (v := .ref m5) (C := RX7) (T := TX7) (N := 31) hx hb hts hiX7 hown hK hP 0 rfl rfl 11 (by decide) (hts (.fieldLink RX7 29 "LeftProfileModel" "toldOf" "[I") (List.mem_of_getElem? (i := 6) rfl)) (fun _ h9 => h9) rfl dX7_lay_41 ?_
  refine lv_aload_n hx hb dX7_lay_44 rfl (lv_at hl 0 rfl) ?_
  refine va_get (D := (dC, dI)) (ci := 7) (v := .int (nI kc)) (C := RX7) (T := TX7) (N := 31) hx hb hts hiX7 hown hK hP 0 rfl rfl 6 (by decide) (hts (.fieldLink RX7 86 "LeftProfileModel" "courtiers" "I") (List.mem_of_getElem? (i := 2) rfl)) (fun _ h9 => h9) rfl dX7_lay_45 ?_
  refine lv_iconst (v := (-1)) hx hb dX7_lay_48 (by decide) ?_
  refine va_iast hx hb hK hP hD hS 5 0 rfl rfl (vp_in_nI (n := kc) (by omega) (by omega)) dX7_lay_49 (fun H locs hP hD hS => ?_)
  rw [show (nI kc).toNatClampNeg = kc from nI_clamp (n := kc) (by omega)] at hP hD
  have hP : va_P (dC, dI) vwCl [(h0, .inr (7, [.int ih, .int hn, .int fl, .int da, .int ds, .int ac, .int (nI kc), .ref m1, .ref m2, .ref m3, .ref m4, .ref m5, .int (nI pl), .ref pg, .int fa, .int nf, .ref m6, .ref m7, .ref m8, .long sd, .int ik, .int kh, .int (nI km), .int ka, .int ks, .int kac, .ref m9, .ref m10, .ref m11, .ref m12, .long hv])), (m1, .inl (cI, 6, .inl (upd g1 kc p0))), (m2, .inl (cI, 6, .inl (upd g2 kc p1))), (m3, .inl (cI, 6, .inl (upd g3 kc 0))), (m4, .inl (cI, 6, .inl (upd g4 kc 0))), (m5, .inl (cI, 6, .inl (upd g5 kc (-1))))] H := hP
  have hD : va_D A [(h0, .inr (7, [.int ih, .int hn, .int fl, .int da, .int ds, .int ac, .int (nI kc), .ref m1, .ref m2, .ref m3, .ref m4, .ref m5, .int (nI pl), .ref pg, .int fa, .int nf, .ref m6, .ref m7, .ref m8, .long sd, .int ik, .int kh, .int (nI km), .int ka, .int ks, .int kac, .ref m9, .ref m10, .ref m11, .ref m12, .long hv])), (m1, .inl (cI, 6, .inl (upd g1 kc p0))), (m2, .inl (cI, 6, .inl (upd g2 kc p1))), (m3, .inl (cI, 6, .inl (upd g3 kc 0))), (m4, .inl (cI, 6, .inl (upd g4 kc 0))), (m5, .inl (cI, 6, .inl (upd g5 kc (-1))))] := hD
  refine lv_aload_n hx hb dX7_lay_50 rfl (lv_at hl 0 rfl) ?_
  refine lv_dup hx hb dX7_lay_51 rfl ?_
  refine va_get (D := (dC, dI)) (ci := 7) (v := .int (nI kc)) (C := RX7) (T := TX7) (N := 31) hx hb hts hiX7 hown hK hP 0 rfl rfl 6 (by decide) (hts (.fieldLink RX7 86 "LeftProfileModel" "courtiers" "I") (List.mem_of_getElem? (i := 2) rfl)) (fun _ h9 => h9) rfl dX7_lay_52 ?_
  refine lv_iconst (v := 1) hx hb dX7_lay_55 (by decide) ?_
  refine lv_iadd hx hb dX7_lay_56 ?_
  refine cz_i (y := (nI (kc + 1))) (nI_add kc 1) ?_
  refine va_put (D := (dC, dI)) (ci := 7) (v := .int (nI (kc + 1))) (ty := .int) (C := RX7) (T := TX7) (N := 31) hx hb hts hiX7 tyX7 tyX7_ok nmX7 hown hK hP hD hS 0 rfl rfl 6 (by decide) (hts (.fieldLink RX7 86 "LeftProfileModel" "courtiers" "I") (List.mem_of_getElem? (i := 2) rfl)) (fun _ h9 => h9) rfl (by decide +kernel) rfl rfl (Nat.le_of_ble_eq_true rfl) dX7_lay_57 (fun H locs hP hD hS => ?_)
  have hP : va_P (dC, dI) vwCl [(h0, .inr (7, [.int ih, .int hn, .int fl, .int da, .int ds, .int ac, .int (nI (kc + 1)), .ref m1, .ref m2, .ref m3, .ref m4, .ref m5, .int (nI pl), .ref pg, .int fa, .int nf, .ref m6, .ref m7, .ref m8, .long sd, .int ik, .int kh, .int (nI km), .int ka, .int ks, .int kac, .ref m9, .ref m10, .ref m11, .ref m12, .long hv])), (m1, .inl (cI, 6, .inl (upd g1 kc p0))), (m2, .inl (cI, 6, .inl (upd g2 kc p1))), (m3, .inl (cI, 6, .inl (upd g3 kc 0))), (m4, .inl (cI, 6, .inl (upd g4 kc 0))), (m5, .inl (cI, 6, .inl (upd g5 kc (-1))))] H := hP
  have hD : va_D A [(h0, .inr (7, [.int ih, .int hn, .int fl, .int da, .int ds, .int ac, .int (nI (kc + 1)), .ref m1, .ref m2, .ref m3, .ref m4, .ref m5, .int (nI pl), .ref pg, .int fa, .int nf, .ref m6, .ref m7, .ref m8, .long sd, .int ik, .int kh, .int (nI km), .int ka, .int ks, .int kac, .ref m9, .ref m10, .ref m11, .ref m12, .long hv])), (m1, .inl (cI, 6, .inl (upd g1 kc p0))), (m2, .inl (cI, 6, .inl (upd g2 kc p1))), (m3, .inl (cI, 6, .inl (upd g3 kc 0))), (m4, .inl (cI, 6, .inl (upd g4 kc 0))), (m5, .inl (cI, 6, .inl (upd g5 kc (-1))))] := hD
  refine W.widen (k := 0) (n := 0) (Nat.le_of_ble_eq_true rfl) (Nat.le_of_ble_eq_true rfl) ?_
  have hP9 := hP.sub (ws' := [(h0, .inr (7, [.int ih, .int hn, .int fl, .int da, .int ds, .int ac, .int (nI (kc + 1)), .ref m1, .ref m2, .ref m3, .ref m4, .ref m5, .int (nI pl), .ref pg, .int fa, .int nf, .ref m6, .ref m7, .ref m8, .long sd, .int ik, .int kh, .int (nI km), .int ka, .int ks, .int kac, .ref m9, .ref m10, .ref m11, .ref m12, .long hv])), (m1, .inl (cI, 6, .inl (upd g1 kc p0))), (m2, .inl (cI, 6, .inl (upd g2 kc p1))), (m3, .inl (cI, 6, .inl (upd g3 kc 0))), (m4, .inl (cI, 6, .inl (upd g4 kc 0))), (m5, .inl (cI, 6, .inl (upd g5 kc (-1))))]) [0, 1, 2, 3, 4, 5] rfl
  have hD9 := hD.sub (ws' := [(h0, .inr (7, [.int ih, .int hn, .int fl, .int da, .int ds, .int ac, .int (nI (kc + 1)), .ref m1, .ref m2, .ref m3, .ref m4, .ref m5, .int (nI pl), .ref pg, .int fa, .int nf, .ref m6, .ref m7, .ref m8, .long sd, .int ik, .int kh, .int (nI km), .int ka, .int ks, .int kac, .ref m9, .ref m10, .ref m11, .ref m12, .long hv])), (m1, .inl (cI, 6, .inl (upd g1 kc p0))), (m2, .inl (cI, 6, .inl (upd g2 kc p1))), (m3, .inl (cI, 6, .inl (upd g3 kc 0))), (m4, .inl (cI, 6, .inl (upd g4 kc 0))), (m5, .inl (cI, 6, .inl (upd g5 kc (-1))))]) [0, 1, 2, 3, 4, 5] (by decide) rfl
  rw [hQ]; exact W.vret hx hb hr (fun t ht hW => ⟨⟨(), rfl, trivial, ⟨(kc + 1), (upd g1 kc p0), (upd g2 kc p1), (upd g3 kc 0), (upd g4 kc 0), (upd g5 kc (-1)), (by omega), (cz_pl_upd hpl hp1), by rw [ht]; exact hP9, hD9⟩⟩, hS.F ht⟩) hS.2.2 dX7_lay_60

set_option maxHeartbeats 4000000 in
set_option maxRecDepth 100000 in
theorem c_X7_courtier (l : Launch) (dC : Nat → ClassId) (dI : Nat → Nat → Nat) (cI cB : ClassId) (h0 : Nat) (p0 : Int32) (p1 : Int32) (ih : Int32) (hn : Int32) (fl : Int32) (da : Int32) (ds : Int32) (ac : Int32) (kc : Nat) (m1 : Nat) (m2 : Nat) (m3 : Nat) (m4 : Nat) (m5 : Nat) (pl : Nat) (pg : Nat) (fa : Int32) (nf : Int32) (m6 : Nat) (m7 : Nat) (m8 : Nat) (sd : Int64) (ik : Int32) (kh : Int32) (km : Nat) (ka : Int32) (ks : Int32) (kac : Int32) (m9 : Nat) (m10 : Nat) (m11 : Nat) (m12 : Nat) (hv : Int64) (g1 : Nat → Int32) (g2 : Nat → Int32) (g3 : Nat → Int32) (g4 : Nat → Int32) (g5 : Nat → Int32) (sz : Nat) (hkc : kc ≤ 6) (hpl : cz_pl g2) : Met l yX7_courtier wsX7_courtier ({ frames := 2, cells := 0, slots := 0, locals := 44 }) (cz_Pm dC dI cI cB [.ref h0, .int p0, .int p1] [(h0, .inr (7, [.int ih, .int hn, .int fl, .int da, .int ds, .int ac, .int (nI kc), .ref m1, .ref m2, .ref m3, .ref m4, .ref m5, .int (nI pl), .ref pg, .int fa, .int nf, .ref m6, .ref m7, .ref m8, .long sd, .int ik, .int kh, .int (nI km), .int ka, .int ks, .int kac, .ref m9, .ref m10, .ref m11, .ref m12, .long hv])), (m1, .inl (cI, 6, .inl g1)), (m2, .inl (cI, 6, .inl g2)), (m3, .inl (cI, 6, .inl g3)), (m4, .inl (cI, 6, .inl g4)), (m5, .inl (cI, 6, .inl g5))] sz) (va_Qi (fun (r : Int32) (_ : Unit) => True) (fun _ t => ∃ (kk : Nat) (t1 : Nat → Int32) (t2 : Nat → Int32) (t3 : Nat → Int32) (t4 : Nat → Int32) (t5 : Nat → Int32), (kk ≤ 6) ∧ (cz_pl t2) ∧ va_P (dC, dI) vwCl [(h0, .inr (7, [.int ih, .int hn, .int fl, .int da, .int ds, .int ac, .int (nI kk), .ref m1, .ref m2, .ref m3, .ref m4, .ref m5, .int (nI pl), .ref pg, .int fa, .int nf, .ref m6, .ref m7, .ref m8, .long sd, .int ik, .int kh, .int (nI km), .int ka, .int ks, .int kac, .ref m9, .ref m10, .ref m11, .ref m12, .long hv])), (m1, .inl (cI, 6, .inl t1)), (m2, .inl (cI, 6, .inl t2)), (m3, .inl (cI, 6, .inl t3)), (m4, .inl (cI, 6, .inl t4)), (m5, .inl (cI, 6, .inl t5))] t.heap ∧ va_D (va_A [(h0, .inr (7, [.int ih, .int hn, .int fl, .int da, .int ds, .int ac, .int (nI kc), .ref m1, .ref m2, .ref m3, .ref m4, .ref m5, .int (nI pl), .ref pg, .int fa, .int nf, .ref m6, .ref m7, .ref m8, .long sd, .int ik, .int kh, .int (nI km), .int ka, .int ks, .int kac, .ref m9, .ref m10, .ref m11, .ref m12, .long hv])), (m1, .inl (cI, 6, .inl g1)), (m2, .inl (cI, 6, .inl g2)), (m3, .inl (cI, 6, .inl g3)), (m4, .inl (cI, 6, .inl g4)), (m5, .inl (cI, 6, .inl g5))] sz) [(h0, .inr (7, [.int ih, .int hn, .int fl, .int da, .int ds, .int ac, .int (nI kk), .ref m1, .ref m2, .ref m3, .ref m4, .ref m5, .int (nI pl), .ref pg, .int fa, .int nf, .ref m6, .ref m7, .ref m8, .long sd, .int ik, .int kh, .int (nI km), .int ka, .int ks, .int kac, .ref m9, .ref m10, .ref m11, .ref m12, .long hv])), (m1, .inl (cI, 6, .inl t1)), (m2, .inl (cI, 6, .inl t2)), (m3, .inl (cI, 6, .inl t3)), (m4, .inl (cI, 6, .inl t4)), (m5, .inl (cI, 6, .inl t5))]) (va_A [(h0, .inr (7, [.int ih, .int hn, .int fl, .int da, .int ds, .int ac, .int (nI kc), .ref m1, .ref m2, .ref m3, .ref m4, .ref m5, .int (nI pl), .ref pg, .int fa, .int nf, .ref m6, .ref m7, .ref m8, .long sd, .int ik, .int kh, .int (nI km), .int ka, .int ks, .int kac, .ref m9, .ref m10, .ref m11, .ref m12, .long hv])), (m1, .inl (cI, 6, .inl g1)), (m2, .inl (cI, 6, .inl g2)), (m3, .inl (cI, 6, .inl g3)), (m4, .inl (cI, 6, .inl g4)), (m5, .inl (cI, 6, .inl g5))] sz)) 0 0 (va_A [(h0, .inr (7, [.int ih, .int hn, .int fl, .int da, .int ds, .int ac, .int (nI kc), .ref m1, .ref m2, .ref m3, .ref m4, .ref m5, .int (nI pl), .ref pg, .int fa, .int nf, .ref m6, .ref m7, .ref m8, .long sd, .int ik, .int kh, .int (nI km), .int ka, .int ks, .int kac, .ref m9, .ref m10, .ref m11, .ref m12, .long hv])), (m1, .inl (cI, 6, .inl g1)), (m2, .inl (cI, 6, .inl g2)), (m3, .inl (cI, 6, .inl g3)), (m4, .inl (cI, 6, .inl g4)), (m5, .inl (cI, 6, .inl g5))] sz) := by
  refine cz_of (cc := cX7_courtier) (maxL := 3) (ret := (some .int)) (by decide) rfl ?_
  intro p e s m args below meth c s₁ Q B hml hv hQ
  obtain ⟨rfl, hsz, hP, hN, hD0⟩ := hv
  have hx := B.exec
  have hb := B.bytes
  have hr := B.returns
  have hts := atoms_spec (ws := wsX7_courtier) B.pre
  have hown : s.vm.findClass RX7 = some m.cls := findClass_of_methodNamed B.named
  have hlocks := B.notSynchronized
  have hK := hN.1
  have hiX7 : ∀ w ∈ wsX70, w ∈ wsX7_courtier := (fun _ h => List.mem_cons_of_mem _ (List.mem_append_right _ h))
  subst hsz
  have hD := hD0.self (sz := s.heap.size)
  generalize hAe : va_A [(h0, .inr (7, [.int ih, .int hn, .int fl, .int da, .int ds, .int ac, .int (nI kc), .ref m1, .ref m2, .ref m3, .ref m4, .ref m5, .int (nI pl), .ref pg, .int fa, .int nf, .ref m6, .ref m7, .ref m8, .long sd, .int ik, .int kh, .int (nI km), .int ka, .int ks, .int kac, .ref m9, .ref m10, .ref m11, .ref m12, .long hv])), (m1, .inl (cI, 6, .inl g1)), (m2, .inl (cI, 6, .inl g2)), (m3, .inl (cI, 6, .inl g3)), (m4, .inl (cI, 6, .inl g4)), (m5, .inl (cI, 6, .inl g5))] s.heap.size = A at hD hQ ⊢
  have hA : ∀ q : Nat, s.heap.size ≤ q → A q := fun q h => by rw [← hAe]; exact Or.inr h
  have hS : va_S A s.heap s.heap [] := va_S.rf
  obtain ⟨H, eH⟩ : ∃ H, H = s.heap := ⟨_, rfl⟩
  have hP : va_P (dC, dI) vwCl [(h0, .inr (7, [.int ih, .int hn, .int fl, .int da, .int ds, .int ac, .int (nI kc), .ref m1, .ref m2, .ref m3, .ref m4, .ref m5, .int (nI pl), .ref pg, .int fa, .int nf, .ref m6, .ref m7, .ref m8, .long sd, .int ik, .int kh, .int (nI km), .int ka, .int ks, .int kac, .ref m9, .ref m10, .ref m11, .ref m12, .long hv])), (m1, .inl (cI, 6, .inl g1)), (m2, .inl (cI, 6, .inl g2)), (m3, .inl (cI, 6, .inl g3)), (m4, .inl (cI, 6, .inl g4)), (m5, .inl (cI, 6, .inl g5))] s.heap := hP
  have hl := lv_entry ([.ref h0, .int p0, .int p1]) (n := 3) (Nat.le_of_ble_eq_true rfl)
  rw [lg_entry_eq]
  generalize (lg_sl ([.ref h0, .int p0, .int p1]) ++ List.replicate (3 - (lg_sl ([.ref h0, .int p0, .int p1])).length) Slot.unset).toArray = ls at hl ⊢
  have hl : lv_has ls 3 [(0, .ref h0), (1, .int p0), (2, .int p1)] := hl
  refine lv_iload_n hx hb dX7_courtier_0 rfl (lv_at hl 2 rfl) ?_
  refine vp_callSi (cz_run (va_runS (As := [.int p1]) (rest := []) ⟨hx, hb, hml, hown, hts⟩ (c_X7_isPlace l dC dI cI cB p1 ) (va_cwS 1 hts gX7_courtier_X7_isPlace rfl rfl rfl (by decide +kernel) ⟨Nat.le_of_ble_eq_true rfl, Nat.le_of_ble_eq_true rfl⟩) (cz_pS (hP.sub (ws' := []) [] rfl) hN) rfl rfl hl.1 rfl (lv_room (Nat.le_of_ble_eq_true rfl)) dX7_courtier_1 ⟨Nat.le_of_ble_eq_true rfl, Nat.le_of_ble_eq_true rfl⟩)) (fun r_1 hr_1 => ?_)
  rcases hr_1 with ⟨rfl, hr_1⟩ | ⟨rfl, hr_1⟩
  · refine lv_if_ne (tgt := 10) hx hb dX7_courtier_4 (by decide) (fun c => absurd (by decide) c) (fun _ => ?_)
    refine lv_bipush (v := (-101)) hx hb dX7_courtier_7 (by decide) ?_
    refine W.widen (k := 0) (n := 0) (Nat.le_of_ble_eq_true rfl) (Nat.le_of_ble_eq_true rfl) ?_
    have hP9 := hP.sub (ws' := [(h0, .inr (7, [.int ih, .int hn, .int fl, .int da, .int ds, .int ac, .int (nI kc), .ref m1, .ref m2, .ref m3, .ref m4, .ref m5, .int (nI pl), .ref pg, .int fa, .int nf, .ref m6, .ref m7, .ref m8, .long sd, .int ik, .int kh, .int (nI km), .int ka, .int ks, .int kac, .ref m9, .ref m10, .ref m11, .ref m12, .long hv])), (m1, .inl (cI, 6, .inl g1)), (m2, .inl (cI, 6, .inl g2)), (m3, .inl (cI, 6, .inl g3)), (m4, .inl (cI, 6, .inl g4)), (m5, .inl (cI, 6, .inl g5))]) [0, 1, 2, 3, 4, 5] rfl
    have hD9 := hD.sub (ws' := [(h0, .inr (7, [.int ih, .int hn, .int fl, .int da, .int ds, .int ac, .int (nI kc), .ref m1, .ref m2, .ref m3, .ref m4, .ref m5, .int (nI pl), .ref pg, .int fa, .int nf, .ref m6, .ref m7, .ref m8, .long sd, .int ik, .int kh, .int (nI km), .int ka, .int ks, .int kac, .ref m9, .ref m10, .ref m11, .ref m12, .long hv])), (m1, .inl (cI, 6, .inl g1)), (m2, .inl (cI, 6, .inl g2)), (m3, .inl (cI, 6, .inl g3)), (m4, .inl (cI, 6, .inl g4)), (m5, .inl (cI, 6, .inl g5))]) [0, 1, 2, 3, 4, 5] (by decide) rfl
    rw [hQ]; exact W.iret (v := (-101)) hx hb hr (fun t ht hW => ⟨⟨(-101), (), rfl, trivial, ⟨kc, g1, g2, g3, g4, g5, hkc, hpl, by rw [ht]; exact hP9, hD9⟩⟩, hS.F ht⟩) hS.2.2 dX7_courtier_9
  · refine lv_if_ne (tgt := 10) hx hb dX7_courtier_4 (by decide) (fun _ => ?_) (fun c => absurd c (by decide))
    refine lv_iload_n hx hb dX7_courtier_10 rfl (lv_at hl 1 rfl) ?_
    refine lv_iconst (v := 0) hx hb dX7_courtier_11 (by decide) ?_
    refine lv_iconst (v := 4) hx hb dX7_courtier_12 (by decide) ?_
    refine vp_callSi (cz_run (va_runS (As := [.int p0, .int 0, .int 4]) (rest := []) ⟨hx, hb, hml, hown, hts⟩ (c_X7_within l dC dI cI cB p0 0 4 ) (va_cwS 3 hts gX7_courtier_X7_within rfl rfl rfl (by decide +kernel) ⟨Nat.le_of_ble_eq_true rfl, Nat.le_of_ble_eq_true rfl⟩) (cz_pS (hP.sub (ws' := []) [] rfl) hN) rfl rfl hl.1 rfl (lv_room (Nat.le_of_ble_eq_true rfl)) dX7_courtier_13 ⟨Nat.le_of_ble_eq_true rfl, Nat.le_of_ble_eq_true rfl⟩)) (fun r_2 hr_2 => ?_)
    rcases hr_2 with ⟨rfl, hr_2⟩ | ⟨rfl, hr_2⟩
    · refine lv_if_ne (tgt := 22) hx hb dX7_courtier_16 (by decide) (fun c => absurd (by decide) c) (fun _ => ?_)
      refine lv_bipush (v := (-102)) hx hb dX7_courtier_19 (by decide) ?_
      refine W.widen (k := 0) (n := 0) (Nat.le_of_ble_eq_true rfl) (Nat.le_of_ble_eq_true rfl) ?_
      have hP9 := hP.sub (ws' := [(h0, .inr (7, [.int ih, .int hn, .int fl, .int da, .int ds, .int ac, .int (nI kc), .ref m1, .ref m2, .ref m3, .ref m4, .ref m5, .int (nI pl), .ref pg, .int fa, .int nf, .ref m6, .ref m7, .ref m8, .long sd, .int ik, .int kh, .int (nI km), .int ka, .int ks, .int kac, .ref m9, .ref m10, .ref m11, .ref m12, .long hv])), (m1, .inl (cI, 6, .inl g1)), (m2, .inl (cI, 6, .inl g2)), (m3, .inl (cI, 6, .inl g3)), (m4, .inl (cI, 6, .inl g4)), (m5, .inl (cI, 6, .inl g5))]) [0, 1, 2, 3, 4, 5] rfl
      have hD9 := hD.sub (ws' := [(h0, .inr (7, [.int ih, .int hn, .int fl, .int da, .int ds, .int ac, .int (nI kc), .ref m1, .ref m2, .ref m3, .ref m4, .ref m5, .int (nI pl), .ref pg, .int fa, .int nf, .ref m6, .ref m7, .ref m8, .long sd, .int ik, .int kh, .int (nI km), .int ka, .int ks, .int kac, .ref m9, .ref m10, .ref m11, .ref m12, .long hv])), (m1, .inl (cI, 6, .inl g1)), (m2, .inl (cI, 6, .inl g2)), (m3, .inl (cI, 6, .inl g3)), (m4, .inl (cI, 6, .inl g4)), (m5, .inl (cI, 6, .inl g5))]) [0, 1, 2, 3, 4, 5] (by decide) rfl
      rw [hQ]; exact W.iret (v := (-102)) hx hb hr (fun t ht hW => ⟨⟨(-102), (), rfl, trivial, ⟨kc, g1, g2, g3, g4, g5, hkc, hpl, by rw [ht]; exact hP9, hD9⟩⟩, hS.F ht⟩) hS.2.2 dX7_courtier_21
    · refine lv_if_ne (tgt := 22) hx hb dX7_courtier_16 (by decide) (fun _ => ?_) (fun c => absurd c (by decide))
      refine lv_aload_n hx hb dX7_courtier_22 rfl (lv_at hl 0 rfl) ?_
      refine va_get (D := (dC, dI)) (ci := 7) (v := .int ih) (C := RX7) (T := TX7) (N := 31) hx hb hts hiX7 hown hK hP 0 rfl rfl 0 (by decide) (hts (.fieldLink RX7 76 "LeftProfileModel" "isHall" "Z") (List.mem_of_getElem? (i := 1) rfl)) (fun _ h9 => h9) rfl dX7_courtier_23 ?_
      refine lv_if_eq (tgt := 37) hx hb dX7_courtier_26 (by decide) (fun c_3 => ?_) (fun c_3 => ?_)
      · refine lv_bipush (v := (-103)) hx hb dX7_courtier_37 (by decide) ?_
        refine W.widen (k := 0) (n := 0) (Nat.le_of_ble_eq_true rfl) (Nat.le_of_ble_eq_true rfl) ?_
        have hP9 := hP.sub (ws' := [(h0, .inr (7, [.int ih, .int hn, .int fl, .int da, .int ds, .int ac, .int (nI kc), .ref m1, .ref m2, .ref m3, .ref m4, .ref m5, .int (nI pl), .ref pg, .int fa, .int nf, .ref m6, .ref m7, .ref m8, .long sd, .int ik, .int kh, .int (nI km), .int ka, .int ks, .int kac, .ref m9, .ref m10, .ref m11, .ref m12, .long hv])), (m1, .inl (cI, 6, .inl g1)), (m2, .inl (cI, 6, .inl g2)), (m3, .inl (cI, 6, .inl g3)), (m4, .inl (cI, 6, .inl g4)), (m5, .inl (cI, 6, .inl g5))]) [0, 1, 2, 3, 4, 5] rfl
        have hD9 := hD.sub (ws' := [(h0, .inr (7, [.int ih, .int hn, .int fl, .int da, .int ds, .int ac, .int (nI kc), .ref m1, .ref m2, .ref m3, .ref m4, .ref m5, .int (nI pl), .ref pg, .int fa, .int nf, .ref m6, .ref m7, .ref m8, .long sd, .int ik, .int kh, .int (nI km), .int ka, .int ks, .int kac, .ref m9, .ref m10, .ref m11, .ref m12, .long hv])), (m1, .inl (cI, 6, .inl g1)), (m2, .inl (cI, 6, .inl g2)), (m3, .inl (cI, 6, .inl g3)), (m4, .inl (cI, 6, .inl g4)), (m5, .inl (cI, 6, .inl g5))]) [0, 1, 2, 3, 4, 5] (by decide) rfl
        rw [hQ]; exact W.iret (v := (-103)) hx hb hr (fun t ht hW => ⟨⟨(-103), (), rfl, trivial, ⟨kc, g1, g2, g3, g4, g5, hkc, hpl, by rw [ht]; exact hP9, hD9⟩⟩, hS.F ht⟩) hS.2.2 dX7_courtier_39
      · refine lv_aload_n hx hb dX7_courtier_29 rfl (lv_at hl 0 rfl) ?_
        refine lv_iload_n hx hb dX7_courtier_30 rfl (lv_at hl 2 rfl) ?_
        refine vp_callSi (cz_run (va_runV (As := [.int p1]) (rest := []) ⟨hx, hb, hml, hown, hts⟩ (c_X7_isEmpty l dC dI cI cB h0 p1 ih hn fl da ds ac kc m1 m2 m3 m4 m5 pl pg fa nf m6 m7 m8 sd ik kh km ka ks kac m9 m10 m11 m12 hv g2 hkc) (cwV 1 hts gX7_courtier_X7_isEmpty rfl rfl rfl (by decide +kernel) ⟨Nat.le_of_ble_eq_true rfl, Nat.le_of_ble_eq_true rfl⟩) (cz_pV (hP.sub (ws' := [(h0, .inr (7, [.int ih, .int hn, .int fl, .int da, .int ds, .int ac, .int (nI kc), .ref m1, .ref m2, .ref m3, .ref m4, .ref m5, .int (nI pl), .ref pg, .int fa, .int nf, .ref m6, .ref m7, .ref m8, .long sd, .int ik, .int kh, .int (nI km), .int ka, .int ks, .int kac, .ref m9, .ref m10, .ref m11, .ref m12, .long hv])), (m2, .inl (cI, 6, .inl g2))]) [0, 2] rfl) hN (va_recv hK (hP.sub (ws' := [(h0, .inr (7, [.int ih, .int hn, .int fl, .int da, .int ds, .int ac, .int (nI kc), .ref m1, .ref m2, .ref m3, .ref m4, .ref m5, .int (nI pl), .ref pg, .int fa, .int nf, .ref m6, .ref m7, .ref m8, .long sd, .int ik, .int kh, .int (nI km), .int ka, .int ks, .int kac, .ref m9, .ref m10, .ref m11, .ref m12, .long hv])), (m2, .inl (cI, 6, .inl g2))]) [0, 2] rfl) (ci := 7) (q0 := 0) rfl rfl)) rfl rfl hl.1 rfl (lv_room (Nat.le_of_ble_eq_true rfl)) dX7_courtier_31 ⟨Nat.le_of_ble_eq_true rfl, Nat.le_of_ble_eq_true rfl⟩)) (fun r_4 hr_4 => ?_)
        refine lv_if_ne (tgt := 40) hx hb dX7_courtier_34 (by decide) (fun c_5 => ?_) (fun c_5 => ?_)
        · refine lv_aload_n hx hb dX7_courtier_40 rfl (lv_at hl 0 rfl) ?_
          refine va_get (D := (dC, dI)) (ci := 7) (v := .int (nI kc)) (C := RX7) (T := TX7) (N := 31) hx hb hts hiX7 hown hK hP 0 rfl rfl 6 (by decide) (hts (.fieldLink RX7 86 "LeftProfileModel" "courtiers" "I") (List.mem_of_getElem? (i := 2) rfl)) (fun _ h9 => h9) rfl dX7_courtier_41 ?_
          refine lv_bipush (v := 6) hx hb dX7_courtier_44 (by decide) ?_
          refine lv_icmp_ne (tgt := 52) hx hb dX7_courtier_46 (by decide) (fun c_6 => ?_) (fun c_6 => ?_)
          · have c_6 : ¬ kc = 6 := fun h => c_6 ((nI_eq (a := kc) (b := 6) (by omega) (by omega)).mpr h)
            refine lv_aload_n hx hb dX7_courtier_52 rfl (lv_at hl 0 rfl) ?_
            refine lv_iload_n hx hb dX7_courtier_53 rfl (lv_at hl 1 rfl) ?_
            refine lv_iload_n hx hb dX7_courtier_54 rfl (lv_at hl 2 rfl) ?_
            have hPc := hP.sub (ws' := [(h0, .inr (7, [.int ih, .int hn, .int fl, .int da, .int ds, .int ac, .int (nI kc), .ref m1, .ref m2, .ref m3, .ref m4, .ref m5, .int (nI pl), .ref pg, .int fa, .int nf, .ref m6, .ref m7, .ref m8, .long sd, .int ik, .int kh, .int (nI km), .int ka, .int ks, .int kac, .ref m9, .ref m10, .ref m11, .ref m12, .long hv])), (m1, .inl (cI, 6, .inl g1)), (m2, .inl (cI, 6, .inl g2)), (m3, .inl (cI, 6, .inl g3)), (m4, .inl (cI, 6, .inl g4)), (m5, .inl (cI, 6, .inl g5))]) [0, 1, 2, 3, 4, 5] rfl
            have hDc := hD.sub (ws' := [(h0, .inr (7, [.int ih, .int hn, .int fl, .int da, .int ds, .int ac, .int (nI kc), .ref m1, .ref m2, .ref m3, .ref m4, .ref m5, .int (nI pl), .ref pg, .int fa, .int nf, .ref m6, .ref m7, .ref m8, .long sd, .int ik, .int kh, .int (nI km), .int ka, .int ks, .int kac, .ref m9, .ref m10, .ref m11, .ref m12, .long hv])), (m1, .inl (cI, 6, .inl g1)), (m2, .inl (cI, 6, .inl g2)), (m3, .inl (cI, 6, .inl g3)), (m4, .inl (cI, 6, .inl g4)), (m5, .inl (cI, 6, .inl g5))]) [0, 1, 2, 3, 4, 5] (by decide) rfl
            have hFc := va_free (wc := [(h0, .inr (7, [.int ih, .int hn, .int fl, .int da, .int ds, .int ac, .int (nI kc), .ref m1, .ref m2, .ref m3, .ref m4, .ref m5, .int (nI pl), .ref pg, .int fa, .int nf, .ref m6, .ref m7, .ref m8, .long sd, .int ik, .int kh, .int (nI km), .int ka, .int ks, .int kac, .ref m9, .ref m10, .ref m11, .ref m12, .long hv])), (m1, .inl (cI, 6, .inl g1)), (m2, .inl (cI, 6, .inl g2)), (m3, .inl (cI, 6, .inl g3)), (m4, .inl (cI, 6, .inl g4)), (m5, .inl (cI, 6, .inl g5))]) hD hS hA [0, 1, 2, 3, 4, 5] rfl
            refine va_callv (va_runV (As := [.int p0, .int p1]) (rest := []) ⟨hx, hb, hml, hown, hts⟩ (c_X7_lay l dC dI cI cB h0 p0 p1 ih hn fl da ds ac kc m1 m2 m3 m4 m5 pl pg fa nf m6 m7 m8 sd ik kh km ka ks kac m9 m10 m11 m12 hv g1 g2 g3 g4 g5 s.heap.size (by omega) hpl hr_1) (cwV 2 hts gX7_courtier_X7_lay rfl rfl rfl (by decide +kernel) ⟨Nat.le_of_ble_eq_true rfl, Nat.le_of_ble_eq_true rfl⟩) (cz_mV hPc hN hDc (va_recv hK hPc (ci := 7) (q0 := 0) rfl rfl)) rfl rfl hl.1 rfl (lv_room (Nat.le_of_ble_eq_true rfl)) dX7_courtier_55 ⟨Nat.le_of_ble_eq_true rfl, Nat.le_of_ble_eq_true rfl⟩) hS (fun q _ h => hFc q h) hFc (fun u t H1 locs ht hvm hr_7 hB hz1 hk1 hS => ?_)
            obtain ⟨q_8, f_9, f_10, f_11, f_12, f_13, hr_7_k, hr_7_p, hP1, hD1⟩ := hB
            rw [ht] at hP1
            obtain ⟨hP, hD⟩ := va_join (wr := []) (w1 := [(h0, .inr (7, [.int ih, .int hn, .int fl, .int da, .int ds, .int ac, .int (nI q_8), .ref m1, .ref m2, .ref m3, .ref m4, .ref m5, .int (nI pl), .ref pg, .int fa, .int nf, .ref m6, .ref m7, .ref m8, .long sd, .int ik, .int kh, .int (nI km), .int ka, .int ks, .int kac, .ref m9, .ref m10, .ref m11, .ref m12, .long hv])), (m1, .inl (cI, 6, .inl f_9)), (m2, .inl (cI, 6, .inl f_10)), (m3, .inl (cI, 6, .inl f_11)), (m4, .inl (cI, 6, .inl f_12)), (m5, .inl (cI, 6, .inl f_13))]) hP hD [0, 1, 2, 3, 4, 5] [] rfl rfl (by decide) (by decide) hk1 hFc hP1 hD1
            generalize H1 = H at hP hS ⊢
            have hP : va_P (dC, dI) vwCl [(h0, .inr (7, [.int ih, .int hn, .int fl, .int da, .int ds, .int ac, .int (nI q_8), .ref m1, .ref m2, .ref m3, .ref m4, .ref m5, .int (nI pl), .ref pg, .int fa, .int nf, .ref m6, .ref m7, .ref m8, .long sd, .int ik, .int kh, .int (nI km), .int ka, .int ks, .int kac, .ref m9, .ref m10, .ref m11, .ref m12, .long hv])), (m1, .inl (cI, 6, .inl f_9)), (m2, .inl (cI, 6, .inl f_10)), (m3, .inl (cI, 6, .inl f_11)), (m4, .inl (cI, 6, .inl f_12)), (m5, .inl (cI, 6, .inl f_13))] H := hP
            have hD : va_D A [(h0, .inr (7, [.int ih, .int hn, .int fl, .int da, .int ds, .int ac, .int (nI q_8), .ref m1, .ref m2, .ref m3, .ref m4, .ref m5, .int (nI pl), .ref pg, .int fa, .int nf, .ref m6, .ref m7, .ref m8, .long sd, .int ik, .int kh, .int (nI km), .int ka, .int ks, .int kac, .ref m9, .ref m10, .ref m11, .ref m12, .long hv])), (m1, .inl (cI, 6, .inl f_9)), (m2, .inl (cI, 6, .inl f_10)), (m3, .inl (cI, 6, .inl f_11)), (m4, .inl (cI, 6, .inl f_12)), (m5, .inl (cI, 6, .inl f_13))] := hD
            refine lv_aload_n hx hb dX7_courtier_58 rfl (lv_at hl 0 rfl) ?_
            refine va_get (D := (dC, dI)) (ci := 7) (v := .int (nI q_8)) (C := RX7) (T := TX7) (N := 31) hx hb hts hiX7 hown hK hP 0 rfl rfl 6 (by decide) (hts (.fieldLink RX7 86 "LeftProfileModel" "courtiers" "I") (List.mem_of_getElem? (i := 2) rfl)) (fun _ h9 => h9) rfl dX7_courtier_59 ?_
            refine lv_iconst (v := 1) hx hb dX7_courtier_62 (by decide) ?_
            refine lv_isub hx hb dX7_courtier_63 ?_
            refine lv_topi (fun x_14 ex_14 => ?_)
            refine W.widen (k := 0) (n := 0) (Nat.le_of_ble_eq_true rfl) (Nat.le_of_ble_eq_true rfl) ?_
            have hP9 := hP.sub (ws' := [(h0, .inr (7, [.int ih, .int hn, .int fl, .int da, .int ds, .int ac, .int (nI q_8), .ref m1, .ref m2, .ref m3, .ref m4, .ref m5, .int (nI pl), .ref pg, .int fa, .int nf, .ref m6, .ref m7, .ref m8, .long sd, .int ik, .int kh, .int (nI km), .int ka, .int ks, .int kac, .ref m9, .ref m10, .ref m11, .ref m12, .long hv])), (m1, .inl (cI, 6, .inl f_9)), (m2, .inl (cI, 6, .inl f_10)), (m3, .inl (cI, 6, .inl f_11)), (m4, .inl (cI, 6, .inl f_12)), (m5, .inl (cI, 6, .inl f_13))]) [0, 1, 2, 3, 4, 5] rfl
            have hD9 := hD.sub (ws' := [(h0, .inr (7, [.int ih, .int hn, .int fl, .int da, .int ds, .int ac, .int (nI q_8), .ref m1, .ref m2, .ref m3, .ref m4, .ref m5, .int (nI pl), .ref pg, .int fa, .int nf, .ref m6, .ref m7, .ref m8, .long sd, .int ik, .int kh, .int (nI km), .int ka, .int ks, .int kac, .ref m9, .ref m10, .ref m11, .ref m12, .long hv])), (m1, .inl (cI, 6, .inl f_9)), (m2, .inl (cI, 6, .inl f_10)), (m3, .inl (cI, 6, .inl f_11)), (m4, .inl (cI, 6, .inl f_12)), (m5, .inl (cI, 6, .inl f_13))]) [0, 1, 2, 3, 4, 5] (by decide) rfl
            rw [hQ]; exact W.iret (v := x_14) hx hb hr (fun t ht hW => ⟨⟨x_14, (), rfl, trivial, ⟨q_8, f_9, f_10, f_11, f_12, f_13, hr_7_k, hr_7_p, by rw [ht]; exact hP9, hD9⟩⟩, hS.F ht⟩) hS.2.2 dX7_courtier_64
          · have c_6 : kc = 6 := (nI_eq (a := kc) (b := 6) (by omega) (by omega)).mp c_6
            refine lv_bipush (v := (-104)) hx hb dX7_courtier_49 (by decide) ?_
            refine W.widen (k := 0) (n := 0) (Nat.le_of_ble_eq_true rfl) (Nat.le_of_ble_eq_true rfl) ?_
            have hP9 := hP.sub (ws' := [(h0, .inr (7, [.int ih, .int hn, .int fl, .int da, .int ds, .int ac, .int (nI kc), .ref m1, .ref m2, .ref m3, .ref m4, .ref m5, .int (nI pl), .ref pg, .int fa, .int nf, .ref m6, .ref m7, .ref m8, .long sd, .int ik, .int kh, .int (nI km), .int ka, .int ks, .int kac, .ref m9, .ref m10, .ref m11, .ref m12, .long hv])), (m1, .inl (cI, 6, .inl g1)), (m2, .inl (cI, 6, .inl g2)), (m3, .inl (cI, 6, .inl g3)), (m4, .inl (cI, 6, .inl g4)), (m5, .inl (cI, 6, .inl g5))]) [0, 1, 2, 3, 4, 5] rfl
            have hD9 := hD.sub (ws' := [(h0, .inr (7, [.int ih, .int hn, .int fl, .int da, .int ds, .int ac, .int (nI kc), .ref m1, .ref m2, .ref m3, .ref m4, .ref m5, .int (nI pl), .ref pg, .int fa, .int nf, .ref m6, .ref m7, .ref m8, .long sd, .int ik, .int kh, .int (nI km), .int ka, .int ks, .int kac, .ref m9, .ref m10, .ref m11, .ref m12, .long hv])), (m1, .inl (cI, 6, .inl g1)), (m2, .inl (cI, 6, .inl g2)), (m3, .inl (cI, 6, .inl g3)), (m4, .inl (cI, 6, .inl g4)), (m5, .inl (cI, 6, .inl g5))]) [0, 1, 2, 3, 4, 5] (by decide) rfl
            rw [hQ]; exact W.iret (v := (-104)) hx hb hr (fun t ht hW => ⟨⟨(-104), (), rfl, trivial, ⟨kc, g1, g2, g3, g4, g5, hkc, hpl, by rw [ht]; exact hP9, hD9⟩⟩, hS.F ht⟩) hS.2.2 dX7_courtier_51
        · refine lv_bipush (v := (-103)) hx hb dX7_courtier_37 (by decide) ?_
          refine W.widen (k := 0) (n := 0) (Nat.le_of_ble_eq_true rfl) (Nat.le_of_ble_eq_true rfl) ?_
          have hP9 := hP.sub (ws' := [(h0, .inr (7, [.int ih, .int hn, .int fl, .int da, .int ds, .int ac, .int (nI kc), .ref m1, .ref m2, .ref m3, .ref m4, .ref m5, .int (nI pl), .ref pg, .int fa, .int nf, .ref m6, .ref m7, .ref m8, .long sd, .int ik, .int kh, .int (nI km), .int ka, .int ks, .int kac, .ref m9, .ref m10, .ref m11, .ref m12, .long hv])), (m1, .inl (cI, 6, .inl g1)), (m2, .inl (cI, 6, .inl g2)), (m3, .inl (cI, 6, .inl g3)), (m4, .inl (cI, 6, .inl g4)), (m5, .inl (cI, 6, .inl g5))]) [0, 1, 2, 3, 4, 5] rfl
          have hD9 := hD.sub (ws' := [(h0, .inr (7, [.int ih, .int hn, .int fl, .int da, .int ds, .int ac, .int (nI kc), .ref m1, .ref m2, .ref m3, .ref m4, .ref m5, .int (nI pl), .ref pg, .int fa, .int nf, .ref m6, .ref m7, .ref m8, .long sd, .int ik, .int kh, .int (nI km), .int ka, .int ks, .int kac, .ref m9, .ref m10, .ref m11, .ref m12, .long hv])), (m1, .inl (cI, 6, .inl g1)), (m2, .inl (cI, 6, .inl g2)), (m3, .inl (cI, 6, .inl g3)), (m4, .inl (cI, 6, .inl g4)), (m5, .inl (cI, 6, .inl g5))]) [0, 1, 2, 3, 4, 5] (by decide) rfl
          rw [hQ]; exact W.iret (v := (-103)) hx hb hr (fun t ht hW => ⟨⟨(-103), (), rfl, trivial, ⟨kc, g1, g2, g3, g4, g5, hkc, hpl, by rw [ht]; exact hP9, hD9⟩⟩, hS.F ht⟩) hS.2.2 dX7_courtier_39

set_option maxHeartbeats 4000000 in
set_option maxRecDepth 100000 in
theorem c_X7_about (l : Launch) (dC : Nat → ClassId) (dI : Nat → Nat → Nat) (cI cB : ClassId) (h0 : Nat) (p0 : Int32) (p1 : Int32) (ih : Int32) (hn : Int32) (fl : Int32) (da : Int32) (ds : Int32) (ac : Int32) (kc : Nat) (m1 : Nat) (m2 : Nat) (m3 : Nat) (m4 : Nat) (m5 : Nat) (pl : Nat) (pg : Nat) (fa : Int32) (nf : Int32) (m6 : Nat) (m7 : Nat) (m8 : Nat) (sd : Int64) (ik : Int32) (kh : Int32) (km : Nat) (ka : Int32) (ks : Int32) (kac : Int32) (m9 : Nat) (m10 : Nat) (m11 : Nat) (m12 : Nat) (hv : Int64) (g1 : Nat → Int32) (g2 : Nat → Int32) (g3 : Nat → Int32) (g4 : Nat → Int32) (hkc : kc ≤ 6) (hpl : cz_pl g2) (hdu : cz_du da ds) : Met l yX7_about wsX7_about ({ frames := 5, cells := 0, slots := 0, locals := 116 }) (cz_Pp dC dI cI cB [.ref h0, .int p0, .int p1] [(h0, .inr (7, [.int ih, .int hn, .int fl, .int da, .int ds, .int ac, .int (nI kc), .ref m1, .ref m2, .ref m3, .ref m4, .ref m5, .int (nI pl), .ref pg, .int fa, .int nf, .ref m6, .ref m7, .ref m8, .long sd, .int ik, .int kh, .int (nI km), .int ka, .int ks, .int kac, .ref m9, .ref m10, .ref m11, .ref m12, .long hv])), (m1, .inl (cI, 6, .inl g1)), (m2, .inl (cI, 6, .inl g2)), (m3, .inl (cI, 6, .inl g3)), (m4, .inl (cI, 6, .inl g4))]) (vp_Si (fun r : Int32 => True)) 0 0 (fun _ => False) := by
  refine cz_of (cc := cX7_about) (maxL := 3) (ret := (some .int)) (by decide) rfl ?_
  intro p e s m args below meth c s₁ Q B hml hv hQ
  obtain ⟨rfl, hP, hN⟩ := hv
  have hx := B.exec
  have hb := B.bytes
  have hr := B.returns
  have hts := atoms_spec (ws := wsX7_about) B.pre
  have hown : s.vm.findClass RX7 = some m.cls := findClass_of_methodNamed B.named
  have hlocks := B.notSynchronized
  have hK := hN.1
  have hl := lv_entry ([.ref h0, .int p0, .int p1]) (n := 3) (Nat.le_of_ble_eq_true rfl)
  rw [lg_entry_eq]
  generalize (lg_sl ([.ref h0, .int p0, .int p1]) ++ List.replicate (3 - (lg_sl ([.ref h0, .int p0, .int p1])).length) Slot.unset).toArray = ls at hl ⊢
  have hl : lv_has ls 3 [(0, .ref h0), (1, .int p0), (2, .int p1)] := hl
  refine lv_aload_n hx hb dX7_about_0 rfl (lv_at hl 0 rfl) ?_
  refine lv_iload_n hx hb dX7_about_1 rfl (lv_at hl 1 rfl) ?_
  refine vp_callSi (cz_run (va_runV (As := [.int p0]) (rest := []) ⟨hx, hb, hml, hown, hts⟩ (c_X7_isCourtier l dC dI cI cB h0 p0 ih hn fl da ds ac kc m1 m2 m3 m4 m5 pl pg fa nf m6 m7 m8 sd ik kh km ka ks kac m9 m10 m11 m12 hv hkc) (cwV 1 hts gX7_about_X7_isCourtier rfl rfl rfl (by decide +kernel) ⟨Nat.le_of_ble_eq_true rfl, Nat.le_of_ble_eq_true rfl⟩) (cz_pV (hP.sub (ws' := [(h0, .inr (7, [.int ih, .int hn, .int fl, .int da, .int ds, .int ac, .int (nI kc), .ref m1, .ref m2, .ref m3, .ref m4, .ref m5, .int (nI pl), .ref pg, .int fa, .int nf, .ref m6, .ref m7, .ref m8, .long sd, .int ik, .int kh, .int (nI km), .int ka, .int ks, .int kac, .ref m9, .ref m10, .ref m11, .ref m12, .long hv]))]) [0] rfl) hN (va_recv hK (hP.sub (ws' := [(h0, .inr (7, [.int ih, .int hn, .int fl, .int da, .int ds, .int ac, .int (nI kc), .ref m1, .ref m2, .ref m3, .ref m4, .ref m5, .int (nI pl), .ref pg, .int fa, .int nf, .ref m6, .ref m7, .ref m8, .long sd, .int ik, .int kh, .int (nI km), .int ka, .int ks, .int kac, .ref m9, .ref m10, .ref m11, .ref m12, .long hv]))]) [0] rfl) (ci := 7) (q0 := 0) rfl rfl)) rfl rfl hl.1 rfl (lv_room (Nat.le_of_ble_eq_true rfl)) dX7_about_2 ⟨Nat.le_of_ble_eq_true rfl, Nat.le_of_ble_eq_true rfl⟩)) (fun r_1 hr_1 => ?_)
  rcases hr_1 with ⟨rfl, hr_1⟩ | ⟨rfl, j_2, hr_1, rfl⟩
  · refine lv_if_ne (tgt := 13) hx hb dX7_about_5 (by decide) (fun c => absurd (by decide) c) (fun _ => ?_)
    refine lv_bipush (v := (-101)) hx hb dX7_about_8 (by decide) ?_
    refine lv_goto (tgt := 33) hx hb dX7_about_10 (by decide) ?_
    rw [hQ]; exact W.iret (v := (-101)) hx hb hr (fun t ht hW => ⟨(-101), rfl, trivial, ht⟩) (fun _ h => absurd h List.not_mem_nil) dX7_about_33
  · refine lv_if_ne (tgt := 13) hx hb dX7_about_5 (by decide) (fun _ => ?_) (fun c => absurd c (by decide))
    refine lv_iload_n hx hb dX7_about_13 rfl (lv_at hl 2 rfl) ?_
    refine lv_iconst (v := 0) hx hb dX7_about_14 (by decide) ?_
    refine lv_iconst (v := 5) hx hb dX7_about_15 (by decide) ?_
    refine vp_callSi (cz_run (va_runS (As := [.int p1, .int 0, .int 5]) (rest := []) ⟨hx, hb, hml, hown, hts⟩ (c_X7_within l dC dI cI cB p1 0 5 ) (va_cwS 3 hts gX7_about_X7_within rfl rfl rfl (by decide +kernel) ⟨Nat.le_of_ble_eq_true rfl, Nat.le_of_ble_eq_true rfl⟩) (cz_pS (hP.sub (ws' := []) [] rfl) hN) rfl rfl hl.1 rfl (lv_room (Nat.le_of_ble_eq_true rfl)) dX7_about_16 ⟨Nat.le_of_ble_eq_true rfl, Nat.le_of_ble_eq_true rfl⟩)) (fun r_3 hr_3 => ?_)
    rcases hr_3 with ⟨rfl, hr_3⟩ | ⟨rfl, hr_3⟩
    · refine lv_if_eq (tgt := 31) hx hb dX7_about_19 (by decide) (fun _ => ?_) (fun c => absurd (by decide) c)
      refine lv_bipush (v := (-102)) hx hb dX7_about_31 (by decide) ?_
      rw [hQ]; exact W.iret (v := (-102)) hx hb hr (fun t ht hW => ⟨(-102), rfl, trivial, ht⟩) (fun _ h => absurd h List.not_mem_nil) dX7_about_33
    · refine lv_if_eq (tgt := 31) hx hb dX7_about_19 (by decide) (fun c => absurd c (by decide)) (fun _ => ?_)
      refine lv_aload_n hx hb dX7_about_22 rfl (lv_at hl 0 rfl) ?_
      refine lv_iload_n hx hb dX7_about_23 rfl (lv_at hl 1 rfl) ?_
      refine lv_iload_n hx hb dX7_about_24 rfl (lv_at hl 2 rfl) ?_
      refine vp_callSi (cz_run (va_runV (As := [.int (nI j_2), .int p1]) (rest := []) ⟨hx, hb, hml, hown, hts⟩ (c_X7_courtierNow l dC dI cI cB h0 j_2 p1 ih hn fl da ds ac kc m1 m2 m3 m4 m5 pl pg fa nf m6 m7 m8 sd ik kh km ka ks kac m9 m10 m11 m12 hv g1 g2 g3 g4 hkc hpl hdu (by omega)) (cwV 2 hts gX7_about_X7_courtierNow rfl rfl rfl (by decide +kernel) ⟨Nat.le_of_ble_eq_true rfl, Nat.le_of_ble_eq_true rfl⟩) (cz_pV hP hN (va_recv hK hP (ci := 7) (q0 := 0) rfl rfl)) rfl rfl hl.1 rfl (lv_room (Nat.le_of_ble_eq_true rfl)) dX7_about_25 ⟨Nat.le_of_ble_eq_true rfl, Nat.le_of_ble_eq_true rfl⟩)) (fun r_4 hr_4 => ?_)
      refine lv_goto (tgt := 33) hx hb dX7_about_28 (by decide) ?_
      rw [hQ]; exact W.iret (v := r_4) hx hb hr (fun t ht hW => ⟨r_4, rfl, trivial, ht⟩) (fun _ h => absurd h List.not_mem_nil) dX7_about_33

set_option maxHeartbeats 4000000 in
set_option maxRecDepth 100000 in
theorem c_X7_as (l : Launch) (dC : Nat → ClassId) (dI : Nat → Nat → Nat) (cI cB : ClassId) (h0 : Nat) (p0 : Int32) (p1 : Int32) (ih : Int32) (hn : Int32) (fl : Int32) (da : Int32) (ds : Int32) (ac : Int32) (kc : Nat) (m1 : Nat) (m2 : Nat) (m3 : Nat) (m4 : Nat) (m5 : Nat) (pl : Nat) (pg : Nat) (fa : Int32) (nf : Int32) (m6 : Nat) (m7 : Nat) (m8 : Nat) (sd : Int64) (ik : Int32) (kh : Int32) (km : Nat) (ka : Int32) (ks : Int32) (kac : Int32) (m9 : Nat) (m10 : Nat) (m11 : Nat) (m12 : Nat) (hv : Int64) (g1 : Nat → Int32) (hkc : kc ≤ 6) : Met l yX7_as wsX7_as ({ frames := 2, cells := 0, slots := 0, locals := 43 }) (cz_Pp dC dI cI cB [.ref h0, .int p0, .int p1] [(h0, .inr (7, [.int ih, .int hn, .int fl, .int da, .int ds, .int ac, .int (nI kc), .ref m1, .ref m2, .ref m3, .ref m4, .ref m5, .int (nI pl), .ref pg, .int fa, .int nf, .ref m6, .ref m7, .ref m8, .long sd, .int ik, .int kh, .int (nI km), .int ka, .int ks, .int kac, .ref m9, .ref m10, .ref m11, .ref m12, .long hv])), (m1, .inl (cI, 6, .inl g1))]) (vp_Si (fun r : Int32 => True)) 0 0 (fun _ => False) := by
  refine cz_of (cc := cX7_as) (maxL := 4) (ret := (some .int)) (by decide) rfl ?_
  intro p e s m args below meth c s₁ Q B hml hv hQ
  obtain ⟨rfl, hP, hN⟩ := hv
  have hx := B.exec
  have hb := B.bytes
  have hr := B.returns
  have hts := atoms_spec (ws := wsX7_as) B.pre
  have hown : s.vm.findClass RX7 = some m.cls := findClass_of_methodNamed B.named
  have hlocks := B.notSynchronized
  have hK := hN.1
  have hiX7 : ∀ w ∈ wsX70, w ∈ wsX7_as := (fun _ h => List.mem_cons_of_mem _ (List.mem_append_right _ h))
  have hl := lv_entry ([.ref h0, .int p0, .int p1]) (n := 4) (Nat.le_of_ble_eq_true rfl)
  rw [lg_entry_eq]
  generalize (lg_sl ([.ref h0, .int p0, .int p1]) ++ List.replicate (4 - (lg_sl ([.ref h0, .int p0, .int p1])).length) Slot.unset).toArray = ls at hl ⊢
  have hl : lv_has ls 4 [(0, .ref h0), (1, .int p0), (2, .int p1)] := hl
  refine lv_aload_n hx hb dX7_as_0 rfl (lv_at hl 0 rfl) ?_
  refine lv_iload_n hx hb dX7_as_1 rfl (lv_at hl 1 rfl) ?_
  refine vp_callSi (cz_run (va_runV (As := [.int p0]) (rest := []) ⟨hx, hb, hml, hown, hts⟩ (c_X7_isCourtier l dC dI cI cB h0 p0 ih hn fl da ds ac kc m1 m2 m3 m4 m5 pl pg fa nf m6 m7 m8 sd ik kh km ka ks kac m9 m10 m11 m12 hv hkc) (cwV 1 hts gX7_as_X7_isCourtier rfl rfl rfl (by decide +kernel) ⟨Nat.le_of_ble_eq_true rfl, Nat.le_of_ble_eq_true rfl⟩) (cz_pV (hP.sub (ws' := [(h0, .inr (7, [.int ih, .int hn, .int fl, .int da, .int ds, .int ac, .int (nI kc), .ref m1, .ref m2, .ref m3, .ref m4, .ref m5, .int (nI pl), .ref pg, .int fa, .int nf, .ref m6, .ref m7, .ref m8, .long sd, .int ik, .int kh, .int (nI km), .int ka, .int ks, .int kac, .ref m9, .ref m10, .ref m11, .ref m12, .long hv]))]) [0] rfl) hN (va_recv hK (hP.sub (ws' := [(h0, .inr (7, [.int ih, .int hn, .int fl, .int da, .int ds, .int ac, .int (nI kc), .ref m1, .ref m2, .ref m3, .ref m4, .ref m5, .int (nI pl), .ref pg, .int fa, .int nf, .ref m6, .ref m7, .ref m8, .long sd, .int ik, .int kh, .int (nI km), .int ka, .int ks, .int kac, .ref m9, .ref m10, .ref m11, .ref m12, .long hv]))]) [0] rfl) (ci := 7) (q0 := 0) rfl rfl)) rfl rfl hl.1 rfl (lv_room (Nat.le_of_ble_eq_true rfl)) dX7_as_2 ⟨Nat.le_of_ble_eq_true rfl, Nat.le_of_ble_eq_true rfl⟩)) (fun r_1 hr_1 => ?_)
  rcases hr_1 with ⟨rfl, hr_1⟩ | ⟨rfl, j_2, hr_1, rfl⟩
  · refine lv_if_ne (tgt := 11) hx hb dX7_as_5 (by decide) (fun c => absurd (by decide) c) (fun _ => ?_)
    refine lv_bipush (v := (-101)) hx hb dX7_as_8 (by decide) ?_
    rw [hQ]; exact W.iret (v := (-101)) hx hb hr (fun t ht hW => ⟨(-101), rfl, trivial, ht⟩) (fun _ h => absurd h List.not_mem_nil) dX7_as_10
  · refine lv_if_ne (tgt := 11) hx hb dX7_as_5 (by decide) (fun _ => ?_) (fun c => absurd c (by decide))
    refine lv_iload_n hx hb dX7_as_11 rfl (lv_at hl 2 rfl) ?_
    refine lv_iconst (v := 0) hx hb dX7_as_12 (by decide) ?_
    refine lv_iconst (v := 4) hx hb dX7_as_13 (by decide) ?_
    refine vp_callSi (cz_run (va_runS (As := [.int p1, .int 0, .int 4]) (rest := []) ⟨hx, hb, hml, hown, hts⟩ (c_X7_within l dC dI cI cB p1 0 4 ) (va_cwS 3 hts gX7_as_X7_within rfl rfl rfl (by decide +kernel) ⟨Nat.le_of_ble_eq_true rfl, Nat.le_of_ble_eq_true rfl⟩) (cz_pS (hP.sub (ws' := []) [] rfl) hN) rfl rfl hl.1 rfl (lv_room (Nat.le_of_ble_eq_true rfl)) dX7_as_14 ⟨Nat.le_of_ble_eq_true rfl, Nat.le_of_ble_eq_true rfl⟩)) (fun r_3 hr_3 => ?_)
    rcases hr_3 with ⟨rfl, hr_3⟩ | ⟨rfl, hr_3⟩
    · refine lv_if_ne (tgt := 23) hx hb dX7_as_17 (by decide) (fun c => absurd (by decide) c) (fun _ => ?_)
      refine lv_bipush (v := (-102)) hx hb dX7_as_20 (by decide) ?_
      rw [hQ]; exact W.iret (v := (-102)) hx hb hr (fun t ht hW => ⟨(-102), rfl, trivial, ht⟩) (fun _ h => absurd h List.not_mem_nil) dX7_as_22
    · refine lv_if_ne (tgt := 23) hx hb dX7_as_17 (by decide) (fun _ => ?_) (fun c => absurd c (by decide))
      refine lv_aload_n hx hb dX7_as_23 rfl (lv_at hl 0 rfl) ?_
      refine va_get (D := (dC, dI)) (ci := 7) (v := .ref m1) (C := RX7) (T := TX7) (N := 31) hx hb hts hiX7 hown hK hP 0 rfl rfl 7 (by decide) (hts (.fieldLink RX7 16 "LeftProfileModel" "kindOf" "[I") (List.mem_of_getElem? (i := 1) rfl)) (fun _ h9 => h9) rfl dX7_as_24 ?_
      refine lv_iload_n hx hb dX7_as_27 rfl (lv_at hl 1 rfl) ?_
      refine va_iald hx hb hK hP 1 0 rfl rfl (vp_in_nI (n := j_2) (by omega) (by omega)) dX7_as_28 ?_
      refine cz_i (y := (g1 j_2)) (congrArg g1 (nI_clamp (n := j_2) (by omega))) ?_
      refine lv_istore_n (lv' := [(3, .int (g1 j_2)), (0, .ref h0), (1, .int (nI j_2)), (2, .int p1)]) hx hb dX7_as_29 rfl hl (by decide) rfl (fun ls hl => ?_)
      refine lv_iload_n hx hb dX7_as_30 rfl (lv_at hl 3 rfl) ?_
      refine lv_if_eq (tgt := 49) hx hb dX7_as_31 (by decide) (fun c_4 => ?_) (fun c_4 => ?_)
      · refine lv_iload_n hx hb dX7_as_49 rfl (lv_at hl 2 rfl) ?_
        refine lv_goto (tgt := 54) hx hb dX7_as_50 (by decide) ?_
        rw [hQ]; exact W.iret (v := (nI j_2)) hx hb hr (fun t ht hW => ⟨(nI j_2), rfl, trivial, ht⟩) (fun _ h => absurd h List.not_mem_nil) dX7_as_54
      · refine lv_iload_n hx hb dX7_as_34 rfl (lv_at hl 0 rfl) ?_
        refine lv_iload_n hx hb dX7_as_35 rfl (lv_at hl 3 rfl) ?_
        refine lv_icmp_eq (tgt := 49) hx hb dX7_as_36 (by decide) (fun c_5 => ?_) (fun c_5 => ?_)
        · refine lv_iload_n hx hb dX7_as_49 rfl (lv_at hl 2 rfl) ?_
          refine lv_goto (tgt := 54) hx hb dX7_as_50 (by decide) ?_
          rw [hQ]; exact W.iret (v := (nI j_2)) hx hb hr (fun t ht hW => ⟨(nI j_2), rfl, trivial, ht⟩) (fun _ h => absurd h List.not_mem_nil) dX7_as_54
        · refine lv_iload_n hx hb dX7_as_39 rfl (lv_at hl 3 rfl) ?_
          refine lv_iconst (v := 3) hx hb dX7_as_40 (by decide) ?_
          refine lv_icmp_ne (tgt := 53) hx hb dX7_as_41 (by decide) (fun c_6 => ?_) (fun c_6 => ?_)
          · refine lv_iconst (v := (-1)) hx hb dX7_as_53 (by decide) ?_
            rw [hQ]; exact W.iret (v := (-1)) hx hb hr (fun t ht hW => ⟨(-1), rfl, trivial, ht⟩) (fun _ h => absurd h List.not_mem_nil) dX7_as_54
          · refine lv_iload_n hx hb dX7_as_44 rfl (lv_at hl 0 rfl) ?_
            refine lv_iconst (v := 4) hx hb dX7_as_45 (by decide) ?_
            refine lv_icmp_ne (tgt := 53) hx hb dX7_as_46 (by decide) (fun c_7 => ?_) (fun c_7 => ?_)
            · refine lv_iconst (v := (-1)) hx hb dX7_as_53 (by decide) ?_
              rw [hQ]; exact W.iret (v := (-1)) hx hb hr (fun t ht hW => ⟨(-1), rfl, trivial, ht⟩) (fun _ h => absurd h List.not_mem_nil) dX7_as_54
            · refine lv_iload_n hx hb dX7_as_49 rfl (lv_at hl 2 rfl) ?_
              refine lv_goto (tgt := 54) hx hb dX7_as_50 (by decide) ?_
              rw [hQ]; exact W.iret (v := (nI j_2)) hx hb hr (fun t ht hW => ⟨(nI j_2), rfl, trivial, ht⟩) (fun _ h => absurd h List.not_mem_nil) dX7_as_54

set_option maxHeartbeats 4000000 in
set_option maxRecDepth 100000 in
theorem c_X7_go (l : Launch) (dC : Nat → ClassId) (dI : Nat → Nat → Nat) (cI cB : ClassId) (h0 : Nat) (p0 : Int32) (p1 : Int32) (ih : Int32) (hn : Int32) (fl : Int32) (da : Int32) (ds : Int32) (ac : Int32) (kc : Nat) (m1 : Nat) (m2 : Nat) (m3 : Nat) (m4 : Nat) (m5 : Nat) (pl : Nat) (pg : Nat) (fa : Int32) (nf : Int32) (m6 : Nat) (m7 : Nat) (m8 : Nat) (sd : Int64) (ik : Int32) (kh : Int32) (km : Nat) (ka : Int32) (ks : Int32) (kac : Int32) (m9 : Nat) (m10 : Nat) (m11 : Nat) (m12 : Nat) (hv : Int64) (g2 : Nat → Int32) (sz : Nat) (hkc : kc ≤ 6) (hpl : cz_pl g2) : Met l yX7_go wsX7_go ({ frames := 2, cells := 0, slots := 0, locals := 44 }) (cz_Pm dC dI cI cB [.ref h0, .int p0, .int p1] [(h0, .inr (7, [.int ih, .int hn, .int fl, .int da, .int ds, .int ac, .int (nI kc), .ref m1, .ref m2, .ref m3, .ref m4, .ref m5, .int (nI pl), .ref pg, .int fa, .int nf, .ref m6, .ref m7, .ref m8, .long sd, .int ik, .int kh, .int (nI km), .int ka, .int ks, .int kac, .ref m9, .ref m10, .ref m11, .ref m12, .long hv])), (m2, .inl (cI, 6, .inl g2))] sz) (va_Qi (fun (r : Int32) (_ : Unit) => True) (fun _ t => ∃ (t2 : Nat → Int32), (cz_pl t2) ∧ va_P (dC, dI) vwCl [(h0, .inr (7, [.int ih, .int hn, .int fl, .int da, .int ds, .int ac, .int (nI kc), .ref m1, .ref m2, .ref m3, .ref m4, .ref m5, .int (nI pl), .ref pg, .int fa, .int nf, .ref m6, .ref m7, .ref m8, .long sd, .int ik, .int kh, .int (nI km), .int ka, .int ks, .int kac, .ref m9, .ref m10, .ref m11, .ref m12, .long hv])), (m2, .inl (cI, 6, .inl t2))] t.heap ∧ va_D (va_A [(h0, .inr (7, [.int ih, .int hn, .int fl, .int da, .int ds, .int ac, .int (nI kc), .ref m1, .ref m2, .ref m3, .ref m4, .ref m5, .int (nI pl), .ref pg, .int fa, .int nf, .ref m6, .ref m7, .ref m8, .long sd, .int ik, .int kh, .int (nI km), .int ka, .int ks, .int kac, .ref m9, .ref m10, .ref m11, .ref m12, .long hv])), (m2, .inl (cI, 6, .inl g2))] sz) [(h0, .inr (7, [.int ih, .int hn, .int fl, .int da, .int ds, .int ac, .int (nI kc), .ref m1, .ref m2, .ref m3, .ref m4, .ref m5, .int (nI pl), .ref pg, .int fa, .int nf, .ref m6, .ref m7, .ref m8, .long sd, .int ik, .int kh, .int (nI km), .int ka, .int ks, .int kac, .ref m9, .ref m10, .ref m11, .ref m12, .long hv])), (m2, .inl (cI, 6, .inl t2))]) (va_A [(h0, .inr (7, [.int ih, .int hn, .int fl, .int da, .int ds, .int ac, .int (nI kc), .ref m1, .ref m2, .ref m3, .ref m4, .ref m5, .int (nI pl), .ref pg, .int fa, .int nf, .ref m6, .ref m7, .ref m8, .long sd, .int ik, .int kh, .int (nI km), .int ka, .int ks, .int kac, .ref m9, .ref m10, .ref m11, .ref m12, .long hv])), (m2, .inl (cI, 6, .inl g2))] sz)) 0 0 (va_A [(h0, .inr (7, [.int ih, .int hn, .int fl, .int da, .int ds, .int ac, .int (nI kc), .ref m1, .ref m2, .ref m3, .ref m4, .ref m5, .int (nI pl), .ref pg, .int fa, .int nf, .ref m6, .ref m7, .ref m8, .long sd, .int ik, .int kh, .int (nI km), .int ka, .int ks, .int kac, .ref m9, .ref m10, .ref m11, .ref m12, .long hv])), (m2, .inl (cI, 6, .inl g2))] sz) := by
  refine cz_of (cc := cX7_go) (maxL := 4) (ret := (some .int)) (by decide) rfl ?_
  intro p e s m args below meth c s₁ Q B hml hv hQ
  obtain ⟨rfl, hsz, hP, hN, hD0⟩ := hv
  have hx := B.exec
  have hb := B.bytes
  have hr := B.returns
  have hts := atoms_spec (ws := wsX7_go) B.pre
  have hown : s.vm.findClass RX7 = some m.cls := findClass_of_methodNamed B.named
  have hlocks := B.notSynchronized
  have hK := hN.1
  have hiX7 : ∀ w ∈ wsX70, w ∈ wsX7_go := (fun _ h => List.mem_cons_of_mem _ (List.mem_append_right _ h))
  subst hsz
  have hD := hD0.self (sz := s.heap.size)
  generalize hAe : va_A [(h0, .inr (7, [.int ih, .int hn, .int fl, .int da, .int ds, .int ac, .int (nI kc), .ref m1, .ref m2, .ref m3, .ref m4, .ref m5, .int (nI pl), .ref pg, .int fa, .int nf, .ref m6, .ref m7, .ref m8, .long sd, .int ik, .int kh, .int (nI km), .int ka, .int ks, .int kac, .ref m9, .ref m10, .ref m11, .ref m12, .long hv])), (m2, .inl (cI, 6, .inl g2))] s.heap.size = A at hD hQ ⊢
  have hA : ∀ q : Nat, s.heap.size ≤ q → A q := fun q h => by rw [← hAe]; exact Or.inr h
  have hS : va_S A s.heap s.heap [] := va_S.rf
  obtain ⟨H, eH⟩ : ∃ H, H = s.heap := ⟨_, rfl⟩
  have hP : va_P (dC, dI) vwCl [(h0, .inr (7, [.int ih, .int hn, .int fl, .int da, .int ds, .int ac, .int (nI kc), .ref m1, .ref m2, .ref m3, .ref m4, .ref m5, .int (nI pl), .ref pg, .int fa, .int nf, .ref m6, .ref m7, .ref m8, .long sd, .int ik, .int kh, .int (nI km), .int ka, .int ks, .int kac, .ref m9, .ref m10, .ref m11, .ref m12, .long hv])), (m2, .inl (cI, 6, .inl g2))] s.heap := hP
  have hl := lv_entry ([.ref h0, .int p0, .int p1]) (n := 4) (Nat.le_of_ble_eq_true rfl)
  rw [lg_entry_eq]
  generalize (lg_sl ([.ref h0, .int p0, .int p1]) ++ List.replicate (4 - (lg_sl ([.ref h0, .int p0, .int p1])).length) Slot.unset).toArray = ls at hl ⊢
  have hl : lv_has ls 4 [(0, .ref h0), (1, .int p0), (2, .int p1)] := hl
  refine lv_aload_n hx hb dX7_go_0 rfl (lv_at hl 0 rfl) ?_
  refine lv_iload_n hx hb dX7_go_1 rfl (lv_at hl 1 rfl) ?_
  refine vp_callSi (cz_run (va_runV (As := [.int p0]) (rest := []) ⟨hx, hb, hml, hown, hts⟩ (c_X7_isCourtier l dC dI cI cB h0 p0 ih hn fl da ds ac kc m1 m2 m3 m4 m5 pl pg fa nf m6 m7 m8 sd ik kh km ka ks kac m9 m10 m11 m12 hv hkc) (cwV 1 hts gX7_go_X7_isCourtier rfl rfl rfl (by decide +kernel) ⟨Nat.le_of_ble_eq_true rfl, Nat.le_of_ble_eq_true rfl⟩) (cz_pV (hP.sub (ws' := [(h0, .inr (7, [.int ih, .int hn, .int fl, .int da, .int ds, .int ac, .int (nI kc), .ref m1, .ref m2, .ref m3, .ref m4, .ref m5, .int (nI pl), .ref pg, .int fa, .int nf, .ref m6, .ref m7, .ref m8, .long sd, .int ik, .int kh, .int (nI km), .int ka, .int ks, .int kac, .ref m9, .ref m10, .ref m11, .ref m12, .long hv]))]) [0] rfl) hN (va_recv hK (hP.sub (ws' := [(h0, .inr (7, [.int ih, .int hn, .int fl, .int da, .int ds, .int ac, .int (nI kc), .ref m1, .ref m2, .ref m3, .ref m4, .ref m5, .int (nI pl), .ref pg, .int fa, .int nf, .ref m6, .ref m7, .ref m8, .long sd, .int ik, .int kh, .int (nI km), .int ka, .int ks, .int kac, .ref m9, .ref m10, .ref m11, .ref m12, .long hv]))]) [0] rfl) (ci := 7) (q0 := 0) rfl rfl)) rfl rfl hl.1 rfl (lv_room (Nat.le_of_ble_eq_true rfl)) dX7_go_2 ⟨Nat.le_of_ble_eq_true rfl, Nat.le_of_ble_eq_true rfl⟩)) (fun r_1 hr_1 => ?_)
  rcases hr_1 with ⟨rfl, hr_1⟩ | ⟨rfl, j_2, hr_1, rfl⟩
  · refine lv_if_eq (tgt := 15) hx hb dX7_go_5 (by decide) (fun _ => ?_) (fun c => absurd (by decide) c)
    refine lv_bipush (v := (-101)) hx hb dX7_go_15 (by decide) ?_
    refine W.widen (k := 0) (n := 0) (Nat.le_of_ble_eq_true rfl) (Nat.le_of_ble_eq_true rfl) ?_
    have hP9 := hP.sub (ws' := [(h0, .inr (7, [.int ih, .int hn, .int fl, .int da, .int ds, .int ac, .int (nI kc), .ref m1, .ref m2, .ref m3, .ref m4, .ref m5, .int (nI pl), .ref pg, .int fa, .int nf, .ref m6, .ref m7, .ref m8, .long sd, .int ik, .int kh, .int (nI km), .int ka, .int ks, .int kac, .ref m9, .ref m10, .ref m11, .ref m12, .long hv])), (m2, .inl (cI, 6, .inl g2))]) [0, 1] rfl
    have hD9 := hD.sub (ws' := [(h0, .inr (7, [.int ih, .int hn, .int fl, .int da, .int ds, .int ac, .int (nI kc), .ref m1, .ref m2, .ref m3, .ref m4, .ref m5, .int (nI pl), .ref pg, .int fa, .int nf, .ref m6, .ref m7, .ref m8, .long sd, .int ik, .int kh, .int (nI km), .int ka, .int ks, .int kac, .ref m9, .ref m10, .ref m11, .ref m12, .long hv])), (m2, .inl (cI, 6, .inl g2))]) [0, 1] (by decide) rfl
    rw [hQ]; exact W.iret (v := (-101)) hx hb hr (fun t ht hW => ⟨⟨(-101), (), rfl, trivial, ⟨g2, hpl, by rw [ht]; exact hP9, hD9⟩⟩, hS.F ht⟩) hS.2.2 dX7_go_17
  · refine lv_if_eq (tgt := 15) hx hb dX7_go_5 (by decide) (fun c => absurd c (by decide)) (fun _ => ?_)
    refine lv_iload_n hx hb dX7_go_8 rfl (lv_at hl 2 rfl) ?_
    refine vp_callSi (cz_run (va_runS (As := [.int p1]) (rest := []) ⟨hx, hb, hml, hown, hts⟩ (c_X7_isPlace l dC dI cI cB p1 ) (va_cwS 1 hts gX7_go_X7_isPlace rfl rfl rfl (by decide +kernel) ⟨Nat.le_of_ble_eq_true rfl, Nat.le_of_ble_eq_true rfl⟩) (cz_pS (hP.sub (ws' := []) [] rfl) hN) rfl rfl hl.1 rfl (lv_room (Nat.le_of_ble_eq_true rfl)) dX7_go_9 ⟨Nat.le_of_ble_eq_true rfl, Nat.le_of_ble_eq_true rfl⟩)) (fun r_3 hr_3 => ?_)
    rcases hr_3 with ⟨rfl, hr_3⟩ | ⟨rfl, hr_3⟩
    · refine lv_if_ne (tgt := 18) hx hb dX7_go_12 (by decide) (fun c => absurd (by decide) c) (fun _ => ?_)
      refine lv_bipush (v := (-101)) hx hb dX7_go_15 (by decide) ?_
      refine W.widen (k := 0) (n := 0) (Nat.le_of_ble_eq_true rfl) (Nat.le_of_ble_eq_true rfl) ?_
      have hP9 := hP.sub (ws' := [(h0, .inr (7, [.int ih, .int hn, .int fl, .int da, .int ds, .int ac, .int (nI kc), .ref m1, .ref m2, .ref m3, .ref m4, .ref m5, .int (nI pl), .ref pg, .int fa, .int nf, .ref m6, .ref m7, .ref m8, .long sd, .int ik, .int kh, .int (nI km), .int ka, .int ks, .int kac, .ref m9, .ref m10, .ref m11, .ref m12, .long hv])), (m2, .inl (cI, 6, .inl g2))]) [0, 1] rfl
      have hD9 := hD.sub (ws' := [(h0, .inr (7, [.int ih, .int hn, .int fl, .int da, .int ds, .int ac, .int (nI kc), .ref m1, .ref m2, .ref m3, .ref m4, .ref m5, .int (nI pl), .ref pg, .int fa, .int nf, .ref m6, .ref m7, .ref m8, .long sd, .int ik, .int kh, .int (nI km), .int ka, .int ks, .int kac, .ref m9, .ref m10, .ref m11, .ref m12, .long hv])), (m2, .inl (cI, 6, .inl g2))]) [0, 1] (by decide) rfl
      rw [hQ]; exact W.iret (v := (-101)) hx hb hr (fun t ht hW => ⟨⟨(-101), (), rfl, trivial, ⟨g2, hpl, by rw [ht]; exact hP9, hD9⟩⟩, hS.F ht⟩) hS.2.2 dX7_go_17
    · refine lv_if_ne (tgt := 18) hx hb dX7_go_12 (by decide) (fun _ => ?_) (fun c => absurd c (by decide))
      refine lv_aload_n hx hb dX7_go_18 rfl (lv_at hl 0 rfl) ?_
      refine lv_iload_n hx hb dX7_go_19 rfl (lv_at hl 2 rfl) ?_
      refine vp_callSi (cz_run (va_runV (As := [.int p1]) (rest := []) ⟨hx, hb, hml, hown, hts⟩ (c_X7_isEmpty l dC dI cI cB h0 p1 ih hn fl da ds ac kc m1 m2 m3 m4 m5 pl pg fa nf m6 m7 m8 sd ik kh km ka ks kac m9 m10 m11 m12 hv g2 hkc) (cwV 1 hts gX7_go_X7_isEmpty rfl rfl rfl (by decide +kernel) ⟨Nat.le_of_ble_eq_true rfl, Nat.le_of_ble_eq_true rfl⟩) (cz_pV hP hN (va_recv hK hP (ci := 7) (q0 := 0) rfl rfl)) rfl rfl hl.1 rfl (lv_room (Nat.le_of_ble_eq_true rfl)) dX7_go_20 ⟨Nat.le_of_ble_eq_true rfl, Nat.le_of_ble_eq_true rfl⟩)) (fun r_4 hr_4 => ?_)
      refine lv_if_ne (tgt := 29) hx hb dX7_go_23 (by decide) (fun c_5 => ?_) (fun c_5 => ?_)
      · refine lv_aload_n hx hb dX7_go_29 rfl (lv_at hl 0 rfl) ?_
        refine va_get (D := (dC, dI)) (ci := 7) (v := .ref m2) (C := RX7) (T := TX7) (N := 31) hx hb hts hiX7 hown hK hP 0 rfl rfl 8 (by decide) (hts (.fieldLink RX7 20 "LeftProfileModel" "placeOf" "[I") (List.mem_of_getElem? (i := 1) rfl)) (fun _ h9 => h9) rfl dX7_go_30 ?_
        refine lv_iload_n hx hb dX7_go_33 rfl (lv_at hl 1 rfl) ?_
        refine va_iald hx hb hK hP 1 0 rfl rfl (vp_in_nI (n := j_2) (by omega) (by omega)) dX7_go_34 ?_
        refine cz_i (y := (g2 j_2)) (congrArg g2 (nI_clamp (n := j_2) (by omega))) ?_
        refine lv_istore_n (lv' := [(3, .int (g2 j_2)), (0, .ref h0), (1, .int (nI j_2)), (2, .int p1)]) hx hb dX7_go_35 rfl hl (by decide) rfl (fun ls hl => ?_)
        refine lv_aload_n hx hb dX7_go_36 rfl (lv_at hl 1 rfl) ?_
        refine va_get (D := (dC, dI)) (ci := 7) (v := .ref m2) (C := RX7) (T := TX7) (N := 31) hx hb hts hiX7 hown hK hP 0 rfl rfl 8 (by decide) (hts (.fieldLink RX7 20 "LeftProfileModel" "placeOf" "[I") (List.mem_of_getElem? (i := 1) rfl)) (fun _ h9 => h9) rfl dX7_go_37 ?_
        refine lv_iload_n hx hb dX7_go_40 rfl (lv_at hl 2 rfl) ?_
        refine lv_iload_n hx hb dX7_go_41 rfl (lv_at hl 3 rfl) ?_
        refine va_iast hx hb hK hP hD hS 1 0 rfl rfl (vp_in_nI (n := j_2) (by omega) (by omega)) dX7_go_42 (fun H locs hP hD hS => ?_)
        rw [show (nI j_2).toNatClampNeg = j_2 from nI_clamp (n := j_2) (by omega)] at hP hD
        have hP : va_P (dC, dI) vwCl [(h0, .inr (7, [.int ih, .int hn, .int fl, .int da, .int ds, .int ac, .int (nI kc), .ref m1, .ref m2, .ref m3, .ref m4, .ref m5, .int (nI pl), .ref pg, .int fa, .int nf, .ref m6, .ref m7, .ref m8, .long sd, .int ik, .int kh, .int (nI km), .int ka, .int ks, .int kac, .ref m9, .ref m10, .ref m11, .ref m12, .long hv])), (m2, .inl (cI, 6, .inl (upd g2 j_2 p1)))] H := hP
        have hD : va_D A [(h0, .inr (7, [.int ih, .int hn, .int fl, .int da, .int ds, .int ac, .int (nI kc), .ref m1, .ref m2, .ref m3, .ref m4, .ref m5, .int (nI pl), .ref pg, .int fa, .int nf, .ref m6, .ref m7, .ref m8, .long sd, .int ik, .int kh, .int (nI km), .int ka, .int ks, .int kac, .ref m9, .ref m10, .ref m11, .ref m12, .long hv])), (m2, .inl (cI, 6, .inl (upd g2 j_2 p1)))] := hD
        refine lv_iload_n hx hb dX7_go_43 rfl (lv_at hl 0 rfl) ?_
        refine W.widen (k := 0) (n := 0) (Nat.le_of_ble_eq_true rfl) (Nat.le_of_ble_eq_true rfl) ?_
        have hP9 := hP.sub (ws' := [(h0, .inr (7, [.int ih, .int hn, .int fl, .int da, .int ds, .int ac, .int (nI kc), .ref m1, .ref m2, .ref m3, .ref m4, .ref m5, .int (nI pl), .ref pg, .int fa, .int nf, .ref m6, .ref m7, .ref m8, .long sd, .int ik, .int kh, .int (nI km), .int ka, .int ks, .int kac, .ref m9, .ref m10, .ref m11, .ref m12, .long hv])), (m2, .inl (cI, 6, .inl (upd g2 j_2 p1)))]) [0, 1] rfl
        have hD9 := hD.sub (ws' := [(h0, .inr (7, [.int ih, .int hn, .int fl, .int da, .int ds, .int ac, .int (nI kc), .ref m1, .ref m2, .ref m3, .ref m4, .ref m5, .int (nI pl), .ref pg, .int fa, .int nf, .ref m6, .ref m7, .ref m8, .long sd, .int ik, .int kh, .int (nI km), .int ka, .int ks, .int kac, .ref m9, .ref m10, .ref m11, .ref m12, .long hv])), (m2, .inl (cI, 6, .inl (upd g2 j_2 p1)))]) [0, 1] (by decide) rfl
        rw [hQ]; exact W.iret (v := (g2 j_2)) hx hb hr (fun t ht hW => ⟨⟨(g2 j_2), (), rfl, trivial, ⟨(upd g2 j_2 p1), (cz_pl_upd hpl hr_3), by rw [ht]; exact hP9, hD9⟩⟩, hS.F ht⟩) hS.2.2 dX7_go_44
      · refine lv_bipush (v := (-103)) hx hb dX7_go_26 (by decide) ?_
        refine W.widen (k := 0) (n := 0) (Nat.le_of_ble_eq_true rfl) (Nat.le_of_ble_eq_true rfl) ?_
        have hP9 := hP.sub (ws' := [(h0, .inr (7, [.int ih, .int hn, .int fl, .int da, .int ds, .int ac, .int (nI kc), .ref m1, .ref m2, .ref m3, .ref m4, .ref m5, .int (nI pl), .ref pg, .int fa, .int nf, .ref m6, .ref m7, .ref m8, .long sd, .int ik, .int kh, .int (nI km), .int ka, .int ks, .int kac, .ref m9, .ref m10, .ref m11, .ref m12, .long hv])), (m2, .inl (cI, 6, .inl g2))]) [0, 1] rfl
        have hD9 := hD.sub (ws' := [(h0, .inr (7, [.int ih, .int hn, .int fl, .int da, .int ds, .int ac, .int (nI kc), .ref m1, .ref m2, .ref m3, .ref m4, .ref m5, .int (nI pl), .ref pg, .int fa, .int nf, .ref m6, .ref m7, .ref m8, .long sd, .int ik, .int kh, .int (nI km), .int ka, .int ks, .int kac, .ref m9, .ref m10, .ref m11, .ref m12, .long hv])), (m2, .inl (cI, 6, .inl g2))]) [0, 1] (by decide) rfl
        rw [hQ]; exact W.iret (v := (-103)) hx hb hr (fun t ht hW => ⟨⟨(-103), (), rfl, trivial, ⟨g2, hpl, by rw [ht]; exact hP9, hD9⟩⟩, hS.F ht⟩) hS.2.2 dX7_go_28

set_option maxHeartbeats 4000000 in
set_option maxRecDepth 100000 in
theorem c_X7_told (l : Launch) (dC : Nat → ClassId) (dI : Nat → Nat → Nat) (cI cB : ClassId) (h0 : Nat) (p0 : Int32) (p1 : Int32) (ih : Int32) (hn : Int32) (fl : Int32) (da : Int32) (ds : Int32) (ac : Int32) (kc : Nat) (m1 : Nat) (m2 : Nat) (m3 : Nat) (m4 : Nat) (m5 : Nat) (pl : Nat) (pg : Nat) (fa : Int32) (nf : Int32) (m6 : Nat) (m7 : Nat) (m8 : Nat) (sd : Int64) (ik : Int32) (kh : Int32) (km : Nat) (ka : Int32) (ks : Int32) (kac : Int32) (m9 : Nat) (m10 : Nat) (m11 : Nat) (m12 : Nat) (hv : Int64) (g5 : Nat → Int32) (sz : Nat) (hkc : kc ≤ 6) : Met l yX7_told wsX7_told ({ frames := 2, cells := 0, slots := 0, locals := 43 }) (cz_Pm dC dI cI cB [.ref h0, .int p0, .int p1] [(h0, .inr (7, [.int ih, .int hn, .int fl, .int da, .int ds, .int ac, .int (nI kc), .ref m1, .ref m2, .ref m3, .ref m4, .ref m5, .int (nI pl), .ref pg, .int fa, .int nf, .ref m6, .ref m7, .ref m8, .long sd, .int ik, .int kh, .int (nI km), .int ka, .int ks, .int kac, .ref m9, .ref m10, .ref m11, .ref m12, .long hv])), (m5, .inl (cI, 6, .inl g5))] sz) (va_Qi (fun (r : Int32) (_ : Unit) => True) (fun _ t => ∃ (t5 : Nat → Int32), va_P (dC, dI) vwCl [(h0, .inr (7, [.int ih, .int hn, .int fl, .int da, .int ds, .int ac, .int (nI kc), .ref m1, .ref m2, .ref m3, .ref m4, .ref m5, .int (nI pl), .ref pg, .int fa, .int nf, .ref m6, .ref m7, .ref m8, .long sd, .int ik, .int kh, .int (nI km), .int ka, .int ks, .int kac, .ref m9, .ref m10, .ref m11, .ref m12, .long hv])), (m5, .inl (cI, 6, .inl t5))] t.heap ∧ va_D (va_A [(h0, .inr (7, [.int ih, .int hn, .int fl, .int da, .int ds, .int ac, .int (nI kc), .ref m1, .ref m2, .ref m3, .ref m4, .ref m5, .int (nI pl), .ref pg, .int fa, .int nf, .ref m6, .ref m7, .ref m8, .long sd, .int ik, .int kh, .int (nI km), .int ka, .int ks, .int kac, .ref m9, .ref m10, .ref m11, .ref m12, .long hv])), (m5, .inl (cI, 6, .inl g5))] sz) [(h0, .inr (7, [.int ih, .int hn, .int fl, .int da, .int ds, .int ac, .int (nI kc), .ref m1, .ref m2, .ref m3, .ref m4, .ref m5, .int (nI pl), .ref pg, .int fa, .int nf, .ref m6, .ref m7, .ref m8, .long sd, .int ik, .int kh, .int (nI km), .int ka, .int ks, .int kac, .ref m9, .ref m10, .ref m11, .ref m12, .long hv])), (m5, .inl (cI, 6, .inl t5))]) (va_A [(h0, .inr (7, [.int ih, .int hn, .int fl, .int da, .int ds, .int ac, .int (nI kc), .ref m1, .ref m2, .ref m3, .ref m4, .ref m5, .int (nI pl), .ref pg, .int fa, .int nf, .ref m6, .ref m7, .ref m8, .long sd, .int ik, .int kh, .int (nI km), .int ka, .int ks, .int kac, .ref m9, .ref m10, .ref m11, .ref m12, .long hv])), (m5, .inl (cI, 6, .inl g5))] sz)) 0 0 (va_A [(h0, .inr (7, [.int ih, .int hn, .int fl, .int da, .int ds, .int ac, .int (nI kc), .ref m1, .ref m2, .ref m3, .ref m4, .ref m5, .int (nI pl), .ref pg, .int fa, .int nf, .ref m6, .ref m7, .ref m8, .long sd, .int ik, .int kh, .int (nI km), .int ka, .int ks, .int kac, .ref m9, .ref m10, .ref m11, .ref m12, .long hv])), (m5, .inl (cI, 6, .inl g5))] sz) := by
  refine cz_of (cc := cX7_told) (maxL := 4) (ret := (some .int)) (by decide) rfl ?_
  intro p e s m args below meth c s₁ Q B hml hv hQ
  obtain ⟨rfl, hsz, hP, hN, hD0⟩ := hv
  have hx := B.exec
  have hb := B.bytes
  have hr := B.returns
  have hts := atoms_spec (ws := wsX7_told) B.pre
  have hown : s.vm.findClass RX7 = some m.cls := findClass_of_methodNamed B.named
  have hlocks := B.notSynchronized
  have hK := hN.1
  have hiX7 : ∀ w ∈ wsX70, w ∈ wsX7_told := (fun _ h => List.mem_cons_of_mem _ (List.mem_append_right _ h))
  subst hsz
  have hD := hD0.self (sz := s.heap.size)
  generalize hAe : va_A [(h0, .inr (7, [.int ih, .int hn, .int fl, .int da, .int ds, .int ac, .int (nI kc), .ref m1, .ref m2, .ref m3, .ref m4, .ref m5, .int (nI pl), .ref pg, .int fa, .int nf, .ref m6, .ref m7, .ref m8, .long sd, .int ik, .int kh, .int (nI km), .int ka, .int ks, .int kac, .ref m9, .ref m10, .ref m11, .ref m12, .long hv])), (m5, .inl (cI, 6, .inl g5))] s.heap.size = A at hD hQ ⊢
  have hA : ∀ q : Nat, s.heap.size ≤ q → A q := fun q h => by rw [← hAe]; exact Or.inr h
  have hS : va_S A s.heap s.heap [] := va_S.rf
  obtain ⟨H, eH⟩ : ∃ H, H = s.heap := ⟨_, rfl⟩
  have hP : va_P (dC, dI) vwCl [(h0, .inr (7, [.int ih, .int hn, .int fl, .int da, .int ds, .int ac, .int (nI kc), .ref m1, .ref m2, .ref m3, .ref m4, .ref m5, .int (nI pl), .ref pg, .int fa, .int nf, .ref m6, .ref m7, .ref m8, .long sd, .int ik, .int kh, .int (nI km), .int ka, .int ks, .int kac, .ref m9, .ref m10, .ref m11, .ref m12, .long hv])), (m5, .inl (cI, 6, .inl g5))] s.heap := hP
  have hl := lv_entry ([.ref h0, .int p0, .int p1]) (n := 4) (Nat.le_of_ble_eq_true rfl)
  rw [lg_entry_eq]
  generalize (lg_sl ([.ref h0, .int p0, .int p1]) ++ List.replicate (4 - (lg_sl ([.ref h0, .int p0, .int p1])).length) Slot.unset).toArray = ls at hl ⊢
  have hl : lv_has ls 4 [(0, .ref h0), (1, .int p0), (2, .int p1)] := hl
  refine lv_aload_n hx hb dX7_told_0 rfl (lv_at hl 0 rfl) ?_
  refine lv_iload_n hx hb dX7_told_1 rfl (lv_at hl 1 rfl) ?_
  refine vp_callSi (cz_run (va_runV (As := [.int p0]) (rest := []) ⟨hx, hb, hml, hown, hts⟩ (c_X7_isCourtier l dC dI cI cB h0 p0 ih hn fl da ds ac kc m1 m2 m3 m4 m5 pl pg fa nf m6 m7 m8 sd ik kh km ka ks kac m9 m10 m11 m12 hv hkc) (cwV 1 hts gX7_told_X7_isCourtier rfl rfl rfl (by decide +kernel) ⟨Nat.le_of_ble_eq_true rfl, Nat.le_of_ble_eq_true rfl⟩) (cz_pV (hP.sub (ws' := [(h0, .inr (7, [.int ih, .int hn, .int fl, .int da, .int ds, .int ac, .int (nI kc), .ref m1, .ref m2, .ref m3, .ref m4, .ref m5, .int (nI pl), .ref pg, .int fa, .int nf, .ref m6, .ref m7, .ref m8, .long sd, .int ik, .int kh, .int (nI km), .int ka, .int ks, .int kac, .ref m9, .ref m10, .ref m11, .ref m12, .long hv]))]) [0] rfl) hN (va_recv hK (hP.sub (ws' := [(h0, .inr (7, [.int ih, .int hn, .int fl, .int da, .int ds, .int ac, .int (nI kc), .ref m1, .ref m2, .ref m3, .ref m4, .ref m5, .int (nI pl), .ref pg, .int fa, .int nf, .ref m6, .ref m7, .ref m8, .long sd, .int ik, .int kh, .int (nI km), .int ka, .int ks, .int kac, .ref m9, .ref m10, .ref m11, .ref m12, .long hv]))]) [0] rfl) (ci := 7) (q0 := 0) rfl rfl)) rfl rfl hl.1 rfl (lv_room (Nat.le_of_ble_eq_true rfl)) dX7_told_2 ⟨Nat.le_of_ble_eq_true rfl, Nat.le_of_ble_eq_true rfl⟩)) (fun r_1 hr_1 => ?_)
  rcases hr_1 with ⟨rfl, hr_1⟩ | ⟨rfl, j_2, hr_1, rfl⟩
  · refine lv_if_ne (tgt := 11) hx hb dX7_told_5 (by decide) (fun c => absurd (by decide) c) (fun _ => ?_)
    refine lv_bipush (v := (-101)) hx hb dX7_told_8 (by decide) ?_
    refine W.widen (k := 0) (n := 0) (Nat.le_of_ble_eq_true rfl) (Nat.le_of_ble_eq_true rfl) ?_
    have hP9 := hP.sub (ws' := [(h0, .inr (7, [.int ih, .int hn, .int fl, .int da, .int ds, .int ac, .int (nI kc), .ref m1, .ref m2, .ref m3, .ref m4, .ref m5, .int (nI pl), .ref pg, .int fa, .int nf, .ref m6, .ref m7, .ref m8, .long sd, .int ik, .int kh, .int (nI km), .int ka, .int ks, .int kac, .ref m9, .ref m10, .ref m11, .ref m12, .long hv])), (m5, .inl (cI, 6, .inl g5))]) [0, 1] rfl
    have hD9 := hD.sub (ws' := [(h0, .inr (7, [.int ih, .int hn, .int fl, .int da, .int ds, .int ac, .int (nI kc), .ref m1, .ref m2, .ref m3, .ref m4, .ref m5, .int (nI pl), .ref pg, .int fa, .int nf, .ref m6, .ref m7, .ref m8, .long sd, .int ik, .int kh, .int (nI km), .int ka, .int ks, .int kac, .ref m9, .ref m10, .ref m11, .ref m12, .long hv])), (m5, .inl (cI, 6, .inl g5))]) [0, 1] (by decide) rfl
    rw [hQ]; exact W.iret (v := (-101)) hx hb hr (fun t ht hW => ⟨⟨(-101), (), rfl, trivial, ⟨g5, by rw [ht]; exact hP9, hD9⟩⟩, hS.F ht⟩) hS.2.2 dX7_told_10
  · refine lv_if_ne (tgt := 11) hx hb dX7_told_5 (by decide) (fun _ => ?_) (fun c => absurd c (by decide))
    refine lv_iload_n hx hb dX7_told_11 rfl (lv_at hl 2 rfl) ?_
    refine lv_iconst (v := (-1)) hx hb dX7_told_12 (by decide) ?_
    refine lv_iconst (v := 4) hx hb dX7_told_13 (by decide) ?_
    refine vp_callSi (cz_run (va_runS (As := [.int p1, .int (-1), .int 4]) (rest := []) ⟨hx, hb, hml, hown, hts⟩ (c_X7_within l dC dI cI cB p1 (-1) 4 ) (va_cwS 3 hts gX7_told_X7_within rfl rfl rfl (by decide +kernel) ⟨Nat.le_of_ble_eq_true rfl, Nat.le_of_ble_eq_true rfl⟩) (cz_pS (hP.sub (ws' := []) [] rfl) hN) rfl rfl hl.1 rfl (lv_room (Nat.le_of_ble_eq_true rfl)) dX7_told_14 ⟨Nat.le_of_ble_eq_true rfl, Nat.le_of_ble_eq_true rfl⟩)) (fun r_3 hr_3 => ?_)
    rcases hr_3 with ⟨rfl, hr_3⟩ | ⟨rfl, hr_3⟩
    · refine lv_if_ne (tgt := 23) hx hb dX7_told_17 (by decide) (fun c => absurd (by decide) c) (fun _ => ?_)
      refine lv_bipush (v := (-102)) hx hb dX7_told_20 (by decide) ?_
      refine W.widen (k := 0) (n := 0) (Nat.le_of_ble_eq_true rfl) (Nat.le_of_ble_eq_true rfl) ?_
      have hP9 := hP.sub (ws' := [(h0, .inr (7, [.int ih, .int hn, .int fl, .int da, .int ds, .int ac, .int (nI kc), .ref m1, .ref m2, .ref m3, .ref m4, .ref m5, .int (nI pl), .ref pg, .int fa, .int nf, .ref m6, .ref m7, .ref m8, .long sd, .int ik, .int kh, .int (nI km), .int ka, .int ks, .int kac, .ref m9, .ref m10, .ref m11, .ref m12, .long hv])), (m5, .inl (cI, 6, .inl g5))]) [0, 1] rfl
      have hD9 := hD.sub (ws' := [(h0, .inr (7, [.int ih, .int hn, .int fl, .int da, .int ds, .int ac, .int (nI kc), .ref m1, .ref m2, .ref m3, .ref m4, .ref m5, .int (nI pl), .ref pg, .int fa, .int nf, .ref m6, .ref m7, .ref m8, .long sd, .int ik, .int kh, .int (nI km), .int ka, .int ks, .int kac, .ref m9, .ref m10, .ref m11, .ref m12, .long hv])), (m5, .inl (cI, 6, .inl g5))]) [0, 1] (by decide) rfl
      rw [hQ]; exact W.iret (v := (-102)) hx hb hr (fun t ht hW => ⟨⟨(-102), (), rfl, trivial, ⟨g5, by rw [ht]; exact hP9, hD9⟩⟩, hS.F ht⟩) hS.2.2 dX7_told_22
    · refine lv_if_ne (tgt := 23) hx hb dX7_told_17 (by decide) (fun _ => ?_) (fun c => absurd c (by decide))
      refine lv_aload_n hx hb dX7_told_23 rfl (lv_at hl 0 rfl) ?_
      refine va_get (D := (dC, dI)) (ci := 7) (v := .ref m5) (C := RX7) (T := TX7) (N := 31) hx hb hts hiX7 hown hK hP 0 rfl rfl 11 (by decide) (hts (.fieldLink RX7 29 "LeftProfileModel" "toldOf" "[I") (List.mem_of_getElem? (i := 1) rfl)) (fun _ h9 => h9) rfl dX7_told_24 ?_
      refine lv_iload_n hx hb dX7_told_27 rfl (lv_at hl 1 rfl) ?_
      refine va_iald hx hb hK hP 1 0 rfl rfl (vp_in_nI (n := j_2) (by omega) (by omega)) dX7_told_28 ?_
      refine cz_i (y := (g5 j_2)) (congrArg g5 (nI_clamp (n := j_2) (by omega))) ?_
      refine lv_istore_n (lv' := [(3, .int (g5 j_2)), (0, .ref h0), (1, .int (nI j_2)), (2, .int p1)]) hx hb dX7_told_29 rfl hl (by decide) rfl (fun ls hl => ?_)
      refine lv_aload_n hx hb dX7_told_30 rfl (lv_at hl 1 rfl) ?_
      refine va_get (D := (dC, dI)) (ci := 7) (v := .ref m5) (C := RX7) (T := TX7) (N := 31) hx hb hts hiX7 hown hK hP 0 rfl rfl 11 (by decide) (hts (.fieldLink RX7 29 "LeftProfileModel" "toldOf" "[I") (List.mem_of_getElem? (i := 1) rfl)) (fun _ h9 => h9) rfl dX7_told_31 ?_
      refine lv_iload_n hx hb dX7_told_34 rfl (lv_at hl 2 rfl) ?_
      refine lv_iload_n hx hb dX7_told_35 rfl (lv_at hl 3 rfl) ?_
      refine va_iast hx hb hK hP hD hS 1 0 rfl rfl (vp_in_nI (n := j_2) (by omega) (by omega)) dX7_told_36 (fun H locs hP hD hS => ?_)
      rw [show (nI j_2).toNatClampNeg = j_2 from nI_clamp (n := j_2) (by omega)] at hP hD
      have hP : va_P (dC, dI) vwCl [(h0, .inr (7, [.int ih, .int hn, .int fl, .int da, .int ds, .int ac, .int (nI kc), .ref m1, .ref m2, .ref m3, .ref m4, .ref m5, .int (nI pl), .ref pg, .int fa, .int nf, .ref m6, .ref m7, .ref m8, .long sd, .int ik, .int kh, .int (nI km), .int ka, .int ks, .int kac, .ref m9, .ref m10, .ref m11, .ref m12, .long hv])), (m5, .inl (cI, 6, .inl (upd g5 j_2 p1)))] H := hP
      have hD : va_D A [(h0, .inr (7, [.int ih, .int hn, .int fl, .int da, .int ds, .int ac, .int (nI kc), .ref m1, .ref m2, .ref m3, .ref m4, .ref m5, .int (nI pl), .ref pg, .int fa, .int nf, .ref m6, .ref m7, .ref m8, .long sd, .int ik, .int kh, .int (nI km), .int ka, .int ks, .int kac, .ref m9, .ref m10, .ref m11, .ref m12, .long hv])), (m5, .inl (cI, 6, .inl (upd g5 j_2 p1)))] := hD
      refine lv_iload_n hx hb dX7_told_37 rfl (lv_at hl 0 rfl) ?_
      refine W.widen (k := 0) (n := 0) (Nat.le_of_ble_eq_true rfl) (Nat.le_of_ble_eq_true rfl) ?_
      have hP9 := hP.sub (ws' := [(h0, .inr (7, [.int ih, .int hn, .int fl, .int da, .int ds, .int ac, .int (nI kc), .ref m1, .ref m2, .ref m3, .ref m4, .ref m5, .int (nI pl), .ref pg, .int fa, .int nf, .ref m6, .ref m7, .ref m8, .long sd, .int ik, .int kh, .int (nI km), .int ka, .int ks, .int kac, .ref m9, .ref m10, .ref m11, .ref m12, .long hv])), (m5, .inl (cI, 6, .inl (upd g5 j_2 p1)))]) [0, 1] rfl
      have hD9 := hD.sub (ws' := [(h0, .inr (7, [.int ih, .int hn, .int fl, .int da, .int ds, .int ac, .int (nI kc), .ref m1, .ref m2, .ref m3, .ref m4, .ref m5, .int (nI pl), .ref pg, .int fa, .int nf, .ref m6, .ref m7, .ref m8, .long sd, .int ik, .int kh, .int (nI km), .int ka, .int ks, .int kac, .ref m9, .ref m10, .ref m11, .ref m12, .long hv])), (m5, .inl (cI, 6, .inl (upd g5 j_2 p1)))]) [0, 1] (by decide) rfl
      rw [hQ]; exact W.iret (v := (g5 j_2)) hx hb hr (fun t ht hW => ⟨⟨(g5 j_2), (), rfl, trivial, ⟨(upd g5 j_2 p1), by rw [ht]; exact hP9, hD9⟩⟩, hS.F ht⟩) hS.2.2 dX7_told_38
