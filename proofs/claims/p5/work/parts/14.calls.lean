def cz_lr (n : Nat) (v : Int32) : Int32 := if cz_in 32 v 126 then cz_ar n else -102
def cz_ln (n : Nat) (v : Int32) : Nat := if cz_in 32 v 126 then cz_an n else n
def cz_lf (n : Nat) (f : Nat → Int32) (v : Int32) : Nat → Int32 := if cz_in 32 v 126 then cz_af n f v else f

theorem c_X6_letter_a1 (p0 : Int32) (n0 : Nat) (hn24 : n0 ≤ 24) (c_1 : p0 < 32) : n0 = cz_ln n0 p0 := by first | (subst_vars; rfl) | assumption | ((try subst_vars) <;> (try simp only [cz_lr, cz_ln, cz_lf]) <;> (repeat' split) <;> (first | rfl | ((try simp only [cz_in, cz_du, cz_lt, cz_le, cz_eq, cz_l] at *) <;> (first | omega | (simp_all; done)))))
theorem c_X6_letter_a2 (p0 : Int32) (n0 : Nat) (f0 : Nat → Int32) (hn24 : n0 ≤ 24) (c_1 : p0 < 32) : f0 = cz_lf n0 f0 p0 := by first | (subst_vars; rfl) | assumption | ((try subst_vars) <;> (try simp only [cz_lr, cz_ln, cz_lf]) <;> (repeat' split) <;> (first | rfl | ((try simp only [cz_in, cz_du, cz_lt, cz_le, cz_eq, cz_l] at *) <;> (first | omega | (simp_all; done)))))
theorem c_X6_letter_a3 (p0 : Int32) (n0 : Nat) (hn24 : n0 ≤ 24) (c_1 : p0 < 32) : ((-102) : Int32) = cz_lr n0 p0 := by first | (subst_vars; rfl) | assumption | ((try subst_vars) <;> (try simp only [cz_lr, cz_ln, cz_lf]) <;> (repeat' split) <;> (first | rfl | ((try simp only [cz_in, cz_du, cz_lt, cz_le, cz_eq, cz_l] at *) <;> (first | omega | (simp_all; done)))))
theorem c_X6_letter_a4 (p0 : Int32) (n0 : Nat) (f0 : Nat → Int32) (q_4 : Nat) (f_5 : Nat → Int32) (r_3 : Int32) (hn24 : n0 ≤ 24) (c_1 : ¬ p0 < 32) (c_2 : p0 ≤ 126) (hr_3_n : q_4 = cz_an n0) (hr_3_f : f_5 = cz_af n0 f0 p0) (hr_3 : r_3 = cz_ar n0) : q_4 = cz_ln n0 p0 := by first | (subst_vars; rfl) | assumption | ((try subst_vars) <;> (try simp only [cz_lr, cz_ln, cz_lf]) <;> (repeat' split) <;> (first | rfl | ((try simp only [cz_in, cz_du, cz_lt, cz_le, cz_eq, cz_l] at *) <;> (first | omega | (simp_all; done)))))
theorem c_X6_letter_a5 (p0 : Int32) (n0 : Nat) (f0 : Nat → Int32) (q_4 : Nat) (f_5 : Nat → Int32) (r_3 : Int32) (hn24 : n0 ≤ 24) (c_1 : ¬ p0 < 32) (c_2 : p0 ≤ 126) (hr_3_n : q_4 = cz_an n0) (hr_3_f : f_5 = cz_af n0 f0 p0) (hr_3 : r_3 = cz_ar n0) : f_5 = cz_lf n0 f0 p0 := by first | (subst_vars; rfl) | assumption | ((try subst_vars) <;> (try simp only [cz_lr, cz_ln, cz_lf]) <;> (repeat' split) <;> (first | rfl | ((try simp only [cz_in, cz_du, cz_lt, cz_le, cz_eq, cz_l] at *) <;> (first | omega | (simp_all; done)))))
theorem c_X6_letter_a6 (p0 : Int32) (n0 : Nat) (f0 : Nat → Int32) (q_4 : Nat) (f_5 : Nat → Int32) (r_3 : Int32) (hn24 : n0 ≤ 24) (c_1 : ¬ p0 < 32) (c_2 : p0 ≤ 126) (hr_3_n : q_4 = cz_an n0) (hr_3_f : f_5 = cz_af n0 f0 p0) (hr_3 : r_3 = cz_ar n0) : (r_3 : Int32) = cz_lr n0 p0 := by first | (subst_vars; rfl) | assumption | ((try subst_vars) <;> (try simp only [cz_lr, cz_ln, cz_lf]) <;> (repeat' split) <;> (first | rfl | ((try simp only [cz_in, cz_du, cz_lt, cz_le, cz_eq, cz_l] at *) <;> (first | omega | (simp_all; done)))))
theorem c_X6_letter_a7 (p0 : Int32) (n0 : Nat) (hn24 : n0 ≤ 24) (c_1 : ¬ p0 < 32) (c_2 : ¬ p0 ≤ 126) : n0 = cz_ln n0 p0 := by first | (subst_vars; rfl) | assumption | ((try subst_vars) <;> (try simp only [cz_lr, cz_ln, cz_lf]) <;> (repeat' split) <;> (first | rfl | ((try simp only [cz_in, cz_du, cz_lt, cz_le, cz_eq, cz_l] at *) <;> (first | omega | (simp_all; done)))))
theorem c_X6_letter_a8 (p0 : Int32) (n0 : Nat) (f0 : Nat → Int32) (hn24 : n0 ≤ 24) (c_1 : ¬ p0 < 32) (c_2 : ¬ p0 ≤ 126) : f0 = cz_lf n0 f0 p0 := by first | (subst_vars; rfl) | assumption | ((try subst_vars) <;> (try simp only [cz_lr, cz_ln, cz_lf]) <;> (repeat' split) <;> (first | rfl | ((try simp only [cz_in, cz_du, cz_lt, cz_le, cz_eq, cz_l] at *) <;> (first | omega | (simp_all; done)))))
theorem c_X6_letter_a9 (p0 : Int32) (n0 : Nat) (hn24 : n0 ≤ 24) (c_1 : ¬ p0 < 32) (c_2 : ¬ p0 ≤ 126) : ((-102) : Int32) = cz_lr n0 p0 := by first | (subst_vars; rfl) | assumption | ((try subst_vars) <;> (try simp only [cz_lr, cz_ln, cz_lf]) <;> (repeat' split) <;> (first | rfl | ((try simp only [cz_in, cz_du, cz_lt, cz_le, cz_eq, cz_l] at *) <;> (first | omega | (simp_all; done)))))
set_option maxHeartbeats 4000000 in
set_option maxRecDepth 100000 in
theorem c_X6_letter (l : Launch) (dC : Nat → ClassId) (dI : Nat → Nat → Nat) (cI cB : ClassId) (h0 : Nat) (p0 : Int32) (hp : Nat) (hs : Nat) (hh : Nat) (hc : Nat) (kp : Nat) (rt : Nat) (kr : Int32) (cd : Nat) (n0 : Nat) (f0 : Nat → Int32) (sz : Nat) (hn24 : n0 ≤ 24) : Met l yX6_letter wsX6_letter ({ frames := 1, cells := 0, slots := 0, locals := 21 }) (cz_Pm dC dI cI cB [.ref h0, .int p0] [(h0, .inr (6, [.ref hp, .ref hs, .ref hh, .ref hc, .ref kp, .ref rt, .int kr])), (hp, .inr (2, [.ref cd, .int (nI n0)])), (cd, .inl (cI, 24, .inl f0))] sz) (va_Qi (fun (r : Int32) (_ : Unit) => r = cz_lr n0 p0) (fun _ t => ∃ (nn : Nat) (ff : Nat → Int32), (nn = cz_ln n0 p0) ∧ (ff = cz_lf n0 f0 p0) ∧ va_P (dC, dI) vwCl [(h0, .inr (6, [.ref hp, .ref hs, .ref hh, .ref hc, .ref kp, .ref rt, .int kr])), (hp, .inr (2, [.ref cd, .int (nI nn)])), (cd, .inl (cI, 24, .inl ff))] t.heap ∧ va_D (va_A [(h0, .inr (6, [.ref hp, .ref hs, .ref hh, .ref hc, .ref kp, .ref rt, .int kr])), (hp, .inr (2, [.ref cd, .int (nI n0)])), (cd, .inl (cI, 24, .inl f0))] sz) [(h0, .inr (6, [.ref hp, .ref hs, .ref hh, .ref hc, .ref kp, .ref rt, .int kr])), (hp, .inr (2, [.ref cd, .int (nI nn)])), (cd, .inl (cI, 24, .inl ff))]) (va_A [(h0, .inr (6, [.ref hp, .ref hs, .ref hh, .ref hc, .ref kp, .ref rt, .int kr])), (hp, .inr (2, [.ref cd, .int (nI n0)])), (cd, .inl (cI, 24, .inl f0))] sz)) 0 0 (va_A [(h0, .inr (6, [.ref hp, .ref hs, .ref hh, .ref hc, .ref kp, .ref rt, .int kr])), (hp, .inr (2, [.ref cd, .int (nI n0)])), (cd, .inl (cI, 24, .inl f0))] sz) := by
  refine cz_of (cc := cX6_letter) (maxL := 2) (ret := (some .int)) (by decide) rfl ?_
  intro p e s m args below meth c s₁ Q B hml hv hQ
  obtain ⟨rfl, hsz, hP, hN, hD0⟩ := hv
  have hx := B.exec
  have hb := B.bytes
  have hr := B.returns
  have hts := atoms_spec (ws := wsX6_letter) B.pre
  have hown : s.vm.findClass RX6 = some m.cls := findClass_of_methodNamed B.named
  have hlocks := B.notSynchronized
  have hK := hN.1
  have hiX6 : ∀ w ∈ wsX60, w ∈ wsX6_letter := (fun _ h => List.mem_cons_of_mem _ (List.mem_append_left _ (List.mem_append_right _ h)))
  subst hsz
  have hD := hD0.self (sz := s.heap.size)
  generalize hAe : va_A [(h0, .inr (6, [.ref hp, .ref hs, .ref hh, .ref hc, .ref kp, .ref rt, .int kr])), (hp, .inr (2, [.ref cd, .int (nI n0)])), (cd, .inl (cI, 24, .inl f0))] s.heap.size = A at hD hQ ⊢
  have hA : ∀ q : Nat, s.heap.size ≤ q → A q := fun q h => by rw [← hAe]; exact Or.inr h
  have hS : va_S A s.heap s.heap [] := va_S.rf
  obtain ⟨H, eH⟩ : ∃ H, H = s.heap := ⟨_, rfl⟩
  have hP : va_P (dC, dI) vwCl [(h0, .inr (6, [.ref hp, .ref hs, .ref hh, .ref hc, .ref kp, .ref rt, .int kr])), (hp, .inr (2, [.ref cd, .int (nI n0)])), (cd, .inl (cI, 24, .inl f0))] s.heap := hP
  have hl := lv_entry ([.ref h0, .int p0]) (n := 2) (Nat.le_of_ble_eq_true rfl)
  rw [lg_entry_eq]
  generalize (lg_sl ([.ref h0, .int p0]) ++ List.replicate (2 - (lg_sl ([.ref h0, .int p0])).length) Slot.unset).toArray = ls at hl ⊢
  have hl : lv_has ls 2 [(0, .ref h0), (1, .int p0)] := hl
  refine lv_iload_n hx hb dX6_letter_0 rfl (lv_at hl 1 rfl) ?_
  refine lv_bipush (v := 32) hx hb dX6_letter_1 (by decide) ?_
  refine lv_icmp_lt (tgt := 12) hx hb dX6_letter_3 (by decide) (fun c_1 => ?_) (fun c_1 => ?_)
  · refine lv_bipush (v := (-102)) hx hb dX6_letter_12 (by decide) ?_
    refine W.widen (k := 0) (n := 0) (Nat.le_of_ble_eq_true rfl) (Nat.le_of_ble_eq_true rfl) ?_
    have hP9 := hP.sub (ws' := [(h0, .inr (6, [.ref hp, .ref hs, .ref hh, .ref hc, .ref kp, .ref rt, .int kr])), (hp, .inr (2, [.ref cd, .int (nI n0)])), (cd, .inl (cI, 24, .inl f0))]) [0, 1, 2] rfl
    have hD9 := hD.sub (ws' := [(h0, .inr (6, [.ref hp, .ref hs, .ref hh, .ref hc, .ref kp, .ref rt, .int kr])), (hp, .inr (2, [.ref cd, .int (nI n0)])), (cd, .inl (cI, 24, .inl f0))]) [0, 1, 2] (by decide) rfl
    rw [hQ]; exact W.iret (v := (-102)) hx hb hr (fun t ht hW => ⟨⟨(-102), (), rfl, (c_X6_letter_a3 p0 n0 hn24 c_1), ⟨n0, f0, (c_X6_letter_a1 p0 n0 hn24 c_1), (c_X6_letter_a2 p0 n0 f0 hn24 c_1), by rw [ht]; exact hP9, hD9⟩⟩, hS.F ht⟩) hS.2.2 dX6_letter_14
  · refine lv_iload_n hx hb dX6_letter_6 rfl (lv_at hl 1 rfl) ?_
    refine lv_bipush (v := 126) hx hb dX6_letter_7 (by decide) ?_
    refine lv_icmp_le (tgt := 15) hx hb dX6_letter_9 (by decide) (fun c_2 => ?_) (fun c_2 => ?_)
    · refine lv_aload_n hx hb dX6_letter_15 rfl (lv_at hl 0 rfl) ?_
      refine va_get (D := (dC, dI)) (ci := 6) (v := .ref hp) (C := RX6) (T := TX6) (N := 7) hx hb hts hiX6 hown hK hP 0 rfl rfl 0 (by decide) (hts (.fieldLink RX6 12 "LeftProfile" "page" "LLeftProfile$Page;") (List.mem_of_getElem? (i := 1) rfl)) (fun _ h9 => h9) rfl dX6_letter_16 ?_
      refine lv_iload_n hx hb dX6_letter_19 rfl (lv_at hl 1 rfl) ?_
      have hPc := hP.sub (ws' := [(hp, .inr (2, [.ref cd, .int (nI n0)])), (cd, .inl (cI, 24, .inl f0))]) [1, 2] rfl
      have hDc := hD.sub (ws' := [(hp, .inr (2, [.ref cd, .int (nI n0)])), (cd, .inl (cI, 24, .inl f0))]) [1, 2] (by decide) rfl
      have hFc := va_free (wc := [(hp, .inr (2, [.ref cd, .int (nI n0)])), (cd, .inl (cI, 24, .inl f0))]) hD hS hA [1, 2] rfl
      refine va_calli (va_runV (As := [.int p0]) (rest := []) ⟨hx, hb, hml, hown, hts⟩ (c_X2_add l dC dI cI cB hp p0 cd n0 f0 s.heap.size hn24) (cwV 1 hts gX6_letter_X2_add rfl rfl rfl (by decide +kernel) ⟨Nat.le_of_ble_eq_true rfl, Nat.le_of_ble_eq_true rfl⟩) (cz_mV hPc hN hDc (va_recv hK hPc (ci := 2) (q0 := 0) rfl rfl)) rfl rfl hl.1 rfl (lv_room (Nat.le_of_ble_eq_true rfl)) dX6_letter_20 ⟨Nat.le_of_ble_eq_true rfl, Nat.le_of_ble_eq_true rfl⟩) hS (fun q _ h => hFc q h) hFc (fun r_3 u t H1 locs ht hvm hr_3 hB hz1 hk1 hS => ?_)
      obtain ⟨q_4, f_5, hr_3_n, hr_3_f, hP1, hD1⟩ := hB
      rw [ht] at hP1
      obtain ⟨hP, hD⟩ := va_join (wr := [(h0, .inr (6, [.ref hp, .ref hs, .ref hh, .ref hc, .ref kp, .ref rt, .int kr]))]) (w1 := [(hp, .inr (2, [.ref cd, .int (nI q_4)])), (cd, .inl (cI, 24, .inl f_5))]) hP hD [1, 2] [0] rfl rfl (by decide) (by decide) hk1 hFc hP1 hD1
      generalize H1 = H at hP hS ⊢
      have hP : va_P (dC, dI) vwCl [(h0, .inr (6, [.ref hp, .ref hs, .ref hh, .ref hc, .ref kp, .ref rt, .int kr])), (hp, .inr (2, [.ref cd, .int (nI q_4)])), (cd, .inl (cI, 24, .inl f_5))] H := hP
      have hD : va_D A [(h0, .inr (6, [.ref hp, .ref hs, .ref hh, .ref hc, .ref kp, .ref rt, .int kr])), (hp, .inr (2, [.ref cd, .int (nI q_4)])), (cd, .inl (cI, 24, .inl f_5))] := hD
      refine W.widen (k := 0) (n := 0) (Nat.le_of_ble_eq_true rfl) (Nat.le_of_ble_eq_true rfl) ?_
      have hP9 := hP.sub (ws' := [(h0, .inr (6, [.ref hp, .ref hs, .ref hh, .ref hc, .ref kp, .ref rt, .int kr])), (hp, .inr (2, [.ref cd, .int (nI q_4)])), (cd, .inl (cI, 24, .inl f_5))]) [0, 1, 2] rfl
      have hD9 := hD.sub (ws' := [(h0, .inr (6, [.ref hp, .ref hs, .ref hh, .ref hc, .ref kp, .ref rt, .int kr])), (hp, .inr (2, [.ref cd, .int (nI q_4)])), (cd, .inl (cI, 24, .inl f_5))]) [0, 1, 2] (by decide) rfl
      rw [hQ]; exact W.iret (v := r_3) hx hb hr (fun t ht hW => ⟨⟨r_3, (), rfl, (c_X6_letter_a6 p0 n0 f0 q_4 f_5 r_3 hn24 c_1 c_2 hr_3_n hr_3_f hr_3), ⟨q_4, f_5, (c_X6_letter_a4 p0 n0 f0 q_4 f_5 r_3 hn24 c_1 c_2 hr_3_n hr_3_f hr_3), (c_X6_letter_a5 p0 n0 f0 q_4 f_5 r_3 hn24 c_1 c_2 hr_3_n hr_3_f hr_3), by rw [ht]; exact hP9, hD9⟩⟩, hS.F ht⟩) hS.2.2 dX6_letter_23
    · refine lv_bipush (v := (-102)) hx hb dX6_letter_12 (by decide) ?_
      refine W.widen (k := 0) (n := 0) (Nat.le_of_ble_eq_true rfl) (Nat.le_of_ble_eq_true rfl) ?_
      have hP9 := hP.sub (ws' := [(h0, .inr (6, [.ref hp, .ref hs, .ref hh, .ref hc, .ref kp, .ref rt, .int kr])), (hp, .inr (2, [.ref cd, .int (nI n0)])), (cd, .inl (cI, 24, .inl f0))]) [0, 1, 2] rfl
      have hD9 := hD.sub (ws' := [(h0, .inr (6, [.ref hp, .ref hs, .ref hh, .ref hc, .ref kp, .ref rt, .int kr])), (hp, .inr (2, [.ref cd, .int (nI n0)])), (cd, .inl (cI, 24, .inl f0))]) [0, 1, 2] (by decide) rfl
      rw [hQ]; exact W.iret (v := (-102)) hx hb hr (fun t ht hW => ⟨⟨(-102), (), rfl, (c_X6_letter_a9 p0 n0 hn24 c_1 c_2), ⟨n0, f0, (c_X6_letter_a7 p0 n0 hn24 c_1 c_2), (c_X6_letter_a8 p0 n0 f0 hn24 c_1 c_2), by rw [ht]; exact hP9, hD9⟩⟩, hS.F ht⟩) hS.2.2 dX6_letter_14

theorem c_X6_blank_a1 (n0 : Nat) (r_1 : Int32) (hr_1 : r_1 = (nI n0)) : (r_1 : Int32) = (nI n0) := by first | (subst_vars; rfl) | assumption | ((try subst_vars) <;> (repeat' split) <;> (first | rfl | ((try simp only [cz_in, cz_du, cz_lt, cz_le, cz_eq, cz_l] at *) <;> (first | omega | (simp_all; done)))))
set_option maxHeartbeats 4000000 in
set_option maxRecDepth 100000 in
theorem c_X6_blank (l : Launch) (dC : Nat → ClassId) (dI : Nat → Nat → Nat) (cI cB : ClassId) (h0 : Nat) (hp : Nat) (hs : Nat) (hh : Nat) (hc : Nat) (kp : Nat) (rt : Nat) (kr : Int32) (cd : Nat) (n0 : Nat) (sz : Nat) : Met l yX6_blank wsX6_blank ({ frames := 1, cells := 0, slots := 0, locals := 21 }) (cz_Pm dC dI cI cB [.ref h0] [(h0, .inr (6, [.ref hp, .ref hs, .ref hh, .ref hc, .ref kp, .ref rt, .int kr])), (hp, .inr (2, [.ref cd, .int (nI n0)]))] sz) (va_Qi (fun (r : Int32) (_ : Unit) => r = (nI n0)) (fun _ t => va_P (dC, dI) vwCl [(h0, .inr (6, [.ref hp, .ref hs, .ref hh, .ref hc, .ref kp, .ref rt, .int kr])), (hp, .inr (2, [.ref cd, .int (nI 0)]))] t.heap ∧ va_D (va_A [(h0, .inr (6, [.ref hp, .ref hs, .ref hh, .ref hc, .ref kp, .ref rt, .int kr])), (hp, .inr (2, [.ref cd, .int (nI n0)]))] sz) [(h0, .inr (6, [.ref hp, .ref hs, .ref hh, .ref hc, .ref kp, .ref rt, .int kr])), (hp, .inr (2, [.ref cd, .int (nI 0)]))]) (va_A [(h0, .inr (6, [.ref hp, .ref hs, .ref hh, .ref hc, .ref kp, .ref rt, .int kr])), (hp, .inr (2, [.ref cd, .int (nI n0)]))] sz)) 0 0 (va_A [(h0, .inr (6, [.ref hp, .ref hs, .ref hh, .ref hc, .ref kp, .ref rt, .int kr])), (hp, .inr (2, [.ref cd, .int (nI n0)]))] sz) := by
  refine cz_of (cc := cX6_blank) (maxL := 1) (ret := (some .int)) (by decide) rfl ?_
  intro p e s m args below meth c s₁ Q B hml hv hQ
  obtain ⟨rfl, hsz, hP, hN, hD0⟩ := hv
  have hx := B.exec
  have hb := B.bytes
  have hr := B.returns
  have hts := atoms_spec (ws := wsX6_blank) B.pre
  have hown : s.vm.findClass RX6 = some m.cls := findClass_of_methodNamed B.named
  have hlocks := B.notSynchronized
  have hK := hN.1
  have hiX6 : ∀ w ∈ wsX60, w ∈ wsX6_blank := (fun _ h => List.mem_cons_of_mem _ (List.mem_append_left _ (List.mem_append_right _ h)))
  subst hsz
  have hD := hD0.self (sz := s.heap.size)
  generalize hAe : va_A [(h0, .inr (6, [.ref hp, .ref hs, .ref hh, .ref hc, .ref kp, .ref rt, .int kr])), (hp, .inr (2, [.ref cd, .int (nI n0)]))] s.heap.size = A at hD hQ ⊢
  have hA : ∀ q : Nat, s.heap.size ≤ q → A q := fun q h => by rw [← hAe]; exact Or.inr h
  have hS : va_S A s.heap s.heap [] := va_S.rf
  obtain ⟨H, eH⟩ : ∃ H, H = s.heap := ⟨_, rfl⟩
  have hP : va_P (dC, dI) vwCl [(h0, .inr (6, [.ref hp, .ref hs, .ref hh, .ref hc, .ref kp, .ref rt, .int kr])), (hp, .inr (2, [.ref cd, .int (nI n0)]))] s.heap := hP
  have hl := lv_entry ([.ref h0]) (n := 1) (Nat.le_of_ble_eq_true rfl)
  rw [lg_entry_eq]
  generalize (lg_sl ([.ref h0]) ++ List.replicate (1 - (lg_sl ([.ref h0])).length) Slot.unset).toArray = ls at hl ⊢
  have hl : lv_has ls 1 [(0, .ref h0)] := hl
  refine lv_aload_n hx hb dX6_blank_0 rfl (lv_at hl 0 rfl) ?_
  refine va_get (D := (dC, dI)) (ci := 6) (v := .ref hp) (C := RX6) (T := TX6) (N := 7) hx hb hts hiX6 hown hK hP 0 rfl rfl 0 (by decide) (hts (.fieldLink RX6 12 "LeftProfile" "page" "LLeftProfile$Page;") (List.mem_of_getElem? (i := 1) rfl)) (fun _ h9 => h9) rfl dX6_blank_1 ?_
  have hPc := hP.sub (ws' := [(hp, .inr (2, [.ref cd, .int (nI n0)]))]) [1] rfl
  have hDc := hD.sub (ws' := [(hp, .inr (2, [.ref cd, .int (nI n0)]))]) [1] (by decide) rfl
  have hFc := va_free (wc := [(hp, .inr (2, [.ref cd, .int (nI n0)]))]) hD hS hA [1] rfl
  refine va_calli (va_runV (As := []) (rest := []) ⟨hx, hb, hml, hown, hts⟩ (c_X2_clear l dC dI cI cB hp cd n0 s.heap.size ) (cwV 0 hts gX6_blank_X2_clear rfl rfl rfl (by decide +kernel) ⟨Nat.le_of_ble_eq_true rfl, Nat.le_of_ble_eq_true rfl⟩) (cz_mV hPc hN hDc (va_recv hK hPc (ci := 2) (q0 := 0) rfl rfl)) rfl rfl hl.1 rfl (lv_room (Nat.le_of_ble_eq_true rfl)) dX6_blank_4 ⟨Nat.le_of_ble_eq_true rfl, Nat.le_of_ble_eq_true rfl⟩) hS (fun q _ h => hFc q h) hFc (fun r_1 u t H1 locs ht hvm hr_1 hB hz1 hk1 hS => ?_)
  obtain ⟨hP1, hD1⟩ := hB
  rw [ht] at hP1
  obtain ⟨hP, hD⟩ := va_join (wr := [(h0, .inr (6, [.ref hp, .ref hs, .ref hh, .ref hc, .ref kp, .ref rt, .int kr]))]) (w1 := [(hp, .inr (2, [.ref cd, .int 0]))]) hP hD [1] [0] rfl rfl (by decide) (by decide) hk1 hFc hP1 hD1
  generalize H1 = H at hP hS ⊢
  have hP : va_P (dC, dI) vwCl [(h0, .inr (6, [.ref hp, .ref hs, .ref hh, .ref hc, .ref kp, .ref rt, .int kr])), (hp, .inr (2, [.ref cd, .int 0]))] H := hP
  have hD : va_D A [(h0, .inr (6, [.ref hp, .ref hs, .ref hh, .ref hc, .ref kp, .ref rt, .int kr])), (hp, .inr (2, [.ref cd, .int 0]))] := hD
  refine W.widen (k := 0) (n := 0) (Nat.le_of_ble_eq_true rfl) (Nat.le_of_ble_eq_true rfl) ?_
  have hP9 := hP.sub (ws' := [(h0, .inr (6, [.ref hp, .ref hs, .ref hh, .ref hc, .ref kp, .ref rt, .int kr])), (hp, .inr (2, [.ref cd, .int 0]))]) [0, 1] rfl
  have hD9 := hD.sub (ws' := [(h0, .inr (6, [.ref hp, .ref hs, .ref hh, .ref hc, .ref kp, .ref rt, .int kr])), (hp, .inr (2, [.ref cd, .int 0]))]) [0, 1] (by decide) rfl
  rw [hQ]; exact W.iret (v := r_1) hx hb hr (fun t ht hW => ⟨⟨r_1, (), rfl, (c_X6_blank_a1 n0 r_1 hr_1), ⟨by rw [ht]; exact hP9, hD9⟩⟩, hS.F ht⟩) hS.2.2 dX6_blank_7

set_option maxHeartbeats 4000000 in
set_option maxRecDepth 100000 in
theorem c_X6_fault (l : Launch) (dC : Nat → ClassId) (dI : Nat → Nat → Nat) (cI cB : ClassId) (h0 : Nat) (hp : Nat) (hs : Nat) (hh : Nat) (hc : Nat) (kp : Nat) (rt : Nat) (kr : Int32) (cd : Nat) (n0 : Nat) (f0 : Nat → Int32) (hn24 : n0 ≤ 24) : Met l yX6_fault wsX6_fault ({ frames := 3, cells := 0, slots := 0, locals := 64 }) (cz_Pp dC dI cI cB [.ref h0] [(h0, .inr (6, [.ref hp, .ref hs, .ref hh, .ref hc, .ref kp, .ref rt, .int kr])), (hp, .inr (2, [.ref cd, .int (nI n0)])), (cd, .inl (cI, 24, .inl f0))]) (vp_Si (fun r : Int32 => ∃ kk : Nat, r = nI kk ∧ (kk ≤ n0) ∧ (cz_fits f0 kk) ∧ (kk = n0 ∨ ¬ cz_fit f0 kk))) 0 0 (fun _ => False) := by
  refine cz_of (cc := cX6_fault) (maxL := 1) (ret := (some .int)) (by decide) rfl ?_
  intro p e s m args below meth c s₁ Q B hml hv hQ
  obtain ⟨rfl, hP, hN⟩ := hv
  have hx := B.exec
  have hb := B.bytes
  have hr := B.returns
  have hts := atoms_spec (ws := wsX6_fault) B.pre
  have hown : s.vm.findClass RX6 = some m.cls := findClass_of_methodNamed B.named
  have hlocks := B.notSynchronized
  have hK := hN.1
  have hiX6 : ∀ w ∈ wsX60, w ∈ wsX6_fault := (fun _ h => List.mem_cons_of_mem _ (List.mem_append_left _ (List.mem_append_right _ h)))
  have hl := lv_entry ([.ref h0]) (n := 1) (Nat.le_of_ble_eq_true rfl)
  rw [lg_entry_eq]
  generalize (lg_sl ([.ref h0]) ++ List.replicate (1 - (lg_sl ([.ref h0])).length) Slot.unset).toArray = ls at hl ⊢
  have hl : lv_has ls 1 [(0, .ref h0)] := hl
  refine lv_aload_n hx hb dX6_fault_0 rfl (lv_at hl 0 rfl) ?_
  refine va_get (D := (dC, dI)) (ci := 6) (v := .ref hp) (C := RX6) (T := TX6) (N := 7) hx hb hts hiX6 hown hK hP 0 rfl rfl 0 (by decide) (hts (.fieldLink RX6 12 "LeftProfile" "page" "LLeftProfile$Page;") (List.mem_of_getElem? (i := 1) rfl)) (fun _ h9 => h9) rfl dX6_fault_1 ?_
  refine vp_callSi (cz_run (va_runV (As := []) (rest := []) ⟨hx, hb, hml, hown, hts⟩ (c_X2_firstFault l dC dI cI cB hp cd n0 f0 hn24) (cwV 0 hts gX6_fault_X2_firstFault rfl rfl rfl (by decide +kernel) ⟨Nat.le_of_ble_eq_true rfl, Nat.le_of_ble_eq_true rfl⟩) (cz_pV (hP.sub (ws' := [(hp, .inr (2, [.ref cd, .int (nI n0)])), (cd, .inl (cI, 24, .inl f0))]) [1, 2] rfl) hN (va_recv hK (hP.sub (ws' := [(hp, .inr (2, [.ref cd, .int (nI n0)])), (cd, .inl (cI, 24, .inl f0))]) [1, 2] rfl) (ci := 2) (q0 := 0) rfl rfl)) rfl rfl hl.1 rfl (lv_room (Nat.le_of_ble_eq_true rfl)) dX6_fault_4 ⟨Nat.le_of_ble_eq_true rfl, Nat.le_of_ble_eq_true rfl⟩)) (fun r_1 hr_1 => ?_)
  obtain ⟨kk_2, rfl, hr_1_k, hr_1_f, hr_1_n⟩ := hr_1
  rw [hQ]; exact W.iret (v := (nI kk_2)) hx hb hr (fun t ht hW => ⟨(nI kk_2), rfl, ⟨kk_2, rfl, by omega, hr_1_f, hr_1_n⟩, ht⟩) (fun _ h => absurd h List.not_mem_nil) dX6_fault_7

set_option maxHeartbeats 4000000 in
set_option maxRecDepth 100000 in
theorem c_X6_hall (l : Launch) (dC : Nat → ClassId) (dI : Nat → Nat → Nat) (cI cB : ClassId) (h0 : Nat) (hp : Nat) (hs : Nat) (hh : Nat) (hc : Nat) (kp : Nat) (rt : Nat) (kr : Int32) (cd : Nat) (n0 : Nat) (f0 : Nat → Int32) (w0 : Int32) (w1 : Int32) (w2 : Int32) (a0 : Int32) (a1 : Int32) (k0 : Nat) (k1 : Nat) (k2 : Nat) (k3 : Nat) (k4 : Nat) (k5 : Nat) (sz : Nat) (hn24 : n0 ≤ 24) (hk6 : k0 ≤ 6) : Met l yX6_hall wsX6_hall ({ frames := 4, cells := 0, slots := 0, locals := 84 }) (cz_Pm dC dI cI cB [.ref h0] [(h0, .inr (6, [.ref hp, .ref hs, .ref hh, .ref hc, .ref kp, .ref rt, .int kr])), (hp, .inr (2, [.ref cd, .int (nI n0)])), (cd, .inl (cI, 24, .inl f0)), (hh, .inr (1, [.int w0, .int w1, .int w2])), (hc, .inr (0, [.int a0, .int a1, .int (nI k0), .ref k1, .ref k2, .ref k3, .ref k4, .ref k5]))] sz) (va_Qi (fun (r : Int32) (_ : Unit) => ((n0 = 23 ∧ cz_fits f0 23) ∧ r = 20 - cz_bc (cz_wl f0 20)) ∨ (¬ (n0 = 23 ∧ cz_fits f0 23) ∧ r = -103)) (fun _ t => ∃ (nn : Nat) (z0 : Int32) (z1 : Int32) (z2 : Int32) (s0 : Int32) (kk : Nat), (kk ≤ 6) ∧ ((nn = n0 ∧ ¬ (n0 = 23 ∧ cz_fits f0 23)) ∨ (nn = 0 ∧ (n0 = 23 ∧ cz_fits f0 23))) ∧ va_P (dC, dI) vwCl [(h0, .inr (6, [.ref hp, .ref hs, .ref hh, .ref hc, .ref kp, .ref rt, .int kr])), (hp, .inr (2, [.ref cd, .int (nI nn)])), (cd, .inl (cI, 24, .inl f0)), (hh, .inr (1, [.int z0, .int z1, .int z2])), (hc, .inr (0, [.int s0, .int a1, .int (nI kk), .ref k1, .ref k2, .ref k3, .ref k4, .ref k5]))] t.heap ∧ va_D (va_A [(h0, .inr (6, [.ref hp, .ref hs, .ref hh, .ref hc, .ref kp, .ref rt, .int kr])), (hp, .inr (2, [.ref cd, .int (nI n0)])), (cd, .inl (cI, 24, .inl f0)), (hh, .inr (1, [.int w0, .int w1, .int w2])), (hc, .inr (0, [.int a0, .int a1, .int (nI k0), .ref k1, .ref k2, .ref k3, .ref k4, .ref k5]))] sz) [(h0, .inr (6, [.ref hp, .ref hs, .ref hh, .ref hc, .ref kp, .ref rt, .int kr])), (hp, .inr (2, [.ref cd, .int (nI nn)])), (cd, .inl (cI, 24, .inl f0)), (hh, .inr (1, [.int z0, .int z1, .int z2])), (hc, .inr (0, [.int s0, .int a1, .int (nI kk), .ref k1, .ref k2, .ref k3, .ref k4, .ref k5]))]) (va_A [(h0, .inr (6, [.ref hp, .ref hs, .ref hh, .ref hc, .ref kp, .ref rt, .int kr])), (hp, .inr (2, [.ref cd, .int (nI n0)])), (cd, .inl (cI, 24, .inl f0)), (hh, .inr (1, [.int w0, .int w1, .int w2])), (hc, .inr (0, [.int a0, .int a1, .int (nI k0), .ref k1, .ref k2, .ref k3, .ref k4, .ref k5]))] sz)) 0 0 (va_A [(h0, .inr (6, [.ref hp, .ref hs, .ref hh, .ref hc, .ref kp, .ref rt, .int kr])), (hp, .inr (2, [.ref cd, .int (nI n0)])), (cd, .inl (cI, 24, .inl f0)), (hh, .inr (1, [.int w0, .int w1, .int w2])), (hc, .inr (0, [.int a0, .int a1, .int (nI k0), .ref k1, .ref k2, .ref k3, .ref k4, .ref k5]))] sz) := by
  refine cz_of (cc := cX6_hall) (maxL := 1) (ret := (some .int)) (by decide) rfl ?_
  intro p e s m args below meth c s₁ Q B hml hv hQ
  obtain ⟨rfl, hsz, hP, hN, hD0⟩ := hv
  have hx := B.exec
  have hb := B.bytes
  have hr := B.returns
  have hts := atoms_spec (ws := wsX6_hall) B.pre
  have hown : s.vm.findClass RX6 = some m.cls := findClass_of_methodNamed B.named
  have hlocks := B.notSynchronized
  have hK := hN.1
  have hiX1 : ∀ w ∈ wsX10, w ∈ wsX6_hall := (fun _ h => List.mem_cons_of_mem _ (List.mem_append_left _ (List.mem_append_left _ (List.mem_append_right _ h))))
  have hiX6 : ∀ w ∈ wsX60, w ∈ wsX6_hall := (fun _ h => List.mem_cons_of_mem _ (List.mem_append_left _ (List.mem_append_left _ (List.mem_append_left _ (List.mem_append_right _ h)))))
  subst hsz
  have hD := hD0.self (sz := s.heap.size)
  generalize hAe : va_A [(h0, .inr (6, [.ref hp, .ref hs, .ref hh, .ref hc, .ref kp, .ref rt, .int kr])), (hp, .inr (2, [.ref cd, .int (nI n0)])), (cd, .inl (cI, 24, .inl f0)), (hh, .inr (1, [.int w0, .int w1, .int w2])), (hc, .inr (0, [.int a0, .int a1, .int (nI k0), .ref k1, .ref k2, .ref k3, .ref k4, .ref k5]))] s.heap.size = A at hD hQ ⊢
  have hA : ∀ q : Nat, s.heap.size ≤ q → A q := fun q h => by rw [← hAe]; exact Or.inr h
  have hS : va_S A s.heap s.heap [] := va_S.rf
  obtain ⟨H, eH⟩ : ∃ H, H = s.heap := ⟨_, rfl⟩
  have hP : va_P (dC, dI) vwCl [(h0, .inr (6, [.ref hp, .ref hs, .ref hh, .ref hc, .ref kp, .ref rt, .int kr])), (hp, .inr (2, [.ref cd, .int (nI n0)])), (cd, .inl (cI, 24, .inl f0)), (hh, .inr (1, [.int w0, .int w1, .int w2])), (hc, .inr (0, [.int a0, .int a1, .int (nI k0), .ref k1, .ref k2, .ref k3, .ref k4, .ref k5]))] s.heap := hP
  have hl := lv_entry ([.ref h0]) (n := 1) (Nat.le_of_ble_eq_true rfl)
  rw [lg_entry_eq]
  generalize (lg_sl ([.ref h0]) ++ List.replicate (1 - (lg_sl ([.ref h0])).length) Slot.unset).toArray = ls at hl ⊢
  have hl : lv_has ls 1 [(0, .ref h0)] := hl
  refine lv_aload_n hx hb dX6_hall_0 rfl (lv_at hl 0 rfl) ?_
  refine va_get (D := (dC, dI)) (ci := 6) (v := .ref hp) (C := RX6) (T := TX6) (N := 7) hx hb hts hiX6 hown hK hP 0 rfl rfl 0 (by decide) (hts (.fieldLink RX6 12 "LeftProfile" "page" "LLeftProfile$Page;") (List.mem_of_getElem? (i := 1) rfl)) (fun _ h9 => h9) rfl dX6_hall_1 ?_
  refine vp_callSi (cz_run (va_runV (As := []) (rest := []) ⟨hx, hb, hml, hown, hts⟩ (c_X2_isHall l dC dI cI cB hp cd n0 f0 hn24) (cwV 0 hts gX6_hall_X2_isHall rfl rfl rfl (by decide +kernel) ⟨Nat.le_of_ble_eq_true rfl, Nat.le_of_ble_eq_true rfl⟩) (cz_pV (hP.sub (ws' := [(hp, .inr (2, [.ref cd, .int (nI n0)])), (cd, .inl (cI, 24, .inl f0))]) [1, 2] rfl) hN (va_recv hK (hP.sub (ws' := [(hp, .inr (2, [.ref cd, .int (nI n0)])), (cd, .inl (cI, 24, .inl f0))]) [1, 2] rfl) (ci := 2) (q0 := 0) rfl rfl)) rfl rfl hl.1 rfl (lv_room (Nat.le_of_ble_eq_true rfl)) dX6_hall_4 ⟨Nat.le_of_ble_eq_true rfl, Nat.le_of_ble_eq_true rfl⟩)) (fun r_1 hr_1 => ?_)
  rcases hr_1 with ⟨rfl, hr_1⟩ | ⟨rfl, hr_1⟩
  · refine lv_if_ne (tgt := 13) hx hb dX6_hall_7 (by decide) (fun c => absurd (by decide) c) (fun _ => ?_)
    refine lv_bipush (v := (-103)) hx hb dX6_hall_10 (by decide) ?_
    refine W.widen (k := 0) (n := 0) (Nat.le_of_ble_eq_true rfl) (Nat.le_of_ble_eq_true rfl) ?_
    have hP9 := hP.sub (ws' := [(h0, .inr (6, [.ref hp, .ref hs, .ref hh, .ref hc, .ref kp, .ref rt, .int kr])), (hp, .inr (2, [.ref cd, .int (nI n0)])), (cd, .inl (cI, 24, .inl f0)), (hh, .inr (1, [.int w0, .int w1, .int w2])), (hc, .inr (0, [.int a0, .int a1, .int (nI k0), .ref k1, .ref k2, .ref k3, .ref k4, .ref k5]))]) [0, 1, 2, 3, 4] rfl
    have hD9 := hD.sub (ws' := [(h0, .inr (6, [.ref hp, .ref hs, .ref hh, .ref hc, .ref kp, .ref rt, .int kr])), (hp, .inr (2, [.ref cd, .int (nI n0)])), (cd, .inl (cI, 24, .inl f0)), (hh, .inr (1, [.int w0, .int w1, .int w2])), (hc, .inr (0, [.int a0, .int a1, .int (nI k0), .ref k1, .ref k2, .ref k3, .ref k4, .ref k5]))]) [0, 1, 2, 3, 4] (by decide) rfl
    rw [hQ]; exact W.iret (v := (-103)) hx hb hr (fun t ht hW => ⟨⟨(-103), (), rfl, (Or.inr ⟨hr_1, rfl⟩), ⟨n0, w0, w1, w2, a0, k0, hk6, (Or.inl ⟨rfl, hr_1⟩), by rw [ht]; exact hP9, hD9⟩⟩, hS.F ht⟩) hS.2.2 dX6_hall_12
  · refine lv_if_ne (tgt := 13) hx hb dX6_hall_7 (by decide) (fun _ => ?_) (fun c => absurd c (by decide))
    refine lv_aload_n hx hb dX6_hall_13 rfl (lv_at hl 0 rfl) ?_
    refine va_get (D := (dC, dI)) (ci := 6) (v := .ref hh) (C := RX6) (T := TX6) (N := 7) hx hb hts hiX6 hown hK hP 0 rfl rfl 2 (by decide) (hts (.fieldLink RX6 27 "LeftProfile" "hall" "LLeftProfile$Hall;") (List.mem_of_getElem? (i := 2) rfl)) (fun _ h9 => h9) rfl dX6_hall_14 ?_
    refine lv_aload_n hx hb dX6_hall_17 rfl (lv_at hl 0 rfl) ?_
    refine va_get (D := (dC, dI)) (ci := 6) (v := .ref hp) (C := RX6) (T := TX6) (N := 7) hx hb hts hiX6 hown hK hP 0 rfl rfl 0 (by decide) (hts (.fieldLink RX6 12 "LeftProfile" "page" "LLeftProfile$Page;") (List.mem_of_getElem? (i := 1) rfl)) (fun _ h9 => h9) rfl dX6_hall_18 ?_
    have hPc := hP.sub (ws' := [(hh, .inr (1, [.int w0, .int w1, .int w2])), (hp, .inr (2, [.ref cd, .int (nI n0)])), (cd, .inl (cI, 24, .inl f0))]) [3, 1, 2] rfl
    have hDc := hD.sub (ws' := [(hh, .inr (1, [.int w0, .int w1, .int w2])), (hp, .inr (2, [.ref cd, .int (nI n0)])), (cd, .inl (cI, 24, .inl f0))]) [3, 1, 2] (by decide) rfl
    have hFc := va_free (wc := [(hh, .inr (1, [.int w0, .int w1, .int w2])), (hp, .inr (2, [.ref cd, .int (nI n0)])), (cd, .inl (cI, 24, .inl f0))]) hD hS hA [3, 1, 2] rfl
    refine va_callv (va_runV (As := [.ref hp]) (rest := []) ⟨hx, hb, hml, hown, hts⟩ (c_X1_read l dC dI cI cB hh hp w0 w1 w2 cd n0 f0 s.heap.size hn24 (by omega)) (cwV 1 hts gX6_hall_X1_read rfl rfl rfl (by decide +kernel) ⟨Nat.le_of_ble_eq_true rfl, Nat.le_of_ble_eq_true rfl⟩) (cz_mV hPc hN hDc (va_recv hK hPc (ci := 1) (q0 := 0) rfl rfl)) rfl rfl hl.1 rfl (lv_room (Nat.le_of_ble_eq_true rfl)) dX6_hall_21 ⟨Nat.le_of_ble_eq_true rfl, Nat.le_of_ble_eq_true rfl⟩) hS (fun q _ h => hFc q h) hFc (fun u t H1 locs ht hvm hr_2 hB hz1 hk1 hS => ?_)
    obtain ⟨f_3, f_4, f_5, hr_2_w, hr_2_f, hP1, hD1⟩ := hB
    rw [ht] at hP1
    obtain ⟨hP, hD⟩ := va_join (wr := [(h0, .inr (6, [.ref hp, .ref hs, .ref hh, .ref hc, .ref kp, .ref rt, .int kr])), (hc, .inr (0, [.int a0, .int a1, .int (nI k0), .ref k1, .ref k2, .ref k3, .ref k4, .ref k5]))]) (w1 := [(hh, .inr (1, [.int f_3, .int f_4, .int f_5])), (hp, .inr (2, [.ref cd, .int (nI n0)])), (cd, .inl (cI, 24, .inl f0))]) hP hD [3, 1, 2] [0, 4] rfl rfl (by decide) (by decide) hk1 hFc hP1 hD1
    generalize H1 = H at hP hS ⊢
    have hP : va_P (dC, dI) vwCl [(h0, .inr (6, [.ref hp, .ref hs, .ref hh, .ref hc, .ref kp, .ref rt, .int kr])), (hc, .inr (0, [.int a0, .int a1, .int (nI k0), .ref k1, .ref k2, .ref k3, .ref k4, .ref k5])), (hh, .inr (1, [.int f_3, .int f_4, .int f_5])), (hp, .inr (2, [.ref cd, .int (nI n0)])), (cd, .inl (cI, 24, .inl f0))] H := hP
    have hD : va_D A [(h0, .inr (6, [.ref hp, .ref hs, .ref hh, .ref hc, .ref kp, .ref rt, .int kr])), (hc, .inr (0, [.int a0, .int a1, .int (nI k0), .ref k1, .ref k2, .ref k3, .ref k4, .ref k5])), (hh, .inr (1, [.int f_3, .int f_4, .int f_5])), (hp, .inr (2, [.ref cd, .int (nI n0)])), (cd, .inl (cI, 24, .inl f0))] := hD
    refine lv_aload_n hx hb dX6_hall_24 rfl (lv_at hl 0 rfl) ?_
    refine va_get (D := (dC, dI)) (ci := 6) (v := .ref hp) (C := RX6) (T := TX6) (N := 7) hx hb hts hiX6 hown hK hP 0 rfl rfl 0 (by decide) (hts (.fieldLink RX6 12 "LeftProfile" "page" "LLeftProfile$Page;") (List.mem_of_getElem? (i := 1) rfl)) (fun _ h9 => h9) rfl dX6_hall_25 ?_
    have hPc := hP.sub (ws' := [(hp, .inr (2, [.ref cd, .int (nI n0)]))]) [3] rfl
    have hDc := hD.sub (ws' := [(hp, .inr (2, [.ref cd, .int (nI n0)]))]) [3] (by decide) rfl
    have hFc := va_free (wc := [(hp, .inr (2, [.ref cd, .int (nI n0)]))]) hD hS hA [3] rfl
    refine va_calli (va_runV (As := []) (rest := []) ⟨hx, hb, hml, hown, hts⟩ (c_X2_clear l dC dI cI cB hp cd n0 H.size ) (cwV 0 hts gX6_hall_X2_clear rfl rfl rfl (by decide +kernel) ⟨Nat.le_of_ble_eq_true rfl, Nat.le_of_ble_eq_true rfl⟩) (cz_mV hPc hN hDc (va_recv hK hPc (ci := 2) (q0 := 0) rfl rfl)) rfl rfl hl.1 rfl (lv_room (Nat.le_of_ble_eq_true rfl)) dX6_hall_28 ⟨Nat.le_of_ble_eq_true rfl, Nat.le_of_ble_eq_true rfl⟩) hS (fun q _ h => hFc q h) hFc (fun r_6 u t H1 locs ht hvm hr_6 hB hz1 hk1 hS => ?_)
    obtain ⟨hP1, hD1⟩ := hB
    rw [ht] at hP1
    obtain ⟨hP, hD⟩ := va_join (wr := [(h0, .inr (6, [.ref hp, .ref hs, .ref hh, .ref hc, .ref kp, .ref rt, .int kr])), (hc, .inr (0, [.int a0, .int a1, .int (nI k0), .ref k1, .ref k2, .ref k3, .ref k4, .ref k5])), (hh, .inr (1, [.int f_3, .int f_4, .int f_5])), (cd, .inl (cI, 24, .inl f0))]) (w1 := [(hp, .inr (2, [.ref cd, .int 0]))]) hP hD [3] [0, 1, 2, 4] rfl rfl (by decide) (by decide) hk1 hFc hP1 hD1
    generalize H1 = H at hP hS ⊢
    have hP : va_P (dC, dI) vwCl [(h0, .inr (6, [.ref hp, .ref hs, .ref hh, .ref hc, .ref kp, .ref rt, .int kr])), (hc, .inr (0, [.int a0, .int a1, .int (nI k0), .ref k1, .ref k2, .ref k3, .ref k4, .ref k5])), (hh, .inr (1, [.int f_3, .int f_4, .int f_5])), (cd, .inl (cI, 24, .inl f0)), (hp, .inr (2, [.ref cd, .int 0]))] H := hP
    have hD : va_D A [(h0, .inr (6, [.ref hp, .ref hs, .ref hh, .ref hc, .ref kp, .ref rt, .int kr])), (hc, .inr (0, [.int a0, .int a1, .int (nI k0), .ref k1, .ref k2, .ref k3, .ref k4, .ref k5])), (hh, .inr (1, [.int f_3, .int f_4, .int f_5])), (cd, .inl (cI, 24, .inl f0)), (hp, .inr (2, [.ref cd, .int 0]))] := hD
    refine lv_pop hx hb dX6_hall_31 rfl ?_
    refine lv_aload_n hx hb dX6_hall_32 rfl (lv_at hl 0 rfl) ?_
    refine va_get (D := (dC, dI)) (ci := 6) (v := .ref hc) (C := RX6) (T := TX6) (N := 7) hx hb hts hiX6 hown hK hP 0 rfl rfl 3 (by decide) (hts (.fieldLink RX6 32 "LeftProfile" "court" "LLeftProfile$Court;") (List.mem_of_getElem? (i := 3) rfl)) (fun _ h9 => h9) rfl dX6_hall_33 ?_
    have hPc := hP.sub (ws' := [(hc, .inr (0, [.int a0, .int a1, .int (nI k0), .ref k1, .ref k2, .ref k3, .ref k4, .ref k5]))]) [1] rfl
    have hDc := hD.sub (ws' := [(hc, .inr (0, [.int a0, .int a1, .int (nI k0), .ref k1, .ref k2, .ref k3, .ref k4, .ref k5]))]) [1] (by decide) rfl
    have hFc := va_free (wc := [(hc, .inr (0, [.int a0, .int a1, .int (nI k0), .ref k1, .ref k2, .ref k3, .ref k4, .ref k5]))]) hD hS hA [1] rfl
    refine va_callv (va_runV (As := []) (rest := []) ⟨hx, hb, hml, hown, hts⟩ (c_X0_leave l dC dI cI cB hc a0 a1 k0 k1 k2 k3 k4 k5 H.size ) (cwV 0 hts gX6_hall_X0_leave rfl rfl rfl (by decide +kernel) ⟨Nat.le_of_ble_eq_true rfl, Nat.le_of_ble_eq_true rfl⟩) (cz_mV hPc hN hDc (va_recv hK hPc (ci := 0) (q0 := 0) rfl rfl)) rfl rfl hl.1 rfl (lv_room (Nat.le_of_ble_eq_true rfl)) dX6_hall_36 ⟨Nat.le_of_ble_eq_true rfl, Nat.le_of_ble_eq_true rfl⟩) hS (fun q _ h => hFc q h) hFc (fun u t H1 locs ht hvm hr_7 hB hz1 hk1 hS => ?_)
    obtain ⟨hP1, hD1⟩ := hB
    rw [ht] at hP1
    obtain ⟨hP, hD⟩ := va_join (wr := [(h0, .inr (6, [.ref hp, .ref hs, .ref hh, .ref hc, .ref kp, .ref rt, .int kr])), (hh, .inr (1, [.int f_3, .int f_4, .int f_5])), (cd, .inl (cI, 24, .inl f0)), (hp, .inr (2, [.ref cd, .int 0]))]) (w1 := [(hc, .inr (0, [.int (-1), .int a1, .int 0, .ref k1, .ref k2, .ref k3, .ref k4, .ref k5]))]) hP hD [1] [0, 2, 3, 4] rfl rfl (by decide) (by decide) hk1 hFc hP1 hD1
    generalize H1 = H at hP hS ⊢
    have hP : va_P (dC, dI) vwCl [(h0, .inr (6, [.ref hp, .ref hs, .ref hh, .ref hc, .ref kp, .ref rt, .int kr])), (hh, .inr (1, [.int f_3, .int f_4, .int f_5])), (cd, .inl (cI, 24, .inl f0)), (hp, .inr (2, [.ref cd, .int 0])), (hc, .inr (0, [.int (-1), .int a1, .int 0, .ref k1, .ref k2, .ref k3, .ref k4, .ref k5]))] H := hP
    have hD : va_D A [(h0, .inr (6, [.ref hp, .ref hs, .ref hh, .ref hc, .ref kp, .ref rt, .int kr])), (hh, .inr (1, [.int f_3, .int f_4, .int f_5])), (cd, .inl (cI, 24, .inl f0)), (hp, .inr (2, [.ref cd, .int 0])), (hc, .inr (0, [.int (-1), .int a1, .int 0, .ref k1, .ref k2, .ref k3, .ref k4, .ref k5]))] := hD
    refine lv_aload_n hx hb dX6_hall_39 rfl (lv_at hl 0 rfl) ?_
    refine va_get (D := (dC, dI)) (ci := 6) (v := .ref hh) (C := RX6) (T := TX6) (N := 7) hx hb hts hiX6 hown hK hP 0 rfl rfl 2 (by decide) (hts (.fieldLink RX6 27 "LeftProfile" "hall" "LLeftProfile$Hall;") (List.mem_of_getElem? (i := 2) rfl)) (fun _ h9 => h9) rfl dX6_hall_40 ?_
    refine va_get (D := (dC, dI)) (ci := 1) (v := .int f_4) (C := RX1) (T := TX1) (N := 3) hx hb hts hiX1 hown hK hP 1 rfl rfl 1 (by decide) (hts (.fieldLink RX6 74 "LeftProfile$Hall" "floors" "I") (List.mem_of_getElem? (i := 4) rfl)) (fun _ h9 => h9) rfl dX6_hall_43 ?_
    refine W.widen (k := 0) (n := 0) (Nat.le_of_ble_eq_true rfl) (Nat.le_of_ble_eq_true rfl) ?_
    have hP9 := hP.sub (ws' := [(h0, .inr (6, [.ref hp, .ref hs, .ref hh, .ref hc, .ref kp, .ref rt, .int kr])), (hp, .inr (2, [.ref cd, .int 0])), (cd, .inl (cI, 24, .inl f0)), (hh, .inr (1, [.int f_3, .int f_4, .int f_5])), (hc, .inr (0, [.int (-1), .int a1, .int 0, .ref k1, .ref k2, .ref k3, .ref k4, .ref k5]))]) [0, 3, 2, 1, 4] rfl
    have hD9 := hD.sub (ws' := [(h0, .inr (6, [.ref hp, .ref hs, .ref hh, .ref hc, .ref kp, .ref rt, .int kr])), (hp, .inr (2, [.ref cd, .int 0])), (cd, .inl (cI, 24, .inl f0)), (hh, .inr (1, [.int f_3, .int f_4, .int f_5])), (hc, .inr (0, [.int (-1), .int a1, .int 0, .ref k1, .ref k2, .ref k3, .ref k4, .ref k5]))]) [0, 3, 2, 1, 4] (by decide) rfl
    rw [hQ]; exact W.iret (v := f_4) hx hb hr (fun t ht hW => ⟨⟨f_4, (), rfl, (Or.inl ⟨hr_1, by rw [hr_2_f, hr_2_w]⟩), ⟨0, f_3, f_4, f_5, (-1), 0, (by omega), (Or.inr ⟨rfl, hr_1⟩), by rw [ht]; exact hP9, hD9⟩⟩, hS.F ht⟩) hS.2.2 dX6_hall_46

set_option maxHeartbeats 4000000 in
set_option maxRecDepth 100000 in
theorem c_X6_on (l : Launch) (dC : Nat → ClassId) (dI : Nat → Nat → Nat) (cI cB : ClassId) (h0 : Nat) (p0 : Int32) (hp : Nat) (hs : Nat) (hh : Nat) (hc : Nat) (kp : Nat) (rt : Nat) (kr : Int32) (w0 : Int32) (w1 : Int32) (w2 : Int32) (a0 : Int32) (a1 : Int32) (k0 : Nat) (k1 : Nat) (k2 : Nat) (k3 : Nat) (k4 : Nat) (k5 : Nat) (g2 : Nat → Int32) (hk6 : k0 ≤ 6) : Met l yX6_on wsX6_on ({ frames := 2, cells := 0, slots := 0, locals := 41 }) (cz_Pp dC dI cI cB [.ref h0, .int p0] [(h0, .inr (6, [.ref hp, .ref hs, .ref hh, .ref hc, .ref kp, .ref rt, .int kr])), (hh, .inr (1, [.int w0, .int w1, .int w2])), (hc, .inr (0, [.int a0, .int a1, .int (nI k0), .ref k1, .ref k2, .ref k3, .ref k4, .ref k5])), (k2, .inl (cI, 6, .inl g2))]) (vp_Si (fun r : Int32 => True)) 0 0 (fun _ => False) := by
  refine cz_of (cc := cX6_on) (maxL := 2) (ret := (some .int)) (by decide) rfl ?_
  intro p e s m args below meth c s₁ Q B hml hv hQ
  obtain ⟨rfl, hP, hN⟩ := hv
  have hx := B.exec
  have hb := B.bytes
  have hr := B.returns
  have hts := atoms_spec (ws := wsX6_on) B.pre
  have hown : s.vm.findClass RX6 = some m.cls := findClass_of_methodNamed B.named
  have hlocks := B.notSynchronized
  have hK := hN.1
  have hiX0 : ∀ w ∈ wsX00, w ∈ wsX6_on := (fun _ h => List.mem_cons_of_mem _ (List.mem_append_right _ h))
  have hiX1 : ∀ w ∈ wsX10, w ∈ wsX6_on := (fun _ h => List.mem_cons_of_mem _ (List.mem_append_left _ (List.mem_append_right _ h)))
  have hiX6 : ∀ w ∈ wsX60, w ∈ wsX6_on := (fun _ h => List.mem_cons_of_mem _ (List.mem_append_left _ (List.mem_append_left _ (List.mem_append_right _ h))))
  have hl := lv_entry ([.ref h0, .int p0]) (n := 2) (Nat.le_of_ble_eq_true rfl)
  rw [lg_entry_eq]
  generalize (lg_sl ([.ref h0, .int p0]) ++ List.replicate (2 - (lg_sl ([.ref h0, .int p0])).length) Slot.unset).toArray = ls at hl ⊢
  have hl : lv_has ls 2 [(0, .ref h0), (1, .int p0)] := hl
  refine lv_iload_n hx hb dX6_on_0 rfl (lv_at hl 1 rfl) ?_
  refine vp_callSi (cz_run (va_runS (As := [.int p0]) (rest := []) ⟨hx, hb, hml, hown, hts⟩ (c_X6_isPlace l dC dI cI cB p0 ) (va_cwS 1 hts gX6_on_X6_isPlace rfl rfl rfl (by decide +kernel) ⟨Nat.le_of_ble_eq_true rfl, Nat.le_of_ble_eq_true rfl⟩) (cz_pS (hP.sub (ws' := []) [] rfl) hN) rfl rfl hl.1 rfl (lv_room (Nat.le_of_ble_eq_true rfl)) dX6_on_1 ⟨Nat.le_of_ble_eq_true rfl, Nat.le_of_ble_eq_true rfl⟩)) (fun r_1 hr_1 => ?_)
  rcases hr_1 with ⟨rfl, hr_1⟩ | ⟨rfl, hr_1⟩
  · refine lv_if_ne (tgt := 10) hx hb dX6_on_4 (by decide) (fun c => absurd (by decide) c) (fun _ => ?_)
    refine lv_bipush (v := (-101)) hx hb dX6_on_7 (by decide) ?_
    rw [hQ]; exact W.iret (v := (-101)) hx hb hr (fun t ht hW => ⟨(-101), rfl, trivial, ht⟩) (fun _ h => absurd h List.not_mem_nil) dX6_on_9
  · refine lv_if_ne (tgt := 10) hx hb dX6_on_4 (by decide) (fun _ => ?_) (fun c => absurd c (by decide))
    refine lv_aload_n hx hb dX6_on_10 rfl (lv_at hl 0 rfl) ?_
    refine va_get (D := (dC, dI)) (ci := 6) (v := .ref hh) (C := RX6) (T := TX6) (N := 7) hx hb hts hiX6 hown hK hP 0 rfl rfl 2 (by decide) (hts (.fieldLink RX6 27 "LeftProfile" "hall" "LLeftProfile$Hall;") (List.mem_of_getElem? (i := 1) rfl)) (fun _ h9 => h9) rfl dX6_on_11 ?_
    refine vp_callSi (cz_run (va_runV (As := []) (rest := []) ⟨hx, hb, hml, hown, hts⟩ (c_X1_isMissing l dC dI cI cB hh w0 w1 w2 ) (cwV 0 hts gX6_on_X1_isMissing rfl rfl rfl (by decide +kernel) ⟨Nat.le_of_ble_eq_true rfl, Nat.le_of_ble_eq_true rfl⟩) (cz_pV (hP.sub (ws' := [(hh, .inr (1, [.int w0, .int w1, .int w2]))]) [1] rfl) hN (va_recv hK (hP.sub (ws' := [(hh, .inr (1, [.int w0, .int w1, .int w2]))]) [1] rfl) (ci := 1) (q0 := 0) rfl rfl)) rfl rfl hl.1 rfl (lv_room (Nat.le_of_ble_eq_true rfl)) dX6_on_14 ⟨Nat.le_of_ble_eq_true rfl, Nat.le_of_ble_eq_true rfl⟩)) (fun r_2 hr_2 => ?_)
    rcases hr_2 with ⟨rfl, hr_2⟩ | ⟨rfl, hr_2⟩
    · refine lv_if_eq (tgt := 23) hx hb dX6_on_17 (by decide) (fun _ => ?_) (fun c => absurd (by decide) c)
      refine lv_iload_n hx hb dX6_on_23 rfl (lv_at hl 1 rfl) ?_
      refine lv_aload_n hx hb dX6_on_24 rfl (lv_at hl 0 rfl) ?_
      refine va_get (D := (dC, dI)) (ci := 6) (v := .ref hh) (C := RX6) (T := TX6) (N := 7) hx hb hts hiX6 hown hK hP 0 rfl rfl 2 (by decide) (hts (.fieldLink RX6 27 "LeftProfile" "hall" "LLeftProfile$Hall;") (List.mem_of_getElem? (i := 1) rfl)) (fun _ h9 => h9) rfl dX6_on_25 ?_
      refine va_get (D := (dC, dI)) (ci := 1) (v := .int w0) (C := RX1) (T := TX1) (N := 3) hx hb hts hiX1 hown hK hP 1 rfl rfl 0 (by decide) (hts (.fieldLink RX6 84 "LeftProfile$Hall" "walls" "I") (List.mem_of_getElem? (i := 2) rfl)) (fun _ h9 => h9) rfl dX6_on_28 ?_
      refine vp_callSi (cz_run (va_runS (As := [.int p0, .int w0]) (rest := []) ⟨hx, hb, hml, hown, hts⟩ (c_X6_isOpen l dC dI cI cB p0 w0 ) (va_cwS 2 hts gX6_on_X6_isOpen rfl rfl rfl (by decide +kernel) ⟨Nat.le_of_ble_eq_true rfl, Nat.le_of_ble_eq_true rfl⟩) (cz_pS (hP.sub (ws' := []) [] rfl) hN) rfl rfl hl.1 rfl (lv_room (Nat.le_of_ble_eq_true rfl)) dX6_on_31 ⟨Nat.le_of_ble_eq_true rfl, Nat.le_of_ble_eq_true rfl⟩)) (fun r_3 hr_3 => ?_)
      refine lv_if_ne (tgt := 40) hx hb dX6_on_34 (by decide) (fun c_4 => ?_) (fun c_4 => ?_)
      · refine lv_iload_n hx hb dX6_on_40 rfl (lv_at hl 1 rfl) ?_
        refine lv_aload_n hx hb dX6_on_41 rfl (lv_at hl 0 rfl) ?_
        refine va_get (D := (dC, dI)) (ci := 6) (v := .ref hc) (C := RX6) (T := TX6) (N := 7) hx hb hts hiX6 hown hK hP 0 rfl rfl 3 (by decide) (hts (.fieldLink RX6 32 "LeftProfile" "court" "LLeftProfile$Court;") (List.mem_of_getElem? (i := 3) rfl)) (fun _ h9 => h9) rfl dX6_on_42 ?_
        refine va_get (D := (dC, dI)) (ci := 0) (v := .int a0) (C := RX0) (T := TX0) (N := 8) hx hb hts hiX0 hown hK hP 2 rfl rfl 0 (by decide) (hts (.fieldLink RX6 91 "LeftProfile$Court" "stance" "I") (List.mem_of_getElem? (i := 4) rfl)) (fun _ h9 => h9) rfl dX6_on_45 ?_
        refine vp_callSi (cz_run (va_runS (As := [.int a0]) (rest := [.int p0]) ⟨hx, hb, hml, hown, hts⟩ (c_X6_placeOf l dC dI cI cB a0 ) (va_cwS 1 hts gX6_on_X6_placeOf rfl rfl rfl (by decide +kernel) ⟨Nat.le_of_ble_eq_true rfl, Nat.le_of_ble_eq_true rfl⟩) (cz_pS (hP.sub (ws' := []) [] rfl) hN) rfl rfl hl.1 rfl (lv_room (Nat.le_of_ble_eq_true rfl)) dX6_on_48 ⟨Nat.le_of_ble_eq_true rfl, Nat.le_of_ble_eq_true rfl⟩)) (fun r_5 hr_5 => ?_)
        refine lv_icmp_ne (tgt := 59) hx hb dX6_on_51 (by decide) (fun c_6 => ?_) (fun c_6 => ?_)
        · refine lv_aload_n hx hb dX6_on_59 rfl (lv_at hl 0 rfl) ?_
          refine va_get (D := (dC, dI)) (ci := 6) (v := .ref hc) (C := RX6) (T := TX6) (N := 7) hx hb hts hiX6 hown hK hP 0 rfl rfl 3 (by decide) (hts (.fieldLink RX6 32 "LeftProfile" "court" "LLeftProfile$Court;") (List.mem_of_getElem? (i := 3) rfl)) (fun _ h9 => h9) rfl dX6_on_60 ?_
          refine lv_iload_n hx hb dX6_on_63 rfl (lv_at hl 1 rfl) ?_
          refine vp_callSi (cz_run (va_runV (As := [.int p0]) (rest := []) ⟨hx, hb, hml, hown, hts⟩ (c_X0_whoIsOn l dC dI cI cB hc p0 a0 a1 k0 k1 k2 k3 k4 k5 g2 hk6) (cwV 1 hts gX6_on_X0_whoIsOn rfl rfl rfl (by decide +kernel) ⟨Nat.le_of_ble_eq_true rfl, Nat.le_of_ble_eq_true rfl⟩) (cz_pV (hP.sub (ws' := [(hc, .inr (0, [.int a0, .int a1, .int (nI k0), .ref k1, .ref k2, .ref k3, .ref k4, .ref k5])), (k2, .inl (cI, 6, .inl g2))]) [2, 3] rfl) hN (va_recv hK (hP.sub (ws' := [(hc, .inr (0, [.int a0, .int a1, .int (nI k0), .ref k1, .ref k2, .ref k3, .ref k4, .ref k5])), (k2, .inl (cI, 6, .inl g2))]) [2, 3] rfl) (ci := 0) (q0 := 0) rfl rfl)) rfl rfl hl.1 rfl (lv_room (Nat.le_of_ble_eq_true rfl)) dX6_on_64 ⟨Nat.le_of_ble_eq_true rfl, Nat.le_of_ble_eq_true rfl⟩)) (fun r_7 hr_7 => ?_)
          rw [hQ]; exact W.iret (v := r_7) hx hb hr (fun t ht hW => ⟨r_7, rfl, trivial, ht⟩) (fun _ h => absurd h List.not_mem_nil) dX6_on_67
        · refine lv_bipush (v := 9) hx hb dX6_on_54 (by decide) ?_
          refine lv_goto (tgt := 67) hx hb dX6_on_56 (by decide) ?_
          rw [hQ]; exact W.iret (v := 9) hx hb hr (fun t ht hW => ⟨9, rfl, trivial, ht⟩) (fun _ h => absurd h List.not_mem_nil) dX6_on_67
      · refine lv_bipush (v := (-2)) hx hb dX6_on_37 (by decide) ?_
        rw [hQ]; exact W.iret (v := (-2)) hx hb hr (fun t ht hW => ⟨(-2), rfl, trivial, ht⟩) (fun _ h => absurd h List.not_mem_nil) dX6_on_39
    · refine lv_if_eq (tgt := 23) hx hb dX6_on_17 (by decide) (fun c => absurd c (by decide)) (fun _ => ?_)
      refine lv_bipush (v := (-103)) hx hb dX6_on_20 (by decide) ?_
      rw [hQ]; exact W.iret (v := (-103)) hx hb hr (fun t ht hW => ⟨(-103), rfl, trivial, ht⟩) (fun _ h => absurd h List.not_mem_nil) dX6_on_22

set_option maxHeartbeats 4000000 in
set_option maxRecDepth 100000 in
theorem c_X6_duke (l : Launch) (dC : Nat → ClassId) (dI : Nat → Nat → Nat) (cI cB : ClassId) (h0 : Nat) (p0 : Int32) (p1 : Int32) (hp : Nat) (hs : Nat) (hh : Nat) (hc : Nat) (kp : Nat) (rt : Nat) (kr : Int32) (w0 : Int32) (w1 : Int32) (w2 : Int32) (a0 : Int32) (a1 : Int32) (k0 : Nat) (k1 : Nat) (k2 : Nat) (k3 : Nat) (k4 : Nat) (k5 : Nat) (g2 : Nat → Int32) (sz : Nat) (hk6 : k0 ≤ 6) : Met l yX6_duke wsX6_duke ({ frames := 2, cells := 0, slots := 0, locals := 42 }) (cz_Pm dC dI cI cB [.ref h0, .int p0, .int p1] [(h0, .inr (6, [.ref hp, .ref hs, .ref hh, .ref hc, .ref kp, .ref rt, .int kr])), (hh, .inr (1, [.int w0, .int w1, .int w2])), (hc, .inr (0, [.int a0, .int a1, .int (nI k0), .ref k1, .ref k2, .ref k3, .ref k4, .ref k5])), (k2, .inl (cI, 6, .inl g2))] sz) (va_Qi (fun (r : Int32) (_ : Unit) => True) (fun _ t => ∃ (s0 : Int32), va_P (dC, dI) vwCl [(h0, .inr (6, [.ref hp, .ref hs, .ref hh, .ref hc, .ref kp, .ref rt, .int kr])), (hh, .inr (1, [.int w0, .int w1, .int w2])), (hc, .inr (0, [.int s0, .int a1, .int (nI k0), .ref k1, .ref k2, .ref k3, .ref k4, .ref k5])), (k2, .inl (cI, 6, .inl g2))] t.heap ∧ va_D (va_A [(h0, .inr (6, [.ref hp, .ref hs, .ref hh, .ref hc, .ref kp, .ref rt, .int kr])), (hh, .inr (1, [.int w0, .int w1, .int w2])), (hc, .inr (0, [.int a0, .int a1, .int (nI k0), .ref k1, .ref k2, .ref k3, .ref k4, .ref k5])), (k2, .inl (cI, 6, .inl g2))] sz) [(h0, .inr (6, [.ref hp, .ref hs, .ref hh, .ref hc, .ref kp, .ref rt, .int kr])), (hh, .inr (1, [.int w0, .int w1, .int w2])), (hc, .inr (0, [.int s0, .int a1, .int (nI k0), .ref k1, .ref k2, .ref k3, .ref k4, .ref k5])), (k2, .inl (cI, 6, .inl g2))]) (va_A [(h0, .inr (6, [.ref hp, .ref hs, .ref hh, .ref hc, .ref kp, .ref rt, .int kr])), (hh, .inr (1, [.int w0, .int w1, .int w2])), (hc, .inr (0, [.int a0, .int a1, .int (nI k0), .ref k1, .ref k2, .ref k3, .ref k4, .ref k5])), (k2, .inl (cI, 6, .inl g2))] sz)) 0 0 (va_A [(h0, .inr (6, [.ref hp, .ref hs, .ref hh, .ref hc, .ref kp, .ref rt, .int kr])), (hh, .inr (1, [.int w0, .int w1, .int w2])), (hc, .inr (0, [.int a0, .int a1, .int (nI k0), .ref k1, .ref k2, .ref k3, .ref k4, .ref k5])), (k2, .inl (cI, 6, .inl g2))] sz) := by
  refine cz_of (cc := cX6_duke) (maxL := 3) (ret := (some .int)) (by decide) rfl ?_
  intro p e s m args below meth c s₁ Q B hml hv hQ
  obtain ⟨rfl, hsz, hP, hN, hD0⟩ := hv
  have hx := B.exec
  have hb := B.bytes
  have hr := B.returns
  have hts := atoms_spec (ws := wsX6_duke) B.pre
  have hown : s.vm.findClass RX6 = some m.cls := findClass_of_methodNamed B.named
  have hlocks := B.notSynchronized
  have hK := hN.1
  have hiX0 : ∀ w ∈ wsX00, w ∈ wsX6_duke := (fun _ h => List.mem_cons_of_mem _ (List.mem_append_right _ h))
  have hiX1 : ∀ w ∈ wsX10, w ∈ wsX6_duke := (fun _ h => List.mem_cons_of_mem _ (List.mem_append_left _ (List.mem_append_right _ h)))
  have hiX6 : ∀ w ∈ wsX60, w ∈ wsX6_duke := (fun _ h => List.mem_cons_of_mem _ (List.mem_append_left _ (List.mem_append_left _ (List.mem_append_right _ h))))
  subst hsz
  have hD := hD0.self (sz := s.heap.size)
  generalize hAe : va_A [(h0, .inr (6, [.ref hp, .ref hs, .ref hh, .ref hc, .ref kp, .ref rt, .int kr])), (hh, .inr (1, [.int w0, .int w1, .int w2])), (hc, .inr (0, [.int a0, .int a1, .int (nI k0), .ref k1, .ref k2, .ref k3, .ref k4, .ref k5])), (k2, .inl (cI, 6, .inl g2))] s.heap.size = A at hD hQ ⊢
  have hA : ∀ q : Nat, s.heap.size ≤ q → A q := fun q h => by rw [← hAe]; exact Or.inr h
  have hS : va_S A s.heap s.heap [] := va_S.rf
  obtain ⟨H, eH⟩ : ∃ H, H = s.heap := ⟨_, rfl⟩
  have hP : va_P (dC, dI) vwCl [(h0, .inr (6, [.ref hp, .ref hs, .ref hh, .ref hc, .ref kp, .ref rt, .int kr])), (hh, .inr (1, [.int w0, .int w1, .int w2])), (hc, .inr (0, [.int a0, .int a1, .int (nI k0), .ref k1, .ref k2, .ref k3, .ref k4, .ref k5])), (k2, .inl (cI, 6, .inl g2))] s.heap := hP
  have hl := lv_entry ([.ref h0, .int p0, .int p1]) (n := 3) (Nat.le_of_ble_eq_true rfl)
  rw [lg_entry_eq]
  generalize (lg_sl ([.ref h0, .int p0, .int p1]) ++ List.replicate (3 - (lg_sl ([.ref h0, .int p0, .int p1])).length) Slot.unset).toArray = ls at hl ⊢
  have hl : lv_has ls 3 [(0, .ref h0), (1, .int p0), (2, .int p1)] := hl
  refine lv_iload_n hx hb dX6_duke_0 rfl (lv_at hl 1 rfl) ?_
  refine vp_callSi (cz_run (va_runS (As := [.int p0]) (rest := []) ⟨hx, hb, hml, hown, hts⟩ (c_X6_isPlace l dC dI cI cB p0 ) (va_cwS 1 hts gX6_duke_X6_isPlace rfl rfl rfl (by decide +kernel) ⟨Nat.le_of_ble_eq_true rfl, Nat.le_of_ble_eq_true rfl⟩) (cz_pS (hP.sub (ws' := []) [] rfl) hN) rfl rfl hl.1 rfl (lv_room (Nat.le_of_ble_eq_true rfl)) dX6_duke_1 ⟨Nat.le_of_ble_eq_true rfl, Nat.le_of_ble_eq_true rfl⟩)) (fun r_1 hr_1 => ?_)
  rcases hr_1 with ⟨rfl, hr_1⟩ | ⟨rfl, hr_1⟩
  · refine lv_if_ne (tgt := 10) hx hb dX6_duke_4 (by decide) (fun c => absurd (by decide) c) (fun _ => ?_)
    refine lv_bipush (v := (-101)) hx hb dX6_duke_7 (by decide) ?_
    refine W.widen (k := 0) (n := 0) (Nat.le_of_ble_eq_true rfl) (Nat.le_of_ble_eq_true rfl) ?_
    have hP9 := hP.sub (ws' := [(h0, .inr (6, [.ref hp, .ref hs, .ref hh, .ref hc, .ref kp, .ref rt, .int kr])), (hh, .inr (1, [.int w0, .int w1, .int w2])), (hc, .inr (0, [.int a0, .int a1, .int (nI k0), .ref k1, .ref k2, .ref k3, .ref k4, .ref k5])), (k2, .inl (cI, 6, .inl g2))]) [0, 1, 2, 3] rfl
    have hD9 := hD.sub (ws' := [(h0, .inr (6, [.ref hp, .ref hs, .ref hh, .ref hc, .ref kp, .ref rt, .int kr])), (hh, .inr (1, [.int w0, .int w1, .int w2])), (hc, .inr (0, [.int a0, .int a1, .int (nI k0), .ref k1, .ref k2, .ref k3, .ref k4, .ref k5])), (k2, .inl (cI, 6, .inl g2))]) [0, 1, 2, 3] (by decide) rfl
    rw [hQ]; exact W.iret (v := (-101)) hx hb hr (fun t ht hW => ⟨⟨(-101), (), rfl, trivial, ⟨a0, by rw [ht]; exact hP9, hD9⟩⟩, hS.F ht⟩) hS.2.2 dX6_duke_9
  · refine lv_if_ne (tgt := 10) hx hb dX6_duke_4 (by decide) (fun _ => ?_) (fun c => absurd c (by decide))
    refine lv_iload_n hx hb dX6_duke_10 rfl (lv_at hl 2 rfl) ?_
    refine lv_if_lt (tgt := 19) hx hb dX6_duke_11 (by decide) (fun c_2 => ?_) (fun c_2 => ?_)
    · refine lv_bipush (v := (-102)) hx hb dX6_duke_19 (by decide) ?_
      refine W.widen (k := 0) (n := 0) (Nat.le_of_ble_eq_true rfl) (Nat.le_of_ble_eq_true rfl) ?_
      have hP9 := hP.sub (ws' := [(h0, .inr (6, [.ref hp, .ref hs, .ref hh, .ref hc, .ref kp, .ref rt, .int kr])), (hh, .inr (1, [.int w0, .int w1, .int w2])), (hc, .inr (0, [.int a0, .int a1, .int (nI k0), .ref k1, .ref k2, .ref k3, .ref k4, .ref k5])), (k2, .inl (cI, 6, .inl g2))]) [0, 1, 2, 3] rfl
      have hD9 := hD.sub (ws' := [(h0, .inr (6, [.ref hp, .ref hs, .ref hh, .ref hc, .ref kp, .ref rt, .int kr])), (hh, .inr (1, [.int w0, .int w1, .int w2])), (hc, .inr (0, [.int a0, .int a1, .int (nI k0), .ref k1, .ref k2, .ref k3, .ref k4, .ref k5])), (k2, .inl (cI, 6, .inl g2))]) [0, 1, 2, 3] (by decide) rfl
      rw [hQ]; exact W.iret (v := (-102)) hx hb hr (fun t ht hW => ⟨⟨(-102), (), rfl, trivial, ⟨a0, by rw [ht]; exact hP9, hD9⟩⟩, hS.F ht⟩) hS.2.2 dX6_duke_21
    · refine lv_iload_n hx hb dX6_duke_14 rfl (lv_at hl 2 rfl) ?_
      refine lv_iconst (v := 4) hx hb dX6_duke_15 (by decide) ?_
      refine lv_icmp_lt (tgt := 22) hx hb dX6_duke_16 (by decide) (fun c_3 => ?_) (fun c_3 => ?_)
      · refine lv_aload_n hx hb dX6_duke_22 rfl (lv_at hl 0 rfl) ?_
        refine va_get (D := (dC, dI)) (ci := 6) (v := .ref hh) (C := RX6) (T := TX6) (N := 7) hx hb hts hiX6 hown hK hP 0 rfl rfl 2 (by decide) (hts (.fieldLink RX6 27 "LeftProfile" "hall" "LLeftProfile$Hall;") (List.mem_of_getElem? (i := 1) rfl)) (fun _ h9 => h9) rfl dX6_duke_23 ?_
        refine vp_callSi (cz_run (va_runV (As := []) (rest := []) ⟨hx, hb, hml, hown, hts⟩ (c_X1_isMissing l dC dI cI cB hh w0 w1 w2 ) (cwV 0 hts gX6_duke_X1_isMissing rfl rfl rfl (by decide +kernel) ⟨Nat.le_of_ble_eq_true rfl, Nat.le_of_ble_eq_true rfl⟩) (cz_pV (hP.sub (ws' := [(hh, .inr (1, [.int w0, .int w1, .int w2]))]) [1] rfl) hN (va_recv hK (hP.sub (ws' := [(hh, .inr (1, [.int w0, .int w1, .int w2]))]) [1] rfl) (ci := 1) (q0 := 0) rfl rfl)) rfl rfl hl.1 rfl (lv_room (Nat.le_of_ble_eq_true rfl)) dX6_duke_26 ⟨Nat.le_of_ble_eq_true rfl, Nat.le_of_ble_eq_true rfl⟩)) (fun r_4 hr_4 => ?_)
        rcases hr_4 with ⟨rfl, hr_4⟩ | ⟨rfl, hr_4⟩
        · refine lv_if_ne (tgt := 54) hx hb dX6_duke_29 (by decide) (fun c => absurd (by decide) c) (fun _ => ?_)
          refine lv_iload_n hx hb dX6_duke_32 rfl (lv_at hl 1 rfl) ?_
          refine lv_aload_n hx hb dX6_duke_33 rfl (lv_at hl 0 rfl) ?_
          refine va_get (D := (dC, dI)) (ci := 6) (v := .ref hh) (C := RX6) (T := TX6) (N := 7) hx hb hts hiX6 hown hK hP 0 rfl rfl 2 (by decide) (hts (.fieldLink RX6 27 "LeftProfile" "hall" "LLeftProfile$Hall;") (List.mem_of_getElem? (i := 1) rfl)) (fun _ h9 => h9) rfl dX6_duke_34 ?_
          refine va_get (D := (dC, dI)) (ci := 1) (v := .int w0) (C := RX1) (T := TX1) (N := 3) hx hb hts hiX1 hown hK hP 1 rfl rfl 0 (by decide) (hts (.fieldLink RX6 84 "LeftProfile$Hall" "walls" "I") (List.mem_of_getElem? (i := 2) rfl)) (fun _ h9 => h9) rfl dX6_duke_37 ?_
          refine lv_aload_n hx hb dX6_duke_40 rfl (lv_at hl 0 rfl) ?_
          refine va_get (D := (dC, dI)) (ci := 6) (v := .ref hc) (C := RX6) (T := TX6) (N := 7) hx hb hts hiX6 hown hK hP 0 rfl rfl 3 (by decide) (hts (.fieldLink RX6 32 "LeftProfile" "court" "LLeftProfile$Court;") (List.mem_of_getElem? (i := 3) rfl)) (fun _ h9 => h9) rfl dX6_duke_41 ?_
          refine vp_callSi (cz_run (va_runV (As := []) (rest := [.int w0, .int p0]) ⟨hx, hb, hml, hown, hts⟩ (c_X0_people l dC dI cI cB hc a0 a1 k0 k1 k2 k3 k4 k5 g2 hk6) (cwV 0 hts gX6_duke_X0_people rfl rfl rfl (by decide +kernel) ⟨Nat.le_of_ble_eq_true rfl, Nat.le_of_ble_eq_true rfl⟩) (cz_pV (hP.sub (ws' := [(hc, .inr (0, [.int a0, .int a1, .int (nI k0), .ref k1, .ref k2, .ref k3, .ref k4, .ref k5])), (k2, .inl (cI, 6, .inl g2))]) [2, 3] rfl) hN (va_recv hK (hP.sub (ws' := [(hc, .inr (0, [.int a0, .int a1, .int (nI k0), .ref k1, .ref k2, .ref k3, .ref k4, .ref k5])), (k2, .inl (cI, 6, .inl g2))]) [2, 3] rfl) (ci := 0) (q0 := 0) rfl rfl)) rfl rfl hl.1 rfl (lv_room (Nat.le_of_ble_eq_true rfl)) dX6_duke_44 ⟨Nat.le_of_ble_eq_true rfl, Nat.le_of_ble_eq_true rfl⟩)) (fun r_5 hr_5 => ?_)
          refine lv_ior hx hb dX6_duke_47 ?_
          refine lv_topi (fun x_6 ex_6 => ?_)
          refine vp_callSi (cz_run (va_runS (As := [.int p0, .int x_6]) (rest := []) ⟨hx, hb, hml, hown, hts⟩ (c_X6_isOpen l dC dI cI cB p0 x_6 ) (va_cwS 2 hts gX6_duke_X6_isOpen rfl rfl rfl (by decide +kernel) ⟨Nat.le_of_ble_eq_true rfl, Nat.le_of_ble_eq_true rfl⟩) (cz_pS (hP.sub (ws' := []) [] rfl) hN) rfl rfl hl.1 rfl (lv_room (Nat.le_of_ble_eq_true rfl)) dX6_duke_48 ⟨Nat.le_of_ble_eq_true rfl, Nat.le_of_ble_eq_true rfl⟩)) (fun r_7 hr_7 => ?_)
          refine lv_if_ne (tgt := 57) hx hb dX6_duke_51 (by decide) (fun c_8 => ?_) (fun c_8 => ?_)
          · refine lv_aload_n hx hb dX6_duke_57 rfl (lv_at hl 0 rfl) ?_
            refine va_get (D := (dC, dI)) (ci := 6) (v := .ref hc) (C := RX6) (T := TX6) (N := 7) hx hb hts hiX6 hown hK hP 0 rfl rfl 3 (by decide) (hts (.fieldLink RX6 32 "LeftProfile" "court" "LLeftProfile$Court;") (List.mem_of_getElem? (i := 3) rfl)) (fun _ h9 => h9) rfl dX6_duke_58 ?_
            refine lv_iload_n hx hb dX6_duke_61 rfl (lv_at hl 1 rfl) ?_
            refine lv_iload_n hx hb dX6_duke_62 rfl (lv_at hl 2 rfl) ?_
            refine vp_callSi (cz_run (va_runS (As := [.int p0, .int p1]) (rest := [.ref hc]) ⟨hx, hb, hml, hown, hts⟩ (c_X6_stanceOf l dC dI cI cB p0 p1 ) (va_cwS 2 hts gX6_duke_X6_stanceOf rfl rfl rfl (by decide +kernel) ⟨Nat.le_of_ble_eq_true rfl, Nat.le_of_ble_eq_true rfl⟩) (cz_pS (hP.sub (ws' := []) [] rfl) hN) rfl rfl hl.1 rfl (lv_room (Nat.le_of_ble_eq_true rfl)) dX6_duke_63 ⟨Nat.le_of_ble_eq_true rfl, Nat.le_of_ble_eq_true rfl⟩)) (fun r_9 hr_9 => ?_)
            refine va_put (D := (dC, dI)) (ci := 0) (v := .int r_9) (ty := .int) (C := RX0) (T := TX0) (N := 8) hx hb hts hiX0 tyX0 tyX0_ok nmX0 hown hK hP hD hS 2 rfl rfl 0 (by decide) (hts (.fieldLink RX6 91 "LeftProfile$Court" "stance" "I") (List.mem_of_getElem? (i := 4) rfl)) (fun _ h9 => h9) rfl (by decide +kernel) rfl rfl (Nat.le_of_ble_eq_true rfl) dX6_duke_66 (fun H locs hP hD hS => ?_)
            have hP : va_P (dC, dI) vwCl [(h0, .inr (6, [.ref hp, .ref hs, .ref hh, .ref hc, .ref kp, .ref rt, .int kr])), (hh, .inr (1, [.int w0, .int w1, .int w2])), (hc, .inr (0, [.int r_9, .int a1, .int (nI k0), .ref k1, .ref k2, .ref k3, .ref k4, .ref k5])), (k2, .inl (cI, 6, .inl g2))] H := hP
            have hD : va_D A [(h0, .inr (6, [.ref hp, .ref hs, .ref hh, .ref hc, .ref kp, .ref rt, .int kr])), (hh, .inr (1, [.int w0, .int w1, .int w2])), (hc, .inr (0, [.int r_9, .int a1, .int (nI k0), .ref k1, .ref k2, .ref k3, .ref k4, .ref k5])), (k2, .inl (cI, 6, .inl g2))] := hD
            refine lv_aload_n hx hb dX6_duke_69 rfl (lv_at hl 0 rfl) ?_
            refine va_get (D := (dC, dI)) (ci := 6) (v := .ref hc) (C := RX6) (T := TX6) (N := 7) hx hb hts hiX6 hown hK hP 0 rfl rfl 3 (by decide) (hts (.fieldLink RX6 32 "LeftProfile" "court" "LLeftProfile$Court;") (List.mem_of_getElem? (i := 3) rfl)) (fun _ h9 => h9) rfl dX6_duke_70 ?_
            refine va_get (D := (dC, dI)) (ci := 0) (v := .int r_9) (C := RX0) (T := TX0) (N := 8) hx hb hts hiX0 hown hK hP 2 rfl rfl 0 (by decide) (hts (.fieldLink RX6 91 "LeftProfile$Court" "stance" "I") (List.mem_of_getElem? (i := 4) rfl)) (fun _ h9 => h9) rfl dX6_duke_73 ?_
            refine W.widen (k := 0) (n := 0) (Nat.le_of_ble_eq_true rfl) (Nat.le_of_ble_eq_true rfl) ?_
            have hP9 := hP.sub (ws' := [(h0, .inr (6, [.ref hp, .ref hs, .ref hh, .ref hc, .ref kp, .ref rt, .int kr])), (hh, .inr (1, [.int w0, .int w1, .int w2])), (hc, .inr (0, [.int r_9, .int a1, .int (nI k0), .ref k1, .ref k2, .ref k3, .ref k4, .ref k5])), (k2, .inl (cI, 6, .inl g2))]) [0, 1, 2, 3] rfl
            have hD9 := hD.sub (ws' := [(h0, .inr (6, [.ref hp, .ref hs, .ref hh, .ref hc, .ref kp, .ref rt, .int kr])), (hh, .inr (1, [.int w0, .int w1, .int w2])), (hc, .inr (0, [.int r_9, .int a1, .int (nI k0), .ref k1, .ref k2, .ref k3, .ref k4, .ref k5])), (k2, .inl (cI, 6, .inl g2))]) [0, 1, 2, 3] (by decide) rfl
            rw [hQ]; exact W.iret (v := r_9) hx hb hr (fun t ht hW => ⟨⟨r_9, (), rfl, trivial, ⟨r_9, by rw [ht]; exact hP9, hD9⟩⟩, hS.F ht⟩) hS.2.2 dX6_duke_76
          · refine lv_bipush (v := (-103)) hx hb dX6_duke_54 (by decide) ?_
            refine W.widen (k := 0) (n := 0) (Nat.le_of_ble_eq_true rfl) (Nat.le_of_ble_eq_true rfl) ?_
            have hP9 := hP.sub (ws' := [(h0, .inr (6, [.ref hp, .ref hs, .ref hh, .ref hc, .ref kp, .ref rt, .int kr])), (hh, .inr (1, [.int w0, .int w1, .int w2])), (hc, .inr (0, [.int a0, .int a1, .int (nI k0), .ref k1, .ref k2, .ref k3, .ref k4, .ref k5])), (k2, .inl (cI, 6, .inl g2))]) [0, 1, 2, 3] rfl
            have hD9 := hD.sub (ws' := [(h0, .inr (6, [.ref hp, .ref hs, .ref hh, .ref hc, .ref kp, .ref rt, .int kr])), (hh, .inr (1, [.int w0, .int w1, .int w2])), (hc, .inr (0, [.int a0, .int a1, .int (nI k0), .ref k1, .ref k2, .ref k3, .ref k4, .ref k5])), (k2, .inl (cI, 6, .inl g2))]) [0, 1, 2, 3] (by decide) rfl
            rw [hQ]; exact W.iret (v := (-103)) hx hb hr (fun t ht hW => ⟨⟨(-103), (), rfl, trivial, ⟨a0, by rw [ht]; exact hP9, hD9⟩⟩, hS.F ht⟩) hS.2.2 dX6_duke_56
        · refine lv_if_ne (tgt := 54) hx hb dX6_duke_29 (by decide) (fun _ => ?_) (fun c => absurd c (by decide))
          refine lv_bipush (v := (-103)) hx hb dX6_duke_54 (by decide) ?_
          refine W.widen (k := 0) (n := 0) (Nat.le_of_ble_eq_true rfl) (Nat.le_of_ble_eq_true rfl) ?_
          have hP9 := hP.sub (ws' := [(h0, .inr (6, [.ref hp, .ref hs, .ref hh, .ref hc, .ref kp, .ref rt, .int kr])), (hh, .inr (1, [.int w0, .int w1, .int w2])), (hc, .inr (0, [.int a0, .int a1, .int (nI k0), .ref k1, .ref k2, .ref k3, .ref k4, .ref k5])), (k2, .inl (cI, 6, .inl g2))]) [0, 1, 2, 3] rfl
          have hD9 := hD.sub (ws' := [(h0, .inr (6, [.ref hp, .ref hs, .ref hh, .ref hc, .ref kp, .ref rt, .int kr])), (hh, .inr (1, [.int w0, .int w1, .int w2])), (hc, .inr (0, [.int a0, .int a1, .int (nI k0), .ref k1, .ref k2, .ref k3, .ref k4, .ref k5])), (k2, .inl (cI, 6, .inl g2))]) [0, 1, 2, 3] (by decide) rfl
          rw [hQ]; exact W.iret (v := (-103)) hx hb hr (fun t ht hW => ⟨⟨(-103), (), rfl, trivial, ⟨a0, by rw [ht]; exact hP9, hD9⟩⟩, hS.F ht⟩) hS.2.2 dX6_duke_56
      · refine lv_bipush (v := (-102)) hx hb dX6_duke_19 (by decide) ?_
        refine W.widen (k := 0) (n := 0) (Nat.le_of_ble_eq_true rfl) (Nat.le_of_ble_eq_true rfl) ?_
        have hP9 := hP.sub (ws' := [(h0, .inr (6, [.ref hp, .ref hs, .ref hh, .ref hc, .ref kp, .ref rt, .int kr])), (hh, .inr (1, [.int w0, .int w1, .int w2])), (hc, .inr (0, [.int a0, .int a1, .int (nI k0), .ref k1, .ref k2, .ref k3, .ref k4, .ref k5])), (k2, .inl (cI, 6, .inl g2))]) [0, 1, 2, 3] rfl
        have hD9 := hD.sub (ws' := [(h0, .inr (6, [.ref hp, .ref hs, .ref hh, .ref hc, .ref kp, .ref rt, .int kr])), (hh, .inr (1, [.int w0, .int w1, .int w2])), (hc, .inr (0, [.int a0, .int a1, .int (nI k0), .ref k1, .ref k2, .ref k3, .ref k4, .ref k5])), (k2, .inl (cI, 6, .inl g2))]) [0, 1, 2, 3] (by decide) rfl
        rw [hQ]; exact W.iret (v := (-102)) hx hb hr (fun t ht hW => ⟨⟨(-102), (), rfl, trivial, ⟨a0, by rw [ht]; exact hP9, hD9⟩⟩, hS.F ht⟩) hS.2.2 dX6_duke_21

set_option maxHeartbeats 4000000 in
set_option maxRecDepth 100000 in
theorem c_X6_courtier (l : Launch) (dC : Nat → ClassId) (dI : Nat → Nat → Nat) (cI cB : ClassId) (h0 : Nat) (p0 : Int32) (p1 : Int32) (hp : Nat) (hs : Nat) (hh : Nat) (hc : Nat) (kp : Nat) (rt : Nat) (kr : Int32) (si : Nat) (w0 : Int32) (w1 : Int32) (w2 : Int32) (a0 : Int32) (a1 : Int32) (k0 : Nat) (k1 : Nat) (k2 : Nat) (k3 : Nat) (k4 : Nat) (k5 : Nat) (g1 : Nat → Int32) (g2 : Nat → Int32) (g3 : Nat → Int32) (g4 : Nat → Int32) (g5 : Nat → Int32) (sz : Nat) (hk6 : k0 ≤ 6) : Met l yX6_courtier wsX6_courtier ({ frames := 3, cells := 0, slots := 0, locals := 63 }) (cz_Pm dC dI cI cB [.ref h0, .int p0, .int p1] [(h0, .inr (6, [.ref hp, .ref hs, .ref hh, .ref hc, .ref kp, .ref rt, .int kr])), (hs, .inr (4, [.ref hh, .ref hc, .ref si])), (hh, .inr (1, [.int w0, .int w1, .int w2])), (hc, .inr (0, [.int a0, .int a1, .int (nI k0), .ref k1, .ref k2, .ref k3, .ref k4, .ref k5])), (k1, .inl (cI, 6, .inl g1)), (k2, .inl (cI, 6, .inl g2)), (k3, .inl (cI, 6, .inl g3)), (k4, .inl (cI, 6, .inl g4)), (k5, .inl (cI, 6, .inl g5))] sz) (va_Qi (fun (r : Int32) (_ : Unit) => True) (fun _ t => ∃ (kk : Nat) (t1 : Nat → Int32) (t2 : Nat → Int32) (t3 : Nat → Int32) (t4 : Nat → Int32) (t5 : Nat → Int32), (kk ≤ 6) ∧ va_P (dC, dI) vwCl [(h0, .inr (6, [.ref hp, .ref hs, .ref hh, .ref hc, .ref kp, .ref rt, .int kr])), (hs, .inr (4, [.ref hh, .ref hc, .ref si])), (hh, .inr (1, [.int w0, .int w1, .int w2])), (hc, .inr (0, [.int a0, .int a1, .int (nI kk), .ref k1, .ref k2, .ref k3, .ref k4, .ref k5])), (k1, .inl (cI, 6, .inl t1)), (k2, .inl (cI, 6, .inl t2)), (k3, .inl (cI, 6, .inl t3)), (k4, .inl (cI, 6, .inl t4)), (k5, .inl (cI, 6, .inl t5))] t.heap ∧ va_D (va_A [(h0, .inr (6, [.ref hp, .ref hs, .ref hh, .ref hc, .ref kp, .ref rt, .int kr])), (hs, .inr (4, [.ref hh, .ref hc, .ref si])), (hh, .inr (1, [.int w0, .int w1, .int w2])), (hc, .inr (0, [.int a0, .int a1, .int (nI k0), .ref k1, .ref k2, .ref k3, .ref k4, .ref k5])), (k1, .inl (cI, 6, .inl g1)), (k2, .inl (cI, 6, .inl g2)), (k3, .inl (cI, 6, .inl g3)), (k4, .inl (cI, 6, .inl g4)), (k5, .inl (cI, 6, .inl g5))] sz) [(h0, .inr (6, [.ref hp, .ref hs, .ref hh, .ref hc, .ref kp, .ref rt, .int kr])), (hs, .inr (4, [.ref hh, .ref hc, .ref si])), (hh, .inr (1, [.int w0, .int w1, .int w2])), (hc, .inr (0, [.int a0, .int a1, .int (nI kk), .ref k1, .ref k2, .ref k3, .ref k4, .ref k5])), (k1, .inl (cI, 6, .inl t1)), (k2, .inl (cI, 6, .inl t2)), (k3, .inl (cI, 6, .inl t3)), (k4, .inl (cI, 6, .inl t4)), (k5, .inl (cI, 6, .inl t5))]) (va_A [(h0, .inr (6, [.ref hp, .ref hs, .ref hh, .ref hc, .ref kp, .ref rt, .int kr])), (hs, .inr (4, [.ref hh, .ref hc, .ref si])), (hh, .inr (1, [.int w0, .int w1, .int w2])), (hc, .inr (0, [.int a0, .int a1, .int (nI k0), .ref k1, .ref k2, .ref k3, .ref k4, .ref k5])), (k1, .inl (cI, 6, .inl g1)), (k2, .inl (cI, 6, .inl g2)), (k3, .inl (cI, 6, .inl g3)), (k4, .inl (cI, 6, .inl g4)), (k5, .inl (cI, 6, .inl g5))] sz)) 0 0 (va_A [(h0, .inr (6, [.ref hp, .ref hs, .ref hh, .ref hc, .ref kp, .ref rt, .int kr])), (hs, .inr (4, [.ref hh, .ref hc, .ref si])), (hh, .inr (1, [.int w0, .int w1, .int w2])), (hc, .inr (0, [.int a0, .int a1, .int (nI k0), .ref k1, .ref k2, .ref k3, .ref k4, .ref k5])), (k1, .inl (cI, 6, .inl g1)), (k2, .inl (cI, 6, .inl g2)), (k3, .inl (cI, 6, .inl g3)), (k4, .inl (cI, 6, .inl g4)), (k5, .inl (cI, 6, .inl g5))] sz) := by
  refine cz_of (cc := cX6_courtier) (maxL := 3) (ret := (some .int)) (by decide) rfl ?_
  intro p e s m args below meth c s₁ Q B hml hv hQ
  obtain ⟨rfl, hsz, hP, hN, hD0⟩ := hv
  have hx := B.exec
  have hb := B.bytes
  have hr := B.returns
  have hts := atoms_spec (ws := wsX6_courtier) B.pre
  have hown : s.vm.findClass RX6 = some m.cls := findClass_of_methodNamed B.named
  have hlocks := B.notSynchronized
  have hK := hN.1
  have hiX6 : ∀ w ∈ wsX60, w ∈ wsX6_courtier := (fun _ h => List.mem_cons_of_mem _ (List.mem_append_left _ (List.mem_append_left _ (List.mem_append_left _ (List.mem_append_right _ h)))))
  subst hsz
  have hD := hD0.self (sz := s.heap.size)
  generalize hAe : va_A [(h0, .inr (6, [.ref hp, .ref hs, .ref hh, .ref hc, .ref kp, .ref rt, .int kr])), (hs, .inr (4, [.ref hh, .ref hc, .ref si])), (hh, .inr (1, [.int w0, .int w1, .int w2])), (hc, .inr (0, [.int a0, .int a1, .int (nI k0), .ref k1, .ref k2, .ref k3, .ref k4, .ref k5])), (k1, .inl (cI, 6, .inl g1)), (k2, .inl (cI, 6, .inl g2)), (k3, .inl (cI, 6, .inl g3)), (k4, .inl (cI, 6, .inl g4)), (k5, .inl (cI, 6, .inl g5))] s.heap.size = A at hD hQ ⊢
  have hA : ∀ q : Nat, s.heap.size ≤ q → A q := fun q h => by rw [← hAe]; exact Or.inr h
  have hS : va_S A s.heap s.heap [] := va_S.rf
  obtain ⟨H, eH⟩ : ∃ H, H = s.heap := ⟨_, rfl⟩
  have hP : va_P (dC, dI) vwCl [(h0, .inr (6, [.ref hp, .ref hs, .ref hh, .ref hc, .ref kp, .ref rt, .int kr])), (hs, .inr (4, [.ref hh, .ref hc, .ref si])), (hh, .inr (1, [.int w0, .int w1, .int w2])), (hc, .inr (0, [.int a0, .int a1, .int (nI k0), .ref k1, .ref k2, .ref k3, .ref k4, .ref k5])), (k1, .inl (cI, 6, .inl g1)), (k2, .inl (cI, 6, .inl g2)), (k3, .inl (cI, 6, .inl g3)), (k4, .inl (cI, 6, .inl g4)), (k5, .inl (cI, 6, .inl g5))] s.heap := hP
  have hl := lv_entry ([.ref h0, .int p0, .int p1]) (n := 3) (Nat.le_of_ble_eq_true rfl)
  rw [lg_entry_eq]
  generalize (lg_sl ([.ref h0, .int p0, .int p1]) ++ List.replicate (3 - (lg_sl ([.ref h0, .int p0, .int p1])).length) Slot.unset).toArray = ls at hl ⊢
  have hl : lv_has ls 3 [(0, .ref h0), (1, .int p0), (2, .int p1)] := hl
  refine lv_iload_n hx hb dX6_courtier_0 rfl (lv_at hl 2 rfl) ?_
  refine vp_callSi (cz_run (va_runS (As := [.int p1]) (rest := []) ⟨hx, hb, hml, hown, hts⟩ (c_X6_isPlace l dC dI cI cB p1 ) (va_cwS 1 hts gX6_courtier_X6_isPlace rfl rfl rfl (by decide +kernel) ⟨Nat.le_of_ble_eq_true rfl, Nat.le_of_ble_eq_true rfl⟩) (cz_pS (hP.sub (ws' := []) [] rfl) hN) rfl rfl hl.1 rfl (lv_room (Nat.le_of_ble_eq_true rfl)) dX6_courtier_1 ⟨Nat.le_of_ble_eq_true rfl, Nat.le_of_ble_eq_true rfl⟩)) (fun r_1 hr_1 => ?_)
  rcases hr_1 with ⟨rfl, hr_1⟩ | ⟨rfl, hr_1⟩
  · refine lv_if_ne (tgt := 10) hx hb dX6_courtier_4 (by decide) (fun c => absurd (by decide) c) (fun _ => ?_)
    refine lv_bipush (v := (-101)) hx hb dX6_courtier_7 (by decide) ?_
    refine W.widen (k := 0) (n := 0) (Nat.le_of_ble_eq_true rfl) (Nat.le_of_ble_eq_true rfl) ?_
    have hP9 := hP.sub (ws' := [(h0, .inr (6, [.ref hp, .ref hs, .ref hh, .ref hc, .ref kp, .ref rt, .int kr])), (hs, .inr (4, [.ref hh, .ref hc, .ref si])), (hh, .inr (1, [.int w0, .int w1, .int w2])), (hc, .inr (0, [.int a0, .int a1, .int (nI k0), .ref k1, .ref k2, .ref k3, .ref k4, .ref k5])), (k1, .inl (cI, 6, .inl g1)), (k2, .inl (cI, 6, .inl g2)), (k3, .inl (cI, 6, .inl g3)), (k4, .inl (cI, 6, .inl g4)), (k5, .inl (cI, 6, .inl g5))]) [0, 1, 2, 3, 4, 5, 6, 7, 8] rfl
    have hD9 := hD.sub (ws' := [(h0, .inr (6, [.ref hp, .ref hs, .ref hh, .ref hc, .ref kp, .ref rt, .int kr])), (hs, .inr (4, [.ref hh, .ref hc, .ref si])), (hh, .inr (1, [.int w0, .int w1, .int w2])), (hc, .inr (0, [.int a0, .int a1, .int (nI k0), .ref k1, .ref k2, .ref k3, .ref k4, .ref k5])), (k1, .inl (cI, 6, .inl g1)), (k2, .inl (cI, 6, .inl g2)), (k3, .inl (cI, 6, .inl g3)), (k4, .inl (cI, 6, .inl g4)), (k5, .inl (cI, 6, .inl g5))]) [0, 1, 2, 3, 4, 5, 6, 7, 8] (by decide) rfl
    rw [hQ]; exact W.iret (v := (-101)) hx hb hr (fun t ht hW => ⟨⟨(-101), (), rfl, trivial, ⟨k0, g1, g2, g3, g4, g5, hk6, by rw [ht]; exact hP9, hD9⟩⟩, hS.F ht⟩) hS.2.2 dX6_courtier_9
  · refine lv_if_ne (tgt := 10) hx hb dX6_courtier_4 (by decide) (fun _ => ?_) (fun c => absurd c (by decide))
    refine lv_iload_n hx hb dX6_courtier_10 rfl (lv_at hl 1 rfl) ?_
    refine vp_callSi (cz_run (va_runS (As := [.int p0]) (rest := []) ⟨hx, hb, hml, hown, hts⟩ (c_X6_isKind l dC dI cI cB p0 ) (va_cwS 1 hts gX6_courtier_X6_isKind rfl rfl rfl (by decide +kernel) ⟨Nat.le_of_ble_eq_true rfl, Nat.le_of_ble_eq_true rfl⟩) (cz_pS (hP.sub (ws' := []) [] rfl) hN) rfl rfl hl.1 rfl (lv_room (Nat.le_of_ble_eq_true rfl)) dX6_courtier_11 ⟨Nat.le_of_ble_eq_true rfl, Nat.le_of_ble_eq_true rfl⟩)) (fun r_2 hr_2 => ?_)
    rcases hr_2 with ⟨rfl, hr_2⟩ | ⟨rfl, hr_2⟩
    · refine lv_if_ne (tgt := 20) hx hb dX6_courtier_14 (by decide) (fun c => absurd (by decide) c) (fun _ => ?_)
      refine lv_bipush (v := (-102)) hx hb dX6_courtier_17 (by decide) ?_
      refine W.widen (k := 0) (n := 0) (Nat.le_of_ble_eq_true rfl) (Nat.le_of_ble_eq_true rfl) ?_
      have hP9 := hP.sub (ws' := [(h0, .inr (6, [.ref hp, .ref hs, .ref hh, .ref hc, .ref kp, .ref rt, .int kr])), (hs, .inr (4, [.ref hh, .ref hc, .ref si])), (hh, .inr (1, [.int w0, .int w1, .int w2])), (hc, .inr (0, [.int a0, .int a1, .int (nI k0), .ref k1, .ref k2, .ref k3, .ref k4, .ref k5])), (k1, .inl (cI, 6, .inl g1)), (k2, .inl (cI, 6, .inl g2)), (k3, .inl (cI, 6, .inl g3)), (k4, .inl (cI, 6, .inl g4)), (k5, .inl (cI, 6, .inl g5))]) [0, 1, 2, 3, 4, 5, 6, 7, 8] rfl
      have hD9 := hD.sub (ws' := [(h0, .inr (6, [.ref hp, .ref hs, .ref hh, .ref hc, .ref kp, .ref rt, .int kr])), (hs, .inr (4, [.ref hh, .ref hc, .ref si])), (hh, .inr (1, [.int w0, .int w1, .int w2])), (hc, .inr (0, [.int a0, .int a1, .int (nI k0), .ref k1, .ref k2, .ref k3, .ref k4, .ref k5])), (k1, .inl (cI, 6, .inl g1)), (k2, .inl (cI, 6, .inl g2)), (k3, .inl (cI, 6, .inl g3)), (k4, .inl (cI, 6, .inl g4)), (k5, .inl (cI, 6, .inl g5))]) [0, 1, 2, 3, 4, 5, 6, 7, 8] (by decide) rfl
      rw [hQ]; exact W.iret (v := (-102)) hx hb hr (fun t ht hW => ⟨⟨(-102), (), rfl, trivial, ⟨k0, g1, g2, g3, g4, g5, hk6, by rw [ht]; exact hP9, hD9⟩⟩, hS.F ht⟩) hS.2.2 dX6_courtier_19
    · refine lv_if_ne (tgt := 20) hx hb dX6_courtier_14 (by decide) (fun _ => ?_) (fun c => absurd c (by decide))
      refine lv_aload_n hx hb dX6_courtier_20 rfl (lv_at hl 0 rfl) ?_
      refine va_get (D := (dC, dI)) (ci := 6) (v := .ref hh) (C := RX6) (T := TX6) (N := 7) hx hb hts hiX6 hown hK hP 0 rfl rfl 2 (by decide) (hts (.fieldLink RX6 27 "LeftProfile" "hall" "LLeftProfile$Hall;") (List.mem_of_getElem? (i := 1) rfl)) (fun _ h9 => h9) rfl dX6_courtier_21 ?_
      refine vp_callSi (cz_run (va_runV (As := []) (rest := []) ⟨hx, hb, hml, hown, hts⟩ (c_X1_isMissing l dC dI cI cB hh w0 w1 w2 ) (cwV 0 hts gX6_courtier_X1_isMissing rfl rfl rfl (by decide +kernel) ⟨Nat.le_of_ble_eq_true rfl, Nat.le_of_ble_eq_true rfl⟩) (cz_pV (hP.sub (ws' := [(hh, .inr (1, [.int w0, .int w1, .int w2]))]) [2] rfl) hN (va_recv hK (hP.sub (ws' := [(hh, .inr (1, [.int w0, .int w1, .int w2]))]) [2] rfl) (ci := 1) (q0 := 0) rfl rfl)) rfl rfl hl.1 rfl (lv_room (Nat.le_of_ble_eq_true rfl)) dX6_courtier_24 ⟨Nat.le_of_ble_eq_true rfl, Nat.le_of_ble_eq_true rfl⟩)) (fun r_3 hr_3 => ?_)
      rcases hr_3 with ⟨rfl, hr_3⟩ | ⟨rfl, hr_3⟩
      · refine lv_if_ne (tgt := 44) hx hb dX6_courtier_27 (by decide) (fun c => absurd (by decide) c) (fun _ => ?_)
        refine lv_iload_n hx hb dX6_courtier_30 rfl (lv_at hl 2 rfl) ?_
        refine lv_aload_n hx hb dX6_courtier_31 rfl (lv_at hl 0 rfl) ?_
        refine va_get (D := (dC, dI)) (ci := 6) (v := .ref hs) (C := RX6) (T := TX6) (N := 7) hx hb hts hiX6 hown hK hP 0 rfl rfl 1 (by decide) (hts (.fieldLink RX6 19 "LeftProfile" "scene" "LLeftProfile$Scene;") (List.mem_of_getElem? (i := 2) rfl)) (fun _ h9 => h9) rfl dX6_courtier_32 ?_
        refine vp_callSi (cz_run (va_runV (As := []) (rest := [.int p1]) ⟨hx, hb, hml, hown, hts⟩ (c_X4_taken l dC dI cI cB hs hh hc si w0 w1 w2 a0 a1 k0 k1 k2 k3 k4 k5 g2 hk6) (cwV 0 hts gX6_courtier_X4_taken rfl rfl rfl (by decide +kernel) ⟨Nat.le_of_ble_eq_true rfl, Nat.le_of_ble_eq_true rfl⟩) (cz_pV (hP.sub (ws' := [(hs, .inr (4, [.ref hh, .ref hc, .ref si])), (hh, .inr (1, [.int w0, .int w1, .int w2])), (hc, .inr (0, [.int a0, .int a1, .int (nI k0), .ref k1, .ref k2, .ref k3, .ref k4, .ref k5])), (k2, .inl (cI, 6, .inl g2))]) [1, 2, 3, 5] rfl) hN (va_recv hK (hP.sub (ws' := [(hs, .inr (4, [.ref hh, .ref hc, .ref si])), (hh, .inr (1, [.int w0, .int w1, .int w2])), (hc, .inr (0, [.int a0, .int a1, .int (nI k0), .ref k1, .ref k2, .ref k3, .ref k4, .ref k5])), (k2, .inl (cI, 6, .inl g2))]) [1, 2, 3, 5] rfl) (ci := 4) (q0 := 0) rfl rfl)) rfl rfl hl.1 rfl (lv_room (Nat.le_of_ble_eq_true rfl)) dX6_courtier_35 ⟨Nat.le_of_ble_eq_true rfl, Nat.le_of_ble_eq_true rfl⟩)) (fun r_4 hr_4 => ?_)
        refine vp_callSi (cz_run (va_runS (As := [.int p1, .int r_4]) (rest := []) ⟨hx, hb, hml, hown, hts⟩ (c_X6_isOpen l dC dI cI cB p1 r_4 ) (va_cwS 2 hts gX6_courtier_X6_isOpen rfl rfl rfl (by decide +kernel) ⟨Nat.le_of_ble_eq_true rfl, Nat.le_of_ble_eq_true rfl⟩) (cz_pS (hP.sub (ws' := []) [] rfl) hN) rfl rfl hl.1 rfl (lv_room (Nat.le_of_ble_eq_true rfl)) dX6_courtier_38 ⟨Nat.le_of_ble_eq_true rfl, Nat.le_of_ble_eq_true rfl⟩)) (fun r_5 hr_5 => ?_)
        refine lv_if_ne (tgt := 47) hx hb dX6_courtier_41 (by decide) (fun c_6 => ?_) (fun c_6 => ?_)
        · refine lv_aload_n hx hb dX6_courtier_47 rfl (lv_at hl 0 rfl) ?_
          refine va_get (D := (dC, dI)) (ci := 6) (v := .ref hc) (C := RX6) (T := TX6) (N := 7) hx hb hts hiX6 hown hK hP 0 rfl rfl 3 (by decide) (hts (.fieldLink RX6 32 "LeftProfile" "court" "LLeftProfile$Court;") (List.mem_of_getElem? (i := 3) rfl)) (fun _ h9 => h9) rfl dX6_courtier_48 ?_
          refine lv_iload_n hx hb dX6_courtier_51 rfl (lv_at hl 1 rfl) ?_
          refine lv_iload_n hx hb dX6_courtier_52 rfl (lv_at hl 2 rfl) ?_
          have hPc := hP.sub (ws' := [(hc, .inr (0, [.int a0, .int a1, .int (nI k0), .ref k1, .ref k2, .ref k3, .ref k4, .ref k5])), (k1, .inl (cI, 6, .inl g1)), (k2, .inl (cI, 6, .inl g2)), (k3, .inl (cI, 6, .inl g3)), (k4, .inl (cI, 6, .inl g4)), (k5, .inl (cI, 6, .inl g5))]) [3, 4, 5, 6, 7, 8] rfl
          have hDc := hD.sub (ws' := [(hc, .inr (0, [.int a0, .int a1, .int (nI k0), .ref k1, .ref k2, .ref k3, .ref k4, .ref k5])), (k1, .inl (cI, 6, .inl g1)), (k2, .inl (cI, 6, .inl g2)), (k3, .inl (cI, 6, .inl g3)), (k4, .inl (cI, 6, .inl g4)), (k5, .inl (cI, 6, .inl g5))]) [3, 4, 5, 6, 7, 8] (by decide) rfl
          have hFc := va_free (wc := [(hc, .inr (0, [.int a0, .int a1, .int (nI k0), .ref k1, .ref k2, .ref k3, .ref k4, .ref k5])), (k1, .inl (cI, 6, .inl g1)), (k2, .inl (cI, 6, .inl g2)), (k3, .inl (cI, 6, .inl g3)), (k4, .inl (cI, 6, .inl g4)), (k5, .inl (cI, 6, .inl g5))]) hD hS hA [3, 4, 5, 6, 7, 8] rfl
          refine va_calli (va_runV (As := [.int p0, .int p1]) (rest := []) ⟨hx, hb, hml, hown, hts⟩ (c_X0_join l dC dI cI cB hc p0 p1 a0 a1 k0 k1 k2 k3 k4 k5 g1 g2 g3 g4 g5 s.heap.size hk6) (cwV 2 hts gX6_courtier_X0_join rfl rfl rfl (by decide +kernel) ⟨Nat.le_of_ble_eq_true rfl, Nat.le_of_ble_eq_true rfl⟩) (cz_mV hPc hN hDc (va_recv hK hPc (ci := 0) (q0 := 0) rfl rfl)) rfl rfl hl.1 rfl (lv_room (Nat.le_of_ble_eq_true rfl)) dX6_courtier_53 ⟨Nat.le_of_ble_eq_true rfl, Nat.le_of_ble_eq_true rfl⟩) hS (fun q _ h => hFc q h) hFc (fun r_7 u t H1 locs ht hvm hr_7 hB hz1 hk1 hS => ?_)
          obtain ⟨q_8, f_9, f_10, f_11, f_12, f_13, hr_7_k, hP1, hD1⟩ := hB
          rw [ht] at hP1
          obtain ⟨hP, hD⟩ := va_join (wr := [(h0, .inr (6, [.ref hp, .ref hs, .ref hh, .ref hc, .ref kp, .ref rt, .int kr])), (hs, .inr (4, [.ref hh, .ref hc, .ref si])), (hh, .inr (1, [.int w0, .int w1, .int w2]))]) (w1 := [(hc, .inr (0, [.int a0, .int a1, .int (nI q_8), .ref k1, .ref k2, .ref k3, .ref k4, .ref k5])), (k1, .inl (cI, 6, .inl f_9)), (k2, .inl (cI, 6, .inl f_10)), (k3, .inl (cI, 6, .inl f_11)), (k4, .inl (cI, 6, .inl f_12)), (k5, .inl (cI, 6, .inl f_13))]) hP hD [3, 4, 5, 6, 7, 8] [0, 1, 2] rfl rfl (by decide) (by decide) hk1 hFc hP1 hD1
          generalize H1 = H at hP hS ⊢
          have hP : va_P (dC, dI) vwCl [(h0, .inr (6, [.ref hp, .ref hs, .ref hh, .ref hc, .ref kp, .ref rt, .int kr])), (hs, .inr (4, [.ref hh, .ref hc, .ref si])), (hh, .inr (1, [.int w0, .int w1, .int w2])), (hc, .inr (0, [.int a0, .int a1, .int (nI q_8), .ref k1, .ref k2, .ref k3, .ref k4, .ref k5])), (k1, .inl (cI, 6, .inl f_9)), (k2, .inl (cI, 6, .inl f_10)), (k3, .inl (cI, 6, .inl f_11)), (k4, .inl (cI, 6, .inl f_12)), (k5, .inl (cI, 6, .inl f_13))] H := hP
          have hD : va_D A [(h0, .inr (6, [.ref hp, .ref hs, .ref hh, .ref hc, .ref kp, .ref rt, .int kr])), (hs, .inr (4, [.ref hh, .ref hc, .ref si])), (hh, .inr (1, [.int w0, .int w1, .int w2])), (hc, .inr (0, [.int a0, .int a1, .int (nI q_8), .ref k1, .ref k2, .ref k3, .ref k4, .ref k5])), (k1, .inl (cI, 6, .inl f_9)), (k2, .inl (cI, 6, .inl f_10)), (k3, .inl (cI, 6, .inl f_11)), (k4, .inl (cI, 6, .inl f_12)), (k5, .inl (cI, 6, .inl f_13))] := hD
          refine W.widen (k := 0) (n := 0) (Nat.le_of_ble_eq_true rfl) (Nat.le_of_ble_eq_true rfl) ?_
          have hP9 := hP.sub (ws' := [(h0, .inr (6, [.ref hp, .ref hs, .ref hh, .ref hc, .ref kp, .ref rt, .int kr])), (hs, .inr (4, [.ref hh, .ref hc, .ref si])), (hh, .inr (1, [.int w0, .int w1, .int w2])), (hc, .inr (0, [.int a0, .int a1, .int (nI q_8), .ref k1, .ref k2, .ref k3, .ref k4, .ref k5])), (k1, .inl (cI, 6, .inl f_9)), (k2, .inl (cI, 6, .inl f_10)), (k3, .inl (cI, 6, .inl f_11)), (k4, .inl (cI, 6, .inl f_12)), (k5, .inl (cI, 6, .inl f_13))]) [0, 1, 2, 3, 4, 5, 6, 7, 8] rfl
          have hD9 := hD.sub (ws' := [(h0, .inr (6, [.ref hp, .ref hs, .ref hh, .ref hc, .ref kp, .ref rt, .int kr])), (hs, .inr (4, [.ref hh, .ref hc, .ref si])), (hh, .inr (1, [.int w0, .int w1, .int w2])), (hc, .inr (0, [.int a0, .int a1, .int (nI q_8), .ref k1, .ref k2, .ref k3, .ref k4, .ref k5])), (k1, .inl (cI, 6, .inl f_9)), (k2, .inl (cI, 6, .inl f_10)), (k3, .inl (cI, 6, .inl f_11)), (k4, .inl (cI, 6, .inl f_12)), (k5, .inl (cI, 6, .inl f_13))]) [0, 1, 2, 3, 4, 5, 6, 7, 8] (by decide) rfl
          rw [hQ]; exact W.iret (v := r_7) hx hb hr (fun t ht hW => ⟨⟨r_7, (), rfl, trivial, ⟨q_8, f_9, f_10, f_11, f_12, f_13, hr_7_k, by rw [ht]; exact hP9, hD9⟩⟩, hS.F ht⟩) hS.2.2 dX6_courtier_56
        · refine lv_bipush (v := (-103)) hx hb dX6_courtier_44 (by decide) ?_
          refine W.widen (k := 0) (n := 0) (Nat.le_of_ble_eq_true rfl) (Nat.le_of_ble_eq_true rfl) ?_
          have hP9 := hP.sub (ws' := [(h0, .inr (6, [.ref hp, .ref hs, .ref hh, .ref hc, .ref kp, .ref rt, .int kr])), (hs, .inr (4, [.ref hh, .ref hc, .ref si])), (hh, .inr (1, [.int w0, .int w1, .int w2])), (hc, .inr (0, [.int a0, .int a1, .int (nI k0), .ref k1, .ref k2, .ref k3, .ref k4, .ref k5])), (k1, .inl (cI, 6, .inl g1)), (k2, .inl (cI, 6, .inl g2)), (k3, .inl (cI, 6, .inl g3)), (k4, .inl (cI, 6, .inl g4)), (k5, .inl (cI, 6, .inl g5))]) [0, 1, 2, 3, 4, 5, 6, 7, 8] rfl
          have hD9 := hD.sub (ws' := [(h0, .inr (6, [.ref hp, .ref hs, .ref hh, .ref hc, .ref kp, .ref rt, .int kr])), (hs, .inr (4, [.ref hh, .ref hc, .ref si])), (hh, .inr (1, [.int w0, .int w1, .int w2])), (hc, .inr (0, [.int a0, .int a1, .int (nI k0), .ref k1, .ref k2, .ref k3, .ref k4, .ref k5])), (k1, .inl (cI, 6, .inl g1)), (k2, .inl (cI, 6, .inl g2)), (k3, .inl (cI, 6, .inl g3)), (k4, .inl (cI, 6, .inl g4)), (k5, .inl (cI, 6, .inl g5))]) [0, 1, 2, 3, 4, 5, 6, 7, 8] (by decide) rfl
          rw [hQ]; exact W.iret (v := (-103)) hx hb hr (fun t ht hW => ⟨⟨(-103), (), rfl, trivial, ⟨k0, g1, g2, g3, g4, g5, hk6, by rw [ht]; exact hP9, hD9⟩⟩, hS.F ht⟩) hS.2.2 dX6_courtier_46
      · refine lv_if_ne (tgt := 44) hx hb dX6_courtier_27 (by decide) (fun _ => ?_) (fun c => absurd c (by decide))
        refine lv_bipush (v := (-103)) hx hb dX6_courtier_44 (by decide) ?_
        refine W.widen (k := 0) (n := 0) (Nat.le_of_ble_eq_true rfl) (Nat.le_of_ble_eq_true rfl) ?_
        have hP9 := hP.sub (ws' := [(h0, .inr (6, [.ref hp, .ref hs, .ref hh, .ref hc, .ref kp, .ref rt, .int kr])), (hs, .inr (4, [.ref hh, .ref hc, .ref si])), (hh, .inr (1, [.int w0, .int w1, .int w2])), (hc, .inr (0, [.int a0, .int a1, .int (nI k0), .ref k1, .ref k2, .ref k3, .ref k4, .ref k5])), (k1, .inl (cI, 6, .inl g1)), (k2, .inl (cI, 6, .inl g2)), (k3, .inl (cI, 6, .inl g3)), (k4, .inl (cI, 6, .inl g4)), (k5, .inl (cI, 6, .inl g5))]) [0, 1, 2, 3, 4, 5, 6, 7, 8] rfl
        have hD9 := hD.sub (ws' := [(h0, .inr (6, [.ref hp, .ref hs, .ref hh, .ref hc, .ref kp, .ref rt, .int kr])), (hs, .inr (4, [.ref hh, .ref hc, .ref si])), (hh, .inr (1, [.int w0, .int w1, .int w2])), (hc, .inr (0, [.int a0, .int a1, .int (nI k0), .ref k1, .ref k2, .ref k3, .ref k4, .ref k5])), (k1, .inl (cI, 6, .inl g1)), (k2, .inl (cI, 6, .inl g2)), (k3, .inl (cI, 6, .inl g3)), (k4, .inl (cI, 6, .inl g4)), (k5, .inl (cI, 6, .inl g5))]) [0, 1, 2, 3, 4, 5, 6, 7, 8] (by decide) rfl
        rw [hQ]; exact W.iret (v := (-103)) hx hb hr (fun t ht hW => ⟨⟨(-103), (), rfl, trivial, ⟨k0, g1, g2, g3, g4, g5, hk6, by rw [ht]; exact hP9, hD9⟩⟩, hS.F ht⟩) hS.2.2 dX6_courtier_46

set_option maxHeartbeats 4000000 in
set_option maxRecDepth 100000 in
theorem c_X6_about (l : Launch) (dC : Nat → ClassId) (dI : Nat → Nat → Nat) (cI cB : ClassId) (h0 : Nat) (p0 : Int32) (p1 : Int32) (hp : Nat) (hs : Nat) (hh : Nat) (hc : Nat) (kp : Nat) (rt : Nat) (kr : Int32) (si : Nat) (w0 : Int32) (w1 : Int32) (w2 : Int32) (a0 : Int32) (a1 : Int32) (k0 : Nat) (k1 : Nat) (k2 : Nat) (k3 : Nat) (k4 : Nat) (k5 : Nat) (g1 : Nat → Int32) (g2 : Nat → Int32) (g3 : Nat → Int32) (g4 : Nat → Int32) (tw : Nat) (tb : Nat) (ft : Nat → Int32) (fb : Nat → Int32) (hk6 : k0 ≤ 6) : Met l yX6_about wsX6_about ({ frames := 5, cells := 0, slots := 0, locals := 123 }) (cz_Pp dC dI cI cB [.ref h0, .int p0, .int p1] [(h0, .inr (6, [.ref hp, .ref hs, .ref hh, .ref hc, .ref kp, .ref rt, .int kr])), (hs, .inr (4, [.ref hh, .ref hc, .ref si])), (hh, .inr (1, [.int w0, .int w1, .int w2])), (hc, .inr (0, [.int a0, .int a1, .int (nI k0), .ref k1, .ref k2, .ref k3, .ref k4, .ref k5])), (k1, .inl (cI, 6, .inl g1)), (k2, .inl (cI, 6, .inl g2)), (k3, .inl (cI, 6, .inl g3)), (k4, .inl (cI, 6, .inl g4)), (si, .inr (5, [.ref tw, .ref tb])), (tw, .inl (cI, 400, .inl ft)), (tb, .inl (cI, 400, .inl fb))]) (vp_Si (fun r : Int32 => True)) 0 0 (fun _ => False) := by
  refine cz_of (cc := cX6_about) (maxL := 3) (ret := (some .int)) (by decide) rfl ?_
  intro p e s m args below meth c s₁ Q B hml hv hQ
  obtain ⟨rfl, hP, hN⟩ := hv
  have hx := B.exec
  have hb := B.bytes
  have hr := B.returns
  have hts := atoms_spec (ws := wsX6_about) B.pre
  have hown : s.vm.findClass RX6 = some m.cls := findClass_of_methodNamed B.named
  have hlocks := B.notSynchronized
  have hK := hN.1
  have hiX0 : ∀ w ∈ wsX00, w ∈ wsX6_about := (fun _ h => List.mem_cons_of_mem _ (List.mem_append_left _ (List.mem_append_left _ (List.mem_append_left _ (List.mem_append_right _ h)))))
  have hiX1 : ∀ w ∈ wsX10, w ∈ wsX6_about := (fun _ h => List.mem_cons_of_mem _ (List.mem_append_left _ (List.mem_append_left _ (List.mem_append_right _ h))))
  have hiX6 : ∀ w ∈ wsX60, w ∈ wsX6_about := (fun _ h => List.mem_cons_of_mem _ (List.mem_append_left _ (List.mem_append_left _ (List.mem_append_left _ (List.mem_append_left _ (List.mem_append_right _ h))))))
  have hl := lv_entry ([.ref h0, .int p0, .int p1]) (n := 3) (Nat.le_of_ble_eq_true rfl)
  rw [lg_entry_eq]
  generalize (lg_sl ([.ref h0, .int p0, .int p1]) ++ List.replicate (3 - (lg_sl ([.ref h0, .int p0, .int p1])).length) Slot.unset).toArray = ls at hl ⊢
  have hl : lv_has ls 3 [(0, .ref h0), (1, .int p0), (2, .int p1)] := hl
  refine lv_aload_n hx hb dX6_about_0 rfl (lv_at hl 0 rfl) ?_
  refine va_get (D := (dC, dI)) (ci := 6) (v := .ref hc) (C := RX6) (T := TX6) (N := 7) hx hb hts hiX6 hown hK hP 0 rfl rfl 3 (by decide) (hts (.fieldLink RX6 32 "LeftProfile" "court" "LLeftProfile$Court;") (List.mem_of_getElem? (i := 1) rfl)) (fun _ h9 => h9) rfl dX6_about_1 ?_
  refine lv_iload_n hx hb dX6_about_4 rfl (lv_at hl 1 rfl) ?_
  refine vp_callSi (cz_run (va_runV (As := [.int p0]) (rest := []) ⟨hx, hb, hml, hown, hts⟩ (c_X0_has l dC dI cI cB hc p0 a0 a1 k0 k1 k2 k3 k4 k5 hk6) (cwV 1 hts gX6_about_X0_has rfl rfl rfl (by decide +kernel) ⟨Nat.le_of_ble_eq_true rfl, Nat.le_of_ble_eq_true rfl⟩) (cz_pV (hP.sub (ws' := [(hc, .inr (0, [.int a0, .int a1, .int (nI k0), .ref k1, .ref k2, .ref k3, .ref k4, .ref k5]))]) [3] rfl) hN (va_recv hK (hP.sub (ws' := [(hc, .inr (0, [.int a0, .int a1, .int (nI k0), .ref k1, .ref k2, .ref k3, .ref k4, .ref k5]))]) [3] rfl) (ci := 0) (q0 := 0) rfl rfl)) rfl rfl hl.1 rfl (lv_room (Nat.le_of_ble_eq_true rfl)) dX6_about_5 ⟨Nat.le_of_ble_eq_true rfl, Nat.le_of_ble_eq_true rfl⟩)) (fun r_1 hr_1 => ?_)
  rcases hr_1 with ⟨rfl, hr_1⟩ | ⟨rfl, j_2, hr_1, rfl⟩
  · refine lv_if_ne (tgt := 14) hx hb dX6_about_8 (by decide) (fun c => absurd (by decide) c) (fun _ => ?_)
    refine lv_bipush (v := (-101)) hx hb dX6_about_11 (by decide) ?_
    rw [hQ]; exact W.iret (v := (-101)) hx hb hr (fun t ht hW => ⟨(-101), rfl, trivial, ht⟩) (fun _ h => absurd h List.not_mem_nil) dX6_about_13
  · refine lv_if_ne (tgt := 14) hx hb dX6_about_8 (by decide) (fun _ => ?_) (fun c => absurd c (by decide))
    refine lv_iload_n hx hb dX6_about_14 rfl (lv_at hl 2 rfl) ?_
    rcases cz_sw_0_5 p1 with c_3 | c_3 | c_3 | c_3 | c_3 | c_3 | c_3
    · refine lv_tableIn (off := 37) (tgt := 52) hx hb dX6_about_15 (by rw [c_3]; decide) (by rw [c_3]; decide) (by rw [c_3]; decide) (by decide) ?_
      refine lv_aload_n hx hb dX6_about_52 rfl (lv_at hl 0 rfl) ?_
      refine va_get (D := (dC, dI)) (ci := 6) (v := .ref hc) (C := RX6) (T := TX6) (N := 7) hx hb hts hiX6 hown hK hP 0 rfl rfl 3 (by decide) (hts (.fieldLink RX6 32 "LeftProfile" "court" "LLeftProfile$Court;") (List.mem_of_getElem? (i := 1) rfl)) (fun _ h9 => h9) rfl dX6_about_53 ?_
      refine va_get (D := (dC, dI)) (ci := 0) (v := .ref k1) (C := RX0) (T := TX0) (N := 8) hx hb hts hiX0 hown hK hP 3 rfl rfl 3 (by decide) (hts (.fieldLink RX6 119 "LeftProfile$Court" "kinds" "[I") (List.mem_of_getElem? (i := 2) rfl)) (fun _ h9 => h9) rfl dX6_about_56 ?_
      refine lv_iload_n hx hb dX6_about_59 rfl (lv_at hl 1 rfl) ?_
      refine va_iald hx hb hK hP 4 0 rfl rfl (vp_in_nI (n := j_2) (by omega) (by omega)) dX6_about_60 ?_
      refine cz_i (y := (g1 j_2)) (congrArg g1 (nI_clamp (n := j_2) (by omega))) ?_
      rw [hQ]; exact W.iret (v := (g1 j_2)) hx hb hr (fun t ht hW => ⟨(g1 j_2), rfl, trivial, ht⟩) (fun _ h => absurd h List.not_mem_nil) dX6_about_61
    · refine lv_tableIn (off := 47) (tgt := 62) hx hb dX6_about_15 (by rw [c_3]; decide) (by rw [c_3]; decide) (by rw [c_3]; decide) (by decide) ?_
      refine lv_aload_n hx hb dX6_about_62 rfl (lv_at hl 0 rfl) ?_
      refine va_get (D := (dC, dI)) (ci := 6) (v := .ref hc) (C := RX6) (T := TX6) (N := 7) hx hb hts hiX6 hown hK hP 0 rfl rfl 3 (by decide) (hts (.fieldLink RX6 32 "LeftProfile" "court" "LLeftProfile$Court;") (List.mem_of_getElem? (i := 1) rfl)) (fun _ h9 => h9) rfl dX6_about_63 ?_
      refine va_get (D := (dC, dI)) (ci := 0) (v := .ref k2) (C := RX0) (T := TX0) (N := 8) hx hb hts hiX0 hown hK hP 3 rfl rfl 4 (by decide) (hts (.fieldLink RX6 123 "LeftProfile$Court" "places" "[I") (List.mem_of_getElem? (i := 3) rfl)) (fun _ h9 => h9) rfl dX6_about_66 ?_
      refine lv_iload_n hx hb dX6_about_69 rfl (lv_at hl 1 rfl) ?_
      refine va_iald hx hb hK hP 5 0 rfl rfl (vp_in_nI (n := j_2) (by omega) (by omega)) dX6_about_70 ?_
      refine cz_i (y := (g2 j_2)) (congrArg g2 (nI_clamp (n := j_2) (by omega))) ?_
      rw [hQ]; exact W.iret (v := (g2 j_2)) hx hb hr (fun t ht hW => ⟨(g2 j_2), rfl, trivial, ht⟩) (fun _ h => absurd h List.not_mem_nil) dX6_about_71
    · refine lv_tableIn (off := 57) (tgt := 72) hx hb dX6_about_15 (by rw [c_3]; decide) (by rw [c_3]; decide) (by rw [c_3]; decide) (by decide) ?_
      refine lv_aload_n hx hb dX6_about_72 rfl (lv_at hl 0 rfl) ?_
      refine va_get (D := (dC, dI)) (ci := 6) (v := .ref hs) (C := RX6) (T := TX6) (N := 7) hx hb hts hiX6 hown hK hP 0 rfl rfl 1 (by decide) (hts (.fieldLink RX6 19 "LeftProfile" "scene" "LLeftProfile$Scene;") (List.mem_of_getElem? (i := 4) rfl)) (fun _ h9 => h9) rfl dX6_about_73 ?_
      refine lv_iload_n hx hb dX6_about_76 rfl (lv_at hl 1 rfl) ?_
      refine vp_callSi (cz_run (va_runV (As := [.int (nI j_2)]) (rest := []) ⟨hx, hb, hml, hown, hts⟩ (c_X4_seenBy l dC dI cI cB hs (nI j_2) hh hc si w0 w1 w2 a0 a1 k0 k1 k2 k3 k4 k5 g1 g2 tw tb ft fb hk6) (cwV 1 hts gX6_about_X4_seenBy rfl rfl rfl (by decide +kernel) ⟨Nat.le_of_ble_eq_true rfl, Nat.le_of_ble_eq_true rfl⟩) (cz_pV (hP.sub (ws' := [(hs, .inr (4, [.ref hh, .ref hc, .ref si])), (hh, .inr (1, [.int w0, .int w1, .int w2])), (hc, .inr (0, [.int a0, .int a1, .int (nI k0), .ref k1, .ref k2, .ref k3, .ref k4, .ref k5])), (k1, .inl (cI, 6, .inl g1)), (k2, .inl (cI, 6, .inl g2)), (si, .inr (5, [.ref tw, .ref tb])), (tw, .inl (cI, 400, .inl ft)), (tb, .inl (cI, 400, .inl fb))]) [1, 2, 3, 4, 5, 8, 9, 10] rfl) hN (va_recv hK (hP.sub (ws' := [(hs, .inr (4, [.ref hh, .ref hc, .ref si])), (hh, .inr (1, [.int w0, .int w1, .int w2])), (hc, .inr (0, [.int a0, .int a1, .int (nI k0), .ref k1, .ref k2, .ref k3, .ref k4, .ref k5])), (k1, .inl (cI, 6, .inl g1)), (k2, .inl (cI, 6, .inl g2)), (si, .inr (5, [.ref tw, .ref tb])), (tw, .inl (cI, 400, .inl ft)), (tb, .inl (cI, 400, .inl fb))]) [1, 2, 3, 4, 5, 8, 9, 10] rfl) (ci := 4) (q0 := 0) rfl rfl)) rfl rfl hl.1 rfl (lv_room (Nat.le_of_ble_eq_true rfl)) dX6_about_77 ⟨Nat.le_of_ble_eq_true rfl, Nat.le_of_ble_eq_true rfl⟩)) (fun r_4 hr_4 => ?_)
      rw [hQ]; exact W.iret (v := r_4) hx hb hr (fun t ht hW => ⟨r_4, rfl, trivial, ht⟩) (fun _ h => absurd h List.not_mem_nil) dX6_about_80
    · refine lv_tableIn (off := 66) (tgt := 81) hx hb dX6_about_15 (by rw [c_3]; decide) (by rw [c_3]; decide) (by rw [c_3]; decide) (by decide) ?_
      refine lv_aload_n hx hb dX6_about_81 rfl (lv_at hl 0 rfl) ?_
      refine va_get (D := (dC, dI)) (ci := 6) (v := .ref hs) (C := RX6) (T := TX6) (N := 7) hx hb hts hiX6 hown hK hP 0 rfl rfl 1 (by decide) (hts (.fieldLink RX6 19 "LeftProfile" "scene" "LLeftProfile$Scene;") (List.mem_of_getElem? (i := 4) rfl)) (fun _ h9 => h9) rfl dX6_about_82 ?_
      refine lv_aload_n hx hb dX6_about_85 rfl (lv_at hl 0 rfl) ?_
      refine va_get (D := (dC, dI)) (ci := 6) (v := .ref hc) (C := RX6) (T := TX6) (N := 7) hx hb hts hiX6 hown hK hP 0 rfl rfl 3 (by decide) (hts (.fieldLink RX6 32 "LeftProfile" "court" "LLeftProfile$Court;") (List.mem_of_getElem? (i := 1) rfl)) (fun _ h9 => h9) rfl dX6_about_86 ?_
      refine va_get (D := (dC, dI)) (ci := 0) (v := .int a0) (C := RX0) (T := TX0) (N := 8) hx hb hts hiX0 hown hK hP 3 rfl rfl 0 (by decide) (hts (.fieldLink RX6 91 "LeftProfile$Court" "stance" "I") (List.mem_of_getElem? (i := 5) rfl)) (fun _ h9 => h9) rfl dX6_about_89 ?_
      refine lv_aload_n hx hb dX6_about_92 rfl (lv_at hl 0 rfl) ?_
      refine va_get (D := (dC, dI)) (ci := 6) (v := .ref hh) (C := RX6) (T := TX6) (N := 7) hx hb hts hiX6 hown hK hP 0 rfl rfl 2 (by decide) (hts (.fieldLink RX6 27 "LeftProfile" "hall" "LLeftProfile$Hall;") (List.mem_of_getElem? (i := 6) rfl)) (fun _ h9 => h9) rfl dX6_about_93 ?_
      refine va_get (D := (dC, dI)) (ci := 1) (v := .int w0) (C := RX1) (T := TX1) (N := 3) hx hb hts hiX1 hown hK hP 2 rfl rfl 0 (by decide) (hts (.fieldLink RX6 84 "LeftProfile$Hall" "walls" "I") (List.mem_of_getElem? (i := 7) rfl)) (fun _ h9 => h9) rfl dX6_about_96 ?_
      refine vp_callSi (cz_run (va_runV (As := [.int a0, .int w0]) (rest := []) ⟨hx, hb, hml, hown, hts⟩ (c_X4_guiltyIf l dC dI cI cB hs a0 w0 hh hc si w0 w1 w2 a0 a1 k0 k1 k2 k3 k4 k5 g1 g2 tw tb ft fb hk6) (cwV 2 hts gX6_about_X4_guiltyIf rfl rfl rfl (by decide +kernel) ⟨Nat.le_of_ble_eq_true rfl, Nat.le_of_ble_eq_true rfl⟩) (cz_pV (hP.sub (ws' := [(hs, .inr (4, [.ref hh, .ref hc, .ref si])), (hh, .inr (1, [.int w0, .int w1, .int w2])), (hc, .inr (0, [.int a0, .int a1, .int (nI k0), .ref k1, .ref k2, .ref k3, .ref k4, .ref k5])), (k1, .inl (cI, 6, .inl g1)), (k2, .inl (cI, 6, .inl g2)), (si, .inr (5, [.ref tw, .ref tb])), (tw, .inl (cI, 400, .inl ft)), (tb, .inl (cI, 400, .inl fb))]) [1, 2, 3, 4, 5, 8, 9, 10] rfl) hN (va_recv hK (hP.sub (ws' := [(hs, .inr (4, [.ref hh, .ref hc, .ref si])), (hh, .inr (1, [.int w0, .int w1, .int w2])), (hc, .inr (0, [.int a0, .int a1, .int (nI k0), .ref k1, .ref k2, .ref k3, .ref k4, .ref k5])), (k1, .inl (cI, 6, .inl g1)), (k2, .inl (cI, 6, .inl g2)), (si, .inr (5, [.ref tw, .ref tb])), (tw, .inl (cI, 400, .inl ft)), (tb, .inl (cI, 400, .inl fb))]) [1, 2, 3, 4, 5, 8, 9, 10] rfl) (ci := 4) (q0 := 0) rfl rfl)) rfl rfl hl.1 rfl (lv_room (Nat.le_of_ble_eq_true rfl)) dX6_about_99 ⟨Nat.le_of_ble_eq_true rfl, Nat.le_of_ble_eq_true rfl⟩)) (fun r_5 hr_5 => ?_)
      refine lv_iload_n hx hb dX6_about_102 rfl (lv_at hl 1 rfl) ?_
      refine vp_callSi (cz_run (va_runS (As := [.int (nI j_2)]) (rest := [.int r_5]) ⟨hx, hb, hml, hown, hts⟩ (c_X6_bit l dC dI cI cB (nI j_2) ) (va_cwS 1 hts gX6_about_X6_bit rfl rfl rfl (by decide +kernel) ⟨Nat.le_of_ble_eq_true rfl, Nat.le_of_ble_eq_true rfl⟩) (cz_pS (hP.sub (ws' := []) [] rfl) hN) rfl rfl hl.1 rfl (lv_room (Nat.le_of_ble_eq_true rfl)) dX6_about_103 ⟨Nat.le_of_ble_eq_true rfl, Nat.le_of_ble_eq_true rfl⟩)) (fun r_6 hr_6 => ?_)
      refine lv_iand hx hb dX6_about_106 ?_
      refine lv_topi (fun x_7 ex_7 => ?_)
      refine lv_if_eq (tgt := 114) hx hb dX6_about_107 (by decide) (fun c_8 => ?_) (fun c_8 => ?_)
      · refine lv_iconst (v := 0) hx hb dX6_about_114 (by decide) ?_
        rw [hQ]; exact W.iret (v := 0) hx hb hr (fun t ht hW => ⟨0, rfl, trivial, ht⟩) (fun _ h => absurd h List.not_mem_nil) dX6_about_115
      · refine lv_iconst (v := 1) hx hb dX6_about_110 (by decide) ?_
        refine lv_goto (tgt := 115) hx hb dX6_about_111 (by decide) ?_
        rw [hQ]; exact W.iret (v := 1) hx hb hr (fun t ht hW => ⟨1, rfl, trivial, ht⟩) (fun _ h => absurd h List.not_mem_nil) dX6_about_115
    · refine lv_tableIn (off := 101) (tgt := 116) hx hb dX6_about_15 (by rw [c_3]; decide) (by rw [c_3]; decide) (by rw [c_3]; decide) (by decide) ?_
      refine lv_aload_n hx hb dX6_about_116 rfl (lv_at hl 0 rfl) ?_
      refine va_get (D := (dC, dI)) (ci := 6) (v := .ref hc) (C := RX6) (T := TX6) (N := 7) hx hb hts hiX6 hown hK hP 0 rfl rfl 3 (by decide) (hts (.fieldLink RX6 32 "LeftProfile" "court" "LLeftProfile$Court;") (List.mem_of_getElem? (i := 1) rfl)) (fun _ h9 => h9) rfl dX6_about_117 ?_
      refine va_get (D := (dC, dI)) (ci := 0) (v := .ref k3) (C := RX0) (T := TX0) (N := 8) hx hb hts hiX0 hown hK hP 3 rfl rfl 5 (by decide) (hts (.fieldLink RX6 135 "LeftProfile$Court" "sawLeft" "[I") (List.mem_of_getElem? (i := 8) rfl)) (fun _ h9 => h9) rfl dX6_about_120 ?_
      refine lv_iload_n hx hb dX6_about_123 rfl (lv_at hl 1 rfl) ?_
      refine va_iald hx hb hK hP 6 0 rfl rfl (vp_in_nI (n := j_2) (by omega) (by omega)) dX6_about_124 ?_
      refine cz_i (y := (g3 j_2)) (congrArg g3 (nI_clamp (n := j_2) (by omega))) ?_
      rw [hQ]; exact W.iret (v := (g3 j_2)) hx hb hr (fun t ht hW => ⟨(g3 j_2), rfl, trivial, ht⟩) (fun _ h => absurd h List.not_mem_nil) dX6_about_125
    · refine lv_tableIn (off := 111) (tgt := 126) hx hb dX6_about_15 (by rw [c_3]; decide) (by rw [c_3]; decide) (by rw [c_3]; decide) (by decide) ?_
      refine lv_aload_n hx hb dX6_about_126 rfl (lv_at hl 0 rfl) ?_
      refine va_get (D := (dC, dI)) (ci := 6) (v := .ref hc) (C := RX6) (T := TX6) (N := 7) hx hb hts hiX6 hown hK hP 0 rfl rfl 3 (by decide) (hts (.fieldLink RX6 32 "LeftProfile" "court" "LLeftProfile$Court;") (List.mem_of_getElem? (i := 1) rfl)) (fun _ h9 => h9) rfl dX6_about_127 ?_
      refine va_get (D := (dC, dI)) (ci := 0) (v := .ref k4) (C := RX0) (T := TX0) (N := 8) hx hb hts hiX0 hown hK hP 3 rfl rfl 6 (by decide) (hts (.fieldLink RX6 138 "LeftProfile$Court" "sawRight" "[I") (List.mem_of_getElem? (i := 9) rfl)) (fun _ h9 => h9) rfl dX6_about_130 ?_
      refine lv_iload_n hx hb dX6_about_133 rfl (lv_at hl 1 rfl) ?_
      refine va_iald hx hb hK hP 7 0 rfl rfl (vp_in_nI (n := j_2) (by omega) (by omega)) dX6_about_134 ?_
      refine cz_i (y := (g4 j_2)) (congrArg g4 (nI_clamp (n := j_2) (by omega))) ?_
      rw [hQ]; exact W.iret (v := (g4 j_2)) hx hb hr (fun t ht hW => ⟨(g4 j_2), rfl, trivial, ht⟩) (fun _ h => absurd h List.not_mem_nil) dX6_about_135
    · refine lv_tableOut (tgt := 136) hx hb dX6_about_15 c_3 (by decide) ?_
      refine lv_bipush (v := (-102)) hx hb dX6_about_136 (by decide) ?_
      rw [hQ]; exact W.iret (v := (-102)) hx hb hr (fun t ht hW => ⟨(-102), rfl, trivial, ht⟩) (fun _ h => absurd h List.not_mem_nil) dX6_about_138

set_option maxHeartbeats 4000000 in
set_option maxRecDepth 100000 in
theorem c_X6_as (l : Launch) (dC : Nat → ClassId) (dI : Nat → Nat → Nat) (cI cB : ClassId) (h0 : Nat) (p0 : Int32) (p1 : Int32) (hp : Nat) (hs : Nat) (hh : Nat) (hc : Nat) (kp : Nat) (rt : Nat) (kr : Int32) (a0 : Int32) (a1 : Int32) (k0 : Nat) (k1 : Nat) (k2 : Nat) (k3 : Nat) (k4 : Nat) (k5 : Nat) (g1 : Nat → Int32) (hk6 : k0 ≤ 6) : Met l yX6_as wsX6_as ({ frames := 1, cells := 0, slots := 0, locals := 21 }) (cz_Pp dC dI cI cB [.ref h0, .int p0, .int p1] [(h0, .inr (6, [.ref hp, .ref hs, .ref hh, .ref hc, .ref kp, .ref rt, .int kr])), (hc, .inr (0, [.int a0, .int a1, .int (nI k0), .ref k1, .ref k2, .ref k3, .ref k4, .ref k5])), (k1, .inl (cI, 6, .inl g1))]) (vp_Si (fun r : Int32 => True)) 0 0 (fun _ => False) := by
  refine cz_of (cc := cX6_as) (maxL := 3) (ret := (some .int)) (by decide) rfl ?_
  intro p e s m args below meth c s₁ Q B hml hv hQ
  obtain ⟨rfl, hP, hN⟩ := hv
  have hx := B.exec
  have hb := B.bytes
  have hr := B.returns
  have hts := atoms_spec (ws := wsX6_as) B.pre
  have hown : s.vm.findClass RX6 = some m.cls := findClass_of_methodNamed B.named
  have hlocks := B.notSynchronized
  have hK := hN.1
  have hiX0 : ∀ w ∈ wsX00, w ∈ wsX6_as := (fun _ h => List.mem_cons_of_mem _ (List.mem_append_right _ h))
  have hiX6 : ∀ w ∈ wsX60, w ∈ wsX6_as := (fun _ h => List.mem_cons_of_mem _ (List.mem_append_left _ (List.mem_append_right _ h)))
  have hl := lv_entry ([.ref h0, .int p0, .int p1]) (n := 3) (Nat.le_of_ble_eq_true rfl)
  rw [lg_entry_eq]
  generalize (lg_sl ([.ref h0, .int p0, .int p1]) ++ List.replicate (3 - (lg_sl ([.ref h0, .int p0, .int p1])).length) Slot.unset).toArray = ls at hl ⊢
  have hl : lv_has ls 3 [(0, .ref h0), (1, .int p0), (2, .int p1)] := hl
  refine lv_aload_n hx hb dX6_as_0 rfl (lv_at hl 0 rfl) ?_
  refine va_get (D := (dC, dI)) (ci := 6) (v := .ref hc) (C := RX6) (T := TX6) (N := 7) hx hb hts hiX6 hown hK hP 0 rfl rfl 3 (by decide) (hts (.fieldLink RX6 32 "LeftProfile" "court" "LLeftProfile$Court;") (List.mem_of_getElem? (i := 1) rfl)) (fun _ h9 => h9) rfl dX6_as_1 ?_
  refine lv_iload_n hx hb dX6_as_4 rfl (lv_at hl 1 rfl) ?_
  refine vp_callSi (cz_run (va_runV (As := [.int p0]) (rest := []) ⟨hx, hb, hml, hown, hts⟩ (c_X0_has l dC dI cI cB hc p0 a0 a1 k0 k1 k2 k3 k4 k5 hk6) (cwV 1 hts gX6_as_X0_has rfl rfl rfl (by decide +kernel) ⟨Nat.le_of_ble_eq_true rfl, Nat.le_of_ble_eq_true rfl⟩) (cz_pV (hP.sub (ws' := [(hc, .inr (0, [.int a0, .int a1, .int (nI k0), .ref k1, .ref k2, .ref k3, .ref k4, .ref k5]))]) [1] rfl) hN (va_recv hK (hP.sub (ws' := [(hc, .inr (0, [.int a0, .int a1, .int (nI k0), .ref k1, .ref k2, .ref k3, .ref k4, .ref k5]))]) [1] rfl) (ci := 0) (q0 := 0) rfl rfl)) rfl rfl hl.1 rfl (lv_room (Nat.le_of_ble_eq_true rfl)) dX6_as_5 ⟨Nat.le_of_ble_eq_true rfl, Nat.le_of_ble_eq_true rfl⟩)) (fun r_1 hr_1 => ?_)
  rcases hr_1 with ⟨rfl, hr_1⟩ | ⟨rfl, j_2, hr_1, rfl⟩
  · refine lv_if_ne (tgt := 14) hx hb dX6_as_8 (by decide) (fun c => absurd (by decide) c) (fun _ => ?_)
    refine lv_bipush (v := (-101)) hx hb dX6_as_11 (by decide) ?_
    rw [hQ]; exact W.iret (v := (-101)) hx hb hr (fun t ht hW => ⟨(-101), rfl, trivial, ht⟩) (fun _ h => absurd h List.not_mem_nil) dX6_as_13
  · refine lv_if_ne (tgt := 14) hx hb dX6_as_8 (by decide) (fun _ => ?_) (fun c => absurd c (by decide))
    refine lv_iload_n hx hb dX6_as_14 rfl (lv_at hl 2 rfl) ?_
    refine vp_callSi (cz_run (va_runS (As := [.int p1]) (rest := []) ⟨hx, hb, hml, hown, hts⟩ (c_X6_isKind l dC dI cI cB p1 ) (va_cwS 1 hts gX6_as_X6_isKind rfl rfl rfl (by decide +kernel) ⟨Nat.le_of_ble_eq_true rfl, Nat.le_of_ble_eq_true rfl⟩) (cz_pS (hP.sub (ws' := []) [] rfl) hN) rfl rfl hl.1 rfl (lv_room (Nat.le_of_ble_eq_true rfl)) dX6_as_15 ⟨Nat.le_of_ble_eq_true rfl, Nat.le_of_ble_eq_true rfl⟩)) (fun r_3 hr_3 => ?_)
    rcases hr_3 with ⟨rfl, hr_3⟩ | ⟨rfl, hr_3⟩
    · refine lv_if_ne (tgt := 24) hx hb dX6_as_18 (by decide) (fun c => absurd (by decide) c) (fun _ => ?_)
      refine lv_bipush (v := (-102)) hx hb dX6_as_21 (by decide) ?_
      rw [hQ]; exact W.iret (v := (-102)) hx hb hr (fun t ht hW => ⟨(-102), rfl, trivial, ht⟩) (fun _ h => absurd h List.not_mem_nil) dX6_as_23
    · refine lv_if_ne (tgt := 24) hx hb dX6_as_18 (by decide) (fun _ => ?_) (fun c => absurd c (by decide))
      refine lv_aload_n hx hb dX6_as_24 rfl (lv_at hl 0 rfl) ?_
      refine va_get (D := (dC, dI)) (ci := 6) (v := .ref hc) (C := RX6) (T := TX6) (N := 7) hx hb hts hiX6 hown hK hP 0 rfl rfl 3 (by decide) (hts (.fieldLink RX6 32 "LeftProfile" "court" "LLeftProfile$Court;") (List.mem_of_getElem? (i := 1) rfl)) (fun _ h9 => h9) rfl dX6_as_25 ?_
      refine va_get (D := (dC, dI)) (ci := 0) (v := .ref k1) (C := RX0) (T := TX0) (N := 8) hx hb hts hiX0 hown hK hP 1 rfl rfl 3 (by decide) (hts (.fieldLink RX6 119 "LeftProfile$Court" "kinds" "[I") (List.mem_of_getElem? (i := 2) rfl)) (fun _ h9 => h9) rfl dX6_as_28 ?_
      refine lv_iload_n hx hb dX6_as_31 rfl (lv_at hl 1 rfl) ?_
      refine va_iald hx hb hK hP 2 0 rfl rfl (vp_in_nI (n := j_2) (by omega) (by omega)) dX6_as_32 ?_
      refine cz_i (y := (g1 j_2)) (congrArg g1 (nI_clamp (n := j_2) (by omega))) ?_
      refine lv_iload_n hx hb dX6_as_33 rfl (lv_at hl 2 rfl) ?_
      refine vp_callSi (cz_run (va_runS (As := [.int (g1 j_2), .int p1]) (rest := []) ⟨hx, hb, hml, hown, hts⟩ (c_X6_isOfKind l dC dI cI cB (g1 j_2) p1 ) (va_cwS 2 hts gX6_as_X6_isOfKind rfl rfl rfl (by decide +kernel) ⟨Nat.le_of_ble_eq_true rfl, Nat.le_of_ble_eq_true rfl⟩) (cz_pS (hP.sub (ws' := []) [] rfl) hN) rfl rfl hl.1 rfl (lv_room (Nat.le_of_ble_eq_true rfl)) dX6_as_34 ⟨Nat.le_of_ble_eq_true rfl, Nat.le_of_ble_eq_true rfl⟩)) (fun r_4 hr_4 => ?_)
      refine lv_if_eq (tgt := 44) hx hb dX6_as_37 (by decide) (fun c_5 => ?_) (fun c_5 => ?_)
      · refine lv_iconst (v := (-1)) hx hb dX6_as_44 (by decide) ?_
        rw [hQ]; exact W.iret (v := (-1)) hx hb hr (fun t ht hW => ⟨(-1), rfl, trivial, ht⟩) (fun _ h => absurd h List.not_mem_nil) dX6_as_45
      · refine lv_iload_n hx hb dX6_as_40 rfl (lv_at hl 1 rfl) ?_
        refine lv_goto (tgt := 45) hx hb dX6_as_41 (by decide) ?_
        rw [hQ]; exact W.iret (v := (nI j_2)) hx hb hr (fun t ht hW => ⟨(nI j_2), rfl, trivial, ht⟩) (fun _ h => absurd h List.not_mem_nil) dX6_as_45

set_option maxHeartbeats 4000000 in
set_option maxRecDepth 100000 in
theorem c_X6_go (l : Launch) (dC : Nat → ClassId) (dI : Nat → Nat → Nat) (cI cB : ClassId) (h0 : Nat) (p0 : Int32) (p1 : Int32) (hp : Nat) (hs : Nat) (hh : Nat) (hc : Nat) (kp : Nat) (rt : Nat) (kr : Int32) (si : Nat) (w0 : Int32) (w1 : Int32) (w2 : Int32) (a0 : Int32) (a1 : Int32) (k0 : Nat) (k1 : Nat) (k2 : Nat) (k3 : Nat) (k4 : Nat) (k5 : Nat) (g2 : Nat → Int32) (sz : Nat) (hk6 : k0 ≤ 6) : Met l yX6_go wsX6_go ({ frames := 3, cells := 0, slots := 0, locals := 63 }) (cz_Pm dC dI cI cB [.ref h0, .int p0, .int p1] [(h0, .inr (6, [.ref hp, .ref hs, .ref hh, .ref hc, .ref kp, .ref rt, .int kr])), (hs, .inr (4, [.ref hh, .ref hc, .ref si])), (hh, .inr (1, [.int w0, .int w1, .int w2])), (hc, .inr (0, [.int a0, .int a1, .int (nI k0), .ref k1, .ref k2, .ref k3, .ref k4, .ref k5])), (k2, .inl (cI, 6, .inl g2))] sz) (va_Qi (fun (r : Int32) (_ : Unit) => True) (fun _ t => ∃ (t2 : Nat → Int32), va_P (dC, dI) vwCl [(h0, .inr (6, [.ref hp, .ref hs, .ref hh, .ref hc, .ref kp, .ref rt, .int kr])), (hs, .inr (4, [.ref hh, .ref hc, .ref si])), (hh, .inr (1, [.int w0, .int w1, .int w2])), (hc, .inr (0, [.int a0, .int a1, .int (nI k0), .ref k1, .ref k2, .ref k3, .ref k4, .ref k5])), (k2, .inl (cI, 6, .inl t2))] t.heap ∧ va_D (va_A [(h0, .inr (6, [.ref hp, .ref hs, .ref hh, .ref hc, .ref kp, .ref rt, .int kr])), (hs, .inr (4, [.ref hh, .ref hc, .ref si])), (hh, .inr (1, [.int w0, .int w1, .int w2])), (hc, .inr (0, [.int a0, .int a1, .int (nI k0), .ref k1, .ref k2, .ref k3, .ref k4, .ref k5])), (k2, .inl (cI, 6, .inl g2))] sz) [(h0, .inr (6, [.ref hp, .ref hs, .ref hh, .ref hc, .ref kp, .ref rt, .int kr])), (hs, .inr (4, [.ref hh, .ref hc, .ref si])), (hh, .inr (1, [.int w0, .int w1, .int w2])), (hc, .inr (0, [.int a0, .int a1, .int (nI k0), .ref k1, .ref k2, .ref k3, .ref k4, .ref k5])), (k2, .inl (cI, 6, .inl t2))]) (va_A [(h0, .inr (6, [.ref hp, .ref hs, .ref hh, .ref hc, .ref kp, .ref rt, .int kr])), (hs, .inr (4, [.ref hh, .ref hc, .ref si])), (hh, .inr (1, [.int w0, .int w1, .int w2])), (hc, .inr (0, [.int a0, .int a1, .int (nI k0), .ref k1, .ref k2, .ref k3, .ref k4, .ref k5])), (k2, .inl (cI, 6, .inl g2))] sz)) 0 0 (va_A [(h0, .inr (6, [.ref hp, .ref hs, .ref hh, .ref hc, .ref kp, .ref rt, .int kr])), (hs, .inr (4, [.ref hh, .ref hc, .ref si])), (hh, .inr (1, [.int w0, .int w1, .int w2])), (hc, .inr (0, [.int a0, .int a1, .int (nI k0), .ref k1, .ref k2, .ref k3, .ref k4, .ref k5])), (k2, .inl (cI, 6, .inl g2))] sz) := by
  refine cz_of (cc := cX6_go) (maxL := 4) (ret := (some .int)) (by decide) rfl ?_
  intro p e s m args below meth c s₁ Q B hml hv hQ
  obtain ⟨rfl, hsz, hP, hN, hD0⟩ := hv
  have hx := B.exec
  have hb := B.bytes
  have hr := B.returns
  have hts := atoms_spec (ws := wsX6_go) B.pre
  have hown : s.vm.findClass RX6 = some m.cls := findClass_of_methodNamed B.named
  have hlocks := B.notSynchronized
  have hK := hN.1
  have hiX0 : ∀ w ∈ wsX00, w ∈ wsX6_go := (fun _ h => List.mem_cons_of_mem _ (List.mem_append_left _ (List.mem_append_left _ (List.mem_append_right _ h))))
  have hiX6 : ∀ w ∈ wsX60, w ∈ wsX6_go := (fun _ h => List.mem_cons_of_mem _ (List.mem_append_left _ (List.mem_append_left _ (List.mem_append_left _ (List.mem_append_right _ h)))))
  subst hsz
  have hD := hD0.self (sz := s.heap.size)
  generalize hAe : va_A [(h0, .inr (6, [.ref hp, .ref hs, .ref hh, .ref hc, .ref kp, .ref rt, .int kr])), (hs, .inr (4, [.ref hh, .ref hc, .ref si])), (hh, .inr (1, [.int w0, .int w1, .int w2])), (hc, .inr (0, [.int a0, .int a1, .int (nI k0), .ref k1, .ref k2, .ref k3, .ref k4, .ref k5])), (k2, .inl (cI, 6, .inl g2))] s.heap.size = A at hD hQ ⊢
  have hA : ∀ q : Nat, s.heap.size ≤ q → A q := fun q h => by rw [← hAe]; exact Or.inr h
  have hS : va_S A s.heap s.heap [] := va_S.rf
  obtain ⟨H, eH⟩ : ∃ H, H = s.heap := ⟨_, rfl⟩
  have hP : va_P (dC, dI) vwCl [(h0, .inr (6, [.ref hp, .ref hs, .ref hh, .ref hc, .ref kp, .ref rt, .int kr])), (hs, .inr (4, [.ref hh, .ref hc, .ref si])), (hh, .inr (1, [.int w0, .int w1, .int w2])), (hc, .inr (0, [.int a0, .int a1, .int (nI k0), .ref k1, .ref k2, .ref k3, .ref k4, .ref k5])), (k2, .inl (cI, 6, .inl g2))] s.heap := hP
  have hl := lv_entry ([.ref h0, .int p0, .int p1]) (n := 4) (Nat.le_of_ble_eq_true rfl)
  rw [lg_entry_eq]
  generalize (lg_sl ([.ref h0, .int p0, .int p1]) ++ List.replicate (4 - (lg_sl ([.ref h0, .int p0, .int p1])).length) Slot.unset).toArray = ls at hl ⊢
  have hl : lv_has ls 4 [(0, .ref h0), (1, .int p0), (2, .int p1)] := hl
  refine lv_aload_n hx hb dX6_go_0 rfl (lv_at hl 0 rfl) ?_
  refine va_get (D := (dC, dI)) (ci := 6) (v := .ref hc) (C := RX6) (T := TX6) (N := 7) hx hb hts hiX6 hown hK hP 0 rfl rfl 3 (by decide) (hts (.fieldLink RX6 32 "LeftProfile" "court" "LLeftProfile$Court;") (List.mem_of_getElem? (i := 1) rfl)) (fun _ h9 => h9) rfl dX6_go_1 ?_
  refine lv_iload_n hx hb dX6_go_4 rfl (lv_at hl 1 rfl) ?_
  refine vp_callSi (cz_run (va_runV (As := [.int p0]) (rest := []) ⟨hx, hb, hml, hown, hts⟩ (c_X0_has l dC dI cI cB hc p0 a0 a1 k0 k1 k2 k3 k4 k5 hk6) (cwV 1 hts gX6_go_X0_has rfl rfl rfl (by decide +kernel) ⟨Nat.le_of_ble_eq_true rfl, Nat.le_of_ble_eq_true rfl⟩) (cz_pV (hP.sub (ws' := [(hc, .inr (0, [.int a0, .int a1, .int (nI k0), .ref k1, .ref k2, .ref k3, .ref k4, .ref k5]))]) [3] rfl) hN (va_recv hK (hP.sub (ws' := [(hc, .inr (0, [.int a0, .int a1, .int (nI k0), .ref k1, .ref k2, .ref k3, .ref k4, .ref k5]))]) [3] rfl) (ci := 0) (q0 := 0) rfl rfl)) rfl rfl hl.1 rfl (lv_room (Nat.le_of_ble_eq_true rfl)) dX6_go_5 ⟨Nat.le_of_ble_eq_true rfl, Nat.le_of_ble_eq_true rfl⟩)) (fun r_1 hr_1 => ?_)
  rcases hr_1 with ⟨rfl, hr_1⟩ | ⟨rfl, j_2, hr_1, rfl⟩
  · refine lv_if_eq (tgt := 18) hx hb dX6_go_8 (by decide) (fun _ => ?_) (fun c => absurd (by decide) c)
    refine lv_bipush (v := (-101)) hx hb dX6_go_18 (by decide) ?_
    refine W.widen (k := 0) (n := 0) (Nat.le_of_ble_eq_true rfl) (Nat.le_of_ble_eq_true rfl) ?_
    have hP9 := hP.sub (ws' := [(h0, .inr (6, [.ref hp, .ref hs, .ref hh, .ref hc, .ref kp, .ref rt, .int kr])), (hs, .inr (4, [.ref hh, .ref hc, .ref si])), (hh, .inr (1, [.int w0, .int w1, .int w2])), (hc, .inr (0, [.int a0, .int a1, .int (nI k0), .ref k1, .ref k2, .ref k3, .ref k4, .ref k5])), (k2, .inl (cI, 6, .inl g2))]) [0, 1, 2, 3, 4] rfl
    have hD9 := hD.sub (ws' := [(h0, .inr (6, [.ref hp, .ref hs, .ref hh, .ref hc, .ref kp, .ref rt, .int kr])), (hs, .inr (4, [.ref hh, .ref hc, .ref si])), (hh, .inr (1, [.int w0, .int w1, .int w2])), (hc, .inr (0, [.int a0, .int a1, .int (nI k0), .ref k1, .ref k2, .ref k3, .ref k4, .ref k5])), (k2, .inl (cI, 6, .inl g2))]) [0, 1, 2, 3, 4] (by decide) rfl
    rw [hQ]; exact W.iret (v := (-101)) hx hb hr (fun t ht hW => ⟨⟨(-101), (), rfl, trivial, ⟨g2, by rw [ht]; exact hP9, hD9⟩⟩, hS.F ht⟩) hS.2.2 dX6_go_20
  · refine lv_if_eq (tgt := 18) hx hb dX6_go_8 (by decide) (fun c => absurd c (by decide)) (fun _ => ?_)
    refine lv_iload_n hx hb dX6_go_11 rfl (lv_at hl 2 rfl) ?_
    refine vp_callSi (cz_run (va_runS (As := [.int p1]) (rest := []) ⟨hx, hb, hml, hown, hts⟩ (c_X6_isPlace l dC dI cI cB p1 ) (va_cwS 1 hts gX6_go_X6_isPlace rfl rfl rfl (by decide +kernel) ⟨Nat.le_of_ble_eq_true rfl, Nat.le_of_ble_eq_true rfl⟩) (cz_pS (hP.sub (ws' := []) [] rfl) hN) rfl rfl hl.1 rfl (lv_room (Nat.le_of_ble_eq_true rfl)) dX6_go_12 ⟨Nat.le_of_ble_eq_true rfl, Nat.le_of_ble_eq_true rfl⟩)) (fun r_3 hr_3 => ?_)
    rcases hr_3 with ⟨rfl, hr_3⟩ | ⟨rfl, hr_3⟩
    · refine lv_if_ne (tgt := 21) hx hb dX6_go_15 (by decide) (fun c => absurd (by decide) c) (fun _ => ?_)
      refine lv_bipush (v := (-101)) hx hb dX6_go_18 (by decide) ?_
      refine W.widen (k := 0) (n := 0) (Nat.le_of_ble_eq_true rfl) (Nat.le_of_ble_eq_true rfl) ?_
      have hP9 := hP.sub (ws' := [(h0, .inr (6, [.ref hp, .ref hs, .ref hh, .ref hc, .ref kp, .ref rt, .int kr])), (hs, .inr (4, [.ref hh, .ref hc, .ref si])), (hh, .inr (1, [.int w0, .int w1, .int w2])), (hc, .inr (0, [.int a0, .int a1, .int (nI k0), .ref k1, .ref k2, .ref k3, .ref k4, .ref k5])), (k2, .inl (cI, 6, .inl g2))]) [0, 1, 2, 3, 4] rfl
      have hD9 := hD.sub (ws' := [(h0, .inr (6, [.ref hp, .ref hs, .ref hh, .ref hc, .ref kp, .ref rt, .int kr])), (hs, .inr (4, [.ref hh, .ref hc, .ref si])), (hh, .inr (1, [.int w0, .int w1, .int w2])), (hc, .inr (0, [.int a0, .int a1, .int (nI k0), .ref k1, .ref k2, .ref k3, .ref k4, .ref k5])), (k2, .inl (cI, 6, .inl g2))]) [0, 1, 2, 3, 4] (by decide) rfl
      rw [hQ]; exact W.iret (v := (-101)) hx hb hr (fun t ht hW => ⟨⟨(-101), (), rfl, trivial, ⟨g2, by rw [ht]; exact hP9, hD9⟩⟩, hS.F ht⟩) hS.2.2 dX6_go_20
    · refine lv_if_ne (tgt := 21) hx hb dX6_go_15 (by decide) (fun _ => ?_) (fun c => absurd c (by decide))
      refine lv_iload_n hx hb dX6_go_21 rfl (lv_at hl 2 rfl) ?_
      refine lv_aload_n hx hb dX6_go_22 rfl (lv_at hl 0 rfl) ?_
      refine va_get (D := (dC, dI)) (ci := 6) (v := .ref hs) (C := RX6) (T := TX6) (N := 7) hx hb hts hiX6 hown hK hP 0 rfl rfl 1 (by decide) (hts (.fieldLink RX6 19 "LeftProfile" "scene" "LLeftProfile$Scene;") (List.mem_of_getElem? (i := 2) rfl)) (fun _ h9 => h9) rfl dX6_go_23 ?_
      refine vp_callSi (cz_run (va_runV (As := []) (rest := [.int p1]) ⟨hx, hb, hml, hown, hts⟩ (c_X4_taken l dC dI cI cB hs hh hc si w0 w1 w2 a0 a1 k0 k1 k2 k3 k4 k5 g2 hk6) (cwV 0 hts gX6_go_X4_taken rfl rfl rfl (by decide +kernel) ⟨Nat.le_of_ble_eq_true rfl, Nat.le_of_ble_eq_true rfl⟩) (cz_pV (hP.sub (ws' := [(hs, .inr (4, [.ref hh, .ref hc, .ref si])), (hh, .inr (1, [.int w0, .int w1, .int w2])), (hc, .inr (0, [.int a0, .int a1, .int (nI k0), .ref k1, .ref k2, .ref k3, .ref k4, .ref k5])), (k2, .inl (cI, 6, .inl g2))]) [1, 2, 3, 4] rfl) hN (va_recv hK (hP.sub (ws' := [(hs, .inr (4, [.ref hh, .ref hc, .ref si])), (hh, .inr (1, [.int w0, .int w1, .int w2])), (hc, .inr (0, [.int a0, .int a1, .int (nI k0), .ref k1, .ref k2, .ref k3, .ref k4, .ref k5])), (k2, .inl (cI, 6, .inl g2))]) [1, 2, 3, 4] rfl) (ci := 4) (q0 := 0) rfl rfl)) rfl rfl hl.1 rfl (lv_room (Nat.le_of_ble_eq_true rfl)) dX6_go_26 ⟨Nat.le_of_ble_eq_true rfl, Nat.le_of_ble_eq_true rfl⟩)) (fun r_4 hr_4 => ?_)
      refine vp_callSi (cz_run (va_runS (As := [.int p1, .int r_4]) (rest := []) ⟨hx, hb, hml, hown, hts⟩ (c_X6_isOpen l dC dI cI cB p1 r_4 ) (va_cwS 2 hts gX6_go_X6_isOpen rfl rfl rfl (by decide +kernel) ⟨Nat.le_of_ble_eq_true rfl, Nat.le_of_ble_eq_true rfl⟩) (cz_pS (hP.sub (ws' := []) [] rfl) hN) rfl rfl hl.1 rfl (lv_room (Nat.le_of_ble_eq_true rfl)) dX6_go_29 ⟨Nat.le_of_ble_eq_true rfl, Nat.le_of_ble_eq_true rfl⟩)) (fun r_5 hr_5 => ?_)
      refine lv_if_ne (tgt := 38) hx hb dX6_go_32 (by decide) (fun c_6 => ?_) (fun c_6 => ?_)
      · refine lv_aload_n hx hb dX6_go_38 rfl (lv_at hl 0 rfl) ?_
        refine va_get (D := (dC, dI)) (ci := 6) (v := .ref hc) (C := RX6) (T := TX6) (N := 7) hx hb hts hiX6 hown hK hP 0 rfl rfl 3 (by decide) (hts (.fieldLink RX6 32 "LeftProfile" "court" "LLeftProfile$Court;") (List.mem_of_getElem? (i := 1) rfl)) (fun _ h9 => h9) rfl dX6_go_39 ?_
        refine va_get (D := (dC, dI)) (ci := 0) (v := .ref k2) (C := RX0) (T := TX0) (N := 8) hx hb hts hiX0 hown hK hP 3 rfl rfl 4 (by decide) (hts (.fieldLink RX6 123 "LeftProfile$Court" "places" "[I") (List.mem_of_getElem? (i := 3) rfl)) (fun _ h9 => h9) rfl dX6_go_42 ?_
        refine lv_iload_n hx hb dX6_go_45 rfl (lv_at hl 1 rfl) ?_
        refine va_iald hx hb hK hP 4 0 rfl rfl (vp_in_nI (n := j_2) (by omega) (by omega)) dX6_go_46 ?_
        refine cz_i (y := (g2 j_2)) (congrArg g2 (nI_clamp (n := j_2) (by omega))) ?_
        refine lv_istore_n (lv' := [(3, .int (g2 j_2)), (0, .ref h0), (1, .int (nI j_2)), (2, .int p1)]) hx hb dX6_go_47 rfl hl (by decide) rfl (fun ls hl => ?_)
        refine lv_aload_n hx hb dX6_go_48 rfl (lv_at hl 1 rfl) ?_
        refine va_get (D := (dC, dI)) (ci := 6) (v := .ref hc) (C := RX6) (T := TX6) (N := 7) hx hb hts hiX6 hown hK hP 0 rfl rfl 3 (by decide) (hts (.fieldLink RX6 32 "LeftProfile" "court" "LLeftProfile$Court;") (List.mem_of_getElem? (i := 1) rfl)) (fun _ h9 => h9) rfl dX6_go_49 ?_
        refine va_get (D := (dC, dI)) (ci := 0) (v := .ref k2) (C := RX0) (T := TX0) (N := 8) hx hb hts hiX0 hown hK hP 3 rfl rfl 4 (by decide) (hts (.fieldLink RX6 123 "LeftProfile$Court" "places" "[I") (List.mem_of_getElem? (i := 3) rfl)) (fun _ h9 => h9) rfl dX6_go_52 ?_
        refine lv_iload_n hx hb dX6_go_55 rfl (lv_at hl 2 rfl) ?_
        refine lv_iload_n hx hb dX6_go_56 rfl (lv_at hl 3 rfl) ?_
        refine va_iast hx hb hK hP hD hS 4 0 rfl rfl (vp_in_nI (n := j_2) (by omega) (by omega)) dX6_go_57 (fun H locs hP hD hS => ?_)
        rw [show (nI j_2).toNatClampNeg = j_2 from nI_clamp (n := j_2) (by omega)] at hP hD
        have hP : va_P (dC, dI) vwCl [(h0, .inr (6, [.ref hp, .ref hs, .ref hh, .ref hc, .ref kp, .ref rt, .int kr])), (hs, .inr (4, [.ref hh, .ref hc, .ref si])), (hh, .inr (1, [.int w0, .int w1, .int w2])), (hc, .inr (0, [.int a0, .int a1, .int (nI k0), .ref k1, .ref k2, .ref k3, .ref k4, .ref k5])), (k2, .inl (cI, 6, .inl (upd g2 j_2 p1)))] H := hP
        have hD : va_D A [(h0, .inr (6, [.ref hp, .ref hs, .ref hh, .ref hc, .ref kp, .ref rt, .int kr])), (hs, .inr (4, [.ref hh, .ref hc, .ref si])), (hh, .inr (1, [.int w0, .int w1, .int w2])), (hc, .inr (0, [.int a0, .int a1, .int (nI k0), .ref k1, .ref k2, .ref k3, .ref k4, .ref k5])), (k2, .inl (cI, 6, .inl (upd g2 j_2 p1)))] := hD
        refine lv_iload_n hx hb dX6_go_58 rfl (lv_at hl 0 rfl) ?_
        refine W.widen (k := 0) (n := 0) (Nat.le_of_ble_eq_true rfl) (Nat.le_of_ble_eq_true rfl) ?_
        have hP9 := hP.sub (ws' := [(h0, .inr (6, [.ref hp, .ref hs, .ref hh, .ref hc, .ref kp, .ref rt, .int kr])), (hs, .inr (4, [.ref hh, .ref hc, .ref si])), (hh, .inr (1, [.int w0, .int w1, .int w2])), (hc, .inr (0, [.int a0, .int a1, .int (nI k0), .ref k1, .ref k2, .ref k3, .ref k4, .ref k5])), (k2, .inl (cI, 6, .inl (upd g2 j_2 p1)))]) [0, 1, 2, 3, 4] rfl
        have hD9 := hD.sub (ws' := [(h0, .inr (6, [.ref hp, .ref hs, .ref hh, .ref hc, .ref kp, .ref rt, .int kr])), (hs, .inr (4, [.ref hh, .ref hc, .ref si])), (hh, .inr (1, [.int w0, .int w1, .int w2])), (hc, .inr (0, [.int a0, .int a1, .int (nI k0), .ref k1, .ref k2, .ref k3, .ref k4, .ref k5])), (k2, .inl (cI, 6, .inl (upd g2 j_2 p1)))]) [0, 1, 2, 3, 4] (by decide) rfl
        rw [hQ]; exact W.iret (v := (g2 j_2)) hx hb hr (fun t ht hW => ⟨⟨(g2 j_2), (), rfl, trivial, ⟨(upd g2 j_2 p1), by rw [ht]; exact hP9, hD9⟩⟩, hS.F ht⟩) hS.2.2 dX6_go_59
      · refine lv_bipush (v := (-103)) hx hb dX6_go_35 (by decide) ?_
        refine W.widen (k := 0) (n := 0) (Nat.le_of_ble_eq_true rfl) (Nat.le_of_ble_eq_true rfl) ?_
        have hP9 := hP.sub (ws' := [(h0, .inr (6, [.ref hp, .ref hs, .ref hh, .ref hc, .ref kp, .ref rt, .int kr])), (hs, .inr (4, [.ref hh, .ref hc, .ref si])), (hh, .inr (1, [.int w0, .int w1, .int w2])), (hc, .inr (0, [.int a0, .int a1, .int (nI k0), .ref k1, .ref k2, .ref k3, .ref k4, .ref k5])), (k2, .inl (cI, 6, .inl g2))]) [0, 1, 2, 3, 4] rfl
        have hD9 := hD.sub (ws' := [(h0, .inr (6, [.ref hp, .ref hs, .ref hh, .ref hc, .ref kp, .ref rt, .int kr])), (hs, .inr (4, [.ref hh, .ref hc, .ref si])), (hh, .inr (1, [.int w0, .int w1, .int w2])), (hc, .inr (0, [.int a0, .int a1, .int (nI k0), .ref k1, .ref k2, .ref k3, .ref k4, .ref k5])), (k2, .inl (cI, 6, .inl g2))]) [0, 1, 2, 3, 4] (by decide) rfl
        rw [hQ]; exact W.iret (v := (-103)) hx hb hr (fun t ht hW => ⟨⟨(-103), (), rfl, trivial, ⟨g2, by rw [ht]; exact hP9, hD9⟩⟩, hS.F ht⟩) hS.2.2 dX6_go_37

set_option maxHeartbeats 4000000 in
set_option maxRecDepth 100000 in
theorem c_X6_act (l : Launch) (dC : Nat → ClassId) (dI : Nat → Nat → Nat) (cI cB : ClassId) (tR tC : Nat) (h0 : Nat) (p0 : Int32) (hp : Nat) (hs : Nat) (hh : Nat) (hc : Nat) (kp : Nat) (rt : Nat) (kr : Int32) (si : Nat) (w0 : Int32) (w1 : Int32) (w2 : Int32) (a0 : Int32) (a1 : Int32) (k0 : Nat) (k1 : Nat) (k2 : Nat) (k3 : Nat) (k4 : Nat) (k5 : Nat) (g1 : Nat → Int32) (g2 : Nat → Int32) (g3 : Nat → Int32) (g4 : Nat → Int32) (tw : Nat) (tb : Nat) (ft : Nat → Int32) (fb : Nat → Int32) (sz : Nat) (hk6 : k0 ≤ 6) : Met l yX6_act wsX6_act ({ frames := 5, cells := 0, slots := 0, locals := 123 }) (cz_PmT dC dI cI cB tR tC [.ref h0, .int p0] [(h0, .inr (6, [.ref hp, .ref hs, .ref hh, .ref hc, .ref kp, .ref rt, .int kr])), (hs, .inr (4, [.ref hh, .ref hc, .ref si])), (hh, .inr (1, [.int w0, .int w1, .int w2])), (hc, .inr (0, [.int a0, .int a1, .int (nI k0), .ref k1, .ref k2, .ref k3, .ref k4, .ref k5])), (k1, .inl (cI, 6, .inl g1)), (k2, .inl (cI, 6, .inl g2)), (k3, .inl (cI, 6, .inl g3)), (k4, .inl (cI, 6, .inl g4)), (si, .inr (5, [.ref tw, .ref tb])), (tw, .inl (cI, 400, .inl ft)), (tb, .inl (cI, 400, .inl fb))] sz) (va_Qi (fun (r : Int32) (_ : Unit) => True) (fun _ t => ∃ (s0 : Int32) (s1 : Int32) (t3 : Nat → Int32) (t4 : Nat → Int32), va_P (dC, dI) vwCl [(h0, .inr (6, [.ref hp, .ref hs, .ref hh, .ref hc, .ref kp, .ref rt, .int kr])), (hs, .inr (4, [.ref hh, .ref hc, .ref si])), (hh, .inr (1, [.int w0, .int w1, .int w2])), (hc, .inr (0, [.int s0, .int s1, .int (nI k0), .ref k1, .ref k2, .ref k3, .ref k4, .ref k5])), (k1, .inl (cI, 6, .inl g1)), (k2, .inl (cI, 6, .inl g2)), (k3, .inl (cI, 6, .inl t3)), (k4, .inl (cI, 6, .inl t4)), (si, .inr (5, [.ref tw, .ref tb])), (tw, .inl (cI, 400, .inl ft)), (tb, .inl (cI, 400, .inl fb))] t.heap ∧ va_D (va_A [(h0, .inr (6, [.ref hp, .ref hs, .ref hh, .ref hc, .ref kp, .ref rt, .int kr])), (hs, .inr (4, [.ref hh, .ref hc, .ref si])), (hh, .inr (1, [.int w0, .int w1, .int w2])), (hc, .inr (0, [.int a0, .int a1, .int (nI k0), .ref k1, .ref k2, .ref k3, .ref k4, .ref k5])), (k1, .inl (cI, 6, .inl g1)), (k2, .inl (cI, 6, .inl g2)), (k3, .inl (cI, 6, .inl g3)), (k4, .inl (cI, 6, .inl g4)), (si, .inr (5, [.ref tw, .ref tb])), (tw, .inl (cI, 400, .inl ft)), (tb, .inl (cI, 400, .inl fb))] sz) [(h0, .inr (6, [.ref hp, .ref hs, .ref hh, .ref hc, .ref kp, .ref rt, .int kr])), (hs, .inr (4, [.ref hh, .ref hc, .ref si])), (hh, .inr (1, [.int w0, .int w1, .int w2])), (hc, .inr (0, [.int s0, .int s1, .int (nI k0), .ref k1, .ref k2, .ref k3, .ref k4, .ref k5])), (k1, .inl (cI, 6, .inl g1)), (k2, .inl (cI, 6, .inl g2)), (k3, .inl (cI, 6, .inl t3)), (k4, .inl (cI, 6, .inl t4)), (si, .inr (5, [.ref tw, .ref tb])), (tw, .inl (cI, 400, .inl ft)), (tb, .inl (cI, 400, .inl fb))]) (va_A [(h0, .inr (6, [.ref hp, .ref hs, .ref hh, .ref hc, .ref kp, .ref rt, .int kr])), (hs, .inr (4, [.ref hh, .ref hc, .ref si])), (hh, .inr (1, [.int w0, .int w1, .int w2])), (hc, .inr (0, [.int a0, .int a1, .int (nI k0), .ref k1, .ref k2, .ref k3, .ref k4, .ref k5])), (k1, .inl (cI, 6, .inl g1)), (k2, .inl (cI, 6, .inl g2)), (k3, .inl (cI, 6, .inl g3)), (k4, .inl (cI, 6, .inl g4)), (si, .inr (5, [.ref tw, .ref tb])), (tw, .inl (cI, 400, .inl ft)), (tb, .inl (cI, 400, .inl fb))] sz)) 0 0 (va_A [(h0, .inr (6, [.ref hp, .ref hs, .ref hh, .ref hc, .ref kp, .ref rt, .int kr])), (hs, .inr (4, [.ref hh, .ref hc, .ref si])), (hh, .inr (1, [.int w0, .int w1, .int w2])), (hc, .inr (0, [.int a0, .int a1, .int (nI k0), .ref k1, .ref k2, .ref k3, .ref k4, .ref k5])), (k1, .inl (cI, 6, .inl g1)), (k2, .inl (cI, 6, .inl g2)), (k3, .inl (cI, 6, .inl g3)), (k4, .inl (cI, 6, .inl g4)), (si, .inr (5, [.ref tw, .ref tb])), (tw, .inl (cI, 400, .inl ft)), (tb, .inl (cI, 400, .inl fb))] sz) := by
  refine cz_of (cc := cX6_act) (maxL := 3) (ret := (some .int)) (by decide) rfl ?_
  intro p e s m args below meth c s₁ Q B hml hv hQ
  obtain ⟨rfl, hsz, hP, hN, hD0, hSt⟩ := hv
  have hx := B.exec
  have hb := B.bytes
  have hr := B.returns
  have hts := atoms_spec (ws := wsX6_act) B.pre
  have hown : s.vm.findClass RX6 = some m.cls := findClass_of_methodNamed B.named
  have hlocks := B.notSynchronized
  have hK := hN.1
  have hiX0 : ∀ w ∈ wsX00, w ∈ wsX6_act := (fun _ h => List.mem_cons_of_mem _ (List.mem_append_left _ (List.mem_append_left _ (List.mem_append_left _ (List.mem_append_right _ h)))))
  have hiX1 : ∀ w ∈ wsX10, w ∈ wsX6_act := (fun _ h => List.mem_cons_of_mem _ (List.mem_append_left _ (List.mem_append_left _ (List.mem_append_right _ h))))
  have hiX6 : ∀ w ∈ wsX60, w ∈ wsX6_act := (fun _ h => List.mem_cons_of_mem _ (List.mem_append_left _ (List.mem_append_left _ (List.mem_append_left _ (List.mem_append_left _ (List.mem_append_right _ h))))))
  subst hsz
  have hD := hD0.self (sz := s.heap.size)
  generalize hAe : va_A [(h0, .inr (6, [.ref hp, .ref hs, .ref hh, .ref hc, .ref kp, .ref rt, .int kr])), (hs, .inr (4, [.ref hh, .ref hc, .ref si])), (hh, .inr (1, [.int w0, .int w1, .int w2])), (hc, .inr (0, [.int a0, .int a1, .int (nI k0), .ref k1, .ref k2, .ref k3, .ref k4, .ref k5])), (k1, .inl (cI, 6, .inl g1)), (k2, .inl (cI, 6, .inl g2)), (k3, .inl (cI, 6, .inl g3)), (k4, .inl (cI, 6, .inl g4)), (si, .inr (5, [.ref tw, .ref tb])), (tw, .inl (cI, 400, .inl ft)), (tb, .inl (cI, 400, .inl fb))] s.heap.size = A at hD hSt hQ ⊢
  have hA : ∀ q : Nat, s.heap.size ≤ q → A q := fun q h => by rw [← hAe]; exact Or.inr h
  have hS : va_S A s.heap s.heap [] := va_S.rf
  obtain ⟨H, eH⟩ : ∃ H, H = s.heap := ⟨_, rfl⟩
  have hP : va_P (dC, dI) vwCl [(h0, .inr (6, [.ref hp, .ref hs, .ref hh, .ref hc, .ref kp, .ref rt, .int kr])), (hs, .inr (4, [.ref hh, .ref hc, .ref si])), (hh, .inr (1, [.int w0, .int w1, .int w2])), (hc, .inr (0, [.int a0, .int a1, .int (nI k0), .ref k1, .ref k2, .ref k3, .ref k4, .ref k5])), (k1, .inl (cI, 6, .inl g1)), (k2, .inl (cI, 6, .inl g2)), (k3, .inl (cI, 6, .inl g3)), (k4, .inl (cI, 6, .inl g4)), (si, .inr (5, [.ref tw, .ref tb])), (tw, .inl (cI, 400, .inl ft)), (tb, .inl (cI, 400, .inl fb))] s.heap := hP
  have hl := lv_entry ([.ref h0, .int p0]) (n := 3) (Nat.le_of_ble_eq_true rfl)
  rw [lg_entry_eq]
  generalize (lg_sl ([.ref h0, .int p0]) ++ List.replicate (3 - (lg_sl ([.ref h0, .int p0])).length) Slot.unset).toArray = ls at hl ⊢
  have hl : lv_has ls 3 [(0, .ref h0), (1, .int p0)] := hl
  refine lv_iload_n hx hb dX6_act_0 rfl (lv_at hl 1 rfl) ?_
  refine lv_if_lt (tgt := 9) hx hb dX6_act_1 (by decide) (fun c_1 => ?_) (fun c_1 => ?_)
  · refine lv_bipush (v := (-102)) hx hb dX6_act_9 (by decide) ?_
    refine W.widen (k := 0) (n := 0) (Nat.le_of_ble_eq_true rfl) (Nat.le_of_ble_eq_true rfl) ?_
    have hP9 := hP.sub (ws' := [(h0, .inr (6, [.ref hp, .ref hs, .ref hh, .ref hc, .ref kp, .ref rt, .int kr])), (hs, .inr (4, [.ref hh, .ref hc, .ref si])), (hh, .inr (1, [.int w0, .int w1, .int w2])), (hc, .inr (0, [.int a0, .int a1, .int (nI k0), .ref k1, .ref k2, .ref k3, .ref k4, .ref k5])), (k1, .inl (cI, 6, .inl g1)), (k2, .inl (cI, 6, .inl g2)), (k3, .inl (cI, 6, .inl g3)), (k4, .inl (cI, 6, .inl g4)), (si, .inr (5, [.ref tw, .ref tb])), (tw, .inl (cI, 400, .inl ft)), (tb, .inl (cI, 400, .inl fb))]) [0, 1, 2, 3, 4, 5, 6, 7, 8, 9, 10] rfl
    have hD9 := hD.sub (ws' := [(h0, .inr (6, [.ref hp, .ref hs, .ref hh, .ref hc, .ref kp, .ref rt, .int kr])), (hs, .inr (4, [.ref hh, .ref hc, .ref si])), (hh, .inr (1, [.int w0, .int w1, .int w2])), (hc, .inr (0, [.int a0, .int a1, .int (nI k0), .ref k1, .ref k2, .ref k3, .ref k4, .ref k5])), (k1, .inl (cI, 6, .inl g1)), (k2, .inl (cI, 6, .inl g2)), (k3, .inl (cI, 6, .inl g3)), (k4, .inl (cI, 6, .inl g4)), (si, .inr (5, [.ref tw, .ref tb])), (tw, .inl (cI, 400, .inl ft)), (tb, .inl (cI, 400, .inl fb))]) [0, 1, 2, 3, 4, 5, 6, 7, 8, 9, 10] (by decide) rfl
    rw [hQ]; exact W.iret (v := (-102)) hx hb hr (fun t ht hW => ⟨⟨(-102), (), rfl, trivial, ⟨a0, a1, g3, g4, by rw [ht]; exact hP9, hD9⟩⟩, hS.F ht⟩) hS.2.2 dX6_act_11
  · refine lv_iload_n hx hb dX6_act_4 rfl (lv_at hl 1 rfl) ?_
    refine lv_iconst (v := 3) hx hb dX6_act_5 (by decide) ?_
    refine lv_icmp_lt (tgt := 12) hx hb dX6_act_6 (by decide) (fun c_2 => ?_) (fun c_2 => ?_)
    · refine lv_aload_n hx hb dX6_act_12 rfl (lv_at hl 0 rfl) ?_
      refine va_get (D := (dC, dI)) (ci := 6) (v := .ref hs) (C := RX6) (T := TX6) (N := 7) hx hb hts hiX6 hown hK hP 0 rfl rfl 1 (by decide) (hts (.fieldLink RX6 19 "LeftProfile" "scene" "LLeftProfile$Scene;") (List.mem_of_getElem? (i := 1) rfl)) (fun _ h9 => h9) rfl dX6_act_13 ?_
      refine lv_aload_n hx hb dX6_act_16 rfl (lv_at hl 0 rfl) ?_
      refine va_get (D := (dC, dI)) (ci := 6) (v := .ref hc) (C := RX6) (T := TX6) (N := 7) hx hb hts hiX6 hown hK hP 0 rfl rfl 3 (by decide) (hts (.fieldLink RX6 32 "LeftProfile" "court" "LLeftProfile$Court;") (List.mem_of_getElem? (i := 2) rfl)) (fun _ h9 => h9) rfl dX6_act_17 ?_
      refine va_get (D := (dC, dI)) (ci := 0) (v := .int a0) (C := RX0) (T := TX0) (N := 8) hx hb hts hiX0 hown hK hP 3 rfl rfl 0 (by decide) (hts (.fieldLink RX6 91 "LeftProfile$Court" "stance" "I") (List.mem_of_getElem? (i := 3) rfl)) (fun _ h9 => h9) rfl dX6_act_20 ?_
      refine lv_iload_n hx hb dX6_act_23 rfl (lv_at hl 1 rfl) ?_
      refine vp_callSi (cz_run (va_runV (As := [.int a0, .int p0]) (rest := []) ⟨hx, hb, hml, hown, hts⟩ (c_X4_after l dC dI cI cB tR tC hs a0 p0 hh hc si w0 w1 w2 a0 a1 k0 k1 k2 k3 k4 k5 g2 hk6) (cwV 2 hts gX6_act_X4_after rfl rfl rfl (by decide +kernel) ⟨Nat.le_of_ble_eq_true rfl, Nat.le_of_ble_eq_true rfl⟩) (cz_pVT (hP.sub (ws' := [(hs, .inr (4, [.ref hh, .ref hc, .ref si])), (hh, .inr (1, [.int w0, .int w1, .int w2])), (hc, .inr (0, [.int a0, .int a1, .int (nI k0), .ref k1, .ref k2, .ref k3, .ref k4, .ref k5])), (k2, .inl (cI, 6, .inl g2))]) [1, 2, 3, 5] rfl) hN (hSt.pass hS) (va_recv hK (hP.sub (ws' := [(hs, .inr (4, [.ref hh, .ref hc, .ref si])), (hh, .inr (1, [.int w0, .int w1, .int w2])), (hc, .inr (0, [.int a0, .int a1, .int (nI k0), .ref k1, .ref k2, .ref k3, .ref k4, .ref k5])), (k2, .inl (cI, 6, .inl g2))]) [1, 2, 3, 5] rfl) (ci := 4) (q0 := 0) rfl rfl)) rfl rfl hl.1 rfl (lv_room (Nat.le_of_ble_eq_true rfl)) dX6_act_24 ⟨Nat.le_of_ble_eq_true rfl, Nat.le_of_ble_eq_true rfl⟩)) (fun r_3 hr_3 => ?_)
      refine lv_istore_n (lv' := [(2, .int r_3), (0, .ref h0), (1, .int p0)]) hx hb dX6_act_27 rfl hl (by decide) rfl (fun ls hl => ?_)
      refine lv_iload_n hx hb dX6_act_28 rfl (lv_at hl 0 rfl) ?_
      refine lv_iconst (v := (-1)) hx hb dX6_act_29 (by decide) ?_
      refine lv_icmp_ne (tgt := 36) hx hb dX6_act_30 (by decide) (fun c_4 => ?_) (fun c_4 => ?_)
      · refine lv_aload_n hx hb dX6_act_36 rfl (lv_at hl 1 rfl) ?_
        refine va_get (D := (dC, dI)) (ci := 6) (v := .ref hc) (C := RX6) (T := TX6) (N := 7) hx hb hts hiX6 hown hK hP 0 rfl rfl 3 (by decide) (hts (.fieldLink RX6 32 "LeftProfile" "court" "LLeftProfile$Court;") (List.mem_of_getElem? (i := 2) rfl)) (fun _ h9 => h9) rfl dX6_act_37 ?_
        refine lv_iload_n hx hb dX6_act_40 rfl (lv_at hl 0 rfl) ?_
        refine va_put (D := (dC, dI)) (ci := 0) (v := .int r_3) (ty := .int) (C := RX0) (T := TX0) (N := 8) hx hb hts hiX0 tyX0 tyX0_ok nmX0 hown hK hP hD hS 3 rfl rfl 0 (by decide) (hts (.fieldLink RX6 91 "LeftProfile$Court" "stance" "I") (List.mem_of_getElem? (i := 3) rfl)) (fun _ h9 => h9) rfl (by decide +kernel) rfl rfl (Nat.le_of_ble_eq_true rfl) dX6_act_41 (fun H locs hP hD hS => ?_)
        have hP : va_P (dC, dI) vwCl [(h0, .inr (6, [.ref hp, .ref hs, .ref hh, .ref hc, .ref kp, .ref rt, .int kr])), (hs, .inr (4, [.ref hh, .ref hc, .ref si])), (hh, .inr (1, [.int w0, .int w1, .int w2])), (hc, .inr (0, [.int r_3, .int a1, .int (nI k0), .ref k1, .ref k2, .ref k3, .ref k4, .ref k5])), (k1, .inl (cI, 6, .inl g1)), (k2, .inl (cI, 6, .inl g2)), (k3, .inl (cI, 6, .inl g3)), (k4, .inl (cI, 6, .inl g4)), (si, .inr (5, [.ref tw, .ref tb])), (tw, .inl (cI, 400, .inl ft)), (tb, .inl (cI, 400, .inl fb))] H := hP
        have hD : va_D A [(h0, .inr (6, [.ref hp, .ref hs, .ref hh, .ref hc, .ref kp, .ref rt, .int kr])), (hs, .inr (4, [.ref hh, .ref hc, .ref si])), (hh, .inr (1, [.int w0, .int w1, .int w2])), (hc, .inr (0, [.int r_3, .int a1, .int (nI k0), .ref k1, .ref k2, .ref k3, .ref k4, .ref k5])), (k1, .inl (cI, 6, .inl g1)), (k2, .inl (cI, 6, .inl g2)), (k3, .inl (cI, 6, .inl g3)), (k4, .inl (cI, 6, .inl g4)), (si, .inr (5, [.ref tw, .ref tb])), (tw, .inl (cI, 400, .inl ft)), (tb, .inl (cI, 400, .inl fb))] := hD
        refine lv_aload_n hx hb dX6_act_44 rfl (lv_at hl 1 rfl) ?_
        refine va_get (D := (dC, dI)) (ci := 6) (v := .ref hc) (C := RX6) (T := TX6) (N := 7) hx hb hts hiX6 hown hK hP 0 rfl rfl 3 (by decide) (hts (.fieldLink RX6 32 "LeftProfile" "court" "LLeftProfile$Court;") (List.mem_of_getElem? (i := 2) rfl)) (fun _ h9 => h9) rfl dX6_act_45 ?_
        refine lv_dup hx hb dX6_act_48 rfl ?_
        refine va_get (D := (dC, dI)) (ci := 0) (v := .int a1) (C := RX0) (T := TX0) (N := 8) hx hb hts hiX0 hown hK hP 3 rfl rfl 1 (by decide) (hts (.fieldLink RX6 147 "LeftProfile$Court" "acts" "I") (List.mem_of_getElem? (i := 4) rfl)) (fun _ h9 => h9) rfl dX6_act_49 ?_
        refine lv_iconst (v := 1) hx hb dX6_act_52 (by decide) ?_
        refine lv_iadd hx hb dX6_act_53 ?_
        refine lv_topi (fun x_5 ex_5 => ?_)
        refine va_put (D := (dC, dI)) (ci := 0) (v := .int x_5) (ty := .int) (C := RX0) (T := TX0) (N := 8) hx hb hts hiX0 tyX0 tyX0_ok nmX0 hown hK hP hD hS 3 rfl rfl 1 (by decide) (hts (.fieldLink RX6 147 "LeftProfile$Court" "acts" "I") (List.mem_of_getElem? (i := 4) rfl)) (fun _ h9 => h9) rfl (by decide +kernel) rfl rfl (Nat.le_of_ble_eq_true rfl) dX6_act_54 (fun H locs hP hD hS => ?_)
        have hP : va_P (dC, dI) vwCl [(h0, .inr (6, [.ref hp, .ref hs, .ref hh, .ref hc, .ref kp, .ref rt, .int kr])), (hs, .inr (4, [.ref hh, .ref hc, .ref si])), (hh, .inr (1, [.int w0, .int w1, .int w2])), (hc, .inr (0, [.int r_3, .int x_5, .int (nI k0), .ref k1, .ref k2, .ref k3, .ref k4, .ref k5])), (k1, .inl (cI, 6, .inl g1)), (k2, .inl (cI, 6, .inl g2)), (k3, .inl (cI, 6, .inl g3)), (k4, .inl (cI, 6, .inl g4)), (si, .inr (5, [.ref tw, .ref tb])), (tw, .inl (cI, 400, .inl ft)), (tb, .inl (cI, 400, .inl fb))] H := hP
        have hD : va_D A [(h0, .inr (6, [.ref hp, .ref hs, .ref hh, .ref hc, .ref kp, .ref rt, .int kr])), (hs, .inr (4, [.ref hh, .ref hc, .ref si])), (hh, .inr (1, [.int w0, .int w1, .int w2])), (hc, .inr (0, [.int r_3, .int x_5, .int (nI k0), .ref k1, .ref k2, .ref k3, .ref k4, .ref k5])), (k1, .inl (cI, 6, .inl g1)), (k2, .inl (cI, 6, .inl g2)), (k3, .inl (cI, 6, .inl g3)), (k4, .inl (cI, 6, .inl g4)), (si, .inr (5, [.ref tw, .ref tb])), (tw, .inl (cI, 400, .inl ft)), (tb, .inl (cI, 400, .inl fb))] := hD
        refine lv_aload_n hx hb dX6_act_57 rfl (lv_at hl 1 rfl) ?_
        refine va_get (D := (dC, dI)) (ci := 6) (v := .ref hs) (C := RX6) (T := TX6) (N := 7) hx hb hts hiX6 hown hK hP 0 rfl rfl 1 (by decide) (hts (.fieldLink RX6 19 "LeftProfile" "scene" "LLeftProfile$Scene;") (List.mem_of_getElem? (i := 1) rfl)) (fun _ h9 => h9) rfl dX6_act_58 ?_
        have hPc := hP.sub (ws' := [(hs, .inr (4, [.ref hh, .ref hc, .ref si])), (hh, .inr (1, [.int w0, .int w1, .int w2])), (hc, .inr (0, [.int r_3, .int x_5, .int (nI k0), .ref k1, .ref k2, .ref k3, .ref k4, .ref k5])), (k1, .inl (cI, 6, .inl g1)), (k2, .inl (cI, 6, .inl g2)), (si, .inr (5, [.ref tw, .ref tb])), (tw, .inl (cI, 400, .inl ft)), (tb, .inl (cI, 400, .inl fb)), (k3, .inl (cI, 6, .inl g3)), (k4, .inl (cI, 6, .inl g4))]) [1, 2, 3, 4, 5, 8, 9, 10, 6, 7] rfl
        have hDc := hD.sub (ws' := [(hs, .inr (4, [.ref hh, .ref hc, .ref si])), (hh, .inr (1, [.int w0, .int w1, .int w2])), (hc, .inr (0, [.int r_3, .int x_5, .int (nI k0), .ref k1, .ref k2, .ref k3, .ref k4, .ref k5])), (k1, .inl (cI, 6, .inl g1)), (k2, .inl (cI, 6, .inl g2)), (si, .inr (5, [.ref tw, .ref tb])), (tw, .inl (cI, 400, .inl ft)), (tb, .inl (cI, 400, .inl fb)), (k3, .inl (cI, 6, .inl g3)), (k4, .inl (cI, 6, .inl g4))]) [1, 2, 3, 4, 5, 8, 9, 10, 6, 7] (by decide) rfl
        have hFc := va_free (wc := [(hs, .inr (4, [.ref hh, .ref hc, .ref si])), (hh, .inr (1, [.int w0, .int w1, .int w2])), (hc, .inr (0, [.int r_3, .int x_5, .int (nI k0), .ref k1, .ref k2, .ref k3, .ref k4, .ref k5])), (k1, .inl (cI, 6, .inl g1)), (k2, .inl (cI, 6, .inl g2)), (si, .inr (5, [.ref tw, .ref tb])), (tw, .inl (cI, 400, .inl ft)), (tb, .inl (cI, 400, .inl fb)), (k3, .inl (cI, 6, .inl g3)), (k4, .inl (cI, 6, .inl g4))]) hD hS hA [1, 2, 3, 4, 5, 8, 9, 10, 6, 7] rfl
        refine va_callv (va_runV (As := []) (rest := []) ⟨hx, hb, hml, hown, hts⟩ (c_X4_everybodyLooks l dC dI cI cB hs hh hc si w0 w1 w2 r_3 x_5 k0 k1 k2 k3 k4 k5 g1 g2 tw tb ft fb g3 g4 H.size hk6) (cwV 0 hts gX6_act_X4_everybodyLooks rfl rfl rfl (by decide +kernel) ⟨Nat.le_of_ble_eq_true rfl, Nat.le_of_ble_eq_true rfl⟩) (cz_mV hPc hN hDc (va_recv hK hPc (ci := 4) (q0 := 0) rfl rfl)) rfl rfl hl.1 rfl (lv_room (Nat.le_of_ble_eq_true rfl)) dX6_act_61 ⟨Nat.le_of_ble_eq_true rfl, Nat.le_of_ble_eq_true rfl⟩) hS (fun q _ h => hFc q h) hFc (fun u t H1 locs ht hvm hr_6 hB hz1 hk1 hS => ?_)
        obtain ⟨f_7, f_8, hP1, hD1⟩ := hB
        rw [ht] at hP1
        obtain ⟨hP, hD⟩ := va_join (wr := [(h0, .inr (6, [.ref hp, .ref hs, .ref hh, .ref hc, .ref kp, .ref rt, .int kr]))]) (w1 := [(hs, .inr (4, [.ref hh, .ref hc, .ref si])), (hh, .inr (1, [.int w0, .int w1, .int w2])), (hc, .inr (0, [.int r_3, .int x_5, .int (nI k0), .ref k1, .ref k2, .ref k3, .ref k4, .ref k5])), (k1, .inl (cI, 6, .inl g1)), (k2, .inl (cI, 6, .inl g2)), (si, .inr (5, [.ref tw, .ref tb])), (tw, .inl (cI, 400, .inl ft)), (tb, .inl (cI, 400, .inl fb)), (k3, .inl (cI, 6, .inl f_7)), (k4, .inl (cI, 6, .inl f_8))]) hP hD [1, 2, 3, 4, 5, 8, 9, 10, 6, 7] [0] rfl rfl (by decide) (by decide) hk1 hFc hP1 hD1
        generalize H1 = H at hP hS ⊢
        have hP : va_P (dC, dI) vwCl [(h0, .inr (6, [.ref hp, .ref hs, .ref hh, .ref hc, .ref kp, .ref rt, .int kr])), (hs, .inr (4, [.ref hh, .ref hc, .ref si])), (hh, .inr (1, [.int w0, .int w1, .int w2])), (hc, .inr (0, [.int r_3, .int x_5, .int (nI k0), .ref k1, .ref k2, .ref k3, .ref k4, .ref k5])), (k1, .inl (cI, 6, .inl g1)), (k2, .inl (cI, 6, .inl g2)), (si, .inr (5, [.ref tw, .ref tb])), (tw, .inl (cI, 400, .inl ft)), (tb, .inl (cI, 400, .inl fb)), (k3, .inl (cI, 6, .inl f_7)), (k4, .inl (cI, 6, .inl f_8))] H := hP
        have hD : va_D A [(h0, .inr (6, [.ref hp, .ref hs, .ref hh, .ref hc, .ref kp, .ref rt, .int kr])), (hs, .inr (4, [.ref hh, .ref hc, .ref si])), (hh, .inr (1, [.int w0, .int w1, .int w2])), (hc, .inr (0, [.int r_3, .int x_5, .int (nI k0), .ref k1, .ref k2, .ref k3, .ref k4, .ref k5])), (k1, .inl (cI, 6, .inl g1)), (k2, .inl (cI, 6, .inl g2)), (si, .inr (5, [.ref tw, .ref tb])), (tw, .inl (cI, 400, .inl ft)), (tb, .inl (cI, 400, .inl fb)), (k3, .inl (cI, 6, .inl f_7)), (k4, .inl (cI, 6, .inl f_8))] := hD
        refine lv_aload_n hx hb dX6_act_64 rfl (lv_at hl 1 rfl) ?_
        refine va_get (D := (dC, dI)) (ci := 6) (v := .ref hs) (C := RX6) (T := TX6) (N := 7) hx hb hts hiX6 hown hK hP 0 rfl rfl 1 (by decide) (hts (.fieldLink RX6 19 "LeftProfile" "scene" "LLeftProfile$Scene;") (List.mem_of_getElem? (i := 1) rfl)) (fun _ h9 => h9) rfl dX6_act_65 ?_
        refine lv_aload_n hx hb dX6_act_68 rfl (lv_at hl 1 rfl) ?_
        refine va_get (D := (dC, dI)) (ci := 6) (v := .ref hc) (C := RX6) (T := TX6) (N := 7) hx hb hts hiX6 hown hK hP 0 rfl rfl 3 (by decide) (hts (.fieldLink RX6 32 "LeftProfile" "court" "LLeftProfile$Court;") (List.mem_of_getElem? (i := 2) rfl)) (fun _ h9 => h9) rfl dX6_act_69 ?_
        refine va_get (D := (dC, dI)) (ci := 0) (v := .int r_3) (C := RX0) (T := TX0) (N := 8) hx hb hts hiX0 hown hK hP 3 rfl rfl 0 (by decide) (hts (.fieldLink RX6 91 "LeftProfile$Court" "stance" "I") (List.mem_of_getElem? (i := 3) rfl)) (fun _ h9 => h9) rfl dX6_act_72 ?_
        refine lv_aload_n hx hb dX6_act_75 rfl (lv_at hl 1 rfl) ?_
        refine va_get (D := (dC, dI)) (ci := 6) (v := .ref hh) (C := RX6) (T := TX6) (N := 7) hx hb hts hiX6 hown hK hP 0 rfl rfl 2 (by decide) (hts (.fieldLink RX6 27 "LeftProfile" "hall" "LLeftProfile$Hall;") (List.mem_of_getElem? (i := 5) rfl)) (fun _ h9 => h9) rfl dX6_act_76 ?_
        refine va_get (D := (dC, dI)) (ci := 1) (v := .int w0) (C := RX1) (T := TX1) (N := 3) hx hb hts hiX1 hown hK hP 2 rfl rfl 0 (by decide) (hts (.fieldLink RX6 84 "LeftProfile$Hall" "walls" "I") (List.mem_of_getElem? (i := 6) rfl)) (fun _ h9 => h9) rfl dX6_act_79 ?_
        refine vp_callSi (cz_run (va_runV (As := [.int r_3, .int w0]) (rest := []) ⟨hx, hb, hml, hown, hts⟩ (c_X4_guiltyIf l dC dI cI cB hs r_3 w0 hh hc si w0 w1 w2 r_3 x_5 k0 k1 k2 k3 k4 k5 g1 g2 tw tb ft fb hk6) (cwV 2 hts gX6_act_X4_guiltyIf rfl rfl rfl (by decide +kernel) ⟨Nat.le_of_ble_eq_true rfl, Nat.le_of_ble_eq_true rfl⟩) (cz_pV (hP.sub (ws' := [(hs, .inr (4, [.ref hh, .ref hc, .ref si])), (hh, .inr (1, [.int w0, .int w1, .int w2])), (hc, .inr (0, [.int r_3, .int x_5, .int (nI k0), .ref k1, .ref k2, .ref k3, .ref k4, .ref k5])), (k1, .inl (cI, 6, .inl g1)), (k2, .inl (cI, 6, .inl g2)), (si, .inr (5, [.ref tw, .ref tb])), (tw, .inl (cI, 400, .inl ft)), (tb, .inl (cI, 400, .inl fb))]) [1, 2, 3, 4, 5, 6, 7, 8] rfl) hN (va_recv hK (hP.sub (ws' := [(hs, .inr (4, [.ref hh, .ref hc, .ref si])), (hh, .inr (1, [.int w0, .int w1, .int w2])), (hc, .inr (0, [.int r_3, .int x_5, .int (nI k0), .ref k1, .ref k2, .ref k3, .ref k4, .ref k5])), (k1, .inl (cI, 6, .inl g1)), (k2, .inl (cI, 6, .inl g2)), (si, .inr (5, [.ref tw, .ref tb])), (tw, .inl (cI, 400, .inl ft)), (tb, .inl (cI, 400, .inl fb))]) [1, 2, 3, 4, 5, 6, 7, 8] rfl) (ci := 4) (q0 := 0) rfl rfl)) rfl rfl hl.1 rfl (lv_room (Nat.le_of_ble_eq_true rfl)) dX6_act_82 ⟨Nat.le_of_ble_eq_true rfl, Nat.le_of_ble_eq_true rfl⟩)) (fun r_9 hr_9 => ?_)
        refine vp_callSi (cz_run (va_runS (As := [.int r_9]) (rest := []) ⟨hx, hb, hml, hown, hts⟩ (c_J6_bitCount_0f7a4 l dC dI cI cB r_9 ) (va_cwS 1 hts gX6_act_J6_bitCount_0f7a4 rfl rfl rfl (by decide +kernel) ⟨Nat.le_of_ble_eq_true rfl, Nat.le_of_ble_eq_true rfl⟩) (cz_pS (hP.sub (ws' := []) [] rfl) hN) rfl rfl hl.1 rfl (lv_room (Nat.le_of_ble_eq_true rfl)) dX6_act_85 ⟨Nat.le_of_ble_eq_true rfl, Nat.le_of_ble_eq_true rfl⟩)) (fun r_10 hr_10 => ?_)
        refine W.widen (k := 0) (n := 0) (Nat.le_of_ble_eq_true rfl) (Nat.le_of_ble_eq_true rfl) ?_
        have hP9 := hP.sub (ws' := [(h0, .inr (6, [.ref hp, .ref hs, .ref hh, .ref hc, .ref kp, .ref rt, .int kr])), (hs, .inr (4, [.ref hh, .ref hc, .ref si])), (hh, .inr (1, [.int w0, .int w1, .int w2])), (hc, .inr (0, [.int r_3, .int x_5, .int (nI k0), .ref k1, .ref k2, .ref k3, .ref k4, .ref k5])), (k1, .inl (cI, 6, .inl g1)), (k2, .inl (cI, 6, .inl g2)), (k3, .inl (cI, 6, .inl f_7)), (k4, .inl (cI, 6, .inl f_8)), (si, .inr (5, [.ref tw, .ref tb])), (tw, .inl (cI, 400, .inl ft)), (tb, .inl (cI, 400, .inl fb))]) [0, 1, 2, 3, 4, 5, 9, 10, 6, 7, 8] rfl
        have hD9 := hD.sub (ws' := [(h0, .inr (6, [.ref hp, .ref hs, .ref hh, .ref hc, .ref kp, .ref rt, .int kr])), (hs, .inr (4, [.ref hh, .ref hc, .ref si])), (hh, .inr (1, [.int w0, .int w1, .int w2])), (hc, .inr (0, [.int r_3, .int x_5, .int (nI k0), .ref k1, .ref k2, .ref k3, .ref k4, .ref k5])), (k1, .inl (cI, 6, .inl g1)), (k2, .inl (cI, 6, .inl g2)), (k3, .inl (cI, 6, .inl f_7)), (k4, .inl (cI, 6, .inl f_8)), (si, .inr (5, [.ref tw, .ref tb])), (tw, .inl (cI, 400, .inl ft)), (tb, .inl (cI, 400, .inl fb))]) [0, 1, 2, 3, 4, 5, 9, 10, 6, 7, 8] (by decide) rfl
        rw [hQ]; exact W.iret (v := r_10) hx hb hr (fun t ht hW => ⟨⟨r_10, (), rfl, trivial, ⟨r_3, x_5, f_7, f_8, by rw [ht]; exact hP9, hD9⟩⟩, hS.F ht⟩) hS.2.2 dX6_act_88
      · refine lv_bipush (v := (-103)) hx hb dX6_act_33 (by decide) ?_
        refine W.widen (k := 0) (n := 0) (Nat.le_of_ble_eq_true rfl) (Nat.le_of_ble_eq_true rfl) ?_
        have hP9 := hP.sub (ws' := [(h0, .inr (6, [.ref hp, .ref hs, .ref hh, .ref hc, .ref kp, .ref rt, .int kr])), (hs, .inr (4, [.ref hh, .ref hc, .ref si])), (hh, .inr (1, [.int w0, .int w1, .int w2])), (hc, .inr (0, [.int a0, .int a1, .int (nI k0), .ref k1, .ref k2, .ref k3, .ref k4, .ref k5])), (k1, .inl (cI, 6, .inl g1)), (k2, .inl (cI, 6, .inl g2)), (k3, .inl (cI, 6, .inl g3)), (k4, .inl (cI, 6, .inl g4)), (si, .inr (5, [.ref tw, .ref tb])), (tw, .inl (cI, 400, .inl ft)), (tb, .inl (cI, 400, .inl fb))]) [0, 1, 2, 3, 4, 5, 6, 7, 8, 9, 10] rfl
        have hD9 := hD.sub (ws' := [(h0, .inr (6, [.ref hp, .ref hs, .ref hh, .ref hc, .ref kp, .ref rt, .int kr])), (hs, .inr (4, [.ref hh, .ref hc, .ref si])), (hh, .inr (1, [.int w0, .int w1, .int w2])), (hc, .inr (0, [.int a0, .int a1, .int (nI k0), .ref k1, .ref k2, .ref k3, .ref k4, .ref k5])), (k1, .inl (cI, 6, .inl g1)), (k2, .inl (cI, 6, .inl g2)), (k3, .inl (cI, 6, .inl g3)), (k4, .inl (cI, 6, .inl g4)), (si, .inr (5, [.ref tw, .ref tb])), (tw, .inl (cI, 400, .inl ft)), (tb, .inl (cI, 400, .inl fb))]) [0, 1, 2, 3, 4, 5, 6, 7, 8, 9, 10] (by decide) rfl
        rw [hQ]; exact W.iret (v := (-103)) hx hb hr (fun t ht hW => ⟨⟨(-103), (), rfl, trivial, ⟨a0, a1, g3, g4, by rw [ht]; exact hP9, hD9⟩⟩, hS.F ht⟩) hS.2.2 dX6_act_35
    · refine lv_bipush (v := (-102)) hx hb dX6_act_9 (by decide) ?_
      refine W.widen (k := 0) (n := 0) (Nat.le_of_ble_eq_true rfl) (Nat.le_of_ble_eq_true rfl) ?_
      have hP9 := hP.sub (ws' := [(h0, .inr (6, [.ref hp, .ref hs, .ref hh, .ref hc, .ref kp, .ref rt, .int kr])), (hs, .inr (4, [.ref hh, .ref hc, .ref si])), (hh, .inr (1, [.int w0, .int w1, .int w2])), (hc, .inr (0, [.int a0, .int a1, .int (nI k0), .ref k1, .ref k2, .ref k3, .ref k4, .ref k5])), (k1, .inl (cI, 6, .inl g1)), (k2, .inl (cI, 6, .inl g2)), (k3, .inl (cI, 6, .inl g3)), (k4, .inl (cI, 6, .inl g4)), (si, .inr (5, [.ref tw, .ref tb])), (tw, .inl (cI, 400, .inl ft)), (tb, .inl (cI, 400, .inl fb))]) [0, 1, 2, 3, 4, 5, 6, 7, 8, 9, 10] rfl
      have hD9 := hD.sub (ws' := [(h0, .inr (6, [.ref hp, .ref hs, .ref hh, .ref hc, .ref kp, .ref rt, .int kr])), (hs, .inr (4, [.ref hh, .ref hc, .ref si])), (hh, .inr (1, [.int w0, .int w1, .int w2])), (hc, .inr (0, [.int a0, .int a1, .int (nI k0), .ref k1, .ref k2, .ref k3, .ref k4, .ref k5])), (k1, .inl (cI, 6, .inl g1)), (k2, .inl (cI, 6, .inl g2)), (k3, .inl (cI, 6, .inl g3)), (k4, .inl (cI, 6, .inl g4)), (si, .inr (5, [.ref tw, .ref tb])), (tw, .inl (cI, 400, .inl ft)), (tb, .inl (cI, 400, .inl fb))]) [0, 1, 2, 3, 4, 5, 6, 7, 8, 9, 10] (by decide) rfl
      rw [hQ]; exact W.iret (v := (-102)) hx hb hr (fun t ht hW => ⟨⟨(-102), (), rfl, trivial, ⟨a0, a1, g3, g4, by rw [ht]; exact hP9, hD9⟩⟩, hS.F ht⟩) hS.2.2 dX6_act_11

set_option maxHeartbeats 4000000 in
set_option maxRecDepth 100000 in
theorem c_X6_guilty (l : Launch) (dC : Nat → ClassId) (dI : Nat → Nat → Nat) (cI cB : ClassId) (h0 : Nat) (hp : Nat) (hs : Nat) (hh : Nat) (hc : Nat) (kp : Nat) (rt : Nat) (kr : Int32) (si : Nat) (w0 : Int32) (w1 : Int32) (w2 : Int32) (a0 : Int32) (a1 : Int32) (k0 : Nat) (k1 : Nat) (k2 : Nat) (k3 : Nat) (k4 : Nat) (k5 : Nat) (g1 : Nat → Int32) (g2 : Nat → Int32) (tw : Nat) (tb : Nat) (ft : Nat → Int32) (fb : Nat → Int32) (hk6 : k0 ≤ 6) : Met l yX6_guilty wsX6_guilty ({ frames := 5, cells := 0, slots := 0, locals := 123 }) (cz_Pp dC dI cI cB [.ref h0] [(h0, .inr (6, [.ref hp, .ref hs, .ref hh, .ref hc, .ref kp, .ref rt, .int kr])), (hs, .inr (4, [.ref hh, .ref hc, .ref si])), (hh, .inr (1, [.int w0, .int w1, .int w2])), (hc, .inr (0, [.int a0, .int a1, .int (nI k0), .ref k1, .ref k2, .ref k3, .ref k4, .ref k5])), (k1, .inl (cI, 6, .inl g1)), (k2, .inl (cI, 6, .inl g2)), (si, .inr (5, [.ref tw, .ref tb])), (tw, .inl (cI, 400, .inl ft)), (tb, .inl (cI, 400, .inl fb))]) (vp_Si (fun r : Int32 => True)) 0 0 (fun _ => False) := by
  refine cz_of (cc := cX6_guilty) (maxL := 1) (ret := (some .int)) (by decide) rfl ?_
  intro p e s m args below meth c s₁ Q B hml hv hQ
  obtain ⟨rfl, hP, hN⟩ := hv
  have hx := B.exec
  have hb := B.bytes
  have hr := B.returns
  have hts := atoms_spec (ws := wsX6_guilty) B.pre
  have hown : s.vm.findClass RX6 = some m.cls := findClass_of_methodNamed B.named
  have hlocks := B.notSynchronized
  have hK := hN.1
  have hiX0 : ∀ w ∈ wsX00, w ∈ wsX6_guilty := (fun _ h => List.mem_cons_of_mem _ (List.mem_append_left _ (List.mem_append_left _ (List.mem_append_left _ (List.mem_append_right _ h)))))
  have hiX1 : ∀ w ∈ wsX10, w ∈ wsX6_guilty := (fun _ h => List.mem_cons_of_mem _ (List.mem_append_left _ (List.mem_append_left _ (List.mem_append_right _ h))))
  have hiX6 : ∀ w ∈ wsX60, w ∈ wsX6_guilty := (fun _ h => List.mem_cons_of_mem _ (List.mem_append_left _ (List.mem_append_left _ (List.mem_append_left _ (List.mem_append_left _ (List.mem_append_right _ h))))))
  have hl := lv_entry ([.ref h0]) (n := 1) (Nat.le_of_ble_eq_true rfl)
  rw [lg_entry_eq]
  generalize (lg_sl ([.ref h0]) ++ List.replicate (1 - (lg_sl ([.ref h0])).length) Slot.unset).toArray = ls at hl ⊢
  have hl : lv_has ls 1 [(0, .ref h0)] := hl
  refine lv_aload_n hx hb dX6_guilty_0 rfl (lv_at hl 0 rfl) ?_
  refine va_get (D := (dC, dI)) (ci := 6) (v := .ref hs) (C := RX6) (T := TX6) (N := 7) hx hb hts hiX6 hown hK hP 0 rfl rfl 1 (by decide) (hts (.fieldLink RX6 19 "LeftProfile" "scene" "LLeftProfile$Scene;") (List.mem_of_getElem? (i := 1) rfl)) (fun _ h9 => h9) rfl dX6_guilty_1 ?_
  refine lv_aload_n hx hb dX6_guilty_4 rfl (lv_at hl 0 rfl) ?_
  refine va_get (D := (dC, dI)) (ci := 6) (v := .ref hc) (C := RX6) (T := TX6) (N := 7) hx hb hts hiX6 hown hK hP 0 rfl rfl 3 (by decide) (hts (.fieldLink RX6 32 "LeftProfile" "court" "LLeftProfile$Court;") (List.mem_of_getElem? (i := 2) rfl)) (fun _ h9 => h9) rfl dX6_guilty_5 ?_
  refine va_get (D := (dC, dI)) (ci := 0) (v := .int a0) (C := RX0) (T := TX0) (N := 8) hx hb hts hiX0 hown hK hP 3 rfl rfl 0 (by decide) (hts (.fieldLink RX6 91 "LeftProfile$Court" "stance" "I") (List.mem_of_getElem? (i := 3) rfl)) (fun _ h9 => h9) rfl dX6_guilty_8 ?_
  refine lv_aload_n hx hb dX6_guilty_11 rfl (lv_at hl 0 rfl) ?_
  refine va_get (D := (dC, dI)) (ci := 6) (v := .ref hh) (C := RX6) (T := TX6) (N := 7) hx hb hts hiX6 hown hK hP 0 rfl rfl 2 (by decide) (hts (.fieldLink RX6 27 "LeftProfile" "hall" "LLeftProfile$Hall;") (List.mem_of_getElem? (i := 4) rfl)) (fun _ h9 => h9) rfl dX6_guilty_12 ?_
  refine va_get (D := (dC, dI)) (ci := 1) (v := .int w0) (C := RX1) (T := TX1) (N := 3) hx hb hts hiX1 hown hK hP 2 rfl rfl 0 (by decide) (hts (.fieldLink RX6 84 "LeftProfile$Hall" "walls" "I") (List.mem_of_getElem? (i := 5) rfl)) (fun _ h9 => h9) rfl dX6_guilty_15 ?_
  refine vp_callSi (cz_run (va_runV (As := [.int a0, .int w0]) (rest := []) ⟨hx, hb, hml, hown, hts⟩ (c_X4_guiltyIf l dC dI cI cB hs a0 w0 hh hc si w0 w1 w2 a0 a1 k0 k1 k2 k3 k4 k5 g1 g2 tw tb ft fb hk6) (cwV 2 hts gX6_guilty_X4_guiltyIf rfl rfl rfl (by decide +kernel) ⟨Nat.le_of_ble_eq_true rfl, Nat.le_of_ble_eq_true rfl⟩) (cz_pV (hP.sub (ws' := [(hs, .inr (4, [.ref hh, .ref hc, .ref si])), (hh, .inr (1, [.int w0, .int w1, .int w2])), (hc, .inr (0, [.int a0, .int a1, .int (nI k0), .ref k1, .ref k2, .ref k3, .ref k4, .ref k5])), (k1, .inl (cI, 6, .inl g1)), (k2, .inl (cI, 6, .inl g2)), (si, .inr (5, [.ref tw, .ref tb])), (tw, .inl (cI, 400, .inl ft)), (tb, .inl (cI, 400, .inl fb))]) [1, 2, 3, 4, 5, 6, 7, 8] rfl) hN (va_recv hK (hP.sub (ws' := [(hs, .inr (4, [.ref hh, .ref hc, .ref si])), (hh, .inr (1, [.int w0, .int w1, .int w2])), (hc, .inr (0, [.int a0, .int a1, .int (nI k0), .ref k1, .ref k2, .ref k3, .ref k4, .ref k5])), (k1, .inl (cI, 6, .inl g1)), (k2, .inl (cI, 6, .inl g2)), (si, .inr (5, [.ref tw, .ref tb])), (tw, .inl (cI, 400, .inl ft)), (tb, .inl (cI, 400, .inl fb))]) [1, 2, 3, 4, 5, 6, 7, 8] rfl) (ci := 4) (q0 := 0) rfl rfl)) rfl rfl hl.1 rfl (lv_room (Nat.le_of_ble_eq_true rfl)) dX6_guilty_18 ⟨Nat.le_of_ble_eq_true rfl, Nat.le_of_ble_eq_true rfl⟩)) (fun r_1 hr_1 => ?_)
  rw [hQ]; exact W.iret (v := r_1) hx hb hr (fun t ht hW => ⟨r_1, rfl, trivial, ht⟩) (fun _ h => absurd h List.not_mem_nil) dX6_guilty_21

set_option maxHeartbeats 4000000 in
set_option maxRecDepth 100000 in
theorem c_X6_room (l : Launch) (dC : Nat → ClassId) (dI : Nat → Nat → Nat) (cI cB : ClassId) (h0 : Nat) (p0 : Int32) (p1 : Int32) (hp : Nat) (hs : Nat) (hh : Nat) (hc : Nat) (kp : Nat) (rt : Nat) (kr : Int32) (si : Nat) (w0 : Int32) (w1 : Int32) (w2 : Int32) (a0 : Int32) (a1 : Int32) (k0 : Nat) (k1 : Nat) (k2 : Nat) (k3 : Nat) (k4 : Nat) (k5 : Nat) (g1 : Nat → Int32) (g2 : Nat → Int32) (tw : Nat) (tb : Nat) (ft : Nat → Int32) (fb : Nat → Int32) (hk6 : k0 ≤ 6) : Met l yX6_room wsX6_room ({ frames := 6, cells := 0, slots := 0, locals := 149 }) (cz_Pp dC dI cI cB [.ref h0, .int p0, .int p1] [(h0, .inr (6, [.ref hp, .ref hs, .ref hh, .ref hc, .ref kp, .ref rt, .int kr])), (hs, .inr (4, [.ref hh, .ref hc, .ref si])), (hh, .inr (1, [.int w0, .int w1, .int w2])), (hc, .inr (0, [.int a0, .int a1, .int (nI k0), .ref k1, .ref k2, .ref k3, .ref k4, .ref k5])), (k1, .inl (cI, 6, .inl g1)), (k2, .inl (cI, 6, .inl g2)), (si, .inr (5, [.ref tw, .ref tb])), (tw, .inl (cI, 400, .inl ft)), (tb, .inl (cI, 400, .inl fb))]) (vp_Si (fun r : Int32 => True)) 0 0 (fun _ => False) := by
  refine cz_of (cc := cX6_room) (maxL := 3) (ret := (some .int)) (by decide) rfl ?_
  intro p e s m args below meth c s₁ Q B hml hv hQ
  obtain ⟨rfl, hP, hN⟩ := hv
  have hx := B.exec
  have hb := B.bytes
  have hr := B.returns
  have hts := atoms_spec (ws := wsX6_room) B.pre
  have hown : s.vm.findClass RX6 = some m.cls := findClass_of_methodNamed B.named
  have hlocks := B.notSynchronized
  have hK := hN.1
  have hiX0 : ∀ w ∈ wsX00, w ∈ wsX6_room := (fun _ h => List.mem_cons_of_mem _ (List.mem_append_left _ (List.mem_append_left _ (List.mem_append_left _ (List.mem_append_right _ h)))))
  have hiX6 : ∀ w ∈ wsX60, w ∈ wsX6_room := (fun _ h => List.mem_cons_of_mem _ (List.mem_append_left _ (List.mem_append_left _ (List.mem_append_left _ (List.mem_append_left _ (List.mem_append_right _ h))))))
  have hl := lv_entry ([.ref h0, .int p0, .int p1]) (n := 3) (Nat.le_of_ble_eq_true rfl)
  rw [lg_entry_eq]
  generalize (lg_sl ([.ref h0, .int p0, .int p1]) ++ List.replicate (3 - (lg_sl ([.ref h0, .int p0, .int p1])).length) Slot.unset).toArray = ls at hl ⊢
  have hl : lv_has ls 3 [(0, .ref h0), (1, .int p0), (2, .int p1)] := hl
  refine lv_iload_n hx hb dX6_room_0 rfl (lv_at hl 1 rfl) ?_
  refine lv_iconst (v := 1) hx hb dX6_room_1 (by decide) ?_
  refine lv_icmp_lt (tgt := 19) hx hb dX6_room_2 (by decide) (fun c_1 => ?_) (fun c_1 => ?_)
  · refine lv_bipush (v := (-102)) hx hb dX6_room_19 (by decide) ?_
    rw [hQ]; exact W.iret (v := (-102)) hx hb hr (fun t ht hW => ⟨(-102), rfl, trivial, ht⟩) (fun _ h => absurd h List.not_mem_nil) dX6_room_21
  · refine lv_iload_n hx hb dX6_room_5 rfl (lv_at hl 1 rfl) ?_
    refine lv_iconst (v := 3) hx hb dX6_room_6 (by decide) ?_
    refine lv_icmp_gt (tgt := 19) hx hb dX6_room_7 (by decide) (fun c_2 => ?_) (fun c_2 => ?_)
    · refine lv_bipush (v := (-102)) hx hb dX6_room_19 (by decide) ?_
      rw [hQ]; exact W.iret (v := (-102)) hx hb hr (fun t ht hW => ⟨(-102), rfl, trivial, ht⟩) (fun _ h => absurd h List.not_mem_nil) dX6_room_21
    · refine lv_iload_n hx hb dX6_room_10 rfl (lv_at hl 2 rfl) ?_
      refine lv_if_lt (tgt := 19) hx hb dX6_room_11 (by decide) (fun c_3 => ?_) (fun c_3 => ?_)
      · refine lv_bipush (v := (-102)) hx hb dX6_room_19 (by decide) ?_
        rw [hQ]; exact W.iret (v := (-102)) hx hb hr (fun t ht hW => ⟨(-102), rfl, trivial, ht⟩) (fun _ h => absurd h List.not_mem_nil) dX6_room_21
      · refine lv_iload_n hx hb dX6_room_14 rfl (lv_at hl 2 rfl) ?_
        refine lv_iconst (v := 3) hx hb dX6_room_15 (by decide) ?_
        refine lv_icmp_lt (tgt := 22) hx hb dX6_room_16 (by decide) (fun c_4 => ?_) (fun c_4 => ?_)
        · refine lv_aload_n hx hb dX6_room_22 rfl (lv_at hl 0 rfl) ?_
          refine va_get (D := (dC, dI)) (ci := 6) (v := .ref hc) (C := RX6) (T := TX6) (N := 7) hx hb hts hiX6 hown hK hP 0 rfl rfl 3 (by decide) (hts (.fieldLink RX6 32 "LeftProfile" "court" "LLeftProfile$Court;") (List.mem_of_getElem? (i := 1) rfl)) (fun _ h9 => h9) rfl dX6_room_23 ?_
          refine va_get (D := (dC, dI)) (ci := 0) (v := .int a0) (C := RX0) (T := TX0) (N := 8) hx hb hts hiX0 hown hK hP 3 rfl rfl 0 (by decide) (hts (.fieldLink RX6 91 "LeftProfile$Court" "stance" "I") (List.mem_of_getElem? (i := 2) rfl)) (fun _ h9 => h9) rfl dX6_room_26 ?_
          refine lv_iconst (v := (-1)) hx hb dX6_room_29 (by decide) ?_
          refine lv_icmp_ne (tgt := 36) hx hb dX6_room_30 (by decide) (fun c_5 => ?_) (fun c_5 => ?_)
          · refine lv_aload_n hx hb dX6_room_36 rfl (lv_at hl 0 rfl) ?_
            refine va_get (D := (dC, dI)) (ci := 6) (v := .ref hs) (C := RX6) (T := TX6) (N := 7) hx hb hts hiX6 hown hK hP 0 rfl rfl 1 (by decide) (hts (.fieldLink RX6 19 "LeftProfile" "scene" "LLeftProfile$Scene;") (List.mem_of_getElem? (i := 3) rfl)) (fun _ h9 => h9) rfl dX6_room_37 ?_
            refine lv_iload_n hx hb dX6_room_40 rfl (lv_at hl 1 rfl) ?_
            refine vp_callSi (cz_run (va_runV (As := [.int p0]) (rest := []) ⟨hx, hb, hml, hown, hts⟩ (c_X4_roomFor l dC dI cI cB hs p0 hh hc si w0 w1 w2 a0 a1 k0 k1 k2 k3 k4 k5 g1 g2 tw tb ft fb hk6) (cwV 1 hts gX6_room_X4_roomFor rfl rfl rfl (by decide +kernel) ⟨Nat.le_of_ble_eq_true rfl, Nat.le_of_ble_eq_true rfl⟩) (cz_pV (hP.sub (ws' := [(hs, .inr (4, [.ref hh, .ref hc, .ref si])), (hh, .inr (1, [.int w0, .int w1, .int w2])), (hc, .inr (0, [.int a0, .int a1, .int (nI k0), .ref k1, .ref k2, .ref k3, .ref k4, .ref k5])), (k1, .inl (cI, 6, .inl g1)), (k2, .inl (cI, 6, .inl g2)), (si, .inr (5, [.ref tw, .ref tb])), (tw, .inl (cI, 400, .inl ft)), (tb, .inl (cI, 400, .inl fb))]) [1, 2, 3, 4, 5, 6, 7, 8] rfl) hN (va_recv hK (hP.sub (ws' := [(hs, .inr (4, [.ref hh, .ref hc, .ref si])), (hh, .inr (1, [.int w0, .int w1, .int w2])), (hc, .inr (0, [.int a0, .int a1, .int (nI k0), .ref k1, .ref k2, .ref k3, .ref k4, .ref k5])), (k1, .inl (cI, 6, .inl g1)), (k2, .inl (cI, 6, .inl g2)), (si, .inr (5, [.ref tw, .ref tb])), (tw, .inl (cI, 400, .inl ft)), (tb, .inl (cI, 400, .inl fb))]) [1, 2, 3, 4, 5, 6, 7, 8] rfl) (ci := 4) (q0 := 0) rfl rfl)) rfl rfl hl.1 rfl (lv_room (Nat.le_of_ble_eq_true rfl)) dX6_room_41 ⟨Nat.le_of_ble_eq_true rfl, Nat.le_of_ble_eq_true rfl⟩)) (fun r_6 hr_6 => ?_)
            refine lv_iload_n hx hb dX6_room_44 rfl (lv_at hl 2 rfl) ?_
            refine vp_callSi (cz_run (va_runS (As := [.int r_6, .int p1]) (rest := []) ⟨hx, hb, hml, hown, hts⟩ (c_X6_placeInSet l dC dI cI cB r_6 p1 ) (va_cwS 2 hts gX6_room_X6_placeInSet rfl rfl rfl (by decide +kernel) ⟨Nat.le_of_ble_eq_true rfl, Nat.le_of_ble_eq_true rfl⟩) (cz_pS (hP.sub (ws' := []) [] rfl) hN) rfl rfl hl.1 rfl (lv_room (Nat.le_of_ble_eq_true rfl)) dX6_room_45 ⟨Nat.le_of_ble_eq_true rfl, Nat.le_of_ble_eq_true rfl⟩)) (fun r_7 hr_7 => ?_)
            rw [hQ]; exact W.iret (v := r_7) hx hb hr (fun t ht hW => ⟨r_7, rfl, trivial, ht⟩) (fun _ h => absurd h List.not_mem_nil) dX6_room_48
          · refine lv_bipush (v := (-103)) hx hb dX6_room_33 (by decide) ?_
            rw [hQ]; exact W.iret (v := (-103)) hx hb hr (fun t ht hW => ⟨(-103), rfl, trivial, ht⟩) (fun _ h => absurd h List.not_mem_nil) dX6_room_35
        · refine lv_bipush (v := (-102)) hx hb dX6_room_19 (by decide) ?_
          rw [hQ]; exact W.iret (v := (-102)) hx hb hr (fun t ht hW => ⟨(-102), rfl, trivial, ht⟩) (fun _ h => absurd h List.not_mem_nil) dX6_room_21

set_option maxHeartbeats 4000000 in
set_option maxRecDepth 100000 in
theorem c_X6_brick (l : Launch) (dC : Nat → ClassId) (dI : Nat → Nat → Nat) (cI cB : ClassId) (h0 : Nat) (p0 : Int32) (hp : Nat) (hs : Nat) (hh : Nat) (hc : Nat) (kp : Nat) (rt : Nat) (kr : Int32) (si : Nat) (w0 : Int32) (w1 : Int32) (w2 : Int32) (a0 : Int32) (a1 : Int32) (k0 : Nat) (k1 : Nat) (k2 : Nat) (k3 : Nat) (k4 : Nat) (k5 : Nat) (g1 : Nat → Int32) (g2 : Nat → Int32) (tw : Nat) (tb : Nat) (ft : Nat → Int32) (fb : Nat → Int32) (hk6 : k0 ≤ 6) : Met l yX6_brick wsX6_brick ({ frames := 6, cells := 0, slots := 0, locals := 148 }) (cz_Pp dC dI cI cB [.ref h0, .int p0] [(h0, .inr (6, [.ref hp, .ref hs, .ref hh, .ref hc, .ref kp, .ref rt, .int kr])), (hs, .inr (4, [.ref hh, .ref hc, .ref si])), (hh, .inr (1, [.int w0, .int w1, .int w2])), (hc, .inr (0, [.int a0, .int a1, .int (nI k0), .ref k1, .ref k2, .ref k3, .ref k4, .ref k5])), (k1, .inl (cI, 6, .inl g1)), (k2, .inl (cI, 6, .inl g2)), (si, .inr (5, [.ref tw, .ref tb])), (tw, .inl (cI, 400, .inl ft)), (tb, .inl (cI, 400, .inl fb))]) (vp_Si (fun r : Int32 => True)) 0 0 (fun _ => False) := by
  refine cz_of (cc := cX6_brick) (maxL := 3) (ret := (some .int)) (by decide) rfl ?_
  intro p e s m args below meth c s₁ Q B hml hv hQ
  obtain ⟨rfl, hP, hN⟩ := hv
  have hx := B.exec
  have hb := B.bytes
  have hr := B.returns
  have hts := atoms_spec (ws := wsX6_brick) B.pre
  have hown : s.vm.findClass RX6 = some m.cls := findClass_of_methodNamed B.named
  have hlocks := B.notSynchronized
  have hK := hN.1
  have hiX0 : ∀ w ∈ wsX00, w ∈ wsX6_brick := (fun _ h => List.mem_cons_of_mem _ (List.mem_append_left _ (List.mem_append_left _ (List.mem_append_left _ (List.mem_append_right _ h)))))
  have hiX1 : ∀ w ∈ wsX10, w ∈ wsX6_brick := (fun _ h => List.mem_cons_of_mem _ (List.mem_append_left _ (List.mem_append_left _ (List.mem_append_right _ h))))
  have hiX6 : ∀ w ∈ wsX60, w ∈ wsX6_brick := (fun _ h => List.mem_cons_of_mem _ (List.mem_append_left _ (List.mem_append_left _ (List.mem_append_left _ (List.mem_append_left _ (List.mem_append_right _ h))))))
  have hl := lv_entry ([.ref h0, .int p0]) (n := 3) (Nat.le_of_ble_eq_true rfl)
  rw [lg_entry_eq]
  generalize (lg_sl ([.ref h0, .int p0]) ++ List.replicate (3 - (lg_sl ([.ref h0, .int p0])).length) Slot.unset).toArray = ls at hl ⊢
  have hl : lv_has ls 3 [(0, .ref h0), (1, .int p0)] := hl
  refine lv_iload_n hx hb dX6_brick_0 rfl (lv_at hl 1 rfl) ?_
  refine lv_if_lt (tgt := 9) hx hb dX6_brick_1 (by decide) (fun c_1 => ?_) (fun c_1 => ?_)
  · refine lv_bipush (v := (-102)) hx hb dX6_brick_9 (by decide) ?_
    rw [hQ]; exact W.iret (v := (-102)) hx hb hr (fun t ht hW => ⟨(-102), rfl, trivial, ht⟩) (fun _ h => absurd h List.not_mem_nil) dX6_brick_11
  · refine lv_iload_n hx hb dX6_brick_4 rfl (lv_at hl 1 rfl) ?_
    refine lv_iconst (v := 1) hx hb dX6_brick_5 (by decide) ?_
    refine lv_icmp_le (tgt := 12) hx hb dX6_brick_6 (by decide) (fun c_2 => ?_) (fun c_2 => ?_)
    · refine lv_aload_n hx hb dX6_brick_12 rfl (lv_at hl 0 rfl) ?_
      refine va_get (D := (dC, dI)) (ci := 6) (v := .ref hc) (C := RX6) (T := TX6) (N := 7) hx hb hts hiX6 hown hK hP 0 rfl rfl 3 (by decide) (hts (.fieldLink RX6 32 "LeftProfile" "court" "LLeftProfile$Court;") (List.mem_of_getElem? (i := 1) rfl)) (fun _ h9 => h9) rfl dX6_brick_13 ?_
      refine va_get (D := (dC, dI)) (ci := 0) (v := .int a0) (C := RX0) (T := TX0) (N := 8) hx hb hts hiX0 hown hK hP 3 rfl rfl 0 (by decide) (hts (.fieldLink RX6 91 "LeftProfile$Court" "stance" "I") (List.mem_of_getElem? (i := 2) rfl)) (fun _ h9 => h9) rfl dX6_brick_16 ?_
      refine lv_iconst (v := (-1)) hx hb dX6_brick_19 (by decide) ?_
      refine lv_icmp_ne (tgt := 26) hx hb dX6_brick_20 (by decide) (fun c_3 => ?_) (fun c_3 => ?_)
      · refine lv_aload_n hx hb dX6_brick_26 rfl (lv_at hl 0 rfl) ?_
        refine va_get (D := (dC, dI)) (ci := 6) (v := .ref hs) (C := RX6) (T := TX6) (N := 7) hx hb hts hiX6 hown hK hP 0 rfl rfl 1 (by decide) (hts (.fieldLink RX6 19 "LeftProfile" "scene" "LLeftProfile$Scene;") (List.mem_of_getElem? (i := 3) rfl)) (fun _ h9 => h9) rfl dX6_brick_27 ?_
        refine vp_callSi (cz_run (va_runV (As := []) (rest := []) ⟨hx, hb, hml, hown, hts⟩ (c_X4_bestBrick l dC dI cI cB hs hh hc si w0 w1 w2 a0 a1 k0 k1 k2 k3 k4 k5 g1 g2 tw tb ft fb hk6) (cwV 0 hts gX6_brick_X4_bestBrick rfl rfl rfl (by decide +kernel) ⟨Nat.le_of_ble_eq_true rfl, Nat.le_of_ble_eq_true rfl⟩) (cz_pV (hP.sub (ws' := [(hs, .inr (4, [.ref hh, .ref hc, .ref si])), (hh, .inr (1, [.int w0, .int w1, .int w2])), (hc, .inr (0, [.int a0, .int a1, .int (nI k0), .ref k1, .ref k2, .ref k3, .ref k4, .ref k5])), (k1, .inl (cI, 6, .inl g1)), (k2, .inl (cI, 6, .inl g2)), (si, .inr (5, [.ref tw, .ref tb])), (tw, .inl (cI, 400, .inl ft)), (tb, .inl (cI, 400, .inl fb))]) [1, 2, 3, 4, 5, 6, 7, 8] rfl) hN (va_recv hK (hP.sub (ws' := [(hs, .inr (4, [.ref hh, .ref hc, .ref si])), (hh, .inr (1, [.int w0, .int w1, .int w2])), (hc, .inr (0, [.int a0, .int a1, .int (nI k0), .ref k1, .ref k2, .ref k3, .ref k4, .ref k5])), (k1, .inl (cI, 6, .inl g1)), (k2, .inl (cI, 6, .inl g2)), (si, .inr (5, [.ref tw, .ref tb])), (tw, .inl (cI, 400, .inl ft)), (tb, .inl (cI, 400, .inl fb))]) [1, 2, 3, 4, 5, 6, 7, 8] rfl) (ci := 4) (q0 := 0) rfl rfl)) rfl rfl hl.1 rfl (lv_room (Nat.le_of_ble_eq_true rfl)) dX6_brick_30 ⟨Nat.le_of_ble_eq_true rfl, Nat.le_of_ble_eq_true rfl⟩)) (fun r_4 hr_4 => ?_)
        refine lv_istore_n (lv' := [(2, .int r_4), (0, .ref h0), (1, .int p0)]) hx hb dX6_brick_33 rfl hl (by decide) rfl (fun ls hl => ?_)
        refine lv_iload_n hx hb dX6_brick_34 rfl (lv_at hl 2 rfl) ?_
        refine lv_if_eq (tgt := 43) hx hb dX6_brick_35 (by decide) (fun c_5 => ?_) (fun c_5 => ?_)
        · refine lv_iload_n hx hb dX6_brick_43 rfl (lv_at hl 0 rfl) ?_
          rw [hQ]; exact W.iret (v := r_4) hx hb hr (fun t ht hW => ⟨r_4, rfl, trivial, ht⟩) (fun _ h => absurd h List.not_mem_nil) dX6_brick_44
        · refine lv_iload_n hx hb dX6_brick_38 rfl (lv_at hl 0 rfl) ?_
          refine lv_iconst (v := (-1)) hx hb dX6_brick_39 (by decide) ?_
          refine lv_icmp_ne (tgt := 45) hx hb dX6_brick_40 (by decide) (fun c_6 => ?_) (fun c_6 => ?_)
          · refine lv_aload_n hx hb dX6_brick_45 rfl (lv_at hl 1 rfl) ?_
            refine va_get (D := (dC, dI)) (ci := 6) (v := .ref hs) (C := RX6) (T := TX6) (N := 7) hx hb hts hiX6 hown hK hP 0 rfl rfl 1 (by decide) (hts (.fieldLink RX6 19 "LeftProfile" "scene" "LLeftProfile$Scene;") (List.mem_of_getElem? (i := 3) rfl)) (fun _ h9 => h9) rfl dX6_brick_46 ?_
            refine lv_aload_n hx hb dX6_brick_49 rfl (lv_at hl 1 rfl) ?_
            refine va_get (D := (dC, dI)) (ci := 6) (v := .ref hc) (C := RX6) (T := TX6) (N := 7) hx hb hts hiX6 hown hK hP 0 rfl rfl 3 (by decide) (hts (.fieldLink RX6 32 "LeftProfile" "court" "LLeftProfile$Court;") (List.mem_of_getElem? (i := 1) rfl)) (fun _ h9 => h9) rfl dX6_brick_50 ?_
            refine va_get (D := (dC, dI)) (ci := 0) (v := .int a0) (C := RX0) (T := TX0) (N := 8) hx hb hts hiX0 hown hK hP 3 rfl rfl 0 (by decide) (hts (.fieldLink RX6 91 "LeftProfile$Court" "stance" "I") (List.mem_of_getElem? (i := 2) rfl)) (fun _ h9 => h9) rfl dX6_brick_53 ?_
            refine lv_aload_n hx hb dX6_brick_56 rfl (lv_at hl 1 rfl) ?_
            refine va_get (D := (dC, dI)) (ci := 6) (v := .ref hh) (C := RX6) (T := TX6) (N := 7) hx hb hts hiX6 hown hK hP 0 rfl rfl 2 (by decide) (hts (.fieldLink RX6 27 "LeftProfile" "hall" "LLeftProfile$Hall;") (List.mem_of_getElem? (i := 4) rfl)) (fun _ h9 => h9) rfl dX6_brick_57 ?_
            refine va_get (D := (dC, dI)) (ci := 1) (v := .int w0) (C := RX1) (T := TX1) (N := 3) hx hb hts hiX1 hown hK hP 2 rfl rfl 0 (by decide) (hts (.fieldLink RX6 84 "LeftProfile$Hall" "walls" "I") (List.mem_of_getElem? (i := 5) rfl)) (fun _ h9 => h9) rfl dX6_brick_60 ?_
            refine lv_iload_n hx hb dX6_brick_63 rfl (lv_at hl 0 rfl) ?_
            refine vp_callSi (cz_run (va_runS (As := [.int r_4]) (rest := [.int w0, .int a0, .ref hs]) ⟨hx, hb, hml, hown, hts⟩ (c_X6_bit l dC dI cI cB r_4 ) (va_cwS 1 hts gX6_brick_X6_bit rfl rfl rfl (by decide +kernel) ⟨Nat.le_of_ble_eq_true rfl, Nat.le_of_ble_eq_true rfl⟩) (cz_pS (hP.sub (ws' := []) [] rfl) hN) rfl rfl hl.1 rfl (lv_room (Nat.le_of_ble_eq_true rfl)) dX6_brick_64 ⟨Nat.le_of_ble_eq_true rfl, Nat.le_of_ble_eq_true rfl⟩)) (fun r_7 hr_7 => ?_)
            refine lv_ior hx hb dX6_brick_67 ?_
            refine lv_topi (fun x_8 ex_8 => ?_)
            refine vp_callSi (cz_run (va_runV (As := [.int a0, .int x_8]) (rest := []) ⟨hx, hb, hml, hown, hts⟩ (c_X4_guiltyIf l dC dI cI cB hs a0 x_8 hh hc si w0 w1 w2 a0 a1 k0 k1 k2 k3 k4 k5 g1 g2 tw tb ft fb hk6) (cwV 2 hts gX6_brick_X4_guiltyIf rfl rfl rfl (by decide +kernel) ⟨Nat.le_of_ble_eq_true rfl, Nat.le_of_ble_eq_true rfl⟩) (cz_pV (hP.sub (ws' := [(hs, .inr (4, [.ref hh, .ref hc, .ref si])), (hh, .inr (1, [.int w0, .int w1, .int w2])), (hc, .inr (0, [.int a0, .int a1, .int (nI k0), .ref k1, .ref k2, .ref k3, .ref k4, .ref k5])), (k1, .inl (cI, 6, .inl g1)), (k2, .inl (cI, 6, .inl g2)), (si, .inr (5, [.ref tw, .ref tb])), (tw, .inl (cI, 400, .inl ft)), (tb, .inl (cI, 400, .inl fb))]) [1, 2, 3, 4, 5, 6, 7, 8] rfl) hN (va_recv hK (hP.sub (ws' := [(hs, .inr (4, [.ref hh, .ref hc, .ref si])), (hh, .inr (1, [.int w0, .int w1, .int w2])), (hc, .inr (0, [.int a0, .int a1, .int (nI k0), .ref k1, .ref k2, .ref k3, .ref k4, .ref k5])), (k1, .inl (cI, 6, .inl g1)), (k2, .inl (cI, 6, .inl g2)), (si, .inr (5, [.ref tw, .ref tb])), (tw, .inl (cI, 400, .inl ft)), (tb, .inl (cI, 400, .inl fb))]) [1, 2, 3, 4, 5, 6, 7, 8] rfl) (ci := 4) (q0 := 0) rfl rfl)) rfl rfl hl.1 rfl (lv_room (Nat.le_of_ble_eq_true rfl)) dX6_brick_68 ⟨Nat.le_of_ble_eq_true rfl, Nat.le_of_ble_eq_true rfl⟩)) (fun r_9 hr_9 => ?_)
            refine vp_callSi (cz_run (va_runS (As := [.int r_9]) (rest := []) ⟨hx, hb, hml, hown, hts⟩ (c_J6_bitCount_0f7a4 l dC dI cI cB r_9 ) (va_cwS 1 hts gX6_brick_J6_bitCount_0f7a4 rfl rfl rfl (by decide +kernel) ⟨Nat.le_of_ble_eq_true rfl, Nat.le_of_ble_eq_true rfl⟩) (cz_pS (hP.sub (ws' := []) [] rfl) hN) rfl rfl hl.1 rfl (lv_room (Nat.le_of_ble_eq_true rfl)) dX6_brick_71 ⟨Nat.le_of_ble_eq_true rfl, Nat.le_of_ble_eq_true rfl⟩)) (fun r_10 hr_10 => ?_)
            rw [hQ]; exact W.iret (v := r_10) hx hb hr (fun t ht hW => ⟨r_10, rfl, trivial, ht⟩) (fun _ h => absurd h List.not_mem_nil) dX6_brick_74
          · refine lv_iload_n hx hb dX6_brick_43 rfl (lv_at hl 0 rfl) ?_
            rw [hQ]; exact W.iret (v := r_4) hx hb hr (fun t ht hW => ⟨r_4, rfl, trivial, ht⟩) (fun _ h => absurd h List.not_mem_nil) dX6_brick_44
      · refine lv_bipush (v := (-103)) hx hb dX6_brick_23 (by decide) ?_
        rw [hQ]; exact W.iret (v := (-103)) hx hb hr (fun t ht hW => ⟨(-103), rfl, trivial, ht⟩) (fun _ h => absurd h List.not_mem_nil) dX6_brick_25
    · refine lv_bipush (v := (-102)) hx hb dX6_brick_9 (by decide) ?_
      rw [hQ]; exact W.iret (v := (-102)) hx hb hr (fun t ht hW => ⟨(-102), rfl, trivial, ht⟩) (fun _ h => absurd h List.not_mem_nil) dX6_brick_11

set_option maxHeartbeats 4000000 in
set_option maxRecDepth 100000 in
theorem c_X6_way (l : Launch) (dC : Nat → ClassId) (dI : Nat → Nat → Nat) (cI cB : ClassId) (tR tC : Nat) (h0 : Nat) (p0 : Int32) (p1 : Int32) (hp : Nat) (hs : Nat) (hh : Nat) (hc : Nat) (kp : Nat) (rt : Nat) (kr : Int32) (q1 : Nat) (q2 : Nat) (q3 : Nat) (u0 : Nat) (v1 : Nat → Int32) (v2 : Nat → Int32) (v3 : Nat → Int32) (si : Nat) (w0 : Int32) (w1 : Int32) (w2 : Int32) (a0 : Int32) (a1 : Int32) (k0 : Nat) (k1 : Nat) (k2 : Nat) (k3 : Nat) (k4 : Nat) (k5 : Nat) (g1 : Nat → Int32) (g2 : Nat → Int32) (tw : Nat) (tb : Nat) (ft : Nat → Int32) (fb : Nat → Int32) (sz : Nat) (hk6 : k0 ≤ 6) (hu80 : u0 ≤ 80) : Met l yX6_way wsX6_way ({ frames := 6, cells := 0, slots := 0, locals := 150 }) (cz_PmT dC dI cI cB tR tC [.ref h0, .int p0, .int p1] [(h0, .inr (6, [.ref hp, .ref hs, .ref hh, .ref hc, .ref kp, .ref rt, .int kr])), (rt, .inr (3, [.ref q1, .ref q2, .ref q3, .int (nI u0)])), (q1, .inl (cI, 80, .inl v1)), (q2, .inl (cI, 80, .inl v2)), (q3, .inl (cI, 80, .inl v3)), (hs, .inr (4, [.ref hh, .ref hc, .ref si])), (hh, .inr (1, [.int w0, .int w1, .int w2])), (hc, .inr (0, [.int a0, .int a1, .int (nI k0), .ref k1, .ref k2, .ref k3, .ref k4, .ref k5])), (k1, .inl (cI, 6, .inl g1)), (k2, .inl (cI, 6, .inl g2)), (si, .inr (5, [.ref tw, .ref tb])), (tw, .inl (cI, 400, .inl ft)), (tb, .inl (cI, 400, .inl fb))] sz) (va_Qi (fun (r : Int32) (_ : Unit) => True) (fun _ t => ∃ (uu : Nat) (t1 : Nat → Int32) (t2 : Nat → Int32) (t3 : Nat → Int32), (uu ≤ 80) ∧ va_P (dC, dI) vwCl [(h0, .inr (6, [.ref hp, .ref hs, .ref hh, .ref hc, .ref kp, .ref rt, .int kr])), (rt, .inr (3, [.ref q1, .ref q2, .ref q3, .int (nI uu)])), (q1, .inl (cI, 80, .inl t1)), (q2, .inl (cI, 80, .inl t2)), (q3, .inl (cI, 80, .inl t3)), (hs, .inr (4, [.ref hh, .ref hc, .ref si])), (hh, .inr (1, [.int w0, .int w1, .int w2])), (hc, .inr (0, [.int a0, .int a1, .int (nI k0), .ref k1, .ref k2, .ref k3, .ref k4, .ref k5])), (k1, .inl (cI, 6, .inl g1)), (k2, .inl (cI, 6, .inl g2)), (si, .inr (5, [.ref tw, .ref tb])), (tw, .inl (cI, 400, .inl ft)), (tb, .inl (cI, 400, .inl fb))] t.heap ∧ va_D (va_A [(h0, .inr (6, [.ref hp, .ref hs, .ref hh, .ref hc, .ref kp, .ref rt, .int kr])), (rt, .inr (3, [.ref q1, .ref q2, .ref q3, .int (nI u0)])), (q1, .inl (cI, 80, .inl v1)), (q2, .inl (cI, 80, .inl v2)), (q3, .inl (cI, 80, .inl v3)), (hs, .inr (4, [.ref hh, .ref hc, .ref si])), (hh, .inr (1, [.int w0, .int w1, .int w2])), (hc, .inr (0, [.int a0, .int a1, .int (nI k0), .ref k1, .ref k2, .ref k3, .ref k4, .ref k5])), (k1, .inl (cI, 6, .inl g1)), (k2, .inl (cI, 6, .inl g2)), (si, .inr (5, [.ref tw, .ref tb])), (tw, .inl (cI, 400, .inl ft)), (tb, .inl (cI, 400, .inl fb))] sz) [(h0, .inr (6, [.ref hp, .ref hs, .ref hh, .ref hc, .ref kp, .ref rt, .int kr])), (rt, .inr (3, [.ref q1, .ref q2, .ref q3, .int (nI uu)])), (q1, .inl (cI, 80, .inl t1)), (q2, .inl (cI, 80, .inl t2)), (q3, .inl (cI, 80, .inl t3)), (hs, .inr (4, [.ref hh, .ref hc, .ref si])), (hh, .inr (1, [.int w0, .int w1, .int w2])), (hc, .inr (0, [.int a0, .int a1, .int (nI k0), .ref k1, .ref k2, .ref k3, .ref k4, .ref k5])), (k1, .inl (cI, 6, .inl g1)), (k2, .inl (cI, 6, .inl g2)), (si, .inr (5, [.ref tw, .ref tb])), (tw, .inl (cI, 400, .inl ft)), (tb, .inl (cI, 400, .inl fb))]) (va_A [(h0, .inr (6, [.ref hp, .ref hs, .ref hh, .ref hc, .ref kp, .ref rt, .int kr])), (rt, .inr (3, [.ref q1, .ref q2, .ref q3, .int (nI u0)])), (q1, .inl (cI, 80, .inl v1)), (q2, .inl (cI, 80, .inl v2)), (q3, .inl (cI, 80, .inl v3)), (hs, .inr (4, [.ref hh, .ref hc, .ref si])), (hh, .inr (1, [.int w0, .int w1, .int w2])), (hc, .inr (0, [.int a0, .int a1, .int (nI k0), .ref k1, .ref k2, .ref k3, .ref k4, .ref k5])), (k1, .inl (cI, 6, .inl g1)), (k2, .inl (cI, 6, .inl g2)), (si, .inr (5, [.ref tw, .ref tb])), (tw, .inl (cI, 400, .inl ft)), (tb, .inl (cI, 400, .inl fb))] sz)) 0 0 (va_A [(h0, .inr (6, [.ref hp, .ref hs, .ref hh, .ref hc, .ref kp, .ref rt, .int kr])), (rt, .inr (3, [.ref q1, .ref q2, .ref q3, .int (nI u0)])), (q1, .inl (cI, 80, .inl v1)), (q2, .inl (cI, 80, .inl v2)), (q3, .inl (cI, 80, .inl v3)), (hs, .inr (4, [.ref hh, .ref hc, .ref si])), (hh, .inr (1, [.int w0, .int w1, .int w2])), (hc, .inr (0, [.int a0, .int a1, .int (nI k0), .ref k1, .ref k2, .ref k3, .ref k4, .ref k5])), (k1, .inl (cI, 6, .inl g1)), (k2, .inl (cI, 6, .inl g2)), (si, .inr (5, [.ref tw, .ref tb])), (tw, .inl (cI, 400, .inl ft)), (tb, .inl (cI, 400, .inl fb))] sz) := by
  refine cz_of (cc := cX6_way) (maxL := 4) (ret := (some .int)) (by decide) rfl ?_
  intro p e s m args below meth c s₁ Q B hml hv hQ
  obtain ⟨rfl, hsz, hP, hN, hD0, hSt⟩ := hv
  have hx := B.exec
  have hb := B.bytes
  have hr := B.returns
  have hts := atoms_spec (ws := wsX6_way) B.pre
  have hown : s.vm.findClass RX6 = some m.cls := findClass_of_methodNamed B.named
  have hlocks := B.notSynchronized
  have hK := hN.1
  have hiX0 : ∀ w ∈ wsX00, w ∈ wsX6_way := (fun _ h => List.mem_cons_of_mem _ (List.mem_append_left _ (List.mem_append_left _ (List.mem_append_left _ (List.mem_append_left _ (List.mem_append_right _ h))))))
  have hiX6 : ∀ w ∈ wsX60, w ∈ wsX6_way := (fun _ h => List.mem_cons_of_mem _ (List.mem_append_left _ (List.mem_append_left _ (List.mem_append_left _ (List.mem_append_left _ (List.mem_append_left _ (List.mem_append_right _ h)))))))
  subst hsz
  have hD := hD0.self (sz := s.heap.size)
  generalize hAe : va_A [(h0, .inr (6, [.ref hp, .ref hs, .ref hh, .ref hc, .ref kp, .ref rt, .int kr])), (rt, .inr (3, [.ref q1, .ref q2, .ref q3, .int (nI u0)])), (q1, .inl (cI, 80, .inl v1)), (q2, .inl (cI, 80, .inl v2)), (q3, .inl (cI, 80, .inl v3)), (hs, .inr (4, [.ref hh, .ref hc, .ref si])), (hh, .inr (1, [.int w0, .int w1, .int w2])), (hc, .inr (0, [.int a0, .int a1, .int (nI k0), .ref k1, .ref k2, .ref k3, .ref k4, .ref k5])), (k1, .inl (cI, 6, .inl g1)), (k2, .inl (cI, 6, .inl g2)), (si, .inr (5, [.ref tw, .ref tb])), (tw, .inl (cI, 400, .inl ft)), (tb, .inl (cI, 400, .inl fb))] s.heap.size = A at hD hSt hQ ⊢
  have hA : ∀ q : Nat, s.heap.size ≤ q → A q := fun q h => by rw [← hAe]; exact Or.inr h
  have hS : va_S A s.heap s.heap [] := va_S.rf
  obtain ⟨H, eH⟩ : ∃ H, H = s.heap := ⟨_, rfl⟩
  have hP : va_P (dC, dI) vwCl [(h0, .inr (6, [.ref hp, .ref hs, .ref hh, .ref hc, .ref kp, .ref rt, .int kr])), (rt, .inr (3, [.ref q1, .ref q2, .ref q3, .int (nI u0)])), (q1, .inl (cI, 80, .inl v1)), (q2, .inl (cI, 80, .inl v2)), (q3, .inl (cI, 80, .inl v3)), (hs, .inr (4, [.ref hh, .ref hc, .ref si])), (hh, .inr (1, [.int w0, .int w1, .int w2])), (hc, .inr (0, [.int a0, .int a1, .int (nI k0), .ref k1, .ref k2, .ref k3, .ref k4, .ref k5])), (k1, .inl (cI, 6, .inl g1)), (k2, .inl (cI, 6, .inl g2)), (si, .inr (5, [.ref tw, .ref tb])), (tw, .inl (cI, 400, .inl ft)), (tb, .inl (cI, 400, .inl fb))] s.heap := hP
  have hl := lv_entry ([.ref h0, .int p0, .int p1]) (n := 4) (Nat.le_of_ble_eq_true rfl)
  rw [lg_entry_eq]
  generalize (lg_sl ([.ref h0, .int p0, .int p1]) ++ List.replicate (4 - (lg_sl ([.ref h0, .int p0, .int p1])).length) Slot.unset).toArray = ls at hl ⊢
  have hl : lv_has ls 4 [(0, .ref h0), (1, .int p0), (2, .int p1)] := hl
  refine lv_iload_n hx hb dX6_way_0 rfl (lv_at hl 1 rfl) ?_
  refine vp_callSi (cz_run (va_runS (As := [.int p0]) (rest := []) ⟨hx, hb, hml, hown, hts⟩ (c_X6_isPlace l dC dI cI cB p0 ) (va_cwS 1 hts gX6_way_X6_isPlace rfl rfl rfl (by decide +kernel) ⟨Nat.le_of_ble_eq_true rfl, Nat.le_of_ble_eq_true rfl⟩) (cz_pS (hP.sub (ws' := []) [] rfl) hN) rfl rfl hl.1 rfl (lv_room (Nat.le_of_ble_eq_true rfl)) dX6_way_1 ⟨Nat.le_of_ble_eq_true rfl, Nat.le_of_ble_eq_true rfl⟩)) (fun r_1 hr_1 => ?_)
  rcases hr_1 with ⟨rfl, hr_1⟩ | ⟨rfl, hr_1⟩
  · refine lv_if_ne (tgt := 10) hx hb dX6_way_4 (by decide) (fun c => absurd (by decide) c) (fun _ => ?_)
    refine lv_bipush (v := (-101)) hx hb dX6_way_7 (by decide) ?_
    refine W.widen (k := 0) (n := 0) (Nat.le_of_ble_eq_true rfl) (Nat.le_of_ble_eq_true rfl) ?_
    have hP9 := hP.sub (ws' := [(h0, .inr (6, [.ref hp, .ref hs, .ref hh, .ref hc, .ref kp, .ref rt, .int kr])), (rt, .inr (3, [.ref q1, .ref q2, .ref q3, .int (nI u0)])), (q1, .inl (cI, 80, .inl v1)), (q2, .inl (cI, 80, .inl v2)), (q3, .inl (cI, 80, .inl v3)), (hs, .inr (4, [.ref hh, .ref hc, .ref si])), (hh, .inr (1, [.int w0, .int w1, .int w2])), (hc, .inr (0, [.int a0, .int a1, .int (nI k0), .ref k1, .ref k2, .ref k3, .ref k4, .ref k5])), (k1, .inl (cI, 6, .inl g1)), (k2, .inl (cI, 6, .inl g2)), (si, .inr (5, [.ref tw, .ref tb])), (tw, .inl (cI, 400, .inl ft)), (tb, .inl (cI, 400, .inl fb))]) [0, 1, 2, 3, 4, 5, 6, 7, 8, 9, 10, 11, 12] rfl
    have hD9 := hD.sub (ws' := [(h0, .inr (6, [.ref hp, .ref hs, .ref hh, .ref hc, .ref kp, .ref rt, .int kr])), (rt, .inr (3, [.ref q1, .ref q2, .ref q3, .int (nI u0)])), (q1, .inl (cI, 80, .inl v1)), (q2, .inl (cI, 80, .inl v2)), (q3, .inl (cI, 80, .inl v3)), (hs, .inr (4, [.ref hh, .ref hc, .ref si])), (hh, .inr (1, [.int w0, .int w1, .int w2])), (hc, .inr (0, [.int a0, .int a1, .int (nI k0), .ref k1, .ref k2, .ref k3, .ref k4, .ref k5])), (k1, .inl (cI, 6, .inl g1)), (k2, .inl (cI, 6, .inl g2)), (si, .inr (5, [.ref tw, .ref tb])), (tw, .inl (cI, 400, .inl ft)), (tb, .inl (cI, 400, .inl fb))]) [0, 1, 2, 3, 4, 5, 6, 7, 8, 9, 10, 11, 12] (by decide) rfl
    rw [hQ]; exact W.iret (v := (-101)) hx hb hr (fun t ht hW => ⟨⟨(-101), (), rfl, trivial, ⟨u0, v1, v2, v3, hu80, by rw [ht]; exact hP9, hD9⟩⟩, hS.F ht⟩) hS.2.2 dX6_way_9
  · refine lv_if_ne (tgt := 10) hx hb dX6_way_4 (by decide) (fun _ => ?_) (fun c => absurd c (by decide))
    refine lv_iload_n hx hb dX6_way_10 rfl (lv_at hl 2 rfl) ?_
    refine lv_if_lt (tgt := 19) hx hb dX6_way_11 (by decide) (fun c_2 => ?_) (fun c_2 => ?_)
    · refine lv_bipush (v := (-102)) hx hb dX6_way_19 (by decide) ?_
      refine W.widen (k := 0) (n := 0) (Nat.le_of_ble_eq_true rfl) (Nat.le_of_ble_eq_true rfl) ?_
      have hP9 := hP.sub (ws' := [(h0, .inr (6, [.ref hp, .ref hs, .ref hh, .ref hc, .ref kp, .ref rt, .int kr])), (rt, .inr (3, [.ref q1, .ref q2, .ref q3, .int (nI u0)])), (q1, .inl (cI, 80, .inl v1)), (q2, .inl (cI, 80, .inl v2)), (q3, .inl (cI, 80, .inl v3)), (hs, .inr (4, [.ref hh, .ref hc, .ref si])), (hh, .inr (1, [.int w0, .int w1, .int w2])), (hc, .inr (0, [.int a0, .int a1, .int (nI k0), .ref k1, .ref k2, .ref k3, .ref k4, .ref k5])), (k1, .inl (cI, 6, .inl g1)), (k2, .inl (cI, 6, .inl g2)), (si, .inr (5, [.ref tw, .ref tb])), (tw, .inl (cI, 400, .inl ft)), (tb, .inl (cI, 400, .inl fb))]) [0, 1, 2, 3, 4, 5, 6, 7, 8, 9, 10, 11, 12] rfl
      have hD9 := hD.sub (ws' := [(h0, .inr (6, [.ref hp, .ref hs, .ref hh, .ref hc, .ref kp, .ref rt, .int kr])), (rt, .inr (3, [.ref q1, .ref q2, .ref q3, .int (nI u0)])), (q1, .inl (cI, 80, .inl v1)), (q2, .inl (cI, 80, .inl v2)), (q3, .inl (cI, 80, .inl v3)), (hs, .inr (4, [.ref hh, .ref hc, .ref si])), (hh, .inr (1, [.int w0, .int w1, .int w2])), (hc, .inr (0, [.int a0, .int a1, .int (nI k0), .ref k1, .ref k2, .ref k3, .ref k4, .ref k5])), (k1, .inl (cI, 6, .inl g1)), (k2, .inl (cI, 6, .inl g2)), (si, .inr (5, [.ref tw, .ref tb])), (tw, .inl (cI, 400, .inl ft)), (tb, .inl (cI, 400, .inl fb))]) [0, 1, 2, 3, 4, 5, 6, 7, 8, 9, 10, 11, 12] (by decide) rfl
      rw [hQ]; exact W.iret (v := (-102)) hx hb hr (fun t ht hW => ⟨⟨(-102), (), rfl, trivial, ⟨u0, v1, v2, v3, hu80, by rw [ht]; exact hP9, hD9⟩⟩, hS.F ht⟩) hS.2.2 dX6_way_21
    · refine lv_iload_n hx hb dX6_way_14 rfl (lv_at hl 2 rfl) ?_
      refine lv_iconst (v := 1) hx hb dX6_way_15 (by decide) ?_
      refine lv_icmp_le (tgt := 22) hx hb dX6_way_16 (by decide) (fun c_3 => ?_) (fun c_3 => ?_)
      · refine lv_aload_n hx hb dX6_way_22 rfl (lv_at hl 0 rfl) ?_
        refine va_get (D := (dC, dI)) (ci := 6) (v := .ref hc) (C := RX6) (T := TX6) (N := 7) hx hb hts hiX6 hown hK hP 0 rfl rfl 3 (by decide) (hts (.fieldLink RX6 32 "LeftProfile" "court" "LLeftProfile$Court;") (List.mem_of_getElem? (i := 1) rfl)) (fun _ h9 => h9) rfl dX6_way_23 ?_
        refine va_get (D := (dC, dI)) (ci := 0) (v := .int a0) (C := RX0) (T := TX0) (N := 8) hx hb hts hiX0 hown hK hP 7 rfl rfl 0 (by decide) (hts (.fieldLink RX6 91 "LeftProfile$Court" "stance" "I") (List.mem_of_getElem? (i := 2) rfl)) (fun _ h9 => h9) rfl dX6_way_26 ?_
        refine lv_iconst (v := (-1)) hx hb dX6_way_29 (by decide) ?_
        refine lv_icmp_ne (tgt := 36) hx hb dX6_way_30 (by decide) (fun c_4 => ?_) (fun c_4 => ?_)
        · refine lv_aload_n hx hb dX6_way_36 rfl (lv_at hl 0 rfl) ?_
          refine va_get (D := (dC, dI)) (ci := 6) (v := .ref rt) (C := RX6) (T := TX6) (N := 7) hx hb hts hiX6 hown hK hP 0 rfl rfl 5 (by decide) (hts (.fieldLink RX6 42 "LeftProfile" "route" "LLeftProfile$Route;") (List.mem_of_getElem? (i := 3) rfl)) (fun _ h9 => h9) rfl dX6_way_37 ?_
          refine lv_aload_n hx hb dX6_way_40 rfl (lv_at hl 0 rfl) ?_
          refine va_get (D := (dC, dI)) (ci := 6) (v := .ref hs) (C := RX6) (T := TX6) (N := 7) hx hb hts hiX6 hown hK hP 0 rfl rfl 1 (by decide) (hts (.fieldLink RX6 19 "LeftProfile" "scene" "LLeftProfile$Scene;") (List.mem_of_getElem? (i := 4) rfl)) (fun _ h9 => h9) rfl dX6_way_41 ?_
          refine lv_aload_n hx hb dX6_way_44 rfl (lv_at hl 0 rfl) ?_
          refine va_get (D := (dC, dI)) (ci := 6) (v := .ref hc) (C := RX6) (T := TX6) (N := 7) hx hb hts hiX6 hown hK hP 0 rfl rfl 3 (by decide) (hts (.fieldLink RX6 32 "LeftProfile" "court" "LLeftProfile$Court;") (List.mem_of_getElem? (i := 1) rfl)) (fun _ h9 => h9) rfl dX6_way_45 ?_
          refine va_get (D := (dC, dI)) (ci := 0) (v := .int a0) (C := RX0) (T := TX0) (N := 8) hx hb hts hiX0 hown hK hP 7 rfl rfl 0 (by decide) (hts (.fieldLink RX6 91 "LeftProfile$Court" "stance" "I") (List.mem_of_getElem? (i := 2) rfl)) (fun _ h9 => h9) rfl dX6_way_48 ?_
          refine lv_iload_n hx hb dX6_way_51 rfl (lv_at hl 1 rfl) ?_
          have hPc := hP.sub (ws' := [(rt, .inr (3, [.ref q1, .ref q2, .ref q3, .int (nI u0)])), (q1, .inl (cI, 80, .inl v1)), (q2, .inl (cI, 80, .inl v2)), (q3, .inl (cI, 80, .inl v3)), (hs, .inr (4, [.ref hh, .ref hc, .ref si])), (hh, .inr (1, [.int w0, .int w1, .int w2])), (hc, .inr (0, [.int a0, .int a1, .int (nI k0), .ref k1, .ref k2, .ref k3, .ref k4, .ref k5])), (k1, .inl (cI, 6, .inl g1)), (k2, .inl (cI, 6, .inl g2)), (si, .inr (5, [.ref tw, .ref tb])), (tw, .inl (cI, 400, .inl ft)), (tb, .inl (cI, 400, .inl fb))]) [1, 2, 3, 4, 5, 6, 7, 8, 9, 10, 11, 12] rfl
          have hDc := hD.sub (ws' := [(rt, .inr (3, [.ref q1, .ref q2, .ref q3, .int (nI u0)])), (q1, .inl (cI, 80, .inl v1)), (q2, .inl (cI, 80, .inl v2)), (q3, .inl (cI, 80, .inl v3)), (hs, .inr (4, [.ref hh, .ref hc, .ref si])), (hh, .inr (1, [.int w0, .int w1, .int w2])), (hc, .inr (0, [.int a0, .int a1, .int (nI k0), .ref k1, .ref k2, .ref k3, .ref k4, .ref k5])), (k1, .inl (cI, 6, .inl g1)), (k2, .inl (cI, 6, .inl g2)), (si, .inr (5, [.ref tw, .ref tb])), (tw, .inl (cI, 400, .inl ft)), (tb, .inl (cI, 400, .inl fb))]) [1, 2, 3, 4, 5, 6, 7, 8, 9, 10, 11, 12] (by decide) rfl
          have hFc := va_free (wc := [(rt, .inr (3, [.ref q1, .ref q2, .ref q3, .int (nI u0)])), (q1, .inl (cI, 80, .inl v1)), (q2, .inl (cI, 80, .inl v2)), (q3, .inl (cI, 80, .inl v3)), (hs, .inr (4, [.ref hh, .ref hc, .ref si])), (hh, .inr (1, [.int w0, .int w1, .int w2])), (hc, .inr (0, [.int a0, .int a1, .int (nI k0), .ref k1, .ref k2, .ref k3, .ref k4, .ref k5])), (k1, .inl (cI, 6, .inl g1)), (k2, .inl (cI, 6, .inl g2)), (si, .inr (5, [.ref tw, .ref tb])), (tw, .inl (cI, 400, .inl ft)), (tb, .inl (cI, 400, .inl fb))]) hD hS hA [1, 2, 3, 4, 5, 6, 7, 8, 9, 10, 11, 12] rfl
          refine va_calli (va_runV (As := [.ref hs, .int a0, .int p0]) (rest := []) ⟨hx, hb, hml, hown, hts⟩ (c_X3_find l dC dI cI cB tR tC rt hs a0 p0 q1 q2 q3 u0 v1 v2 v3 hh hc si w0 w1 w2 a0 a1 k0 k1 k2 k3 k4 k5 g1 g2 tw tb ft fb s.heap.size hk6 hu80) (cwV 3 hts gX6_way_X3_find rfl rfl rfl (by decide +kernel) ⟨Nat.le_of_ble_eq_true rfl, Nat.le_of_ble_eq_true rfl⟩) (cz_mVT hPc hN hDc (hSt.give hS hFc) (va_recv hK hPc (ci := 3) (q0 := 0) rfl rfl)) rfl rfl hl.1 rfl (lv_room (Nat.le_of_ble_eq_true rfl)) dX6_way_52 ⟨Nat.le_of_ble_eq_true rfl, Nat.le_of_ble_eq_true rfl⟩) hS (fun q _ h => hFc q h) hFc (fun r_5 u t H1 locs ht hvm hr_5 hB hz1 hk1 hS => ?_)
          obtain ⟨q_6, f_7, f_8, f_9, hr_5_u, hP1, hD1⟩ := hB
          rw [ht] at hP1
          obtain ⟨hP, hD⟩ := va_join (wr := [(h0, .inr (6, [.ref hp, .ref hs, .ref hh, .ref hc, .ref kp, .ref rt, .int kr]))]) (w1 := [(rt, .inr (3, [.ref q1, .ref q2, .ref q3, .int (nI q_6)])), (q1, .inl (cI, 80, .inl f_7)), (q2, .inl (cI, 80, .inl f_8)), (q3, .inl (cI, 80, .inl f_9)), (hs, .inr (4, [.ref hh, .ref hc, .ref si])), (hh, .inr (1, [.int w0, .int w1, .int w2])), (hc, .inr (0, [.int a0, .int a1, .int (nI k0), .ref k1, .ref k2, .ref k3, .ref k4, .ref k5])), (k1, .inl (cI, 6, .inl g1)), (k2, .inl (cI, 6, .inl g2)), (si, .inr (5, [.ref tw, .ref tb])), (tw, .inl (cI, 400, .inl ft)), (tb, .inl (cI, 400, .inl fb))]) hP hD [1, 2, 3, 4, 5, 6, 7, 8, 9, 10, 11, 12] [0] rfl rfl (by decide) (by decide) hk1 hFc hP1 hD1
          generalize H1 = H at hP hS ⊢
          have hP : va_P (dC, dI) vwCl [(h0, .inr (6, [.ref hp, .ref hs, .ref hh, .ref hc, .ref kp, .ref rt, .int kr])), (rt, .inr (3, [.ref q1, .ref q2, .ref q3, .int (nI q_6)])), (q1, .inl (cI, 80, .inl f_7)), (q2, .inl (cI, 80, .inl f_8)), (q3, .inl (cI, 80, .inl f_9)), (hs, .inr (4, [.ref hh, .ref hc, .ref si])), (hh, .inr (1, [.int w0, .int w1, .int w2])), (hc, .inr (0, [.int a0, .int a1, .int (nI k0), .ref k1, .ref k2, .ref k3, .ref k4, .ref k5])), (k1, .inl (cI, 6, .inl g1)), (k2, .inl (cI, 6, .inl g2)), (si, .inr (5, [.ref tw, .ref tb])), (tw, .inl (cI, 400, .inl ft)), (tb, .inl (cI, 400, .inl fb))] H := hP
          have hD : va_D A [(h0, .inr (6, [.ref hp, .ref hs, .ref hh, .ref hc, .ref kp, .ref rt, .int kr])), (rt, .inr (3, [.ref q1, .ref q2, .ref q3, .int (nI q_6)])), (q1, .inl (cI, 80, .inl f_7)), (q2, .inl (cI, 80, .inl f_8)), (q3, .inl (cI, 80, .inl f_9)), (hs, .inr (4, [.ref hh, .ref hc, .ref si])), (hh, .inr (1, [.int w0, .int w1, .int w2])), (hc, .inr (0, [.int a0, .int a1, .int (nI k0), .ref k1, .ref k2, .ref k3, .ref k4, .ref k5])), (k1, .inl (cI, 6, .inl g1)), (k2, .inl (cI, 6, .inl g2)), (si, .inr (5, [.ref tw, .ref tb])), (tw, .inl (cI, 400, .inl ft)), (tb, .inl (cI, 400, .inl fb))] := hD
          refine lv_istore_n (lv' := [(3, .int r_5), (0, .ref h0), (1, .int p0), (2, .int p1)]) hx hb dX6_way_55 rfl hl (by decide) rfl (fun ls hl => ?_)
          refine lv_iload_n hx hb dX6_way_56 rfl (lv_at hl 0 rfl) ?_
          refine lv_iconst (v := (-1)) hx hb dX6_way_57 (by decide) ?_
          refine lv_icmp_ne (tgt := 63) hx hb dX6_way_58 (by decide) (fun c_10 => ?_) (fun c_10 => ?_)
          · refine lv_iload_n hx hb dX6_way_63 rfl (lv_at hl 3 rfl) ?_
            refine lv_if_ne (tgt := 78) hx hb dX6_way_64 (by decide) (fun c_11 => ?_) (fun c_11 => ?_)
            · refine lv_aload_n hx hb dX6_way_78 rfl (lv_at hl 1 rfl) ?_
              refine va_get (D := (dC, dI)) (ci := 6) (v := .ref rt) (C := RX6) (T := TX6) (N := 7) hx hb hts hiX6 hown hK hP 0 rfl rfl 5 (by decide) (hts (.fieldLink RX6 42 "LeftProfile" "route" "LLeftProfile$Route;") (List.mem_of_getElem? (i := 3) rfl)) (fun _ h9 => h9) rfl dX6_way_79 ?_
              refine lv_iload_n hx hb dX6_way_82 rfl (lv_at hl 0 rfl) ?_
              refine vp_callSi (cz_run (va_runV (As := [.int r_5]) (rest := []) ⟨hx, hb, hml, hown, hts⟩ (c_X3_firstTo l dC dI cI cB rt r_5 q1 q2 q3 q_6 f_9 ) (cwV 1 hts gX6_way_X3_firstTo rfl rfl rfl (by decide +kernel) ⟨Nat.le_of_ble_eq_true rfl, Nat.le_of_ble_eq_true rfl⟩) (cz_pV (hP.sub (ws' := [(rt, .inr (3, [.ref q1, .ref q2, .ref q3, .int (nI q_6)])), (q3, .inl (cI, 80, .inl f_9))]) [1, 4] rfl) hN (va_recv hK (hP.sub (ws' := [(rt, .inr (3, [.ref q1, .ref q2, .ref q3, .int (nI q_6)])), (q3, .inl (cI, 80, .inl f_9))]) [1, 4] rfl) (ci := 3) (q0 := 0) rfl rfl)) rfl rfl hl.1 rfl (lv_room (Nat.le_of_ble_eq_true rfl)) dX6_way_83 ⟨Nat.le_of_ble_eq_true rfl, Nat.le_of_ble_eq_true rfl⟩)) (fun r_12 hr_12 => ?_)
              refine W.widen (k := 0) (n := 0) (Nat.le_of_ble_eq_true rfl) (Nat.le_of_ble_eq_true rfl) ?_
              have hP9 := hP.sub (ws' := [(h0, .inr (6, [.ref hp, .ref hs, .ref hh, .ref hc, .ref kp, .ref rt, .int kr])), (rt, .inr (3, [.ref q1, .ref q2, .ref q3, .int (nI q_6)])), (q1, .inl (cI, 80, .inl f_7)), (q2, .inl (cI, 80, .inl f_8)), (q3, .inl (cI, 80, .inl f_9)), (hs, .inr (4, [.ref hh, .ref hc, .ref si])), (hh, .inr (1, [.int w0, .int w1, .int w2])), (hc, .inr (0, [.int a0, .int a1, .int (nI k0), .ref k1, .ref k2, .ref k3, .ref k4, .ref k5])), (k1, .inl (cI, 6, .inl g1)), (k2, .inl (cI, 6, .inl g2)), (si, .inr (5, [.ref tw, .ref tb])), (tw, .inl (cI, 400, .inl ft)), (tb, .inl (cI, 400, .inl fb))]) [0, 1, 2, 3, 4, 5, 6, 7, 8, 9, 10, 11, 12] rfl
              have hD9 := hD.sub (ws' := [(h0, .inr (6, [.ref hp, .ref hs, .ref hh, .ref hc, .ref kp, .ref rt, .int kr])), (rt, .inr (3, [.ref q1, .ref q2, .ref q3, .int (nI q_6)])), (q1, .inl (cI, 80, .inl f_7)), (q2, .inl (cI, 80, .inl f_8)), (q3, .inl (cI, 80, .inl f_9)), (hs, .inr (4, [.ref hh, .ref hc, .ref si])), (hh, .inr (1, [.int w0, .int w1, .int w2])), (hc, .inr (0, [.int a0, .int a1, .int (nI k0), .ref k1, .ref k2, .ref k3, .ref k4, .ref k5])), (k1, .inl (cI, 6, .inl g1)), (k2, .inl (cI, 6, .inl g2)), (si, .inr (5, [.ref tw, .ref tb])), (tw, .inl (cI, 400, .inl ft)), (tb, .inl (cI, 400, .inl fb))]) [0, 1, 2, 3, 4, 5, 6, 7, 8, 9, 10, 11, 12] (by decide) rfl
              rw [hQ]; exact W.iret (v := r_12) hx hb hr (fun t ht hW => ⟨⟨r_12, (), rfl, trivial, ⟨q_6, f_7, f_8, f_9, hr_5_u, by rw [ht]; exact hP9, hD9⟩⟩, hS.F ht⟩) hS.2.2 dX6_way_86
            · refine lv_aload_n hx hb dX6_way_67 rfl (lv_at hl 1 rfl) ?_
              refine va_get (D := (dC, dI)) (ci := 6) (v := .ref rt) (C := RX6) (T := TX6) (N := 7) hx hb hts hiX6 hown hK hP 0 rfl rfl 5 (by decide) (hts (.fieldLink RX6 42 "LeftProfile" "route" "LLeftProfile$Route;") (List.mem_of_getElem? (i := 3) rfl)) (fun _ h9 => h9) rfl dX6_way_68 ?_
              refine lv_iload_n hx hb dX6_way_71 rfl (lv_at hl 0 rfl) ?_
              refine vp_callSi (cz_run (va_runV (As := [.int r_5]) (rest := []) ⟨hx, hb, hml, hown, hts⟩ (c_X3_lengthTo l dC dI cI cB rt r_5 q1 q2 q3 q_6 f_8 ) (cwV 1 hts gX6_way_X3_lengthTo rfl rfl rfl (by decide +kernel) ⟨Nat.le_of_ble_eq_true rfl, Nat.le_of_ble_eq_true rfl⟩) (cz_pV (hP.sub (ws' := [(rt, .inr (3, [.ref q1, .ref q2, .ref q3, .int (nI q_6)])), (q2, .inl (cI, 80, .inl f_8))]) [1, 3] rfl) hN (va_recv hK (hP.sub (ws' := [(rt, .inr (3, [.ref q1, .ref q2, .ref q3, .int (nI q_6)])), (q2, .inl (cI, 80, .inl f_8))]) [1, 3] rfl) (ci := 3) (q0 := 0) rfl rfl)) rfl rfl hl.1 rfl (lv_room (Nat.le_of_ble_eq_true rfl)) dX6_way_72 ⟨Nat.le_of_ble_eq_true rfl, Nat.le_of_ble_eq_true rfl⟩)) (fun r_13 hr_13 => ?_)
              refine lv_goto (tgt := 86) hx hb dX6_way_75 (by decide) ?_
              refine W.widen (k := 0) (n := 0) (Nat.le_of_ble_eq_true rfl) (Nat.le_of_ble_eq_true rfl) ?_
              have hP9 := hP.sub (ws' := [(h0, .inr (6, [.ref hp, .ref hs, .ref hh, .ref hc, .ref kp, .ref rt, .int kr])), (rt, .inr (3, [.ref q1, .ref q2, .ref q3, .int (nI q_6)])), (q1, .inl (cI, 80, .inl f_7)), (q2, .inl (cI, 80, .inl f_8)), (q3, .inl (cI, 80, .inl f_9)), (hs, .inr (4, [.ref hh, .ref hc, .ref si])), (hh, .inr (1, [.int w0, .int w1, .int w2])), (hc, .inr (0, [.int a0, .int a1, .int (nI k0), .ref k1, .ref k2, .ref k3, .ref k4, .ref k5])), (k1, .inl (cI, 6, .inl g1)), (k2, .inl (cI, 6, .inl g2)), (si, .inr (5, [.ref tw, .ref tb])), (tw, .inl (cI, 400, .inl ft)), (tb, .inl (cI, 400, .inl fb))]) [0, 1, 2, 3, 4, 5, 6, 7, 8, 9, 10, 11, 12] rfl
              have hD9 := hD.sub (ws' := [(h0, .inr (6, [.ref hp, .ref hs, .ref hh, .ref hc, .ref kp, .ref rt, .int kr])), (rt, .inr (3, [.ref q1, .ref q2, .ref q3, .int (nI q_6)])), (q1, .inl (cI, 80, .inl f_7)), (q2, .inl (cI, 80, .inl f_8)), (q3, .inl (cI, 80, .inl f_9)), (hs, .inr (4, [.ref hh, .ref hc, .ref si])), (hh, .inr (1, [.int w0, .int w1, .int w2])), (hc, .inr (0, [.int a0, .int a1, .int (nI k0), .ref k1, .ref k2, .ref k3, .ref k4, .ref k5])), (k1, .inl (cI, 6, .inl g1)), (k2, .inl (cI, 6, .inl g2)), (si, .inr (5, [.ref tw, .ref tb])), (tw, .inl (cI, 400, .inl ft)), (tb, .inl (cI, 400, .inl fb))]) [0, 1, 2, 3, 4, 5, 6, 7, 8, 9, 10, 11, 12] (by decide) rfl
              rw [hQ]; exact W.iret (v := r_13) hx hb hr (fun t ht hW => ⟨⟨r_13, (), rfl, trivial, ⟨q_6, f_7, f_8, f_9, hr_5_u, by rw [ht]; exact hP9, hD9⟩⟩, hS.F ht⟩) hS.2.2 dX6_way_86
          · refine lv_iconst (v := (-1)) hx hb dX6_way_61 (by decide) ?_
            refine W.widen (k := 0) (n := 0) (Nat.le_of_ble_eq_true rfl) (Nat.le_of_ble_eq_true rfl) ?_
            have hP9 := hP.sub (ws' := [(h0, .inr (6, [.ref hp, .ref hs, .ref hh, .ref hc, .ref kp, .ref rt, .int kr])), (rt, .inr (3, [.ref q1, .ref q2, .ref q3, .int (nI q_6)])), (q1, .inl (cI, 80, .inl f_7)), (q2, .inl (cI, 80, .inl f_8)), (q3, .inl (cI, 80, .inl f_9)), (hs, .inr (4, [.ref hh, .ref hc, .ref si])), (hh, .inr (1, [.int w0, .int w1, .int w2])), (hc, .inr (0, [.int a0, .int a1, .int (nI k0), .ref k1, .ref k2, .ref k3, .ref k4, .ref k5])), (k1, .inl (cI, 6, .inl g1)), (k2, .inl (cI, 6, .inl g2)), (si, .inr (5, [.ref tw, .ref tb])), (tw, .inl (cI, 400, .inl ft)), (tb, .inl (cI, 400, .inl fb))]) [0, 1, 2, 3, 4, 5, 6, 7, 8, 9, 10, 11, 12] rfl
            have hD9 := hD.sub (ws' := [(h0, .inr (6, [.ref hp, .ref hs, .ref hh, .ref hc, .ref kp, .ref rt, .int kr])), (rt, .inr (3, [.ref q1, .ref q2, .ref q3, .int (nI q_6)])), (q1, .inl (cI, 80, .inl f_7)), (q2, .inl (cI, 80, .inl f_8)), (q3, .inl (cI, 80, .inl f_9)), (hs, .inr (4, [.ref hh, .ref hc, .ref si])), (hh, .inr (1, [.int w0, .int w1, .int w2])), (hc, .inr (0, [.int a0, .int a1, .int (nI k0), .ref k1, .ref k2, .ref k3, .ref k4, .ref k5])), (k1, .inl (cI, 6, .inl g1)), (k2, .inl (cI, 6, .inl g2)), (si, .inr (5, [.ref tw, .ref tb])), (tw, .inl (cI, 400, .inl ft)), (tb, .inl (cI, 400, .inl fb))]) [0, 1, 2, 3, 4, 5, 6, 7, 8, 9, 10, 11, 12] (by decide) rfl
            rw [hQ]; exact W.iret (v := (-1)) hx hb hr (fun t ht hW => ⟨⟨(-1), (), rfl, trivial, ⟨q_6, f_7, f_8, f_9, hr_5_u, by rw [ht]; exact hP9, hD9⟩⟩, hS.F ht⟩) hS.2.2 dX6_way_62
        · refine lv_bipush (v := (-103)) hx hb dX6_way_33 (by decide) ?_
          refine W.widen (k := 0) (n := 0) (Nat.le_of_ble_eq_true rfl) (Nat.le_of_ble_eq_true rfl) ?_
          have hP9 := hP.sub (ws' := [(h0, .inr (6, [.ref hp, .ref hs, .ref hh, .ref hc, .ref kp, .ref rt, .int kr])), (rt, .inr (3, [.ref q1, .ref q2, .ref q3, .int (nI u0)])), (q1, .inl (cI, 80, .inl v1)), (q2, .inl (cI, 80, .inl v2)), (q3, .inl (cI, 80, .inl v3)), (hs, .inr (4, [.ref hh, .ref hc, .ref si])), (hh, .inr (1, [.int w0, .int w1, .int w2])), (hc, .inr (0, [.int a0, .int a1, .int (nI k0), .ref k1, .ref k2, .ref k3, .ref k4, .ref k5])), (k1, .inl (cI, 6, .inl g1)), (k2, .inl (cI, 6, .inl g2)), (si, .inr (5, [.ref tw, .ref tb])), (tw, .inl (cI, 400, .inl ft)), (tb, .inl (cI, 400, .inl fb))]) [0, 1, 2, 3, 4, 5, 6, 7, 8, 9, 10, 11, 12] rfl
          have hD9 := hD.sub (ws' := [(h0, .inr (6, [.ref hp, .ref hs, .ref hh, .ref hc, .ref kp, .ref rt, .int kr])), (rt, .inr (3, [.ref q1, .ref q2, .ref q3, .int (nI u0)])), (q1, .inl (cI, 80, .inl v1)), (q2, .inl (cI, 80, .inl v2)), (q3, .inl (cI, 80, .inl v3)), (hs, .inr (4, [.ref hh, .ref hc, .ref si])), (hh, .inr (1, [.int w0, .int w1, .int w2])), (hc, .inr (0, [.int a0, .int a1, .int (nI k0), .ref k1, .ref k2, .ref k3, .ref k4, .ref k5])), (k1, .inl (cI, 6, .inl g1)), (k2, .inl (cI, 6, .inl g2)), (si, .inr (5, [.ref tw, .ref tb])), (tw, .inl (cI, 400, .inl ft)), (tb, .inl (cI, 400, .inl fb))]) [0, 1, 2, 3, 4, 5, 6, 7, 8, 9, 10, 11, 12] (by decide) rfl
          rw [hQ]; exact W.iret (v := (-103)) hx hb hr (fun t ht hW => ⟨⟨(-103), (), rfl, trivial, ⟨u0, v1, v2, v3, hu80, by rw [ht]; exact hP9, hD9⟩⟩, hS.F ht⟩) hS.2.2 dX6_way_35
      · refine lv_bipush (v := (-102)) hx hb dX6_way_19 (by decide) ?_
        refine W.widen (k := 0) (n := 0) (Nat.le_of_ble_eq_true rfl) (Nat.le_of_ble_eq_true rfl) ?_
        have hP9 := hP.sub (ws' := [(h0, .inr (6, [.ref hp, .ref hs, .ref hh, .ref hc, .ref kp, .ref rt, .int kr])), (rt, .inr (3, [.ref q1, .ref q2, .ref q3, .int (nI u0)])), (q1, .inl (cI, 80, .inl v1)), (q2, .inl (cI, 80, .inl v2)), (q3, .inl (cI, 80, .inl v3)), (hs, .inr (4, [.ref hh, .ref hc, .ref si])), (hh, .inr (1, [.int w0, .int w1, .int w2])), (hc, .inr (0, [.int a0, .int a1, .int (nI k0), .ref k1, .ref k2, .ref k3, .ref k4, .ref k5])), (k1, .inl (cI, 6, .inl g1)), (k2, .inl (cI, 6, .inl g2)), (si, .inr (5, [.ref tw, .ref tb])), (tw, .inl (cI, 400, .inl ft)), (tb, .inl (cI, 400, .inl fb))]) [0, 1, 2, 3, 4, 5, 6, 7, 8, 9, 10, 11, 12] rfl
        have hD9 := hD.sub (ws' := [(h0, .inr (6, [.ref hp, .ref hs, .ref hh, .ref hc, .ref kp, .ref rt, .int kr])), (rt, .inr (3, [.ref q1, .ref q2, .ref q3, .int (nI u0)])), (q1, .inl (cI, 80, .inl v1)), (q2, .inl (cI, 80, .inl v2)), (q3, .inl (cI, 80, .inl v3)), (hs, .inr (4, [.ref hh, .ref hc, .ref si])), (hh, .inr (1, [.int w0, .int w1, .int w2])), (hc, .inr (0, [.int a0, .int a1, .int (nI k0), .ref k1, .ref k2, .ref k3, .ref k4, .ref k5])), (k1, .inl (cI, 6, .inl g1)), (k2, .inl (cI, 6, .inl g2)), (si, .inr (5, [.ref tw, .ref tb])), (tw, .inl (cI, 400, .inl ft)), (tb, .inl (cI, 400, .inl fb))]) [0, 1, 2, 3, 4, 5, 6, 7, 8, 9, 10, 11, 12] (by decide) rfl
        rw [hQ]; exact W.iret (v := (-102)) hx hb hr (fun t ht hW => ⟨⟨(-102), (), rfl, trivial, ⟨u0, v1, v2, v3, hu80, by rw [ht]; exact hP9, hD9⟩⟩, hS.F ht⟩) hS.2.2 dX6_way_21

set_option maxHeartbeats 4000000 in
set_option maxRecDepth 100000 in
theorem c_X6_told (l : Launch) (dC : Nat → ClassId) (dI : Nat → Nat → Nat) (cI cB : ClassId) (h0 : Nat) (p0 : Int32) (p1 : Int32) (hp : Nat) (hs : Nat) (hh : Nat) (hc : Nat) (kp : Nat) (rt : Nat) (kr : Int32) (a0 : Int32) (a1 : Int32) (k0 : Nat) (k1 : Nat) (k2 : Nat) (k3 : Nat) (k4 : Nat) (k5 : Nat) (g5 : Nat → Int32) (sz : Nat) (hk6 : k0 ≤ 6) : Met l yX6_told wsX6_told ({ frames := 1, cells := 0, slots := 0, locals := 21 }) (cz_Pm dC dI cI cB [.ref h0, .int p0, .int p1] [(h0, .inr (6, [.ref hp, .ref hs, .ref hh, .ref hc, .ref kp, .ref rt, .int kr])), (hc, .inr (0, [.int a0, .int a1, .int (nI k0), .ref k1, .ref k2, .ref k3, .ref k4, .ref k5])), (k5, .inl (cI, 6, .inl g5))] sz) (va_Qi (fun (r : Int32) (_ : Unit) => True) (fun _ t => ∃ (t5 : Nat → Int32), va_P (dC, dI) vwCl [(h0, .inr (6, [.ref hp, .ref hs, .ref hh, .ref hc, .ref kp, .ref rt, .int kr])), (hc, .inr (0, [.int a0, .int a1, .int (nI k0), .ref k1, .ref k2, .ref k3, .ref k4, .ref k5])), (k5, .inl (cI, 6, .inl t5))] t.heap ∧ va_D (va_A [(h0, .inr (6, [.ref hp, .ref hs, .ref hh, .ref hc, .ref kp, .ref rt, .int kr])), (hc, .inr (0, [.int a0, .int a1, .int (nI k0), .ref k1, .ref k2, .ref k3, .ref k4, .ref k5])), (k5, .inl (cI, 6, .inl g5))] sz) [(h0, .inr (6, [.ref hp, .ref hs, .ref hh, .ref hc, .ref kp, .ref rt, .int kr])), (hc, .inr (0, [.int a0, .int a1, .int (nI k0), .ref k1, .ref k2, .ref k3, .ref k4, .ref k5])), (k5, .inl (cI, 6, .inl t5))]) (va_A [(h0, .inr (6, [.ref hp, .ref hs, .ref hh, .ref hc, .ref kp, .ref rt, .int kr])), (hc, .inr (0, [.int a0, .int a1, .int (nI k0), .ref k1, .ref k2, .ref k3, .ref k4, .ref k5])), (k5, .inl (cI, 6, .inl g5))] sz)) 0 0 (va_A [(h0, .inr (6, [.ref hp, .ref hs, .ref hh, .ref hc, .ref kp, .ref rt, .int kr])), (hc, .inr (0, [.int a0, .int a1, .int (nI k0), .ref k1, .ref k2, .ref k3, .ref k4, .ref k5])), (k5, .inl (cI, 6, .inl g5))] sz) := by
  refine cz_of (cc := cX6_told) (maxL := 4) (ret := (some .int)) (by decide) rfl ?_
  intro p e s m args below meth c s₁ Q B hml hv hQ
  obtain ⟨rfl, hsz, hP, hN, hD0⟩ := hv
  have hx := B.exec
  have hb := B.bytes
  have hr := B.returns
  have hts := atoms_spec (ws := wsX6_told) B.pre
  have hown : s.vm.findClass RX6 = some m.cls := findClass_of_methodNamed B.named
  have hlocks := B.notSynchronized
  have hK := hN.1
  have hiX0 : ∀ w ∈ wsX00, w ∈ wsX6_told := (fun _ h => List.mem_cons_of_mem _ (List.mem_append_right _ h))
  have hiX6 : ∀ w ∈ wsX60, w ∈ wsX6_told := (fun _ h => List.mem_cons_of_mem _ (List.mem_append_left _ (List.mem_append_right _ h)))
  subst hsz
  have hD := hD0.self (sz := s.heap.size)
  generalize hAe : va_A [(h0, .inr (6, [.ref hp, .ref hs, .ref hh, .ref hc, .ref kp, .ref rt, .int kr])), (hc, .inr (0, [.int a0, .int a1, .int (nI k0), .ref k1, .ref k2, .ref k3, .ref k4, .ref k5])), (k5, .inl (cI, 6, .inl g5))] s.heap.size = A at hD hQ ⊢
  have hA : ∀ q : Nat, s.heap.size ≤ q → A q := fun q h => by rw [← hAe]; exact Or.inr h
  have hS : va_S A s.heap s.heap [] := va_S.rf
  obtain ⟨H, eH⟩ : ∃ H, H = s.heap := ⟨_, rfl⟩
  have hP : va_P (dC, dI) vwCl [(h0, .inr (6, [.ref hp, .ref hs, .ref hh, .ref hc, .ref kp, .ref rt, .int kr])), (hc, .inr (0, [.int a0, .int a1, .int (nI k0), .ref k1, .ref k2, .ref k3, .ref k4, .ref k5])), (k5, .inl (cI, 6, .inl g5))] s.heap := hP
  have hl := lv_entry ([.ref h0, .int p0, .int p1]) (n := 4) (Nat.le_of_ble_eq_true rfl)
  rw [lg_entry_eq]
  generalize (lg_sl ([.ref h0, .int p0, .int p1]) ++ List.replicate (4 - (lg_sl ([.ref h0, .int p0, .int p1])).length) Slot.unset).toArray = ls at hl ⊢
  have hl : lv_has ls 4 [(0, .ref h0), (1, .int p0), (2, .int p1)] := hl
  refine lv_aload_n hx hb dX6_told_0 rfl (lv_at hl 0 rfl) ?_
  refine va_get (D := (dC, dI)) (ci := 6) (v := .ref hc) (C := RX6) (T := TX6) (N := 7) hx hb hts hiX6 hown hK hP 0 rfl rfl 3 (by decide) (hts (.fieldLink RX6 32 "LeftProfile" "court" "LLeftProfile$Court;") (List.mem_of_getElem? (i := 1) rfl)) (fun _ h9 => h9) rfl dX6_told_1 ?_
  refine lv_iload_n hx hb dX6_told_4 rfl (lv_at hl 1 rfl) ?_
  refine vp_callSi (cz_run (va_runV (As := [.int p0]) (rest := []) ⟨hx, hb, hml, hown, hts⟩ (c_X0_has l dC dI cI cB hc p0 a0 a1 k0 k1 k2 k3 k4 k5 hk6) (cwV 1 hts gX6_told_X0_has rfl rfl rfl (by decide +kernel) ⟨Nat.le_of_ble_eq_true rfl, Nat.le_of_ble_eq_true rfl⟩) (cz_pV (hP.sub (ws' := [(hc, .inr (0, [.int a0, .int a1, .int (nI k0), .ref k1, .ref k2, .ref k3, .ref k4, .ref k5]))]) [1] rfl) hN (va_recv hK (hP.sub (ws' := [(hc, .inr (0, [.int a0, .int a1, .int (nI k0), .ref k1, .ref k2, .ref k3, .ref k4, .ref k5]))]) [1] rfl) (ci := 0) (q0 := 0) rfl rfl)) rfl rfl hl.1 rfl (lv_room (Nat.le_of_ble_eq_true rfl)) dX6_told_5 ⟨Nat.le_of_ble_eq_true rfl, Nat.le_of_ble_eq_true rfl⟩)) (fun r_1 hr_1 => ?_)
  rcases hr_1 with ⟨rfl, hr_1⟩ | ⟨rfl, j_2, hr_1, rfl⟩
  · refine lv_if_ne (tgt := 14) hx hb dX6_told_8 (by decide) (fun c => absurd (by decide) c) (fun _ => ?_)
    refine lv_bipush (v := (-101)) hx hb dX6_told_11 (by decide) ?_
    refine W.widen (k := 0) (n := 0) (Nat.le_of_ble_eq_true rfl) (Nat.le_of_ble_eq_true rfl) ?_
    have hP9 := hP.sub (ws' := [(h0, .inr (6, [.ref hp, .ref hs, .ref hh, .ref hc, .ref kp, .ref rt, .int kr])), (hc, .inr (0, [.int a0, .int a1, .int (nI k0), .ref k1, .ref k2, .ref k3, .ref k4, .ref k5])), (k5, .inl (cI, 6, .inl g5))]) [0, 1, 2] rfl
    have hD9 := hD.sub (ws' := [(h0, .inr (6, [.ref hp, .ref hs, .ref hh, .ref hc, .ref kp, .ref rt, .int kr])), (hc, .inr (0, [.int a0, .int a1, .int (nI k0), .ref k1, .ref k2, .ref k3, .ref k4, .ref k5])), (k5, .inl (cI, 6, .inl g5))]) [0, 1, 2] (by decide) rfl
    rw [hQ]; exact W.iret (v := (-101)) hx hb hr (fun t ht hW => ⟨⟨(-101), (), rfl, trivial, ⟨g5, by rw [ht]; exact hP9, hD9⟩⟩, hS.F ht⟩) hS.2.2 dX6_told_13
  · refine lv_if_ne (tgt := 14) hx hb dX6_told_8 (by decide) (fun _ => ?_) (fun c => absurd c (by decide))
    refine lv_iload_n hx hb dX6_told_14 rfl (lv_at hl 2 rfl) ?_
    refine lv_iconst (v := (-1)) hx hb dX6_told_15 (by decide) ?_
    refine lv_icmp_lt (tgt := 24) hx hb dX6_told_16 (by decide) (fun c_3 => ?_) (fun c_3 => ?_)
    · refine lv_bipush (v := (-102)) hx hb dX6_told_24 (by decide) ?_
      refine W.widen (k := 0) (n := 0) (Nat.le_of_ble_eq_true rfl) (Nat.le_of_ble_eq_true rfl) ?_
      have hP9 := hP.sub (ws' := [(h0, .inr (6, [.ref hp, .ref hs, .ref hh, .ref hc, .ref kp, .ref rt, .int kr])), (hc, .inr (0, [.int a0, .int a1, .int (nI k0), .ref k1, .ref k2, .ref k3, .ref k4, .ref k5])), (k5, .inl (cI, 6, .inl g5))]) [0, 1, 2] rfl
      have hD9 := hD.sub (ws' := [(h0, .inr (6, [.ref hp, .ref hs, .ref hh, .ref hc, .ref kp, .ref rt, .int kr])), (hc, .inr (0, [.int a0, .int a1, .int (nI k0), .ref k1, .ref k2, .ref k3, .ref k4, .ref k5])), (k5, .inl (cI, 6, .inl g5))]) [0, 1, 2] (by decide) rfl
      rw [hQ]; exact W.iret (v := (-102)) hx hb hr (fun t ht hW => ⟨⟨(-102), (), rfl, trivial, ⟨g5, by rw [ht]; exact hP9, hD9⟩⟩, hS.F ht⟩) hS.2.2 dX6_told_26
    · refine lv_iload_n hx hb dX6_told_19 rfl (lv_at hl 2 rfl) ?_
      refine lv_iconst (v := 4) hx hb dX6_told_20 (by decide) ?_
      refine lv_icmp_le (tgt := 27) hx hb dX6_told_21 (by decide) (fun c_4 => ?_) (fun c_4 => ?_)
      · refine lv_aload_n hx hb dX6_told_27 rfl (lv_at hl 0 rfl) ?_
        refine va_get (D := (dC, dI)) (ci := 6) (v := .ref hc) (C := RX6) (T := TX6) (N := 7) hx hb hts hiX6 hown hK hP 0 rfl rfl 3 (by decide) (hts (.fieldLink RX6 32 "LeftProfile" "court" "LLeftProfile$Court;") (List.mem_of_getElem? (i := 1) rfl)) (fun _ h9 => h9) rfl dX6_told_28 ?_
        refine va_get (D := (dC, dI)) (ci := 0) (v := .ref k5) (C := RX0) (T := TX0) (N := 8) hx hb hts hiX0 hown hK hP 1 rfl rfl 7 (by decide) (hts (.fieldLink RX6 177 "LeftProfile$Court" "told" "[I") (List.mem_of_getElem? (i := 2) rfl)) (fun _ h9 => h9) rfl dX6_told_31 ?_
        refine lv_iload_n hx hb dX6_told_34 rfl (lv_at hl 1 rfl) ?_
        refine va_iald hx hb hK hP 2 0 rfl rfl (vp_in_nI (n := j_2) (by omega) (by omega)) dX6_told_35 ?_
        refine cz_i (y := (g5 j_2)) (congrArg g5 (nI_clamp (n := j_2) (by omega))) ?_
        refine lv_istore_n (lv' := [(3, .int (g5 j_2)), (0, .ref h0), (1, .int (nI j_2)), (2, .int p1)]) hx hb dX6_told_36 rfl hl (by decide) rfl (fun ls hl => ?_)
        refine lv_aload_n hx hb dX6_told_37 rfl (lv_at hl 1 rfl) ?_
        refine va_get (D := (dC, dI)) (ci := 6) (v := .ref hc) (C := RX6) (T := TX6) (N := 7) hx hb hts hiX6 hown hK hP 0 rfl rfl 3 (by decide) (hts (.fieldLink RX6 32 "LeftProfile" "court" "LLeftProfile$Court;") (List.mem_of_getElem? (i := 1) rfl)) (fun _ h9 => h9) rfl dX6_told_38 ?_
        refine va_get (D := (dC, dI)) (ci := 0) (v := .ref k5) (C := RX0) (T := TX0) (N := 8) hx hb hts hiX0 hown hK hP 1 rfl rfl 7 (by decide) (hts (.fieldLink RX6 177 "LeftProfile$Court" "told" "[I") (List.mem_of_getElem? (i := 2) rfl)) (fun _ h9 => h9) rfl dX6_told_41 ?_
        refine lv_iload_n hx hb dX6_told_44 rfl (lv_at hl 2 rfl) ?_
        refine lv_iload_n hx hb dX6_told_45 rfl (lv_at hl 3 rfl) ?_
        refine va_iast hx hb hK hP hD hS 2 0 rfl rfl (vp_in_nI (n := j_2) (by omega) (by omega)) dX6_told_46 (fun H locs hP hD hS => ?_)
        rw [show (nI j_2).toNatClampNeg = j_2 from nI_clamp (n := j_2) (by omega)] at hP hD
        have hP : va_P (dC, dI) vwCl [(h0, .inr (6, [.ref hp, .ref hs, .ref hh, .ref hc, .ref kp, .ref rt, .int kr])), (hc, .inr (0, [.int a0, .int a1, .int (nI k0), .ref k1, .ref k2, .ref k3, .ref k4, .ref k5])), (k5, .inl (cI, 6, .inl (upd g5 j_2 p1)))] H := hP
        have hD : va_D A [(h0, .inr (6, [.ref hp, .ref hs, .ref hh, .ref hc, .ref kp, .ref rt, .int kr])), (hc, .inr (0, [.int a0, .int a1, .int (nI k0), .ref k1, .ref k2, .ref k3, .ref k4, .ref k5])), (k5, .inl (cI, 6, .inl (upd g5 j_2 p1)))] := hD
        refine lv_iload_n hx hb dX6_told_47 rfl (lv_at hl 0 rfl) ?_
        refine W.widen (k := 0) (n := 0) (Nat.le_of_ble_eq_true rfl) (Nat.le_of_ble_eq_true rfl) ?_
        have hP9 := hP.sub (ws' := [(h0, .inr (6, [.ref hp, .ref hs, .ref hh, .ref hc, .ref kp, .ref rt, .int kr])), (hc, .inr (0, [.int a0, .int a1, .int (nI k0), .ref k1, .ref k2, .ref k3, .ref k4, .ref k5])), (k5, .inl (cI, 6, .inl (upd g5 j_2 p1)))]) [0, 1, 2] rfl
        have hD9 := hD.sub (ws' := [(h0, .inr (6, [.ref hp, .ref hs, .ref hh, .ref hc, .ref kp, .ref rt, .int kr])), (hc, .inr (0, [.int a0, .int a1, .int (nI k0), .ref k1, .ref k2, .ref k3, .ref k4, .ref k5])), (k5, .inl (cI, 6, .inl (upd g5 j_2 p1)))]) [0, 1, 2] (by decide) rfl
        rw [hQ]; exact W.iret (v := (g5 j_2)) hx hb hr (fun t ht hW => ⟨⟨(g5 j_2), (), rfl, trivial, ⟨(upd g5 j_2 p1), by rw [ht]; exact hP9, hD9⟩⟩, hS.F ht⟩) hS.2.2 dX6_told_48
      · refine lv_bipush (v := (-102)) hx hb dX6_told_24 (by decide) ?_
        refine W.widen (k := 0) (n := 0) (Nat.le_of_ble_eq_true rfl) (Nat.le_of_ble_eq_true rfl) ?_
        have hP9 := hP.sub (ws' := [(h0, .inr (6, [.ref hp, .ref hs, .ref hh, .ref hc, .ref kp, .ref rt, .int kr])), (hc, .inr (0, [.int a0, .int a1, .int (nI k0), .ref k1, .ref k2, .ref k3, .ref k4, .ref k5])), (k5, .inl (cI, 6, .inl g5))]) [0, 1, 2] rfl
        have hD9 := hD.sub (ws' := [(h0, .inr (6, [.ref hp, .ref hs, .ref hh, .ref hc, .ref kp, .ref rt, .int kr])), (hc, .inr (0, [.int a0, .int a1, .int (nI k0), .ref k1, .ref k2, .ref k3, .ref k4, .ref k5])), (k5, .inl (cI, 6, .inl g5))]) [0, 1, 2] (by decide) rfl
        rw [hQ]; exact W.iret (v := (-102)) hx hb hr (fun t ht hW => ⟨⟨(-102), (), rfl, trivial, ⟨g5, by rw [ht]; exact hP9, hD9⟩⟩, hS.F ht⟩) hS.2.2 dX6_told_26

set_option maxHeartbeats 4000000 in
set_option maxRecDepth 100000 in
theorem c_X6_stood (l : Launch) (dC : Nat → ClassId) (dI : Nat → Nat → Nat) (cI cB : ClassId) (h0 : Nat) (p0 : Int32) (hp : Nat) (hs : Nat) (hh : Nat) (hc : Nat) (kp : Nat) (rt : Nat) (kr : Int32) (si : Nat) (w0 : Int32) (w1 : Int32) (w2 : Int32) (a0 : Int32) (a1 : Int32) (k0 : Nat) (k1 : Nat) (k2 : Nat) (k3 : Nat) (k4 : Nat) (k5 : Nat) (g1 : Nat → Int32) (g2 : Nat → Int32) (tw : Nat) (tb : Nat) (ft : Nat → Int32) (fb : Nat → Int32) (g5 : Nat → Int32) (hk6 : k0 ≤ 6) : Met l yX6_stood wsX6_stood ({ frames := 6, cells := 0, slots := 0, locals := 144 }) (cz_Pp dC dI cI cB [.ref h0, .int p0] [(h0, .inr (6, [.ref hp, .ref hs, .ref hh, .ref hc, .ref kp, .ref rt, .int kr])), (hs, .inr (4, [.ref hh, .ref hc, .ref si])), (hh, .inr (1, [.int w0, .int w1, .int w2])), (hc, .inr (0, [.int a0, .int a1, .int (nI k0), .ref k1, .ref k2, .ref k3, .ref k4, .ref k5])), (k1, .inl (cI, 6, .inl g1)), (k2, .inl (cI, 6, .inl g2)), (si, .inr (5, [.ref tw, .ref tb])), (tw, .inl (cI, 400, .inl ft)), (tb, .inl (cI, 400, .inl fb)), (k5, .inl (cI, 6, .inl g5))]) (vp_Si (fun r : Int32 => True)) 0 0 (fun _ => False) := by
  refine cz_of (cc := cX6_stood) (maxL := 2) (ret := (some .int)) (by decide) rfl ?_
  intro p e s m args below meth c s₁ Q B hml hv hQ
  obtain ⟨rfl, hP, hN⟩ := hv
  have hx := B.exec
  have hb := B.bytes
  have hr := B.returns
  have hts := atoms_spec (ws := wsX6_stood) B.pre
  have hown : s.vm.findClass RX6 = some m.cls := findClass_of_methodNamed B.named
  have hlocks := B.notSynchronized
  have hK := hN.1
  have hiX6 : ∀ w ∈ wsX60, w ∈ wsX6_stood := (fun _ h => List.mem_cons_of_mem _ (List.mem_append_left _ (List.mem_append_left _ (List.mem_append_left _ (List.mem_append_left _ (List.mem_append_right _ h))))))
  have hl := lv_entry ([.ref h0, .int p0]) (n := 2) (Nat.le_of_ble_eq_true rfl)
  rw [lg_entry_eq]
  generalize (lg_sl ([.ref h0, .int p0]) ++ List.replicate (2 - (lg_sl ([.ref h0, .int p0])).length) Slot.unset).toArray = ls at hl ⊢
  have hl : lv_has ls 2 [(0, .ref h0), (1, .int p0)] := hl
  refine lv_iload_n hx hb dX6_stood_0 rfl (lv_at hl 1 rfl) ?_
  refine lv_if_lt (tgt := 9) hx hb dX6_stood_1 (by decide) (fun c_1 => ?_) (fun c_1 => ?_)
  · refine lv_bipush (v := (-102)) hx hb dX6_stood_9 (by decide) ?_
    rw [hQ]; exact W.iret (v := (-102)) hx hb hr (fun t ht hW => ⟨(-102), rfl, trivial, ht⟩) (fun _ h => absurd h List.not_mem_nil) dX6_stood_11
  · refine lv_iload_n hx hb dX6_stood_4 rfl (lv_at hl 1 rfl) ?_
    refine lv_iconst (v := 2) hx hb dX6_stood_5 (by decide) ?_
    refine lv_icmp_le (tgt := 12) hx hb dX6_stood_6 (by decide) (fun c_2 => ?_) (fun c_2 => ?_)
    · refine lv_aload_n hx hb dX6_stood_12 rfl (lv_at hl 0 rfl) ?_
      refine va_get (D := (dC, dI)) (ci := 6) (v := .ref hh) (C := RX6) (T := TX6) (N := 7) hx hb hts hiX6 hown hK hP 0 rfl rfl 2 (by decide) (hts (.fieldLink RX6 27 "LeftProfile" "hall" "LLeftProfile$Hall;") (List.mem_of_getElem? (i := 1) rfl)) (fun _ h9 => h9) rfl dX6_stood_13 ?_
      refine vp_callSi (cz_run (va_runV (As := []) (rest := []) ⟨hx, hb, hml, hown, hts⟩ (c_X1_isMissing l dC dI cI cB hh w0 w1 w2 ) (cwV 0 hts gX6_stood_X1_isMissing rfl rfl rfl (by decide +kernel) ⟨Nat.le_of_ble_eq_true rfl, Nat.le_of_ble_eq_true rfl⟩) (cz_pV (hP.sub (ws' := [(hh, .inr (1, [.int w0, .int w1, .int w2]))]) [2] rfl) hN (va_recv hK (hP.sub (ws' := [(hh, .inr (1, [.int w0, .int w1, .int w2]))]) [2] rfl) (ci := 1) (q0 := 0) rfl rfl)) rfl rfl hl.1 rfl (lv_room (Nat.le_of_ble_eq_true rfl)) dX6_stood_16 ⟨Nat.le_of_ble_eq_true rfl, Nat.le_of_ble_eq_true rfl⟩)) (fun r_3 hr_3 => ?_)
      rcases hr_3 with ⟨rfl, hr_3⟩ | ⟨rfl, hr_3⟩
      · refine lv_if_eq (tgt := 25) hx hb dX6_stood_19 (by decide) (fun _ => ?_) (fun c => absurd (by decide) c)
        refine lv_aload_n hx hb dX6_stood_25 rfl (lv_at hl 0 rfl) ?_
        refine va_get (D := (dC, dI)) (ci := 6) (v := .ref hs) (C := RX6) (T := TX6) (N := 7) hx hb hts hiX6 hown hK hP 0 rfl rfl 1 (by decide) (hts (.fieldLink RX6 19 "LeftProfile" "scene" "LLeftProfile$Scene;") (List.mem_of_getElem? (i := 2) rfl)) (fun _ h9 => h9) rfl dX6_stood_26 ?_
        refine lv_iload_n hx hb dX6_stood_29 rfl (lv_at hl 1 rfl) ?_
        refine vp_callSi (cz_run (va_runV (As := [.int p0]) (rest := []) ⟨hx, hb, hml, hown, hts⟩ (c_X4_whereHeStood l dC dI cI cB hs p0 hh hc si w0 w1 w2 a0 a1 k0 k1 k2 k3 k4 k5 g1 g2 tw tb ft fb g5 hk6) (cwV 1 hts gX6_stood_X4_whereHeStood rfl rfl rfl (by decide +kernel) ⟨Nat.le_of_ble_eq_true rfl, Nat.le_of_ble_eq_true rfl⟩) (cz_pV (hP.sub (ws' := [(hs, .inr (4, [.ref hh, .ref hc, .ref si])), (hh, .inr (1, [.int w0, .int w1, .int w2])), (hc, .inr (0, [.int a0, .int a1, .int (nI k0), .ref k1, .ref k2, .ref k3, .ref k4, .ref k5])), (k1, .inl (cI, 6, .inl g1)), (k2, .inl (cI, 6, .inl g2)), (si, .inr (5, [.ref tw, .ref tb])), (tw, .inl (cI, 400, .inl ft)), (tb, .inl (cI, 400, .inl fb)), (k5, .inl (cI, 6, .inl g5))]) [1, 2, 3, 4, 5, 6, 7, 8, 9] rfl) hN (va_recv hK (hP.sub (ws' := [(hs, .inr (4, [.ref hh, .ref hc, .ref si])), (hh, .inr (1, [.int w0, .int w1, .int w2])), (hc, .inr (0, [.int a0, .int a1, .int (nI k0), .ref k1, .ref k2, .ref k3, .ref k4, .ref k5])), (k1, .inl (cI, 6, .inl g1)), (k2, .inl (cI, 6, .inl g2)), (si, .inr (5, [.ref tw, .ref tb])), (tw, .inl (cI, 400, .inl ft)), (tb, .inl (cI, 400, .inl fb)), (k5, .inl (cI, 6, .inl g5))]) [1, 2, 3, 4, 5, 6, 7, 8, 9] rfl) (ci := 4) (q0 := 0) rfl rfl)) rfl rfl hl.1 rfl (lv_room (Nat.le_of_ble_eq_true rfl)) dX6_stood_30 ⟨Nat.le_of_ble_eq_true rfl, Nat.le_of_ble_eq_true rfl⟩)) (fun r_4 hr_4 => ?_)
        rw [hQ]; exact W.iret (v := r_4) hx hb hr (fun t ht hW => ⟨r_4, rfl, trivial, ht⟩) (fun _ h => absurd h List.not_mem_nil) dX6_stood_33
      · refine lv_if_eq (tgt := 25) hx hb dX6_stood_19 (by decide) (fun c => absurd c (by decide)) (fun _ => ?_)
        refine lv_bipush (v := (-103)) hx hb dX6_stood_22 (by decide) ?_
        rw [hQ]; exact W.iret (v := (-103)) hx hb hr (fun t ht hW => ⟨(-103), rfl, trivial, ht⟩) (fun _ h => absurd h List.not_mem_nil) dX6_stood_24
    · refine lv_bipush (v := (-102)) hx hb dX6_stood_9 (by decide) ?_
      rw [hQ]; exact W.iret (v := (-102)) hx hb hr (fun t ht hW => ⟨(-102), rfl, trivial, ht⟩) (fun _ h => absurd h List.not_mem_nil) dX6_stood_11

theorem c_X6_walk_a1 (p0 : Int32) (p1 : Int32) (p2 : Int32) (a0 : Int32) (k0 : Nat) (hk6 : k0 ≤ 6) (c_1 : ¬ p0 < 1) (c_2 : ¬ 60 < p0) (c_3 : ¬ p1 < 0) (c_4 : ¬ p2 < 0) (c_5 : p2 ≤ 3) (c_6 : ¬ a0 = (-1)) : ¬ p0 < 0 := by first | (subst_vars; rfl) | assumption | ((try subst_vars) <;> (repeat' split) <;> (first | rfl | ((try simp only [cz_in, cz_du, cz_lt, cz_le, cz_eq, cz_l] at *) <;> (first | omega | (simp_all; done)))))
theorem c_X6_walk_a2 (p0 : Int32) (p1 : Int32) (p2 : Int32) (a0 : Int32) (k0 : Nat) (hk6 : k0 ≤ 6) (c_1 : ¬ p0 < 1) (c_2 : ¬ 60 < p0) (c_3 : ¬ p1 < 0) (c_4 : ¬ p2 < 0) (c_5 : p2 ≤ 3) (c_6 : ¬ a0 = (-1)) : p0 ≤ 60 := by first | (subst_vars; rfl) | assumption | ((try subst_vars) <;> (repeat' split) <;> (first | rfl | ((try simp only [cz_in, cz_du, cz_lt, cz_le, cz_eq, cz_l] at *) <;> (first | omega | (simp_all; done)))))
set_option maxHeartbeats 4000000 in
set_option maxRecDepth 100000 in
theorem c_X6_walk (l : Launch) (dC : Nat → ClassId) (dI : Nat → Nat → Nat) (cI cB : ClassId) (tR tC : Nat) (h0 : Nat) (p0 : Int32) (p1 : Int32) (p2 : Int32) (hp : Nat) (hs : Nat) (hh : Nat) (hc : Nat) (kp : Nat) (rt : Nat) (kr : Int32) (si : Nat) (w0 : Int32) (w1 : Int32) (w2 : Int32) (a0 : Int32) (a1 : Int32) (k0 : Nat) (k1 : Nat) (k2 : Nat) (k3 : Nat) (k4 : Nat) (k5 : Nat) (g1 : Nat → Int32) (g2 : Nat → Int32) (tw : Nat) (tb : Nat) (ft : Nat → Int32) (fb : Nat → Int32) (hk6 : k0 ≤ 6) : Met l yX6_walk wsX6_walk ({ frames := 6, cells := 0, slots := 0, locals := 151 }) (cz_PpT dC dI cI cB tR tC [.ref h0, .int p0, .int p1, .int p2] [(h0, .inr (6, [.ref hp, .ref hs, .ref hh, .ref hc, .ref kp, .ref rt, .int kr])), (hs, .inr (4, [.ref hh, .ref hc, .ref si])), (hh, .inr (1, [.int w0, .int w1, .int w2])), (hc, .inr (0, [.int a0, .int a1, .int (nI k0), .ref k1, .ref k2, .ref k3, .ref k4, .ref k5])), (k1, .inl (cI, 6, .inl g1)), (k2, .inl (cI, 6, .inl g2)), (si, .inr (5, [.ref tw, .ref tb])), (tw, .inl (cI, 400, .inl ft)), (tb, .inl (cI, 400, .inl fb))]) (vp_Si (fun r : Int32 => True)) 0 0 (fun _ => False) := by
  refine cz_of (cc := cX6_walk) (maxL := 4) (ret := (some .int)) (by decide) rfl ?_
  intro p e s m args below meth c s₁ Q B hml hv hQ
  obtain ⟨rfl, hP, hN, hSt⟩ := hv
  have hx := B.exec
  have hb := B.bytes
  have hr := B.returns
  have hts := atoms_spec (ws := wsX6_walk) B.pre
  have hown : s.vm.findClass RX6 = some m.cls := findClass_of_methodNamed B.named
  have hlocks := B.notSynchronized
  have hK := hN.1
  have hiX0 : ∀ w ∈ wsX00, w ∈ wsX6_walk := (fun _ h => List.mem_cons_of_mem _ (List.mem_append_left _ (List.mem_append_left _ (List.mem_append_left _ (List.mem_append_right _ h)))))
  have hiX6 : ∀ w ∈ wsX60, w ∈ wsX6_walk := (fun _ h => List.mem_cons_of_mem _ (List.mem_append_left _ (List.mem_append_left _ (List.mem_append_left _ (List.mem_append_left _ (List.mem_append_right _ h))))))
  have hl := lv_entry ([.ref h0, .int p0, .int p1, .int p2]) (n := 4) (Nat.le_of_ble_eq_true rfl)
  rw [lg_entry_eq]
  generalize (lg_sl ([.ref h0, .int p0, .int p1, .int p2]) ++ List.replicate (4 - (lg_sl ([.ref h0, .int p0, .int p1, .int p2])).length) Slot.unset).toArray = ls at hl ⊢
  have hl : lv_has ls 4 [(0, .ref h0), (1, .int p0), (2, .int p1), (3, .int p2)] := hl
  refine lv_iload_n hx hb dX6_walk_0 rfl (lv_at hl 1 rfl) ?_
  refine lv_iconst (v := 1) hx hb dX6_walk_1 (by decide) ?_
  refine lv_icmp_lt (tgt := 24) hx hb dX6_walk_2 (by decide) (fun c_1 => ?_) (fun c_1 => ?_)
  · refine lv_bipush (v := (-102)) hx hb dX6_walk_24 (by decide) ?_
    rw [hQ]; exact W.iret (v := (-102)) hx hb hr (fun t ht hW => ⟨(-102), rfl, trivial, ht⟩) (fun _ h => absurd h List.not_mem_nil) dX6_walk_26
  · refine lv_iload_n hx hb dX6_walk_5 rfl (lv_at hl 1 rfl) ?_
    refine lv_bipush (v := 60) hx hb dX6_walk_6 (by decide) ?_
    refine lv_icmp_gt (tgt := 24) hx hb dX6_walk_8 (by decide) (fun c_2 => ?_) (fun c_2 => ?_)
    · refine lv_bipush (v := (-102)) hx hb dX6_walk_24 (by decide) ?_
      rw [hQ]; exact W.iret (v := (-102)) hx hb hr (fun t ht hW => ⟨(-102), rfl, trivial, ht⟩) (fun _ h => absurd h List.not_mem_nil) dX6_walk_26
    · refine lv_iload_n hx hb dX6_walk_11 rfl (lv_at hl 2 rfl) ?_
      refine lv_if_lt (tgt := 24) hx hb dX6_walk_12 (by decide) (fun c_3 => ?_) (fun c_3 => ?_)
      · refine lv_bipush (v := (-102)) hx hb dX6_walk_24 (by decide) ?_
        rw [hQ]; exact W.iret (v := (-102)) hx hb hr (fun t ht hW => ⟨(-102), rfl, trivial, ht⟩) (fun _ h => absurd h List.not_mem_nil) dX6_walk_26
      · refine lv_iload_n hx hb dX6_walk_15 rfl (lv_at hl 3 rfl) ?_
        refine lv_if_lt (tgt := 24) hx hb dX6_walk_16 (by decide) (fun c_4 => ?_) (fun c_4 => ?_)
        · refine lv_bipush (v := (-102)) hx hb dX6_walk_24 (by decide) ?_
          rw [hQ]; exact W.iret (v := (-102)) hx hb hr (fun t ht hW => ⟨(-102), rfl, trivial, ht⟩) (fun _ h => absurd h List.not_mem_nil) dX6_walk_26
        · refine lv_iload_n hx hb dX6_walk_19 rfl (lv_at hl 3 rfl) ?_
          refine lv_iconst (v := 3) hx hb dX6_walk_20 (by decide) ?_
          refine lv_icmp_le (tgt := 27) hx hb dX6_walk_21 (by decide) (fun c_5 => ?_) (fun c_5 => ?_)
          · refine lv_aload_n hx hb dX6_walk_27 rfl (lv_at hl 0 rfl) ?_
            refine va_get (D := (dC, dI)) (ci := 6) (v := .ref hc) (C := RX6) (T := TX6) (N := 7) hx hb hts hiX6 hown hK hP 0 rfl rfl 3 (by decide) (hts (.fieldLink RX6 32 "LeftProfile" "court" "LLeftProfile$Court;") (List.mem_of_getElem? (i := 1) rfl)) (fun _ h9 => h9) rfl dX6_walk_28 ?_
            refine va_get (D := (dC, dI)) (ci := 0) (v := .int a0) (C := RX0) (T := TX0) (N := 8) hx hb hts hiX0 hown hK hP 3 rfl rfl 0 (by decide) (hts (.fieldLink RX6 91 "LeftProfile$Court" "stance" "I") (List.mem_of_getElem? (i := 2) rfl)) (fun _ h9 => h9) rfl dX6_walk_31 ?_
            refine lv_iconst (v := (-1)) hx hb dX6_walk_34 (by decide) ?_
            refine lv_icmp_ne (tgt := 41) hx hb dX6_walk_35 (by decide) (fun c_6 => ?_) (fun c_6 => ?_)
            · refine lv_aload_n hx hb dX6_walk_41 rfl (lv_at hl 0 rfl) ?_
              refine va_get (D := (dC, dI)) (ci := 6) (v := .ref hs) (C := RX6) (T := TX6) (N := 7) hx hb hts hiX6 hown hK hP 0 rfl rfl 1 (by decide) (hts (.fieldLink RX6 19 "LeftProfile" "scene" "LLeftProfile$Scene;") (List.mem_of_getElem? (i := 3) rfl)) (fun _ h9 => h9) rfl dX6_walk_42 ?_
              refine lv_iload_n hx hb dX6_walk_45 rfl (lv_at hl 1 rfl) ?_
              refine lv_iload_n hx hb dX6_walk_46 rfl (lv_at hl 2 rfl) ?_
              refine lv_iload_n hx hb dX6_walk_47 rfl (lv_at hl 3 rfl) ?_
              obtain ⟨j_7, hj_7, rfl⟩ := nI_of2 (x := p0) (M := 60) (n := 60) (by decide) (c_X6_walk_a1 p0 p1 p2 a0 k0 hk6 c_1 c_2 c_3 c_4 c_5 c_6) (c_X6_walk_a2 p0 p1 p2 a0 k0 hk6 c_1 c_2 c_3 c_4 c_5 c_6)
              refine vp_callSi (cz_run (va_runV (As := [.int (nI j_7), .int p1, .int p2]) (rest := []) ⟨hx, hb, hml, hown, hts⟩ (c_X4_afterWalk l dC dI cI cB tR tC hs j_7 p1 p2 hh hc si w0 w1 w2 a0 a1 k0 k1 k2 k3 k4 k5 g1 g2 tw tb ft fb hk6 hj_7) (cwV 3 hts gX6_walk_X4_afterWalk rfl rfl rfl (by decide +kernel) ⟨Nat.le_of_ble_eq_true rfl, Nat.le_of_ble_eq_true rfl⟩) (cz_pVT (hP.sub (ws' := [(hs, .inr (4, [.ref hh, .ref hc, .ref si])), (hh, .inr (1, [.int w0, .int w1, .int w2])), (hc, .inr (0, [.int a0, .int a1, .int (nI k0), .ref k1, .ref k2, .ref k3, .ref k4, .ref k5])), (k1, .inl (cI, 6, .inl g1)), (k2, .inl (cI, 6, .inl g2)), (si, .inr (5, [.ref tw, .ref tb])), (tw, .inl (cI, 400, .inl ft)), (tb, .inl (cI, 400, .inl fb))]) [1, 2, 3, 4, 5, 6, 7, 8] rfl) hN (hSt.any) (va_recv hK (hP.sub (ws' := [(hs, .inr (4, [.ref hh, .ref hc, .ref si])), (hh, .inr (1, [.int w0, .int w1, .int w2])), (hc, .inr (0, [.int a0, .int a1, .int (nI k0), .ref k1, .ref k2, .ref k3, .ref k4, .ref k5])), (k1, .inl (cI, 6, .inl g1)), (k2, .inl (cI, 6, .inl g2)), (si, .inr (5, [.ref tw, .ref tb])), (tw, .inl (cI, 400, .inl ft)), (tb, .inl (cI, 400, .inl fb))]) [1, 2, 3, 4, 5, 6, 7, 8] rfl) (ci := 4) (q0 := 0) rfl rfl)) rfl rfl hl.1 rfl (lv_room (Nat.le_of_ble_eq_true rfl)) dX6_walk_48 ⟨Nat.le_of_ble_eq_true rfl, Nat.le_of_ble_eq_true rfl⟩)) (fun r_8 hr_8 => ?_)
              rw [hQ]; exact W.iret (v := r_8) hx hb hr (fun t ht hW => ⟨r_8, rfl, trivial, ht⟩) (fun _ h => absurd h List.not_mem_nil) dX6_walk_51
            · refine lv_bipush (v := (-103)) hx hb dX6_walk_38 (by decide) ?_
              rw [hQ]; exact W.iret (v := (-103)) hx hb hr (fun t ht hW => ⟨(-103), rfl, trivial, ht⟩) (fun _ h => absurd h List.not_mem_nil) dX6_walk_40
          · refine lv_bipush (v := (-102)) hx hb dX6_walk_24 (by decide) ?_
            rw [hQ]; exact W.iret (v := (-102)) hx hb hr (fun t ht hW => ⟨(-102), rfl, trivial, ht⟩) (fun _ h => absurd h List.not_mem_nil) dX6_walk_26

set_option maxHeartbeats 4000000 in
set_option maxRecDepth 100000 in
theorem c_X6_image (l : Launch) (dC : Nat → ClassId) (dI : Nat → Nat → Nat) (cI cB : ClassId) (h0 : Nat) (hp : Nat) (hs : Nat) (hh : Nat) (hc : Nat) (kp : Nat) (rt : Nat) (kr : Int32) (w0 : Int32) (w1 : Int32) (w2 : Int32) (a0 : Int32) (a1 : Int32) (k0 : Nat) (k1 : Nat) (k2 : Nat) (k3 : Nat) (k4 : Nat) (k5 : Nat) (b0 : Int32) (b1 : Int32) (k9 : Nat) (j1 : Nat) (j2 : Nat) (j3 : Nat) (j4 : Nat) (j5 : Nat) (g1 : Nat → Int32) (g2 : Nat → Int32) (g3 : Nat → Int32) (g4 : Nat → Int32) (g5 : Nat → Int32) (e1 : Nat → Int32) (e2 : Nat → Int32) (e3 : Nat → Int32) (e4 : Nat → Int32) (e5 : Nat → Int32) (sz : Nat) (hk6 : k0 ≤ 6) (hk9 : k9 ≤ 6) : Met l yX6_image wsX6_image ({ frames := 2, cells := 0, slots := 0, locals := 41 }) (cz_Pm dC dI cI cB [.ref h0] [(h0, .inr (6, [.ref hp, .ref hs, .ref hh, .ref hc, .ref kp, .ref rt, .int kr])), (hh, .inr (1, [.int w0, .int w1, .int w2])), (hc, .inr (0, [.int a0, .int a1, .int (nI k0), .ref k1, .ref k2, .ref k3, .ref k4, .ref k5])), (kp, .inr (0, [.int b0, .int b1, .int (nI k9), .ref j1, .ref j2, .ref j3, .ref j4, .ref j5])), (k1, .inl (cI, 6, .inl g1)), (k2, .inl (cI, 6, .inl g2)), (k3, .inl (cI, 6, .inl g3)), (k4, .inl (cI, 6, .inl g4)), (k5, .inl (cI, 6, .inl g5)), (j1, .inl (cI, 6, .inl e1)), (j2, .inl (cI, 6, .inl e2)), (j3, .inl (cI, 6, .inl e3)), (j4, .inl (cI, 6, .inl e4)), (j5, .inl (cI, 6, .inl e5))] sz) (va_Qi (fun (r : Int32) (_ : Unit) => True) (fun _ t => ∃ (r0 : Int32) (s0 : Int32) (s1 : Int32) (kk : Nat) (t1 : Nat → Int32) (t2 : Nat → Int32) (t3 : Nat → Int32) (t4 : Nat → Int32) (t5 : Nat → Int32), (kk ≤ 6) ∧ va_P (dC, dI) vwCl [(h0, .inr (6, [.ref hp, .ref hs, .ref hh, .ref hc, .ref kp, .ref rt, .int r0])), (hh, .inr (1, [.int w0, .int w1, .int w2])), (hc, .inr (0, [.int a0, .int a1, .int (nI k0), .ref k1, .ref k2, .ref k3, .ref k4, .ref k5])), (kp, .inr (0, [.int s0, .int s1, .int (nI kk), .ref j1, .ref j2, .ref j3, .ref j4, .ref j5])), (k1, .inl (cI, 6, .inl g1)), (k2, .inl (cI, 6, .inl g2)), (k3, .inl (cI, 6, .inl g3)), (k4, .inl (cI, 6, .inl g4)), (k5, .inl (cI, 6, .inl g5)), (j1, .inl (cI, 6, .inl t1)), (j2, .inl (cI, 6, .inl t2)), (j3, .inl (cI, 6, .inl t3)), (j4, .inl (cI, 6, .inl t4)), (j5, .inl (cI, 6, .inl t5))] t.heap ∧ va_D (va_A [(h0, .inr (6, [.ref hp, .ref hs, .ref hh, .ref hc, .ref kp, .ref rt, .int kr])), (hh, .inr (1, [.int w0, .int w1, .int w2])), (hc, .inr (0, [.int a0, .int a1, .int (nI k0), .ref k1, .ref k2, .ref k3, .ref k4, .ref k5])), (kp, .inr (0, [.int b0, .int b1, .int (nI k9), .ref j1, .ref j2, .ref j3, .ref j4, .ref j5])), (k1, .inl (cI, 6, .inl g1)), (k2, .inl (cI, 6, .inl g2)), (k3, .inl (cI, 6, .inl g3)), (k4, .inl (cI, 6, .inl g4)), (k5, .inl (cI, 6, .inl g5)), (j1, .inl (cI, 6, .inl e1)), (j2, .inl (cI, 6, .inl e2)), (j3, .inl (cI, 6, .inl e3)), (j4, .inl (cI, 6, .inl e4)), (j5, .inl (cI, 6, .inl e5))] sz) [(h0, .inr (6, [.ref hp, .ref hs, .ref hh, .ref hc, .ref kp, .ref rt, .int r0])), (hh, .inr (1, [.int w0, .int w1, .int w2])), (hc, .inr (0, [.int a0, .int a1, .int (nI k0), .ref k1, .ref k2, .ref k3, .ref k4, .ref k5])), (kp, .inr (0, [.int s0, .int s1, .int (nI kk), .ref j1, .ref j2, .ref j3, .ref j4, .ref j5])), (k1, .inl (cI, 6, .inl g1)), (k2, .inl (cI, 6, .inl g2)), (k3, .inl (cI, 6, .inl g3)), (k4, .inl (cI, 6, .inl g4)), (k5, .inl (cI, 6, .inl g5)), (j1, .inl (cI, 6, .inl t1)), (j2, .inl (cI, 6, .inl t2)), (j3, .inl (cI, 6, .inl t3)), (j4, .inl (cI, 6, .inl t4)), (j5, .inl (cI, 6, .inl t5))]) (va_A [(h0, .inr (6, [.ref hp, .ref hs, .ref hh, .ref hc, .ref kp, .ref rt, .int kr])), (hh, .inr (1, [.int w0, .int w1, .int w2])), (hc, .inr (0, [.int a0, .int a1, .int (nI k0), .ref k1, .ref k2, .ref k3, .ref k4, .ref k5])), (kp, .inr (0, [.int b0, .int b1, .int (nI k9), .ref j1, .ref j2, .ref j3, .ref j4, .ref j5])), (k1, .inl (cI, 6, .inl g1)), (k2, .inl (cI, 6, .inl g2)), (k3, .inl (cI, 6, .inl g3)), (k4, .inl (cI, 6, .inl g4)), (k5, .inl (cI, 6, .inl g5)), (j1, .inl (cI, 6, .inl e1)), (j2, .inl (cI, 6, .inl e2)), (j3, .inl (cI, 6, .inl e3)), (j4, .inl (cI, 6, .inl e4)), (j5, .inl (cI, 6, .inl e5))] sz)) 0 0 (va_A [(h0, .inr (6, [.ref hp, .ref hs, .ref hh, .ref hc, .ref kp, .ref rt, .int kr])), (hh, .inr (1, [.int w0, .int w1, .int w2])), (hc, .inr (0, [.int a0, .int a1, .int (nI k0), .ref k1, .ref k2, .ref k3, .ref k4, .ref k5])), (kp, .inr (0, [.int b0, .int b1, .int (nI k9), .ref j1, .ref j2, .ref j3, .ref j4, .ref j5])), (k1, .inl (cI, 6, .inl g1)), (k2, .inl (cI, 6, .inl g2)), (k3, .inl (cI, 6, .inl g3)), (k4, .inl (cI, 6, .inl g4)), (k5, .inl (cI, 6, .inl g5)), (j1, .inl (cI, 6, .inl e1)), (j2, .inl (cI, 6, .inl e2)), (j3, .inl (cI, 6, .inl e3)), (j4, .inl (cI, 6, .inl e4)), (j5, .inl (cI, 6, .inl e5))] sz) := by
  refine cz_of (cc := cX6_image) (maxL := 1) (ret := (some .int)) (by decide) rfl ?_
  intro p e s m args below meth c s₁ Q B hml hv hQ
  obtain ⟨rfl, hsz, hP, hN, hD0⟩ := hv
  have hx := B.exec
  have hb := B.bytes
  have hr := B.returns
  have hts := atoms_spec (ws := wsX6_image) B.pre
  have hown : s.vm.findClass RX6 = some m.cls := findClass_of_methodNamed B.named
  have hlocks := B.notSynchronized
  have hK := hN.1
  have hiX0 : ∀ w ∈ wsX00, w ∈ wsX6_image := (fun _ h => List.mem_cons_of_mem _ (List.mem_append_right _ h))
  have hiX1 : ∀ w ∈ wsX10, w ∈ wsX6_image := (fun _ h => List.mem_cons_of_mem _ (List.mem_append_left _ (List.mem_append_right _ h)))
  have hiX6 : ∀ w ∈ wsX60, w ∈ wsX6_image := (fun _ h => List.mem_cons_of_mem _ (List.mem_append_left _ (List.mem_append_left _ (List.mem_append_right _ h))))
  subst hsz
  have hD := hD0.self (sz := s.heap.size)
  generalize hAe : va_A [(h0, .inr (6, [.ref hp, .ref hs, .ref hh, .ref hc, .ref kp, .ref rt, .int kr])), (hh, .inr (1, [.int w0, .int w1, .int w2])), (hc, .inr (0, [.int a0, .int a1, .int (nI k0), .ref k1, .ref k2, .ref k3, .ref k4, .ref k5])), (kp, .inr (0, [.int b0, .int b1, .int (nI k9), .ref j1, .ref j2, .ref j3, .ref j4, .ref j5])), (k1, .inl (cI, 6, .inl g1)), (k2, .inl (cI, 6, .inl g2)), (k3, .inl (cI, 6, .inl g3)), (k4, .inl (cI, 6, .inl g4)), (k5, .inl (cI, 6, .inl g5)), (j1, .inl (cI, 6, .inl e1)), (j2, .inl (cI, 6, .inl e2)), (j3, .inl (cI, 6, .inl e3)), (j4, .inl (cI, 6, .inl e4)), (j5, .inl (cI, 6, .inl e5))] s.heap.size = A at hD hQ ⊢
  have hA : ∀ q : Nat, s.heap.size ≤ q → A q := fun q h => by rw [← hAe]; exact Or.inr h
  have hS : va_S A s.heap s.heap [] := va_S.rf
  obtain ⟨H, eH⟩ : ∃ H, H = s.heap := ⟨_, rfl⟩
  have hP : va_P (dC, dI) vwCl [(h0, .inr (6, [.ref hp, .ref hs, .ref hh, .ref hc, .ref kp, .ref rt, .int kr])), (hh, .inr (1, [.int w0, .int w1, .int w2])), (hc, .inr (0, [.int a0, .int a1, .int (nI k0), .ref k1, .ref k2, .ref k3, .ref k4, .ref k5])), (kp, .inr (0, [.int b0, .int b1, .int (nI k9), .ref j1, .ref j2, .ref j3, .ref j4, .ref j5])), (k1, .inl (cI, 6, .inl g1)), (k2, .inl (cI, 6, .inl g2)), (k3, .inl (cI, 6, .inl g3)), (k4, .inl (cI, 6, .inl g4)), (k5, .inl (cI, 6, .inl g5)), (j1, .inl (cI, 6, .inl e1)), (j2, .inl (cI, 6, .inl e2)), (j3, .inl (cI, 6, .inl e3)), (j4, .inl (cI, 6, .inl e4)), (j5, .inl (cI, 6, .inl e5))] s.heap := hP
  have hl := lv_entry ([.ref h0]) (n := 1) (Nat.le_of_ble_eq_true rfl)
  rw [lg_entry_eq]
  generalize (lg_sl ([.ref h0]) ++ List.replicate (1 - (lg_sl ([.ref h0])).length) Slot.unset).toArray = ls at hl ⊢
  have hl : lv_has ls 1 [(0, .ref h0)] := hl
  refine lv_aload_n hx hb dX6_image_0 rfl (lv_at hl 0 rfl) ?_
  refine va_get (D := (dC, dI)) (ci := 6) (v := .ref hh) (C := RX6) (T := TX6) (N := 7) hx hb hts hiX6 hown hK hP 0 rfl rfl 2 (by decide) (hts (.fieldLink RX6 27 "LeftProfile" "hall" "LLeftProfile$Hall;") (List.mem_of_getElem? (i := 1) rfl)) (fun _ h9 => h9) rfl dX6_image_1 ?_
  refine vp_callSi (cz_run (va_runV (As := []) (rest := []) ⟨hx, hb, hml, hown, hts⟩ (c_X1_isMissing l dC dI cI cB hh w0 w1 w2 ) (cwV 0 hts gX6_image_X1_isMissing rfl rfl rfl (by decide +kernel) ⟨Nat.le_of_ble_eq_true rfl, Nat.le_of_ble_eq_true rfl⟩) (cz_pV (hP.sub (ws' := [(hh, .inr (1, [.int w0, .int w1, .int w2]))]) [1] rfl) hN (va_recv hK (hP.sub (ws' := [(hh, .inr (1, [.int w0, .int w1, .int w2]))]) [1] rfl) (ci := 1) (q0 := 0) rfl rfl)) rfl rfl hl.1 rfl (lv_room (Nat.le_of_ble_eq_true rfl)) dX6_image_4 ⟨Nat.le_of_ble_eq_true rfl, Nat.le_of_ble_eq_true rfl⟩)) (fun r_1 hr_1 => ?_)
  rcases hr_1 with ⟨rfl, hr_1⟩ | ⟨rfl, hr_1⟩
  · refine lv_if_eq (tgt := 13) hx hb dX6_image_7 (by decide) (fun _ => ?_) (fun c => absurd (by decide) c)
    refine lv_aload_n hx hb dX6_image_13 rfl (lv_at hl 0 rfl) ?_
    refine va_get (D := (dC, dI)) (ci := 6) (v := .ref kp) (C := RX6) (T := TX6) (N := 7) hx hb hts hiX6 hown hK hP 0 rfl rfl 4 (by decide) (hts (.fieldLink RX6 36 "LeftProfile" "kept" "LLeftProfile$Court;") (List.mem_of_getElem? (i := 2) rfl)) (fun _ h9 => h9) rfl dX6_image_14 ?_
    refine lv_aload_n hx hb dX6_image_17 rfl (lv_at hl 0 rfl) ?_
    refine va_get (D := (dC, dI)) (ci := 6) (v := .ref hc) (C := RX6) (T := TX6) (N := 7) hx hb hts hiX6 hown hK hP 0 rfl rfl 3 (by decide) (hts (.fieldLink RX6 32 "LeftProfile" "court" "LLeftProfile$Court;") (List.mem_of_getElem? (i := 3) rfl)) (fun _ h9 => h9) rfl dX6_image_18 ?_
    have hPc := hP.sub (ws' := [(kp, .inr (0, [.int b0, .int b1, .int (nI k9), .ref j1, .ref j2, .ref j3, .ref j4, .ref j5])), (hc, .inr (0, [.int a0, .int a1, .int (nI k0), .ref k1, .ref k2, .ref k3, .ref k4, .ref k5])), (j1, .inl (cI, 6, .inl e1)), (j2, .inl (cI, 6, .inl e2)), (j3, .inl (cI, 6, .inl e3)), (j4, .inl (cI, 6, .inl e4)), (j5, .inl (cI, 6, .inl e5)), (k1, .inl (cI, 6, .inl g1)), (k2, .inl (cI, 6, .inl g2)), (k3, .inl (cI, 6, .inl g3)), (k4, .inl (cI, 6, .inl g4)), (k5, .inl (cI, 6, .inl g5))]) [3, 2, 9, 10, 11, 12, 13, 4, 5, 6, 7, 8] rfl
    have hDc := hD.sub (ws' := [(kp, .inr (0, [.int b0, .int b1, .int (nI k9), .ref j1, .ref j2, .ref j3, .ref j4, .ref j5])), (hc, .inr (0, [.int a0, .int a1, .int (nI k0), .ref k1, .ref k2, .ref k3, .ref k4, .ref k5])), (j1, .inl (cI, 6, .inl e1)), (j2, .inl (cI, 6, .inl e2)), (j3, .inl (cI, 6, .inl e3)), (j4, .inl (cI, 6, .inl e4)), (j5, .inl (cI, 6, .inl e5)), (k1, .inl (cI, 6, .inl g1)), (k2, .inl (cI, 6, .inl g2)), (k3, .inl (cI, 6, .inl g3)), (k4, .inl (cI, 6, .inl g4)), (k5, .inl (cI, 6, .inl g5))]) [3, 2, 9, 10, 11, 12, 13, 4, 5, 6, 7, 8] (by decide) rfl
    have hFc := va_free (wc := [(kp, .inr (0, [.int b0, .int b1, .int (nI k9), .ref j1, .ref j2, .ref j3, .ref j4, .ref j5])), (hc, .inr (0, [.int a0, .int a1, .int (nI k0), .ref k1, .ref k2, .ref k3, .ref k4, .ref k5])), (j1, .inl (cI, 6, .inl e1)), (j2, .inl (cI, 6, .inl e2)), (j3, .inl (cI, 6, .inl e3)), (j4, .inl (cI, 6, .inl e4)), (j5, .inl (cI, 6, .inl e5)), (k1, .inl (cI, 6, .inl g1)), (k2, .inl (cI, 6, .inl g2)), (k3, .inl (cI, 6, .inl g3)), (k4, .inl (cI, 6, .inl g4)), (k5, .inl (cI, 6, .inl g5))]) hD hS hA [3, 2, 9, 10, 11, 12, 13, 4, 5, 6, 7, 8] rfl
    refine va_callv (va_runV (As := [.ref hc]) (rest := []) ⟨hx, hb, hml, hown, hts⟩ (c_X0_takeFrom l dC dI cI cB kp hc b0 b1 k9 j1 j2 j3 j4 j5 a0 a1 k0 k1 k2 k3 k4 k5 e1 e2 e3 e4 e5 g1 g2 g3 g4 g5 s.heap.size ) (cwV 1 hts gX6_image_X0_takeFrom rfl rfl rfl (by decide +kernel) ⟨Nat.le_of_ble_eq_true rfl, Nat.le_of_ble_eq_true rfl⟩) (cz_mV hPc hN hDc (va_recv hK hPc (ci := 0) (q0 := 0) rfl rfl)) rfl rfl hl.1 rfl (lv_room (Nat.le_of_ble_eq_true rfl)) dX6_image_21 ⟨Nat.le_of_ble_eq_true rfl, Nat.le_of_ble_eq_true rfl⟩) hS (fun q _ h => hFc q h) hFc (fun u t H1 locs ht hvm hr_2 hB hz1 hk1 hS => ?_)
    obtain ⟨f_3, f_4, f_5, f_6, f_7, hP1, hD1⟩ := hB
    rw [ht] at hP1
    obtain ⟨hP, hD⟩ := va_join (wr := [(h0, .inr (6, [.ref hp, .ref hs, .ref hh, .ref hc, .ref kp, .ref rt, .int kr])), (hh, .inr (1, [.int w0, .int w1, .int w2]))]) (w1 := [(kp, .inr (0, [.int a0, .int a1, .int (nI k0), .ref j1, .ref j2, .ref j3, .ref j4, .ref j5])), (hc, .inr (0, [.int a0, .int a1, .int (nI k0), .ref k1, .ref k2, .ref k3, .ref k4, .ref k5])), (j1, .inl (cI, 6, .inl f_3)), (j2, .inl (cI, 6, .inl f_4)), (j3, .inl (cI, 6, .inl f_5)), (j4, .inl (cI, 6, .inl f_6)), (j5, .inl (cI, 6, .inl f_7)), (k1, .inl (cI, 6, .inl g1)), (k2, .inl (cI, 6, .inl g2)), (k3, .inl (cI, 6, .inl g3)), (k4, .inl (cI, 6, .inl g4)), (k5, .inl (cI, 6, .inl g5))]) hP hD [3, 2, 9, 10, 11, 12, 13, 4, 5, 6, 7, 8] [0, 1] rfl rfl (by decide) (by decide) hk1 hFc hP1 hD1
    generalize H1 = H at hP hS ⊢
    have hP : va_P (dC, dI) vwCl [(h0, .inr (6, [.ref hp, .ref hs, .ref hh, .ref hc, .ref kp, .ref rt, .int kr])), (hh, .inr (1, [.int w0, .int w1, .int w2])), (kp, .inr (0, [.int a0, .int a1, .int (nI k0), .ref j1, .ref j2, .ref j3, .ref j4, .ref j5])), (hc, .inr (0, [.int a0, .int a1, .int (nI k0), .ref k1, .ref k2, .ref k3, .ref k4, .ref k5])), (j1, .inl (cI, 6, .inl f_3)), (j2, .inl (cI, 6, .inl f_4)), (j3, .inl (cI, 6, .inl f_5)), (j4, .inl (cI, 6, .inl f_6)), (j5, .inl (cI, 6, .inl f_7)), (k1, .inl (cI, 6, .inl g1)), (k2, .inl (cI, 6, .inl g2)), (k3, .inl (cI, 6, .inl g3)), (k4, .inl (cI, 6, .inl g4)), (k5, .inl (cI, 6, .inl g5))] H := hP
    have hD : va_D A [(h0, .inr (6, [.ref hp, .ref hs, .ref hh, .ref hc, .ref kp, .ref rt, .int kr])), (hh, .inr (1, [.int w0, .int w1, .int w2])), (kp, .inr (0, [.int a0, .int a1, .int (nI k0), .ref j1, .ref j2, .ref j3, .ref j4, .ref j5])), (hc, .inr (0, [.int a0, .int a1, .int (nI k0), .ref k1, .ref k2, .ref k3, .ref k4, .ref k5])), (j1, .inl (cI, 6, .inl f_3)), (j2, .inl (cI, 6, .inl f_4)), (j3, .inl (cI, 6, .inl f_5)), (j4, .inl (cI, 6, .inl f_6)), (j5, .inl (cI, 6, .inl f_7)), (k1, .inl (cI, 6, .inl g1)), (k2, .inl (cI, 6, .inl g2)), (k3, .inl (cI, 6, .inl g3)), (k4, .inl (cI, 6, .inl g4)), (k5, .inl (cI, 6, .inl g5))] := hD
    refine lv_aload_n hx hb dX6_image_24 rfl (lv_at hl 0 rfl) ?_
    refine lv_aload_n hx hb dX6_image_25 rfl (lv_at hl 0 rfl) ?_
    refine va_get (D := (dC, dI)) (ci := 6) (v := .ref hh) (C := RX6) (T := TX6) (N := 7) hx hb hts hiX6 hown hK hP 0 rfl rfl 2 (by decide) (hts (.fieldLink RX6 27 "LeftProfile" "hall" "LLeftProfile$Hall;") (List.mem_of_getElem? (i := 1) rfl)) (fun _ h9 => h9) rfl dX6_image_26 ?_
    refine va_get (D := (dC, dI)) (ci := 1) (v := .int w2) (C := RX1) (T := TX1) (N := 3) hx hb hts hiX1 hown hK hP 1 rfl rfl 2 (by decide) (hts (.fieldLink RX6 191 "LeftProfile$Hall" "readings" "I") (List.mem_of_getElem? (i := 4) rfl)) (fun _ h9 => h9) rfl dX6_image_29 ?_
    refine va_put (D := (dC, dI)) (ci := 6) (v := .int w2) (ty := .int) (C := RX6) (T := TX6) (N := 7) hx hb hts hiX6 tyX6 tyX6_ok nmX6 hown hK hP hD hS 0 rfl rfl 6 (by decide) (hts (.fieldLink RX6 46 "LeftProfile" "keptReading" "I") (List.mem_of_getElem? (i := 5) rfl)) (fun _ h9 => h9) rfl (by decide +kernel) rfl rfl (Nat.le_of_ble_eq_true rfl) dX6_image_32 (fun H locs hP hD hS => ?_)
    have hP : va_P (dC, dI) vwCl [(h0, .inr (6, [.ref hp, .ref hs, .ref hh, .ref hc, .ref kp, .ref rt, .int w2])), (hh, .inr (1, [.int w0, .int w1, .int w2])), (kp, .inr (0, [.int a0, .int a1, .int (nI k0), .ref j1, .ref j2, .ref j3, .ref j4, .ref j5])), (hc, .inr (0, [.int a0, .int a1, .int (nI k0), .ref k1, .ref k2, .ref k3, .ref k4, .ref k5])), (j1, .inl (cI, 6, .inl f_3)), (j2, .inl (cI, 6, .inl f_4)), (j3, .inl (cI, 6, .inl f_5)), (j4, .inl (cI, 6, .inl f_6)), (j5, .inl (cI, 6, .inl f_7)), (k1, .inl (cI, 6, .inl g1)), (k2, .inl (cI, 6, .inl g2)), (k3, .inl (cI, 6, .inl g3)), (k4, .inl (cI, 6, .inl g4)), (k5, .inl (cI, 6, .inl g5))] H := hP
    have hD : va_D A [(h0, .inr (6, [.ref hp, .ref hs, .ref hh, .ref hc, .ref kp, .ref rt, .int w2])), (hh, .inr (1, [.int w0, .int w1, .int w2])), (kp, .inr (0, [.int a0, .int a1, .int (nI k0), .ref j1, .ref j2, .ref j3, .ref j4, .ref j5])), (hc, .inr (0, [.int a0, .int a1, .int (nI k0), .ref k1, .ref k2, .ref k3, .ref k4, .ref k5])), (j1, .inl (cI, 6, .inl f_3)), (j2, .inl (cI, 6, .inl f_4)), (j3, .inl (cI, 6, .inl f_5)), (j4, .inl (cI, 6, .inl f_6)), (j5, .inl (cI, 6, .inl f_7)), (k1, .inl (cI, 6, .inl g1)), (k2, .inl (cI, 6, .inl g2)), (k3, .inl (cI, 6, .inl g3)), (k4, .inl (cI, 6, .inl g4)), (k5, .inl (cI, 6, .inl g5))] := hD
    refine lv_aload_n hx hb dX6_image_35 rfl (lv_at hl 0 rfl) ?_
    refine va_get (D := (dC, dI)) (ci := 6) (v := .ref hc) (C := RX6) (T := TX6) (N := 7) hx hb hts hiX6 hown hK hP 0 rfl rfl 3 (by decide) (hts (.fieldLink RX6 32 "LeftProfile" "court" "LLeftProfile$Court;") (List.mem_of_getElem? (i := 3) rfl)) (fun _ h9 => h9) rfl dX6_image_36 ?_
    refine va_get (D := (dC, dI)) (ci := 0) (v := .int (nI k0)) (C := RX0) (T := TX0) (N := 8) hx hb hts hiX0 hown hK hP 3 rfl rfl 2 (by decide) (hts (.fieldLink RX6 194 "LeftProfile$Court" "size" "I") (List.mem_of_getElem? (i := 6) rfl)) (fun _ h9 => h9) rfl dX6_image_39 ?_
    refine W.widen (k := 0) (n := 0) (Nat.le_of_ble_eq_true rfl) (Nat.le_of_ble_eq_true rfl) ?_
    have hP9 := hP.sub (ws' := [(h0, .inr (6, [.ref hp, .ref hs, .ref hh, .ref hc, .ref kp, .ref rt, .int w2])), (hh, .inr (1, [.int w0, .int w1, .int w2])), (hc, .inr (0, [.int a0, .int a1, .int (nI k0), .ref k1, .ref k2, .ref k3, .ref k4, .ref k5])), (kp, .inr (0, [.int a0, .int a1, .int (nI k0), .ref j1, .ref j2, .ref j3, .ref j4, .ref j5])), (k1, .inl (cI, 6, .inl g1)), (k2, .inl (cI, 6, .inl g2)), (k3, .inl (cI, 6, .inl g3)), (k4, .inl (cI, 6, .inl g4)), (k5, .inl (cI, 6, .inl g5)), (j1, .inl (cI, 6, .inl f_3)), (j2, .inl (cI, 6, .inl f_4)), (j3, .inl (cI, 6, .inl f_5)), (j4, .inl (cI, 6, .inl f_6)), (j5, .inl (cI, 6, .inl f_7))]) [0, 1, 3, 2, 9, 10, 11, 12, 13, 4, 5, 6, 7, 8] rfl
    have hD9 := hD.sub (ws' := [(h0, .inr (6, [.ref hp, .ref hs, .ref hh, .ref hc, .ref kp, .ref rt, .int w2])), (hh, .inr (1, [.int w0, .int w1, .int w2])), (hc, .inr (0, [.int a0, .int a1, .int (nI k0), .ref k1, .ref k2, .ref k3, .ref k4, .ref k5])), (kp, .inr (0, [.int a0, .int a1, .int (nI k0), .ref j1, .ref j2, .ref j3, .ref j4, .ref j5])), (k1, .inl (cI, 6, .inl g1)), (k2, .inl (cI, 6, .inl g2)), (k3, .inl (cI, 6, .inl g3)), (k4, .inl (cI, 6, .inl g4)), (k5, .inl (cI, 6, .inl g5)), (j1, .inl (cI, 6, .inl f_3)), (j2, .inl (cI, 6, .inl f_4)), (j3, .inl (cI, 6, .inl f_5)), (j4, .inl (cI, 6, .inl f_6)), (j5, .inl (cI, 6, .inl f_7))]) [0, 1, 3, 2, 9, 10, 11, 12, 13, 4, 5, 6, 7, 8] (by decide) rfl
    rw [hQ]; exact W.iret (v := (nI k0)) hx hb hr (fun t ht hW => ⟨⟨(nI k0), (), rfl, trivial, ⟨w2, a0, a1, k0, f_3, f_4, f_5, f_6, f_7, hk6, by rw [ht]; exact hP9, hD9⟩⟩, hS.F ht⟩) hS.2.2 dX6_image_42
  · refine lv_if_eq (tgt := 13) hx hb dX6_image_7 (by decide) (fun c => absurd c (by decide)) (fun _ => ?_)
    refine lv_bipush (v := (-103)) hx hb dX6_image_10 (by decide) ?_
    refine W.widen (k := 0) (n := 0) (Nat.le_of_ble_eq_true rfl) (Nat.le_of_ble_eq_true rfl) ?_
    have hP9 := hP.sub (ws' := [(h0, .inr (6, [.ref hp, .ref hs, .ref hh, .ref hc, .ref kp, .ref rt, .int kr])), (hh, .inr (1, [.int w0, .int w1, .int w2])), (hc, .inr (0, [.int a0, .int a1, .int (nI k0), .ref k1, .ref k2, .ref k3, .ref k4, .ref k5])), (kp, .inr (0, [.int b0, .int b1, .int (nI k9), .ref j1, .ref j2, .ref j3, .ref j4, .ref j5])), (k1, .inl (cI, 6, .inl g1)), (k2, .inl (cI, 6, .inl g2)), (k3, .inl (cI, 6, .inl g3)), (k4, .inl (cI, 6, .inl g4)), (k5, .inl (cI, 6, .inl g5)), (j1, .inl (cI, 6, .inl e1)), (j2, .inl (cI, 6, .inl e2)), (j3, .inl (cI, 6, .inl e3)), (j4, .inl (cI, 6, .inl e4)), (j5, .inl (cI, 6, .inl e5))]) [0, 1, 2, 3, 4, 5, 6, 7, 8, 9, 10, 11, 12, 13] rfl
    have hD9 := hD.sub (ws' := [(h0, .inr (6, [.ref hp, .ref hs, .ref hh, .ref hc, .ref kp, .ref rt, .int kr])), (hh, .inr (1, [.int w0, .int w1, .int w2])), (hc, .inr (0, [.int a0, .int a1, .int (nI k0), .ref k1, .ref k2, .ref k3, .ref k4, .ref k5])), (kp, .inr (0, [.int b0, .int b1, .int (nI k9), .ref j1, .ref j2, .ref j3, .ref j4, .ref j5])), (k1, .inl (cI, 6, .inl g1)), (k2, .inl (cI, 6, .inl g2)), (k3, .inl (cI, 6, .inl g3)), (k4, .inl (cI, 6, .inl g4)), (k5, .inl (cI, 6, .inl g5)), (j1, .inl (cI, 6, .inl e1)), (j2, .inl (cI, 6, .inl e2)), (j3, .inl (cI, 6, .inl e3)), (j4, .inl (cI, 6, .inl e4)), (j5, .inl (cI, 6, .inl e5))]) [0, 1, 2, 3, 4, 5, 6, 7, 8, 9, 10, 11, 12, 13] (by decide) rfl
    rw [hQ]; exact W.iret (v := (-103)) hx hb hr (fun t ht hW => ⟨⟨(-103), (), rfl, trivial, ⟨kr, b0, b1, k9, e1, e2, e3, e4, e5, hk9, by rw [ht]; exact hP9, hD9⟩⟩, hS.F ht⟩) hS.2.2 dX6_image_12

set_option maxHeartbeats 4000000 in
set_option maxRecDepth 100000 in
theorem c_X6_restore (l : Launch) (dC : Nat → ClassId) (dI : Nat → Nat → Nat) (cI cB : ClassId) (h0 : Nat) (hp : Nat) (hs : Nat) (hh : Nat) (hc : Nat) (kp : Nat) (rt : Nat) (kr : Int32) (w0 : Int32) (w1 : Int32) (w2 : Int32) (a0 : Int32) (a1 : Int32) (k0 : Nat) (k1 : Nat) (k2 : Nat) (k3 : Nat) (k4 : Nat) (k5 : Nat) (b0 : Int32) (b1 : Int32) (k9 : Nat) (j1 : Nat) (j2 : Nat) (j3 : Nat) (j4 : Nat) (j5 : Nat) (g1 : Nat → Int32) (g2 : Nat → Int32) (g3 : Nat → Int32) (g4 : Nat → Int32) (g5 : Nat → Int32) (e1 : Nat → Int32) (e2 : Nat → Int32) (e3 : Nat → Int32) (e4 : Nat → Int32) (e5 : Nat → Int32) (sz : Nat) (hk6 : k0 ≤ 6) (hk9 : k9 ≤ 6) : Met l yX6_restore wsX6_restore ({ frames := 2, cells := 0, slots := 0, locals := 41 }) (cz_Pm dC dI cI cB [.ref h0] [(h0, .inr (6, [.ref hp, .ref hs, .ref hh, .ref hc, .ref kp, .ref rt, .int kr])), (hh, .inr (1, [.int w0, .int w1, .int w2])), (hc, .inr (0, [.int a0, .int a1, .int (nI k0), .ref k1, .ref k2, .ref k3, .ref k4, .ref k5])), (kp, .inr (0, [.int b0, .int b1, .int (nI k9), .ref j1, .ref j2, .ref j3, .ref j4, .ref j5])), (k1, .inl (cI, 6, .inl g1)), (k2, .inl (cI, 6, .inl g2)), (k3, .inl (cI, 6, .inl g3)), (k4, .inl (cI, 6, .inl g4)), (k5, .inl (cI, 6, .inl g5)), (j1, .inl (cI, 6, .inl e1)), (j2, .inl (cI, 6, .inl e2)), (j3, .inl (cI, 6, .inl e3)), (j4, .inl (cI, 6, .inl e4)), (j5, .inl (cI, 6, .inl e5))] sz) (va_Qi (fun (r : Int32) (_ : Unit) => True) (fun _ t => ∃ (s0 : Int32) (s1 : Int32) (kk : Nat) (t1 : Nat → Int32) (t2 : Nat → Int32) (t3 : Nat → Int32) (t4 : Nat → Int32) (t5 : Nat → Int32), (kk ≤ 6) ∧ va_P (dC, dI) vwCl [(h0, .inr (6, [.ref hp, .ref hs, .ref hh, .ref hc, .ref kp, .ref rt, .int kr])), (hh, .inr (1, [.int w0, .int w1, .int w2])), (hc, .inr (0, [.int s0, .int s1, .int (nI kk), .ref k1, .ref k2, .ref k3, .ref k4, .ref k5])), (kp, .inr (0, [.int b0, .int b1, .int (nI k9), .ref j1, .ref j2, .ref j3, .ref j4, .ref j5])), (k1, .inl (cI, 6, .inl t1)), (k2, .inl (cI, 6, .inl t2)), (k3, .inl (cI, 6, .inl t3)), (k4, .inl (cI, 6, .inl t4)), (k5, .inl (cI, 6, .inl t5)), (j1, .inl (cI, 6, .inl e1)), (j2, .inl (cI, 6, .inl e2)), (j3, .inl (cI, 6, .inl e3)), (j4, .inl (cI, 6, .inl e4)), (j5, .inl (cI, 6, .inl e5))] t.heap ∧ va_D (va_A [(h0, .inr (6, [.ref hp, .ref hs, .ref hh, .ref hc, .ref kp, .ref rt, .int kr])), (hh, .inr (1, [.int w0, .int w1, .int w2])), (hc, .inr (0, [.int a0, .int a1, .int (nI k0), .ref k1, .ref k2, .ref k3, .ref k4, .ref k5])), (kp, .inr (0, [.int b0, .int b1, .int (nI k9), .ref j1, .ref j2, .ref j3, .ref j4, .ref j5])), (k1, .inl (cI, 6, .inl g1)), (k2, .inl (cI, 6, .inl g2)), (k3, .inl (cI, 6, .inl g3)), (k4, .inl (cI, 6, .inl g4)), (k5, .inl (cI, 6, .inl g5)), (j1, .inl (cI, 6, .inl e1)), (j2, .inl (cI, 6, .inl e2)), (j3, .inl (cI, 6, .inl e3)), (j4, .inl (cI, 6, .inl e4)), (j5, .inl (cI, 6, .inl e5))] sz) [(h0, .inr (6, [.ref hp, .ref hs, .ref hh, .ref hc, .ref kp, .ref rt, .int kr])), (hh, .inr (1, [.int w0, .int w1, .int w2])), (hc, .inr (0, [.int s0, .int s1, .int (nI kk), .ref k1, .ref k2, .ref k3, .ref k4, .ref k5])), (kp, .inr (0, [.int b0, .int b1, .int (nI k9), .ref j1, .ref j2, .ref j3, .ref j4, .ref j5])), (k1, .inl (cI, 6, .inl t1)), (k2, .inl (cI, 6, .inl t2)), (k3, .inl (cI, 6, .inl t3)), (k4, .inl (cI, 6, .inl t4)), (k5, .inl (cI, 6, .inl t5)), (j1, .inl (cI, 6, .inl e1)), (j2, .inl (cI, 6, .inl e2)), (j3, .inl (cI, 6, .inl e3)), (j4, .inl (cI, 6, .inl e4)), (j5, .inl (cI, 6, .inl e5))]) (va_A [(h0, .inr (6, [.ref hp, .ref hs, .ref hh, .ref hc, .ref kp, .ref rt, .int kr])), (hh, .inr (1, [.int w0, .int w1, .int w2])), (hc, .inr (0, [.int a0, .int a1, .int (nI k0), .ref k1, .ref k2, .ref k3, .ref k4, .ref k5])), (kp, .inr (0, [.int b0, .int b1, .int (nI k9), .ref j1, .ref j2, .ref j3, .ref j4, .ref j5])), (k1, .inl (cI, 6, .inl g1)), (k2, .inl (cI, 6, .inl g2)), (k3, .inl (cI, 6, .inl g3)), (k4, .inl (cI, 6, .inl g4)), (k5, .inl (cI, 6, .inl g5)), (j1, .inl (cI, 6, .inl e1)), (j2, .inl (cI, 6, .inl e2)), (j3, .inl (cI, 6, .inl e3)), (j4, .inl (cI, 6, .inl e4)), (j5, .inl (cI, 6, .inl e5))] sz)) 0 0 (va_A [(h0, .inr (6, [.ref hp, .ref hs, .ref hh, .ref hc, .ref kp, .ref rt, .int kr])), (hh, .inr (1, [.int w0, .int w1, .int w2])), (hc, .inr (0, [.int a0, .int a1, .int (nI k0), .ref k1, .ref k2, .ref k3, .ref k4, .ref k5])), (kp, .inr (0, [.int b0, .int b1, .int (nI k9), .ref j1, .ref j2, .ref j3, .ref j4, .ref j5])), (k1, .inl (cI, 6, .inl g1)), (k2, .inl (cI, 6, .inl g2)), (k3, .inl (cI, 6, .inl g3)), (k4, .inl (cI, 6, .inl g4)), (k5, .inl (cI, 6, .inl g5)), (j1, .inl (cI, 6, .inl e1)), (j2, .inl (cI, 6, .inl e2)), (j3, .inl (cI, 6, .inl e3)), (j4, .inl (cI, 6, .inl e4)), (j5, .inl (cI, 6, .inl e5))] sz) := by
  refine cz_of (cc := cX6_restore) (maxL := 1) (ret := (some .int)) (by decide) rfl ?_
  intro p e s m args below meth c s₁ Q B hml hv hQ
  obtain ⟨rfl, hsz, hP, hN, hD0⟩ := hv
  have hx := B.exec
  have hb := B.bytes
  have hr := B.returns
  have hts := atoms_spec (ws := wsX6_restore) B.pre
  have hown : s.vm.findClass RX6 = some m.cls := findClass_of_methodNamed B.named
  have hlocks := B.notSynchronized
  have hK := hN.1
  have hiX0 : ∀ w ∈ wsX00, w ∈ wsX6_restore := (fun _ h => List.mem_cons_of_mem _ (List.mem_append_right _ h))
  have hiX1 : ∀ w ∈ wsX10, w ∈ wsX6_restore := (fun _ h => List.mem_cons_of_mem _ (List.mem_append_left _ (List.mem_append_right _ h)))
  have hiX6 : ∀ w ∈ wsX60, w ∈ wsX6_restore := (fun _ h => List.mem_cons_of_mem _ (List.mem_append_left _ (List.mem_append_left _ (List.mem_append_right _ h))))
  subst hsz
  have hD := hD0.self (sz := s.heap.size)
  generalize hAe : va_A [(h0, .inr (6, [.ref hp, .ref hs, .ref hh, .ref hc, .ref kp, .ref rt, .int kr])), (hh, .inr (1, [.int w0, .int w1, .int w2])), (hc, .inr (0, [.int a0, .int a1, .int (nI k0), .ref k1, .ref k2, .ref k3, .ref k4, .ref k5])), (kp, .inr (0, [.int b0, .int b1, .int (nI k9), .ref j1, .ref j2, .ref j3, .ref j4, .ref j5])), (k1, .inl (cI, 6, .inl g1)), (k2, .inl (cI, 6, .inl g2)), (k3, .inl (cI, 6, .inl g3)), (k4, .inl (cI, 6, .inl g4)), (k5, .inl (cI, 6, .inl g5)), (j1, .inl (cI, 6, .inl e1)), (j2, .inl (cI, 6, .inl e2)), (j3, .inl (cI, 6, .inl e3)), (j4, .inl (cI, 6, .inl e4)), (j5, .inl (cI, 6, .inl e5))] s.heap.size = A at hD hQ ⊢
  have hA : ∀ q : Nat, s.heap.size ≤ q → A q := fun q h => by rw [← hAe]; exact Or.inr h
  have hS : va_S A s.heap s.heap [] := va_S.rf
  obtain ⟨H, eH⟩ : ∃ H, H = s.heap := ⟨_, rfl⟩
  have hP : va_P (dC, dI) vwCl [(h0, .inr (6, [.ref hp, .ref hs, .ref hh, .ref hc, .ref kp, .ref rt, .int kr])), (hh, .inr (1, [.int w0, .int w1, .int w2])), (hc, .inr (0, [.int a0, .int a1, .int (nI k0), .ref k1, .ref k2, .ref k3, .ref k4, .ref k5])), (kp, .inr (0, [.int b0, .int b1, .int (nI k9), .ref j1, .ref j2, .ref j3, .ref j4, .ref j5])), (k1, .inl (cI, 6, .inl g1)), (k2, .inl (cI, 6, .inl g2)), (k3, .inl (cI, 6, .inl g3)), (k4, .inl (cI, 6, .inl g4)), (k5, .inl (cI, 6, .inl g5)), (j1, .inl (cI, 6, .inl e1)), (j2, .inl (cI, 6, .inl e2)), (j3, .inl (cI, 6, .inl e3)), (j4, .inl (cI, 6, .inl e4)), (j5, .inl (cI, 6, .inl e5))] s.heap := hP
  have hl := lv_entry ([.ref h0]) (n := 1) (Nat.le_of_ble_eq_true rfl)
  rw [lg_entry_eq]
  generalize (lg_sl ([.ref h0]) ++ List.replicate (1 - (lg_sl ([.ref h0])).length) Slot.unset).toArray = ls at hl ⊢
  have hl : lv_has ls 1 [(0, .ref h0)] := hl
  refine lv_aload_n hx hb dX6_restore_0 rfl (lv_at hl 0 rfl) ?_
  refine va_get (D := (dC, dI)) (ci := 6) (v := .int kr) (C := RX6) (T := TX6) (N := 7) hx hb hts hiX6 hown hK hP 0 rfl rfl 6 (by decide) (hts (.fieldLink RX6 46 "LeftProfile" "keptReading" "I") (List.mem_of_getElem? (i := 1) rfl)) (fun _ h9 => h9) rfl dX6_restore_1 ?_
  refine lv_if_eq (tgt := 21) hx hb dX6_restore_4 (by decide) (fun c_1 => ?_) (fun c_1 => ?_)
  · refine lv_bipush (v := (-103)) hx hb dX6_restore_21 (by decide) ?_
    refine W.widen (k := 0) (n := 0) (Nat.le_of_ble_eq_true rfl) (Nat.le_of_ble_eq_true rfl) ?_
    have hP9 := hP.sub (ws' := [(h0, .inr (6, [.ref hp, .ref hs, .ref hh, .ref hc, .ref kp, .ref rt, .int kr])), (hh, .inr (1, [.int w0, .int w1, .int w2])), (hc, .inr (0, [.int a0, .int a1, .int (nI k0), .ref k1, .ref k2, .ref k3, .ref k4, .ref k5])), (kp, .inr (0, [.int b0, .int b1, .int (nI k9), .ref j1, .ref j2, .ref j3, .ref j4, .ref j5])), (k1, .inl (cI, 6, .inl g1)), (k2, .inl (cI, 6, .inl g2)), (k3, .inl (cI, 6, .inl g3)), (k4, .inl (cI, 6, .inl g4)), (k5, .inl (cI, 6, .inl g5)), (j1, .inl (cI, 6, .inl e1)), (j2, .inl (cI, 6, .inl e2)), (j3, .inl (cI, 6, .inl e3)), (j4, .inl (cI, 6, .inl e4)), (j5, .inl (cI, 6, .inl e5))]) [0, 1, 2, 3, 4, 5, 6, 7, 8, 9, 10, 11, 12, 13] rfl
    have hD9 := hD.sub (ws' := [(h0, .inr (6, [.ref hp, .ref hs, .ref hh, .ref hc, .ref kp, .ref rt, .int kr])), (hh, .inr (1, [.int w0, .int w1, .int w2])), (hc, .inr (0, [.int a0, .int a1, .int (nI k0), .ref k1, .ref k2, .ref k3, .ref k4, .ref k5])), (kp, .inr (0, [.int b0, .int b1, .int (nI k9), .ref j1, .ref j2, .ref j3, .ref j4, .ref j5])), (k1, .inl (cI, 6, .inl g1)), (k2, .inl (cI, 6, .inl g2)), (k3, .inl (cI, 6, .inl g3)), (k4, .inl (cI, 6, .inl g4)), (k5, .inl (cI, 6, .inl g5)), (j1, .inl (cI, 6, .inl e1)), (j2, .inl (cI, 6, .inl e2)), (j3, .inl (cI, 6, .inl e3)), (j4, .inl (cI, 6, .inl e4)), (j5, .inl (cI, 6, .inl e5))]) [0, 1, 2, 3, 4, 5, 6, 7, 8, 9, 10, 11, 12, 13] (by decide) rfl
    rw [hQ]; exact W.iret (v := (-103)) hx hb hr (fun t ht hW => ⟨⟨(-103), (), rfl, trivial, ⟨a0, a1, k0, g1, g2, g3, g4, g5, hk6, by rw [ht]; exact hP9, hD9⟩⟩, hS.F ht⟩) hS.2.2 dX6_restore_23
  · refine lv_aload_n hx hb dX6_restore_7 rfl (lv_at hl 0 rfl) ?_
    refine va_get (D := (dC, dI)) (ci := 6) (v := .int kr) (C := RX6) (T := TX6) (N := 7) hx hb hts hiX6 hown hK hP 0 rfl rfl 6 (by decide) (hts (.fieldLink RX6 46 "LeftProfile" "keptReading" "I") (List.mem_of_getElem? (i := 1) rfl)) (fun _ h9 => h9) rfl dX6_restore_8 ?_
    refine lv_aload_n hx hb dX6_restore_11 rfl (lv_at hl 0 rfl) ?_
    refine va_get (D := (dC, dI)) (ci := 6) (v := .ref hh) (C := RX6) (T := TX6) (N := 7) hx hb hts hiX6 hown hK hP 0 rfl rfl 2 (by decide) (hts (.fieldLink RX6 27 "LeftProfile" "hall" "LLeftProfile$Hall;") (List.mem_of_getElem? (i := 2) rfl)) (fun _ h9 => h9) rfl dX6_restore_12 ?_
    refine va_get (D := (dC, dI)) (ci := 1) (v := .int w2) (C := RX1) (T := TX1) (N := 3) hx hb hts hiX1 hown hK hP 1 rfl rfl 2 (by decide) (hts (.fieldLink RX6 191 "LeftProfile$Hall" "readings" "I") (List.mem_of_getElem? (i := 3) rfl)) (fun _ h9 => h9) rfl dX6_restore_15 ?_
    refine lv_icmp_eq (tgt := 24) hx hb dX6_restore_18 (by decide) (fun c_2 => ?_) (fun c_2 => ?_)
    · refine lv_aload_n hx hb dX6_restore_24 rfl (lv_at hl 0 rfl) ?_
      refine va_get (D := (dC, dI)) (ci := 6) (v := .ref hc) (C := RX6) (T := TX6) (N := 7) hx hb hts hiX6 hown hK hP 0 rfl rfl 3 (by decide) (hts (.fieldLink RX6 32 "LeftProfile" "court" "LLeftProfile$Court;") (List.mem_of_getElem? (i := 4) rfl)) (fun _ h9 => h9) rfl dX6_restore_25 ?_
      refine lv_aload_n hx hb dX6_restore_28 rfl (lv_at hl 0 rfl) ?_
      refine va_get (D := (dC, dI)) (ci := 6) (v := .ref kp) (C := RX6) (T := TX6) (N := 7) hx hb hts hiX6 hown hK hP 0 rfl rfl 4 (by decide) (hts (.fieldLink RX6 36 "LeftProfile" "kept" "LLeftProfile$Court;") (List.mem_of_getElem? (i := 5) rfl)) (fun _ h9 => h9) rfl dX6_restore_29 ?_
      have hPc := hP.sub (ws' := [(hc, .inr (0, [.int a0, .int a1, .int (nI k0), .ref k1, .ref k2, .ref k3, .ref k4, .ref k5])), (kp, .inr (0, [.int b0, .int b1, .int (nI k9), .ref j1, .ref j2, .ref j3, .ref j4, .ref j5])), (k1, .inl (cI, 6, .inl g1)), (k2, .inl (cI, 6, .inl g2)), (k3, .inl (cI, 6, .inl g3)), (k4, .inl (cI, 6, .inl g4)), (k5, .inl (cI, 6, .inl g5)), (j1, .inl (cI, 6, .inl e1)), (j2, .inl (cI, 6, .inl e2)), (j3, .inl (cI, 6, .inl e3)), (j4, .inl (cI, 6, .inl e4)), (j5, .inl (cI, 6, .inl e5))]) [2, 3, 4, 5, 6, 7, 8, 9, 10, 11, 12, 13] rfl
      have hDc := hD.sub (ws' := [(hc, .inr (0, [.int a0, .int a1, .int (nI k0), .ref k1, .ref k2, .ref k3, .ref k4, .ref k5])), (kp, .inr (0, [.int b0, .int b1, .int (nI k9), .ref j1, .ref j2, .ref j3, .ref j4, .ref j5])), (k1, .inl (cI, 6, .inl g1)), (k2, .inl (cI, 6, .inl g2)), (k3, .inl (cI, 6, .inl g3)), (k4, .inl (cI, 6, .inl g4)), (k5, .inl (cI, 6, .inl g5)), (j1, .inl (cI, 6, .inl e1)), (j2, .inl (cI, 6, .inl e2)), (j3, .inl (cI, 6, .inl e3)), (j4, .inl (cI, 6, .inl e4)), (j5, .inl (cI, 6, .inl e5))]) [2, 3, 4, 5, 6, 7, 8, 9, 10, 11, 12, 13] (by decide) rfl
      have hFc := va_free (wc := [(hc, .inr (0, [.int a0, .int a1, .int (nI k0), .ref k1, .ref k2, .ref k3, .ref k4, .ref k5])), (kp, .inr (0, [.int b0, .int b1, .int (nI k9), .ref j1, .ref j2, .ref j3, .ref j4, .ref j5])), (k1, .inl (cI, 6, .inl g1)), (k2, .inl (cI, 6, .inl g2)), (k3, .inl (cI, 6, .inl g3)), (k4, .inl (cI, 6, .inl g4)), (k5, .inl (cI, 6, .inl g5)), (j1, .inl (cI, 6, .inl e1)), (j2, .inl (cI, 6, .inl e2)), (j3, .inl (cI, 6, .inl e3)), (j4, .inl (cI, 6, .inl e4)), (j5, .inl (cI, 6, .inl e5))]) hD hS hA [2, 3, 4, 5, 6, 7, 8, 9, 10, 11, 12, 13] rfl
      refine va_callv (va_runV (As := [.ref kp]) (rest := []) ⟨hx, hb, hml, hown, hts⟩ (c_X0_takeFrom l dC dI cI cB hc kp a0 a1 k0 k1 k2 k3 k4 k5 b0 b1 k9 j1 j2 j3 j4 j5 g1 g2 g3 g4 g5 e1 e2 e3 e4 e5 s.heap.size ) (cwV 1 hts gX6_restore_X0_takeFrom rfl rfl rfl (by decide +kernel) ⟨Nat.le_of_ble_eq_true rfl, Nat.le_of_ble_eq_true rfl⟩) (cz_mV hPc hN hDc (va_recv hK hPc (ci := 0) (q0 := 0) rfl rfl)) rfl rfl hl.1 rfl (lv_room (Nat.le_of_ble_eq_true rfl)) dX6_restore_32 ⟨Nat.le_of_ble_eq_true rfl, Nat.le_of_ble_eq_true rfl⟩) hS (fun q _ h => hFc q h) hFc (fun u t H1 locs ht hvm hr_3 hB hz1 hk1 hS => ?_)
      obtain ⟨f_4, f_5, f_6, f_7, f_8, hP1, hD1⟩ := hB
      rw [ht] at hP1
      obtain ⟨hP, hD⟩ := va_join (wr := [(h0, .inr (6, [.ref hp, .ref hs, .ref hh, .ref hc, .ref kp, .ref rt, .int kr])), (hh, .inr (1, [.int w0, .int w1, .int w2]))]) (w1 := [(hc, .inr (0, [.int b0, .int b1, .int (nI k9), .ref k1, .ref k2, .ref k3, .ref k4, .ref k5])), (kp, .inr (0, [.int b0, .int b1, .int (nI k9), .ref j1, .ref j2, .ref j3, .ref j4, .ref j5])), (k1, .inl (cI, 6, .inl f_4)), (k2, .inl (cI, 6, .inl f_5)), (k3, .inl (cI, 6, .inl f_6)), (k4, .inl (cI, 6, .inl f_7)), (k5, .inl (cI, 6, .inl f_8)), (j1, .inl (cI, 6, .inl e1)), (j2, .inl (cI, 6, .inl e2)), (j3, .inl (cI, 6, .inl e3)), (j4, .inl (cI, 6, .inl e4)), (j5, .inl (cI, 6, .inl e5))]) hP hD [2, 3, 4, 5, 6, 7, 8, 9, 10, 11, 12, 13] [0, 1] rfl rfl (by decide) (by decide) hk1 hFc hP1 hD1
      generalize H1 = H at hP hS ⊢
      have hP : va_P (dC, dI) vwCl [(h0, .inr (6, [.ref hp, .ref hs, .ref hh, .ref hc, .ref kp, .ref rt, .int kr])), (hh, .inr (1, [.int w0, .int w1, .int w2])), (hc, .inr (0, [.int b0, .int b1, .int (nI k9), .ref k1, .ref k2, .ref k3, .ref k4, .ref k5])), (kp, .inr (0, [.int b0, .int b1, .int (nI k9), .ref j1, .ref j2, .ref j3, .ref j4, .ref j5])), (k1, .inl (cI, 6, .inl f_4)), (k2, .inl (cI, 6, .inl f_5)), (k3, .inl (cI, 6, .inl f_6)), (k4, .inl (cI, 6, .inl f_7)), (k5, .inl (cI, 6, .inl f_8)), (j1, .inl (cI, 6, .inl e1)), (j2, .inl (cI, 6, .inl e2)), (j3, .inl (cI, 6, .inl e3)), (j4, .inl (cI, 6, .inl e4)), (j5, .inl (cI, 6, .inl e5))] H := hP
      have hD : va_D A [(h0, .inr (6, [.ref hp, .ref hs, .ref hh, .ref hc, .ref kp, .ref rt, .int kr])), (hh, .inr (1, [.int w0, .int w1, .int w2])), (hc, .inr (0, [.int b0, .int b1, .int (nI k9), .ref k1, .ref k2, .ref k3, .ref k4, .ref k5])), (kp, .inr (0, [.int b0, .int b1, .int (nI k9), .ref j1, .ref j2, .ref j3, .ref j4, .ref j5])), (k1, .inl (cI, 6, .inl f_4)), (k2, .inl (cI, 6, .inl f_5)), (k3, .inl (cI, 6, .inl f_6)), (k4, .inl (cI, 6, .inl f_7)), (k5, .inl (cI, 6, .inl f_8)), (j1, .inl (cI, 6, .inl e1)), (j2, .inl (cI, 6, .inl e2)), (j3, .inl (cI, 6, .inl e3)), (j4, .inl (cI, 6, .inl e4)), (j5, .inl (cI, 6, .inl e5))] := hD
      refine lv_aload_n hx hb dX6_restore_35 rfl (lv_at hl 0 rfl) ?_
      refine va_get (D := (dC, dI)) (ci := 6) (v := .ref hc) (C := RX6) (T := TX6) (N := 7) hx hb hts hiX6 hown hK hP 0 rfl rfl 3 (by decide) (hts (.fieldLink RX6 32 "LeftProfile" "court" "LLeftProfile$Court;") (List.mem_of_getElem? (i := 4) rfl)) (fun _ h9 => h9) rfl dX6_restore_36 ?_
      refine va_get (D := (dC, dI)) (ci := 0) (v := .int (nI k9)) (C := RX0) (T := TX0) (N := 8) hx hb hts hiX0 hown hK hP 2 rfl rfl 2 (by decide) (hts (.fieldLink RX6 194 "LeftProfile$Court" "size" "I") (List.mem_of_getElem? (i := 6) rfl)) (fun _ h9 => h9) rfl dX6_restore_39 ?_
      refine W.widen (k := 0) (n := 0) (Nat.le_of_ble_eq_true rfl) (Nat.le_of_ble_eq_true rfl) ?_
      have hP9 := hP.sub (ws' := [(h0, .inr (6, [.ref hp, .ref hs, .ref hh, .ref hc, .ref kp, .ref rt, .int kr])), (hh, .inr (1, [.int w0, .int w1, .int w2])), (hc, .inr (0, [.int b0, .int b1, .int (nI k9), .ref k1, .ref k2, .ref k3, .ref k4, .ref k5])), (kp, .inr (0, [.int b0, .int b1, .int (nI k9), .ref j1, .ref j2, .ref j3, .ref j4, .ref j5])), (k1, .inl (cI, 6, .inl f_4)), (k2, .inl (cI, 6, .inl f_5)), (k3, .inl (cI, 6, .inl f_6)), (k4, .inl (cI, 6, .inl f_7)), (k5, .inl (cI, 6, .inl f_8)), (j1, .inl (cI, 6, .inl e1)), (j2, .inl (cI, 6, .inl e2)), (j3, .inl (cI, 6, .inl e3)), (j4, .inl (cI, 6, .inl e4)), (j5, .inl (cI, 6, .inl e5))]) [0, 1, 2, 3, 4, 5, 6, 7, 8, 9, 10, 11, 12, 13] rfl
      have hD9 := hD.sub (ws' := [(h0, .inr (6, [.ref hp, .ref hs, .ref hh, .ref hc, .ref kp, .ref rt, .int kr])), (hh, .inr (1, [.int w0, .int w1, .int w2])), (hc, .inr (0, [.int b0, .int b1, .int (nI k9), .ref k1, .ref k2, .ref k3, .ref k4, .ref k5])), (kp, .inr (0, [.int b0, .int b1, .int (nI k9), .ref j1, .ref j2, .ref j3, .ref j4, .ref j5])), (k1, .inl (cI, 6, .inl f_4)), (k2, .inl (cI, 6, .inl f_5)), (k3, .inl (cI, 6, .inl f_6)), (k4, .inl (cI, 6, .inl f_7)), (k5, .inl (cI, 6, .inl f_8)), (j1, .inl (cI, 6, .inl e1)), (j2, .inl (cI, 6, .inl e2)), (j3, .inl (cI, 6, .inl e3)), (j4, .inl (cI, 6, .inl e4)), (j5, .inl (cI, 6, .inl e5))]) [0, 1, 2, 3, 4, 5, 6, 7, 8, 9, 10, 11, 12, 13] (by decide) rfl
      rw [hQ]; exact W.iret (v := (nI k9)) hx hb hr (fun t ht hW => ⟨⟨(nI k9), (), rfl, trivial, ⟨b0, b1, k9, f_4, f_5, f_6, f_7, f_8, hk9, by rw [ht]; exact hP9, hD9⟩⟩, hS.F ht⟩) hS.2.2 dX6_restore_42
    · refine lv_bipush (v := (-103)) hx hb dX6_restore_21 (by decide) ?_
      refine W.widen (k := 0) (n := 0) (Nat.le_of_ble_eq_true rfl) (Nat.le_of_ble_eq_true rfl) ?_
      have hP9 := hP.sub (ws' := [(h0, .inr (6, [.ref hp, .ref hs, .ref hh, .ref hc, .ref kp, .ref rt, .int kr])), (hh, .inr (1, [.int w0, .int w1, .int w2])), (hc, .inr (0, [.int a0, .int a1, .int (nI k0), .ref k1, .ref k2, .ref k3, .ref k4, .ref k5])), (kp, .inr (0, [.int b0, .int b1, .int (nI k9), .ref j1, .ref j2, .ref j3, .ref j4, .ref j5])), (k1, .inl (cI, 6, .inl g1)), (k2, .inl (cI, 6, .inl g2)), (k3, .inl (cI, 6, .inl g3)), (k4, .inl (cI, 6, .inl g4)), (k5, .inl (cI, 6, .inl g5)), (j1, .inl (cI, 6, .inl e1)), (j2, .inl (cI, 6, .inl e2)), (j3, .inl (cI, 6, .inl e3)), (j4, .inl (cI, 6, .inl e4)), (j5, .inl (cI, 6, .inl e5))]) [0, 1, 2, 3, 4, 5, 6, 7, 8, 9, 10, 11, 12, 13] rfl
      have hD9 := hD.sub (ws' := [(h0, .inr (6, [.ref hp, .ref hs, .ref hh, .ref hc, .ref kp, .ref rt, .int kr])), (hh, .inr (1, [.int w0, .int w1, .int w2])), (hc, .inr (0, [.int a0, .int a1, .int (nI k0), .ref k1, .ref k2, .ref k3, .ref k4, .ref k5])), (kp, .inr (0, [.int b0, .int b1, .int (nI k9), .ref j1, .ref j2, .ref j3, .ref j4, .ref j5])), (k1, .inl (cI, 6, .inl g1)), (k2, .inl (cI, 6, .inl g2)), (k3, .inl (cI, 6, .inl g3)), (k4, .inl (cI, 6, .inl g4)), (k5, .inl (cI, 6, .inl g5)), (j1, .inl (cI, 6, .inl e1)), (j2, .inl (cI, 6, .inl e2)), (j3, .inl (cI, 6, .inl e3)), (j4, .inl (cI, 6, .inl e4)), (j5, .inl (cI, 6, .inl e5))]) [0, 1, 2, 3, 4, 5, 6, 7, 8, 9, 10, 11, 12, 13] (by decide) rfl
      rw [hQ]; exact W.iret (v := (-103)) hx hb hr (fun t ht hW => ⟨⟨(-103), (), rfl, trivial, ⟨a0, a1, k0, g1, g2, g3, g4, g5, hk6, by rw [ht]; exact hP9, hD9⟩⟩, hS.F ht⟩) hS.2.2 dX6_restore_23

set_option maxHeartbeats 4000000 in
set_option maxRecDepth 100000 in
theorem c_X6_count (l : Launch) (dC : Nat → ClassId) (dI : Nat → Nat → Nat) (cI cB : ClassId) (h0 : Nat) (p0 : Int32) (hp : Nat) (hs : Nat) (hh : Nat) (hc : Nat) (kp : Nat) (rt : Nat) (kr : Int32) (cd : Nat) (n0 : Nat) (si : Nat) (w0 : Int32) (w1 : Int32) (w2 : Int32) (a0 : Int32) (a1 : Int32) (k0 : Nat) (k1 : Nat) (k2 : Nat) (k3 : Nat) (k4 : Nat) (k5 : Nat) (g1 : Nat → Int32) (g2 : Nat → Int32) (g5 : Nat → Int32) (tw : Nat) (tb : Nat) (ft : Nat → Int32) (fb : Nat → Int32) (hk6 : k0 ≤ 6) : Met l yX6_count wsX6_count ({ frames := 5, cells := 0, slots := 0, locals := 123 }) (cz_Pp dC dI cI cB [.ref h0, .int p0] [(h0, .inr (6, [.ref hp, .ref hs, .ref hh, .ref hc, .ref kp, .ref rt, .int kr])), (hp, .inr (2, [.ref cd, .int (nI n0)])), (hs, .inr (4, [.ref hh, .ref hc, .ref si])), (hh, .inr (1, [.int w0, .int w1, .int w2])), (hc, .inr (0, [.int a0, .int a1, .int (nI k0), .ref k1, .ref k2, .ref k3, .ref k4, .ref k5])), (k1, .inl (cI, 6, .inl g1)), (k2, .inl (cI, 6, .inl g2)), (k5, .inl (cI, 6, .inl g5)), (si, .inr (5, [.ref tw, .ref tb])), (tw, .inl (cI, 400, .inl ft)), (tb, .inl (cI, 400, .inl fb))]) (vp_Si (fun r : Int32 => True)) 0 0 (fun _ => False) := by
  refine cz_of (cc := cX6_count) (maxL := 2) (ret := (some .int)) (by decide) rfl ?_
  intro p e s m args below meth c s₁ Q B hml hv hQ
  obtain ⟨rfl, hP, hN⟩ := hv
  have hx := B.exec
  have hb := B.bytes
  have hr := B.returns
  have hts := atoms_spec (ws := wsX6_count) B.pre
  have hown : s.vm.findClass RX6 = some m.cls := findClass_of_methodNamed B.named
  have hlocks := B.notSynchronized
  have hK := hN.1
  have hiX0 : ∀ w ∈ wsX00, w ∈ wsX6_count := (fun _ h => List.mem_cons_of_mem _ (List.mem_append_left _ (List.mem_append_left _ (List.mem_append_left _ (List.mem_append_right _ h)))))
  have hiX1 : ∀ w ∈ wsX10, w ∈ wsX6_count := (fun _ h => List.mem_cons_of_mem _ (List.mem_append_left _ (List.mem_append_left _ (List.mem_append_left _ (List.mem_append_left _ (List.mem_append_right _ h))))))
  have hiX2 : ∀ w ∈ wsX20, w ∈ wsX6_count := (fun _ h => List.mem_cons_of_mem _ (List.mem_append_left _ (List.mem_append_left _ (List.mem_append_right _ h))))
  have hiX6 : ∀ w ∈ wsX60, w ∈ wsX6_count := (fun _ h => List.mem_cons_of_mem _ (List.mem_append_left _ (List.mem_append_left _ (List.mem_append_left _ (List.mem_append_left _ (List.mem_append_left _ (List.mem_append_right _ h)))))))
  have hl := lv_entry ([.ref h0, .int p0]) (n := 2) (Nat.le_of_ble_eq_true rfl)
  rw [lg_entry_eq]
  generalize (lg_sl ([.ref h0, .int p0]) ++ List.replicate (2 - (lg_sl ([.ref h0, .int p0])).length) Slot.unset).toArray = ls at hl ⊢
  have hl : lv_has ls 2 [(0, .ref h0), (1, .int p0)] := hl
  refine lv_iload_n hx hb dX6_count_0 rfl (lv_at hl 1 rfl) ?_
  rcases cz_sw_0_8 p0 with c_1 | c_1 | c_1 | c_1 | c_1 | c_1 | c_1 | c_1 | c_1 | c_1
  · refine lv_tableIn (off := 51) (tgt := 52) hx hb dX6_count_1 (by rw [c_1]; decide) (by rw [c_1]; decide) (by rw [c_1]; decide) (by decide) ?_
    refine lv_aload_n hx hb dX6_count_52 rfl (lv_at hl 0 rfl) ?_
    refine va_get (D := (dC, dI)) (ci := 6) (v := .ref hh) (C := RX6) (T := TX6) (N := 7) hx hb hts hiX6 hown hK hP 0 rfl rfl 2 (by decide) (hts (.fieldLink RX6 27 "LeftProfile" "hall" "LLeftProfile$Hall;") (List.mem_of_getElem? (i := 1) rfl)) (fun _ h9 => h9) rfl dX6_count_53 ?_
    refine va_get (D := (dC, dI)) (ci := 1) (v := .int w1) (C := RX1) (T := TX1) (N := 3) hx hb hts hiX1 hown hK hP 3 rfl rfl 1 (by decide) (hts (.fieldLink RX6 74 "LeftProfile$Hall" "floors" "I") (List.mem_of_getElem? (i := 2) rfl)) (fun _ h9 => h9) rfl dX6_count_56 ?_
    rw [hQ]; exact W.iret (v := w1) hx hb hr (fun t ht hW => ⟨w1, rfl, trivial, ht⟩) (fun _ h => absurd h List.not_mem_nil) dX6_count_59
  · refine lv_tableIn (off := 59) (tgt := 60) hx hb dX6_count_1 (by rw [c_1]; decide) (by rw [c_1]; decide) (by rw [c_1]; decide) (by decide) ?_
    refine lv_aload_n hx hb dX6_count_60 rfl (lv_at hl 0 rfl) ?_
    refine va_get (D := (dC, dI)) (ci := 6) (v := .ref hc) (C := RX6) (T := TX6) (N := 7) hx hb hts hiX6 hown hK hP 0 rfl rfl 3 (by decide) (hts (.fieldLink RX6 32 "LeftProfile" "court" "LLeftProfile$Court;") (List.mem_of_getElem? (i := 3) rfl)) (fun _ h9 => h9) rfl dX6_count_61 ?_
    refine va_get (D := (dC, dI)) (ci := 0) (v := .int (nI k0)) (C := RX0) (T := TX0) (N := 8) hx hb hts hiX0 hown hK hP 4 rfl rfl 2 (by decide) (hts (.fieldLink RX6 194 "LeftProfile$Court" "size" "I") (List.mem_of_getElem? (i := 4) rfl)) (fun _ h9 => h9) rfl dX6_count_64 ?_
    rw [hQ]; exact W.iret (v := (nI k0)) hx hb hr (fun t ht hW => ⟨(nI k0), rfl, trivial, ht⟩) (fun _ h => absurd h List.not_mem_nil) dX6_count_67
  · refine lv_tableIn (off := 67) (tgt := 68) hx hb dX6_count_1 (by rw [c_1]; decide) (by rw [c_1]; decide) (by rw [c_1]; decide) (by decide) ?_
    refine lv_aload_n hx hb dX6_count_68 rfl (lv_at hl 0 rfl) ?_
    refine va_get (D := (dC, dI)) (ci := 6) (v := .ref hc) (C := RX6) (T := TX6) (N := 7) hx hb hts hiX6 hown hK hP 0 rfl rfl 3 (by decide) (hts (.fieldLink RX6 32 "LeftProfile" "court" "LLeftProfile$Court;") (List.mem_of_getElem? (i := 3) rfl)) (fun _ h9 => h9) rfl dX6_count_69 ?_
    refine va_get (D := (dC, dI)) (ci := 0) (v := .int a0) (C := RX0) (T := TX0) (N := 8) hx hb hts hiX0 hown hK hP 4 rfl rfl 0 (by decide) (hts (.fieldLink RX6 91 "LeftProfile$Court" "stance" "I") (List.mem_of_getElem? (i := 5) rfl)) (fun _ h9 => h9) rfl dX6_count_72 ?_
    refine vp_callSi (cz_run (va_runS (As := [.int a0]) (rest := []) ⟨hx, hb, hml, hown, hts⟩ (c_X6_placeOf l dC dI cI cB a0 ) (va_cwS 1 hts gX6_count_X6_placeOf rfl rfl rfl (by decide +kernel) ⟨Nat.le_of_ble_eq_true rfl, Nat.le_of_ble_eq_true rfl⟩) (cz_pS (hP.sub (ws' := []) [] rfl) hN) rfl rfl hl.1 rfl (lv_room (Nat.le_of_ble_eq_true rfl)) dX6_count_75 ⟨Nat.le_of_ble_eq_true rfl, Nat.le_of_ble_eq_true rfl⟩)) (fun r_2 hr_2 => ?_)
    rw [hQ]; exact W.iret (v := r_2) hx hb hr (fun t ht hW => ⟨r_2, rfl, trivial, ht⟩) (fun _ h => absurd h List.not_mem_nil) dX6_count_78
  · refine lv_tableIn (off := 78) (tgt := 79) hx hb dX6_count_1 (by rw [c_1]; decide) (by rw [c_1]; decide) (by rw [c_1]; decide) (by decide) ?_
    refine lv_aload_n hx hb dX6_count_79 rfl (lv_at hl 0 rfl) ?_
    refine va_get (D := (dC, dI)) (ci := 6) (v := .ref hc) (C := RX6) (T := TX6) (N := 7) hx hb hts hiX6 hown hK hP 0 rfl rfl 3 (by decide) (hts (.fieldLink RX6 32 "LeftProfile" "court" "LLeftProfile$Court;") (List.mem_of_getElem? (i := 3) rfl)) (fun _ h9 => h9) rfl dX6_count_80 ?_
    refine va_get (D := (dC, dI)) (ci := 0) (v := .int a0) (C := RX0) (T := TX0) (N := 8) hx hb hts hiX0 hown hK hP 4 rfl rfl 0 (by decide) (hts (.fieldLink RX6 91 "LeftProfile$Court" "stance" "I") (List.mem_of_getElem? (i := 5) rfl)) (fun _ h9 => h9) rfl dX6_count_83 ?_
    refine vp_callSi (cz_run (va_runS (As := [.int a0]) (rest := []) ⟨hx, hb, hml, hown, hts⟩ (c_X6_sideOf l dC dI cI cB a0 ) (va_cwS 1 hts gX6_count_X6_sideOf rfl rfl rfl (by decide +kernel) ⟨Nat.le_of_ble_eq_true rfl, Nat.le_of_ble_eq_true rfl⟩) (cz_pS (hP.sub (ws' := []) [] rfl) hN) rfl rfl hl.1 rfl (lv_room (Nat.le_of_ble_eq_true rfl)) dX6_count_86 ⟨Nat.le_of_ble_eq_true rfl, Nat.le_of_ble_eq_true rfl⟩)) (fun r_3 hr_3 => ?_)
    rw [hQ]; exact W.iret (v := r_3) hx hb hr (fun t ht hW => ⟨r_3, rfl, trivial, ht⟩) (fun _ h => absurd h List.not_mem_nil) dX6_count_89
  · refine lv_tableIn (off := 89) (tgt := 90) hx hb dX6_count_1 (by rw [c_1]; decide) (by rw [c_1]; decide) (by rw [c_1]; decide) (by decide) ?_
    refine lv_aload_n hx hb dX6_count_90 rfl (lv_at hl 0 rfl) ?_
    refine va_get (D := (dC, dI)) (ci := 6) (v := .ref hs) (C := RX6) (T := TX6) (N := 7) hx hb hts hiX6 hown hK hP 0 rfl rfl 1 (by decide) (hts (.fieldLink RX6 19 "LeftProfile" "scene" "LLeftProfile$Scene;") (List.mem_of_getElem? (i := 6) rfl)) (fun _ h9 => h9) rfl dX6_count_91 ?_
    refine lv_aload_n hx hb dX6_count_94 rfl (lv_at hl 0 rfl) ?_
    refine va_get (D := (dC, dI)) (ci := 6) (v := .ref hc) (C := RX6) (T := TX6) (N := 7) hx hb hts hiX6 hown hK hP 0 rfl rfl 3 (by decide) (hts (.fieldLink RX6 32 "LeftProfile" "court" "LLeftProfile$Court;") (List.mem_of_getElem? (i := 3) rfl)) (fun _ h9 => h9) rfl dX6_count_95 ?_
    refine va_get (D := (dC, dI)) (ci := 0) (v := .int a0) (C := RX0) (T := TX0) (N := 8) hx hb hts hiX0 hown hK hP 4 rfl rfl 0 (by decide) (hts (.fieldLink RX6 91 "LeftProfile$Court" "stance" "I") (List.mem_of_getElem? (i := 5) rfl)) (fun _ h9 => h9) rfl dX6_count_98 ?_
    refine lv_aload_n hx hb dX6_count_101 rfl (lv_at hl 0 rfl) ?_
    refine va_get (D := (dC, dI)) (ci := 6) (v := .ref hh) (C := RX6) (T := TX6) (N := 7) hx hb hts hiX6 hown hK hP 0 rfl rfl 2 (by decide) (hts (.fieldLink RX6 27 "LeftProfile" "hall" "LLeftProfile$Hall;") (List.mem_of_getElem? (i := 1) rfl)) (fun _ h9 => h9) rfl dX6_count_102 ?_
    refine va_get (D := (dC, dI)) (ci := 1) (v := .int w0) (C := RX1) (T := TX1) (N := 3) hx hb hts hiX1 hown hK hP 3 rfl rfl 0 (by decide) (hts (.fieldLink RX6 84 "LeftProfile$Hall" "walls" "I") (List.mem_of_getElem? (i := 7) rfl)) (fun _ h9 => h9) rfl dX6_count_105 ?_
    refine vp_callSi (cz_run (va_runV (As := [.int a0, .int w0]) (rest := []) ⟨hx, hb, hml, hown, hts⟩ (c_X4_guiltyIf l dC dI cI cB hs a0 w0 hh hc si w0 w1 w2 a0 a1 k0 k1 k2 k3 k4 k5 g1 g2 tw tb ft fb hk6) (cwV 2 hts gX6_count_X4_guiltyIf rfl rfl rfl (by decide +kernel) ⟨Nat.le_of_ble_eq_true rfl, Nat.le_of_ble_eq_true rfl⟩) (cz_pV (hP.sub (ws' := [(hs, .inr (4, [.ref hh, .ref hc, .ref si])), (hh, .inr (1, [.int w0, .int w1, .int w2])), (hc, .inr (0, [.int a0, .int a1, .int (nI k0), .ref k1, .ref k2, .ref k3, .ref k4, .ref k5])), (k1, .inl (cI, 6, .inl g1)), (k2, .inl (cI, 6, .inl g2)), (si, .inr (5, [.ref tw, .ref tb])), (tw, .inl (cI, 400, .inl ft)), (tb, .inl (cI, 400, .inl fb))]) [2, 3, 4, 5, 6, 8, 9, 10] rfl) hN (va_recv hK (hP.sub (ws' := [(hs, .inr (4, [.ref hh, .ref hc, .ref si])), (hh, .inr (1, [.int w0, .int w1, .int w2])), (hc, .inr (0, [.int a0, .int a1, .int (nI k0), .ref k1, .ref k2, .ref k3, .ref k4, .ref k5])), (k1, .inl (cI, 6, .inl g1)), (k2, .inl (cI, 6, .inl g2)), (si, .inr (5, [.ref tw, .ref tb])), (tw, .inl (cI, 400, .inl ft)), (tb, .inl (cI, 400, .inl fb))]) [2, 3, 4, 5, 6, 8, 9, 10] rfl) (ci := 4) (q0 := 0) rfl rfl)) rfl rfl hl.1 rfl (lv_room (Nat.le_of_ble_eq_true rfl)) dX6_count_108 ⟨Nat.le_of_ble_eq_true rfl, Nat.le_of_ble_eq_true rfl⟩)) (fun r_4 hr_4 => ?_)
    refine vp_callSi (cz_run (va_runS (As := [.int r_4]) (rest := []) ⟨hx, hb, hml, hown, hts⟩ (c_J6_bitCount_0f7a4 l dC dI cI cB r_4 ) (va_cwS 1 hts gX6_count_J6_bitCount_0f7a4 rfl rfl rfl (by decide +kernel) ⟨Nat.le_of_ble_eq_true rfl, Nat.le_of_ble_eq_true rfl⟩) (cz_pS (hP.sub (ws' := []) [] rfl) hN) rfl rfl hl.1 rfl (lv_room (Nat.le_of_ble_eq_true rfl)) dX6_count_111 ⟨Nat.le_of_ble_eq_true rfl, Nat.le_of_ble_eq_true rfl⟩)) (fun r_5 hr_5 => ?_)
    rw [hQ]; exact W.iret (v := r_5) hx hb hr (fun t ht hW => ⟨r_5, rfl, trivial, ht⟩) (fun _ h => absurd h List.not_mem_nil) dX6_count_114
  · refine lv_tableIn (off := 114) (tgt := 115) hx hb dX6_count_1 (by rw [c_1]; decide) (by rw [c_1]; decide) (by rw [c_1]; decide) (by decide) ?_
    refine lv_aload_n hx hb dX6_count_115 rfl (lv_at hl 0 rfl) ?_
    refine va_get (D := (dC, dI)) (ci := 6) (v := .ref hc) (C := RX6) (T := TX6) (N := 7) hx hb hts hiX6 hown hK hP 0 rfl rfl 3 (by decide) (hts (.fieldLink RX6 32 "LeftProfile" "court" "LLeftProfile$Court;") (List.mem_of_getElem? (i := 3) rfl)) (fun _ h9 => h9) rfl dX6_count_116 ?_
    refine vp_callSi (cz_run (va_runV (As := []) (rest := []) ⟨hx, hb, hml, hown, hts⟩ (c_X0_howManyTold l dC dI cI cB hc a0 a1 k0 k1 k2 k3 k4 k5 g5 hk6) (cwV 0 hts gX6_count_X0_howManyTold rfl rfl rfl (by decide +kernel) ⟨Nat.le_of_ble_eq_true rfl, Nat.le_of_ble_eq_true rfl⟩) (cz_pV (hP.sub (ws' := [(hc, .inr (0, [.int a0, .int a1, .int (nI k0), .ref k1, .ref k2, .ref k3, .ref k4, .ref k5])), (k5, .inl (cI, 6, .inl g5))]) [4, 7] rfl) hN (va_recv hK (hP.sub (ws' := [(hc, .inr (0, [.int a0, .int a1, .int (nI k0), .ref k1, .ref k2, .ref k3, .ref k4, .ref k5])), (k5, .inl (cI, 6, .inl g5))]) [4, 7] rfl) (ci := 0) (q0 := 0) rfl rfl)) rfl rfl hl.1 rfl (lv_room (Nat.le_of_ble_eq_true rfl)) dX6_count_119 ⟨Nat.le_of_ble_eq_true rfl, Nat.le_of_ble_eq_true rfl⟩)) (fun r_6 hr_6 => ?_)
    rw [hQ]; exact W.iret (v := r_6) hx hb hr (fun t ht hW => ⟨r_6, rfl, trivial, ht⟩) (fun _ h => absurd h List.not_mem_nil) dX6_count_122
  · refine lv_tableIn (off := 122) (tgt := 123) hx hb dX6_count_1 (by rw [c_1]; decide) (by rw [c_1]; decide) (by rw [c_1]; decide) (by decide) ?_
    refine lv_aload_n hx hb dX6_count_123 rfl (lv_at hl 0 rfl) ?_
    refine va_get (D := (dC, dI)) (ci := 6) (v := .ref hc) (C := RX6) (T := TX6) (N := 7) hx hb hts hiX6 hown hK hP 0 rfl rfl 3 (by decide) (hts (.fieldLink RX6 32 "LeftProfile" "court" "LLeftProfile$Court;") (List.mem_of_getElem? (i := 3) rfl)) (fun _ h9 => h9) rfl dX6_count_124 ?_
    refine va_get (D := (dC, dI)) (ci := 0) (v := .int a1) (C := RX0) (T := TX0) (N := 8) hx hb hts hiX0 hown hK hP 4 rfl rfl 1 (by decide) (hts (.fieldLink RX6 147 "LeftProfile$Court" "acts" "I") (List.mem_of_getElem? (i := 8) rfl)) (fun _ h9 => h9) rfl dX6_count_127 ?_
    rw [hQ]; exact W.iret (v := a1) hx hb hr (fun t ht hW => ⟨a1, rfl, trivial, ht⟩) (fun _ h => absurd h List.not_mem_nil) dX6_count_130
  · refine lv_tableIn (off := 130) (tgt := 131) hx hb dX6_count_1 (by rw [c_1]; decide) (by rw [c_1]; decide) (by rw [c_1]; decide) (by decide) ?_
    refine lv_aload_n hx hb dX6_count_131 rfl (lv_at hl 0 rfl) ?_
    refine va_get (D := (dC, dI)) (ci := 6) (v := .ref hp) (C := RX6) (T := TX6) (N := 7) hx hb hts hiX6 hown hK hP 0 rfl rfl 0 (by decide) (hts (.fieldLink RX6 12 "LeftProfile" "page" "LLeftProfile$Page;") (List.mem_of_getElem? (i := 9) rfl)) (fun _ h9 => h9) rfl dX6_count_132 ?_
    refine va_get (D := (dC, dI)) (ci := 2) (v := .int (nI n0)) (C := RX2) (T := TX2) (N := 2) hx hb hts hiX2 hown hK hP 1 rfl rfl 1 (by decide) (hts (.fieldLink RX6 203 "LeftProfile$Page" "size" "I") (List.mem_of_getElem? (i := 10) rfl)) (fun _ h9 => h9) rfl dX6_count_135 ?_
    rw [hQ]; exact W.iret (v := (nI n0)) hx hb hr (fun t ht hW => ⟨(nI n0), rfl, trivial, ht⟩) (fun _ h => absurd h List.not_mem_nil) dX6_count_138
  · refine lv_tableIn (off := 138) (tgt := 139) hx hb dX6_count_1 (by rw [c_1]; decide) (by rw [c_1]; decide) (by rw [c_1]; decide) (by decide) ?_
    refine lv_aload_n hx hb dX6_count_139 rfl (lv_at hl 0 rfl) ?_
    refine va_get (D := (dC, dI)) (ci := 6) (v := .ref hh) (C := RX6) (T := TX6) (N := 7) hx hb hts hiX6 hown hK hP 0 rfl rfl 2 (by decide) (hts (.fieldLink RX6 27 "LeftProfile" "hall" "LLeftProfile$Hall;") (List.mem_of_getElem? (i := 1) rfl)) (fun _ h9 => h9) rfl dX6_count_140 ?_
    refine va_get (D := (dC, dI)) (ci := 1) (v := .int w2) (C := RX1) (T := TX1) (N := 3) hx hb hts hiX1 hown hK hP 3 rfl rfl 2 (by decide) (hts (.fieldLink RX6 191 "LeftProfile$Hall" "readings" "I") (List.mem_of_getElem? (i := 11) rfl)) (fun _ h9 => h9) rfl dX6_count_143 ?_
    rw [hQ]; exact W.iret (v := w2) hx hb hr (fun t ht hW => ⟨w2, rfl, trivial, ht⟩) (fun _ h => absurd h List.not_mem_nil) dX6_count_146
  · refine lv_tableOut (tgt := 147) hx hb dX6_count_1 c_1 (by decide) ?_
    refine lv_bipush (v := (-102)) hx hb dX6_count_147 (by decide) ?_
    rw [hQ]; exact W.iret (v := (-102)) hx hb hr (fun t ht hW => ⟨(-102), rfl, trivial, ht⟩) (fun _ h => absurd h List.not_mem_nil) dX6_count_149
