/-! what each call answers on a new object -/
def cz_rl (c : Int32) : Int32 := if cz_in 32 c 126 then 1 else -102
def cz_ron (p : Int32) : Int32 := if cz_in 0 p 19 then -103 else -101
def cz_r2 (p a hi : Int32) : Int32 := if cz_in 0 p 19 then (if cz_in 0 a hi then -103 else -102) else -101
def cz_r1 (a hi : Int32) : Int32 := if cz_in 0 a hi then -103 else -102
def cz_rr (m i : Int32) : Int32 := if cz_in 1 m 3 ∧ cz_in 0 i 2 then -103 else -102
def cz_rw (t s w : Int32) : Int32 := if cz_in 1 t 60 ∧ ¬ s < 0 ∧ cz_in 0 w 3 then -103 else -102
def cz_rc (w : Int32) : Int32 := if w = 2 then -1 else if w = 3 then -1 else if cz_in 0 w 8 then 0 else -102

set_option maxHeartbeats 4000000 in
set_option maxRecDepth 100000 in
theorem c_X2_add0 (l : Launch) (dC : Nat → ClassId) (dI : Nat → Nat → Nat) (cI cB : ClassId) (hp : Nat) (p0 : Int32) (cd : Nat) (f : Nat → Int32) (sz : Nat) : Met l yX2_add wsX2_add ({ frames := 0, cells := 0, slots := 0, locals := 0 }) (cz_Pm dC dI cI cB [.ref hp, .int p0] [(hp, .inr (2, [.ref cd, .int 0])), (cd, .inl (cI, 24, .inl f))] sz) (va_Qi (fun (r : Int32) (_ : Unit) => r = 1) (fun _ _ => True) (va_A [(hp, .inr (2, [.ref cd, .int 0])), (cd, .inl (cI, 24, .inl f))] sz)) 0 0 (va_A [(hp, .inr (2, [.ref cd, .int 0])), (cd, .inl (cI, 24, .inl f))] sz) := by
  refine Met.ofW (cc := cX2_add) (maxL := 2) (ret := (some .int)) (by decide) rfl ?_
  intro p e s m args below meth c s₁ B hml hv
  obtain ⟨rfl, hsz, hP, hN, hD0⟩ := hv
  have hx := B.exec
  have hb := B.bytes
  have hr := B.returns
  have hts := atoms_spec (ws := wsX2_add) B.pre
  have hown : s.vm.findClass RX2 = some m.cls := findClass_of_methodNamed B.named
  have hlocks := B.notSynchronized
  have hK := hN.1
  have hiX2 : ∀ w ∈ wsX20, w ∈ wsX2_add := (fun _ h => List.mem_cons_of_mem _ (List.mem_append_right _ h))
  subst hsz
  have hD := hD0.self (sz := s.heap.size)
  generalize hAe : va_A [(hp, .inr (2, [.ref cd, .int 0])), (cd, .inl (cI, 24, .inl f))] s.heap.size = A at hD ⊢
  have hA : ∀ q : Nat, s.heap.size ≤ q → A q := fun q h => by rw [← hAe]; exact Or.inr h
  have hS : va_S A s.heap s.heap [] := va_S.rf
  obtain ⟨H, eH⟩ : ∃ H, H = s.heap := ⟨_, rfl⟩
  have hP : va_P (dC, dI) vwCl [(hp, .inr (2, [.ref cd, .int 0])), (cd, .inl (cI, 24, .inl f))] s.heap := hP
  have hl := lv_entry ([.ref hp, .int p0]) (n := 2) (Nat.le_of_ble_eq_true rfl)
  rw [lg_entry_eq]
  generalize (lg_sl ([.ref hp, .int p0]) ++ List.replicate (2 - (lg_sl ([.ref hp, .int p0])).length) Slot.unset).toArray = ls at hl ⊢
  have hl : lv_has ls 2 [(0, .ref hp), (1, .int p0)] := hl
  refine lv_aload_n hx hb dX2_add_0 rfl (lv_at hl 0 rfl) ?_
  refine va_get (D := (dC, dI)) (ci := 2) (v := .int 0) (C := RX2) (T := TX2) (N := 2) hx hb hts hiX2 hown hK hP 0 rfl rfl 1 (by decide) (hts (.fieldLink RX2 15 "LeftProfile$Page" "size" "I") (List.mem_of_getElem? (i := 1) rfl)) (fun _ h9 => h9) rfl dX2_add_1 ?_
  refine lv_bipush (v := 24) hx hb dX2_add_4 (by decide) ?_
  refine lv_icmp_lt (tgt := 12) hx hb dX2_add_6 (by decide) (fun _ => ?_) (fun c => absurd (by decide) c)
  refine lv_aload_n hx hb dX2_add_12 rfl (lv_at hl 0 rfl) ?_
  refine va_get (D := (dC, dI)) (ci := 2) (v := .ref cd) (C := RX2) (T := TX2) (N := 2) hx hb hts hiX2 hown hK hP 0 rfl rfl 0 (by decide) (hts (.fieldLink RX2 11 "LeftProfile$Page" "codes" "[I") (List.mem_of_getElem? (i := 2) rfl)) (fun _ h9 => h9) rfl dX2_add_13 ?_
  refine lv_aload_n hx hb dX2_add_16 rfl (lv_at hl 0 rfl) ?_
  refine va_get (D := (dC, dI)) (ci := 2) (v := .int 0) (C := RX2) (T := TX2) (N := 2) hx hb hts hiX2 hown hK hP 0 rfl rfl 1 (by decide) (hts (.fieldLink RX2 15 "LeftProfile$Page" "size" "I") (List.mem_of_getElem? (i := 1) rfl)) (fun _ h9 => h9) rfl dX2_add_17 ?_
  refine lv_iload_n hx hb dX2_add_20 rfl (lv_at hl 1 rfl) ?_
  refine va_iast hx hb hK hP hD hS 1 0 rfl rfl (by unfold vp_in; decide) dX2_add_21 (fun H locs hP hD hS => ?_)
  have hP : va_P (dC, dI) vwCl [(hp, .inr (2, [.ref cd, .int 0])), (cd, .inl (cI, 24, .inl (upd f (0 : Int32).toNatClampNeg p0)))] H := hP
  have hD : va_D A [(hp, .inr (2, [.ref cd, .int 0])), (cd, .inl (cI, 24, .inl (upd f (0 : Int32).toNatClampNeg p0)))] := hD
  refine lv_aload_n hx hb dX2_add_22 rfl (lv_at hl 0 rfl) ?_
  refine lv_dup hx hb dX2_add_23 rfl ?_
  refine va_get (D := (dC, dI)) (ci := 2) (v := .int 0) (C := RX2) (T := TX2) (N := 2) hx hb hts hiX2 hown hK hP 0 rfl rfl 1 (by decide) (hts (.fieldLink RX2 15 "LeftProfile$Page" "size" "I") (List.mem_of_getElem? (i := 1) rfl)) (fun _ h9 => h9) rfl dX2_add_24 ?_
  refine lv_iconst (v := 1) hx hb dX2_add_27 (by decide) ?_
  refine lv_iadd hx hb dX2_add_28 ?_
  refine cz_i (y := 1) (by decide) ?_
  refine va_put (D := (dC, dI)) (ci := 2) (v := .int 1) (ty := .int) (C := RX2) (T := TX2) (N := 2) hx hb hts hiX2 tyX2 tyX2_ok nmX2 hown hK hP hD hS 0 rfl rfl 1 (by decide) (hts (.fieldLink RX2 15 "LeftProfile$Page" "size" "I") (List.mem_of_getElem? (i := 1) rfl)) (fun _ h9 => h9) rfl (by decide +kernel) rfl rfl (Nat.le_of_ble_eq_true rfl) dX2_add_29 (fun H locs hP hD hS => ?_)
  have hP : va_P (dC, dI) vwCl [(hp, .inr (2, [.ref cd, .int 1])), (cd, .inl (cI, 24, .inl (upd f (0 : Int32).toNatClampNeg p0)))] H := hP
  have hD : va_D A [(hp, .inr (2, [.ref cd, .int 1])), (cd, .inl (cI, 24, .inl (upd f (0 : Int32).toNatClampNeg p0)))] := hD
  refine lv_aload_n hx hb dX2_add_32 rfl (lv_at hl 0 rfl) ?_
  refine va_get (D := (dC, dI)) (ci := 2) (v := .int 1) (C := RX2) (T := TX2) (N := 2) hx hb hts hiX2 hown hK hP 0 rfl rfl 1 (by decide) (hts (.fieldLink RX2 15 "LeftProfile$Page" "size" "I") (List.mem_of_getElem? (i := 1) rfl)) (fun _ h9 => h9) rfl dX2_add_33 ?_
  refine W.widen (k := 0) (n := 0) (Nat.le_of_ble_eq_true rfl) (Nat.le_of_ble_eq_true rfl) ?_
  exact W.iret (v := 1) hx hb hr (fun t ht hW => ⟨⟨1, (), rfl, rfl, trivial⟩, hS.F ht⟩) hS.2.2 dX2_add_36

set_option maxHeartbeats 4000000 in
set_option maxRecDepth 100000 in
theorem c_X2_clear0 (l : Launch) (dC : Nat → ClassId) (dI : Nat → Nat → Nat) (cI cB : ClassId) (hp : Nat) (cd : Nat) (sz : Nat) : Met l yX2_clear wsX2_clear ({ frames := 0, cells := 0, slots := 0, locals := 0 }) (cz_Pm dC dI cI cB [.ref hp] [(hp, .inr (2, [.ref cd, .int 0]))] sz) (va_Qi (fun (r : Int32) (_ : Unit) => r = 0) (fun _ _ => True) (va_A [(hp, .inr (2, [.ref cd, .int 0]))] sz)) 0 0 (va_A [(hp, .inr (2, [.ref cd, .int 0]))] sz) := by
  refine Met.ofW (cc := cX2_clear) (maxL := 2) (ret := (some .int)) (by decide) rfl ?_
  intro p e s m args below meth c s₁ B hml hv
  obtain ⟨rfl, hsz, hP, hN, hD0⟩ := hv
  have hx := B.exec
  have hb := B.bytes
  have hr := B.returns
  have hts := atoms_spec (ws := wsX2_clear) B.pre
  have hown : s.vm.findClass RX2 = some m.cls := findClass_of_methodNamed B.named
  have hlocks := B.notSynchronized
  have hK := hN.1
  have hiX2 : ∀ w ∈ wsX20, w ∈ wsX2_clear := (fun _ h => List.mem_cons_of_mem _ (List.mem_append_right _ h))
  subst hsz
  have hD := hD0.self (sz := s.heap.size)
  generalize hAe : va_A [(hp, .inr (2, [.ref cd, .int 0]))] s.heap.size = A at hD ⊢
  have hA : ∀ q : Nat, s.heap.size ≤ q → A q := fun q h => by rw [← hAe]; exact Or.inr h
  have hS : va_S A s.heap s.heap [] := va_S.rf
  obtain ⟨H, eH⟩ : ∃ H, H = s.heap := ⟨_, rfl⟩
  have hP : va_P (dC, dI) vwCl [(hp, .inr (2, [.ref cd, .int 0]))] s.heap := hP
  have hl := lv_entry ([.ref hp]) (n := 2) (Nat.le_of_ble_eq_true rfl)
  rw [lg_entry_eq]
  generalize (lg_sl ([.ref hp]) ++ List.replicate (2 - (lg_sl ([.ref hp])).length) Slot.unset).toArray = ls at hl ⊢
  have hl : lv_has ls 2 [(0, .ref hp)] := hl
  refine lv_aload_n hx hb dX2_clear_0 rfl (lv_at hl 0 rfl) ?_
  refine va_get (D := (dC, dI)) (ci := 2) (v := .int 0) (C := RX2) (T := TX2) (N := 2) hx hb hts hiX2 hown hK hP 0 rfl rfl 1 (by decide) (hts (.fieldLink RX2 15 "LeftProfile$Page" "size" "I") (List.mem_of_getElem? (i := 1) rfl)) (fun _ h9 => h9) rfl dX2_clear_1 ?_
  refine lv_istore_n (lv' := [(1, .int 0), (0, .ref hp)]) hx hb dX2_clear_4 rfl hl (by decide) rfl (fun ls hl => ?_)
  refine lv_aload_n hx hb dX2_clear_5 rfl (lv_at hl 1 rfl) ?_
  refine lv_iconst (v := 0) hx hb dX2_clear_6 (by decide) ?_
  refine va_put (D := (dC, dI)) (ci := 2) (v := .int 0) (ty := .int) (C := RX2) (T := TX2) (N := 2) hx hb hts hiX2 tyX2 tyX2_ok nmX2 hown hK hP hD hS 0 rfl rfl 1 (by decide) (hts (.fieldLink RX2 15 "LeftProfile$Page" "size" "I") (List.mem_of_getElem? (i := 1) rfl)) (fun _ h9 => h9) rfl (by decide +kernel) rfl rfl (Nat.le_of_ble_eq_true rfl) dX2_clear_7 (fun H locs hP hD hS => ?_)
  have hP : va_P (dC, dI) vwCl [(hp, .inr (2, [.ref cd, .int 0]))] H := hP
  have hD : va_D A [(hp, .inr (2, [.ref cd, .int 0]))] := hD
  refine lv_iload_n hx hb dX2_clear_10 rfl (lv_at hl 0 rfl) ?_
  refine W.widen (k := 0) (n := 0) (Nat.le_of_ble_eq_true rfl) (Nat.le_of_ble_eq_true rfl) ?_
  exact W.iret (v := 0) hx hb hr (fun t ht hW => ⟨⟨0, (), rfl, rfl, trivial⟩, hS.F ht⟩) hS.2.2 dX2_clear_11

theorem c_X6_letter_a1 (p0 : Int32) (c_1 : p0 < 32) : ((-102) : Int32) = cz_rl p0 := by first | (subst_vars; rfl) | ((try simp only [cz_rl, cz_ron, cz_r2, cz_r1, cz_rr, cz_rw, cz_rc]) <;> (repeat' split) <;> (first | rfl | ((try simp only [cz_in, cz_lt, cz_le, cz_eq, cz_l] at *) <;> (first | omega | (simp_all; done)))))
theorem c_X6_letter_a2 (p0 : Int32) (c_1 : ¬ p0 < 32) (c_2 : p0 ≤ 126) : (1 : Int32) = cz_rl p0 := by first | (subst_vars; rfl) | ((try simp only [cz_rl, cz_ron, cz_r2, cz_r1, cz_rr, cz_rw, cz_rc]) <;> (repeat' split) <;> (first | rfl | ((try simp only [cz_in, cz_lt, cz_le, cz_eq, cz_l] at *) <;> (first | omega | (simp_all; done)))))
theorem c_X6_letter_a3 (p0 : Int32) (c_1 : ¬ p0 < 32) (c_2 : ¬ p0 ≤ 126) : ((-102) : Int32) = cz_rl p0 := by first | (subst_vars; rfl) | ((try simp only [cz_rl, cz_ron, cz_r2, cz_r1, cz_rr, cz_rw, cz_rc]) <;> (repeat' split) <;> (first | rfl | ((try simp only [cz_in, cz_lt, cz_le, cz_eq, cz_l] at *) <;> (first | omega | (simp_all; done)))))
set_option maxHeartbeats 4000000 in
set_option maxRecDepth 100000 in
theorem c_X6_letter (l : Launch) (dC : Nat → ClassId) (dI : Nat → Nat → Nat) (cI cB : ClassId) (h0 : Nat) (p0 : Int32) (hp : Nat) (hs : Nat) (hh : Nat) (hc : Nat) (kp : Nat) (rt : Nat) (cd : Nat) (f : Nat → Int32) (sz : Nat) : Met l yX6_letter wsX6_letter ({ frames := 1, cells := 0, slots := 0, locals := 21 }) (cz_Pm dC dI cI cB [.ref h0, .int p0] [(h0, .inr (6, [.ref hp, .ref hs, .ref hh, .ref hc, .ref kp, .ref rt, .int 0])), (hp, .inr (2, [.ref cd, .int 0])), (cd, .inl (cI, 24, .inl f))] sz) (va_Qi (fun (r : Int32) (_ : Unit) => r = cz_rl p0) (fun _ _ => True) (va_A [(h0, .inr (6, [.ref hp, .ref hs, .ref hh, .ref hc, .ref kp, .ref rt, .int 0])), (hp, .inr (2, [.ref cd, .int 0])), (cd, .inl (cI, 24, .inl f))] sz)) 0 0 (va_A [(h0, .inr (6, [.ref hp, .ref hs, .ref hh, .ref hc, .ref kp, .ref rt, .int 0])), (hp, .inr (2, [.ref cd, .int 0])), (cd, .inl (cI, 24, .inl f))] sz) := by
  refine Met.ofW (cc := cX6_letter) (maxL := 2) (ret := (some .int)) (by decide) rfl ?_
  intro p e s m args below meth c s₁ B hml hv
  obtain ⟨rfl, hsz, hP, hN, hD0⟩ := hv
  have hx := B.exec
  have hb := B.bytes
  have hr := B.returns
  have hts := atoms_spec (ws := wsX6_letter) B.pre
  have hown : s.vm.findClass RX6 = some m.cls := findClass_of_methodNamed B.named
  have hlocks := B.notSynchronized
  have hK := hN.1
  have hiX6 : ∀ w ∈ wsX60, w ∈ wsX6_letter := (fun _ h => List.mem_cons_of_mem _ (List.mem_append_left _ (List.mem_append_right _ h)))
  subst hsz
  have hD := hD0.self (sz := s.heap.size)
  generalize hAe : va_A [(h0, .inr (6, [.ref hp, .ref hs, .ref hh, .ref hc, .ref kp, .ref rt, .int 0])), (hp, .inr (2, [.ref cd, .int 0])), (cd, .inl (cI, 24, .inl f))] s.heap.size = A at hD ⊢
  have hA : ∀ q : Nat, s.heap.size ≤ q → A q := fun q h => by rw [← hAe]; exact Or.inr h
  have hS : va_S A s.heap s.heap [] := va_S.rf
  obtain ⟨H, eH⟩ : ∃ H, H = s.heap := ⟨_, rfl⟩
  have hP : va_P (dC, dI) vwCl [(h0, .inr (6, [.ref hp, .ref hs, .ref hh, .ref hc, .ref kp, .ref rt, .int 0])), (hp, .inr (2, [.ref cd, .int 0])), (cd, .inl (cI, 24, .inl f))] s.heap := hP
  have hl := lv_entry ([.ref h0, .int p0]) (n := 2) (Nat.le_of_ble_eq_true rfl)
  rw [lg_entry_eq]
  generalize (lg_sl ([.ref h0, .int p0]) ++ List.replicate (2 - (lg_sl ([.ref h0, .int p0])).length) Slot.unset).toArray = ls at hl ⊢
  have hl : lv_has ls 2 [(0, .ref h0), (1, .int p0)] := hl
  refine lv_iload_n hx hb dX6_letter_0 rfl (lv_at hl 1 rfl) ?_
  refine lv_bipush (v := 32) hx hb dX6_letter_1 (by decide) ?_
  refine lv_icmp_lt (tgt := 12) hx hb dX6_letter_3 (by decide) (fun c_1 => ?_) (fun c_1 => ?_)
  · refine lv_bipush (v := (-102)) hx hb dX6_letter_12 (by decide) ?_
    refine W.widen (k := 0) (n := 0) (Nat.le_of_ble_eq_true rfl) (Nat.le_of_ble_eq_true rfl) ?_
    exact W.iret (v := (-102)) hx hb hr (fun t ht hW => ⟨⟨(-102), (), rfl, (c_X6_letter_a1 p0 c_1), trivial⟩, hS.F ht⟩) hS.2.2 dX6_letter_14
  · refine lv_iload_n hx hb dX6_letter_6 rfl (lv_at hl 1 rfl) ?_
    refine lv_bipush (v := 126) hx hb dX6_letter_7 (by decide) ?_
    refine lv_icmp_le (tgt := 15) hx hb dX6_letter_9 (by decide) (fun c_2 => ?_) (fun c_2 => ?_)
    · refine lv_aload_n hx hb dX6_letter_15 rfl (lv_at hl 0 rfl) ?_
      refine va_get (D := (dC, dI)) (ci := 6) (v := .ref hp) (C := RX6) (T := TX6) (N := 7) hx hb hts hiX6 hown hK hP 0 rfl rfl 0 (by decide) (hts (.fieldLink RX6 12 "LeftProfile" "page" "LLeftProfile$Page;") (List.mem_of_getElem? (i := 1) rfl)) (fun _ h9 => h9) rfl dX6_letter_16 ?_
      refine lv_iload_n hx hb dX6_letter_19 rfl (lv_at hl 1 rfl) ?_
      have hPc := hP.sub (ws' := [(hp, .inr (2, [.ref cd, .int 0])), (cd, .inl (cI, 24, .inl f))]) [1, 2] rfl
      have hDc := hD.sub (ws' := [(hp, .inr (2, [.ref cd, .int 0])), (cd, .inl (cI, 24, .inl f))]) [1, 2] (by decide) rfl
      have hFc := va_free (wc := [(hp, .inr (2, [.ref cd, .int 0])), (cd, .inl (cI, 24, .inl f))]) hD hS hA [1, 2] rfl
      refine va_calli (va_runV (As := [.int p0]) (rest := []) ⟨hx, hb, hml, hown, hts⟩ (c_X2_add0 l dC dI cI cB hp p0 cd f s.heap.size ) (cwV 1 hts gX6_letter_X2_add rfl rfl rfl (by decide +kernel) ⟨Nat.le_of_ble_eq_true rfl, Nat.le_of_ble_eq_true rfl⟩) (cz_mV hPc hN hDc (va_recv hK hPc (ci := 2) (q0 := 0) rfl rfl)) rfl rfl hl.1 rfl (lv_room (Nat.le_of_ble_eq_true rfl)) dX6_letter_20 ⟨Nat.le_of_ble_eq_true rfl, Nat.le_of_ble_eq_true rfl⟩) hS (fun q _ h => hFc q h) hFc (fun r_3 u t H1 locs ht hvm hr_3 hB hz1 hk1 hS => ?_)
      have hP1 : va_P (dC, dI) vwCl [] H1 := fun k q h => by simp at h
      have hD1 : va_D (va_A [(hp, .inr (2, [.ref cd, .int 0])), (cd, .inl (cI, 24, .inl f))] s.heap.size) [] := ⟨fun i j p q h => by simp at h, fun k q h => by simp at h⟩
      obtain ⟨hP, hD⟩ := va_join (wr := [(h0, .inr (6, [.ref hp, .ref hs, .ref hh, .ref hc, .ref kp, .ref rt, .int 0]))]) (w1 := []) hP hD [1, 2] [0] rfl rfl (by decide) (by decide) hk1 hFc hP1 hD1
      generalize H1 = H at hP hS ⊢
      have hP : va_P (dC, dI) vwCl [(h0, .inr (6, [.ref hp, .ref hs, .ref hh, .ref hc, .ref kp, .ref rt, .int 0]))] H := hP
      have hD : va_D A [(h0, .inr (6, [.ref hp, .ref hs, .ref hh, .ref hc, .ref kp, .ref rt, .int 0]))] := hD
      obtain rfl : r_3 = 1 := hr_3
      refine W.widen (k := 0) (n := 0) (Nat.le_of_ble_eq_true rfl) (Nat.le_of_ble_eq_true rfl) ?_
      exact W.iret (v := 1) hx hb hr (fun t ht hW => ⟨⟨1, (), rfl, (c_X6_letter_a2 p0 c_1 c_2), trivial⟩, hS.F ht⟩) hS.2.2 dX6_letter_23
    · refine lv_bipush (v := (-102)) hx hb dX6_letter_12 (by decide) ?_
      refine W.widen (k := 0) (n := 0) (Nat.le_of_ble_eq_true rfl) (Nat.le_of_ble_eq_true rfl) ?_
      exact W.iret (v := (-102)) hx hb hr (fun t ht hW => ⟨⟨(-102), (), rfl, (c_X6_letter_a3 p0 c_1 c_2), trivial⟩, hS.F ht⟩) hS.2.2 dX6_letter_14

set_option maxHeartbeats 4000000 in
set_option maxRecDepth 100000 in
theorem c_X6_blank (l : Launch) (dC : Nat → ClassId) (dI : Nat → Nat → Nat) (cI cB : ClassId) (h0 : Nat) (hp : Nat) (hs : Nat) (hh : Nat) (hc : Nat) (kp : Nat) (rt : Nat) (cd : Nat) (sz : Nat) : Met l yX6_blank wsX6_blank ({ frames := 1, cells := 0, slots := 0, locals := 21 }) (cz_Pm dC dI cI cB [.ref h0] [(h0, .inr (6, [.ref hp, .ref hs, .ref hh, .ref hc, .ref kp, .ref rt, .int 0])), (hp, .inr (2, [.ref cd, .int 0]))] sz) (va_Qi (fun (r : Int32) (_ : Unit) => r = 0) (fun _ _ => True) (va_A [(h0, .inr (6, [.ref hp, .ref hs, .ref hh, .ref hc, .ref kp, .ref rt, .int 0])), (hp, .inr (2, [.ref cd, .int 0]))] sz)) 0 0 (va_A [(h0, .inr (6, [.ref hp, .ref hs, .ref hh, .ref hc, .ref kp, .ref rt, .int 0])), (hp, .inr (2, [.ref cd, .int 0]))] sz) := by
  refine Met.ofW (cc := cX6_blank) (maxL := 1) (ret := (some .int)) (by decide) rfl ?_
  intro p e s m args below meth c s₁ B hml hv
  obtain ⟨rfl, hsz, hP, hN, hD0⟩ := hv
  have hx := B.exec
  have hb := B.bytes
  have hr := B.returns
  have hts := atoms_spec (ws := wsX6_blank) B.pre
  have hown : s.vm.findClass RX6 = some m.cls := findClass_of_methodNamed B.named
  have hlocks := B.notSynchronized
  have hK := hN.1
  have hiX6 : ∀ w ∈ wsX60, w ∈ wsX6_blank := (fun _ h => List.mem_cons_of_mem _ (List.mem_append_left _ (List.mem_append_right _ h)))
  subst hsz
  have hD := hD0.self (sz := s.heap.size)
  generalize hAe : va_A [(h0, .inr (6, [.ref hp, .ref hs, .ref hh, .ref hc, .ref kp, .ref rt, .int 0])), (hp, .inr (2, [.ref cd, .int 0]))] s.heap.size = A at hD ⊢
  have hA : ∀ q : Nat, s.heap.size ≤ q → A q := fun q h => by rw [← hAe]; exact Or.inr h
  have hS : va_S A s.heap s.heap [] := va_S.rf
  obtain ⟨H, eH⟩ : ∃ H, H = s.heap := ⟨_, rfl⟩
  have hP : va_P (dC, dI) vwCl [(h0, .inr (6, [.ref hp, .ref hs, .ref hh, .ref hc, .ref kp, .ref rt, .int 0])), (hp, .inr (2, [.ref cd, .int 0]))] s.heap := hP
  have hl := lv_entry ([.ref h0]) (n := 1) (Nat.le_of_ble_eq_true rfl)
  rw [lg_entry_eq]
  generalize (lg_sl ([.ref h0]) ++ List.replicate (1 - (lg_sl ([.ref h0])).length) Slot.unset).toArray = ls at hl ⊢
  have hl : lv_has ls 1 [(0, .ref h0)] := hl
  refine lv_aload_n hx hb dX6_blank_0 rfl (lv_at hl 0 rfl) ?_
  refine va_get (D := (dC, dI)) (ci := 6) (v := .ref hp) (C := RX6) (T := TX6) (N := 7) hx hb hts hiX6 hown hK hP 0 rfl rfl 0 (by decide) (hts (.fieldLink RX6 12 "LeftProfile" "page" "LLeftProfile$Page;") (List.mem_of_getElem? (i := 1) rfl)) (fun _ h9 => h9) rfl dX6_blank_1 ?_
  have hPc := hP.sub (ws' := [(hp, .inr (2, [.ref cd, .int 0]))]) [1] rfl
  have hDc := hD.sub (ws' := [(hp, .inr (2, [.ref cd, .int 0]))]) [1] (by decide) rfl
  have hFc := va_free (wc := [(hp, .inr (2, [.ref cd, .int 0]))]) hD hS hA [1] rfl
  refine va_calli (va_runV (As := []) (rest := []) ⟨hx, hb, hml, hown, hts⟩ (c_X2_clear0 l dC dI cI cB hp cd s.heap.size ) (cwV 0 hts gX6_blank_X2_clear rfl rfl rfl (by decide +kernel) ⟨Nat.le_of_ble_eq_true rfl, Nat.le_of_ble_eq_true rfl⟩) (cz_mV hPc hN hDc (va_recv hK hPc (ci := 2) (q0 := 0) rfl rfl)) rfl rfl hl.1 rfl (lv_room (Nat.le_of_ble_eq_true rfl)) dX6_blank_4 ⟨Nat.le_of_ble_eq_true rfl, Nat.le_of_ble_eq_true rfl⟩) hS (fun q _ h => hFc q h) hFc (fun r_1 u t H1 locs ht hvm hr_1 hB hz1 hk1 hS => ?_)
  have hP1 : va_P (dC, dI) vwCl [] H1 := fun k q h => by simp at h
  have hD1 : va_D (va_A [(hp, .inr (2, [.ref cd, .int 0]))] s.heap.size) [] := ⟨fun i j p q h => by simp at h, fun k q h => by simp at h⟩
  obtain ⟨hP, hD⟩ := va_join (wr := [(h0, .inr (6, [.ref hp, .ref hs, .ref hh, .ref hc, .ref kp, .ref rt, .int 0]))]) (w1 := []) hP hD [1] [0] rfl rfl (by decide) (by decide) hk1 hFc hP1 hD1
  generalize H1 = H at hP hS ⊢
  have hP : va_P (dC, dI) vwCl [(h0, .inr (6, [.ref hp, .ref hs, .ref hh, .ref hc, .ref kp, .ref rt, .int 0]))] H := hP
  have hD : va_D A [(h0, .inr (6, [.ref hp, .ref hs, .ref hh, .ref hc, .ref kp, .ref rt, .int 0]))] := hD
  obtain rfl : r_1 = 0 := hr_1
  refine W.widen (k := 0) (n := 0) (Nat.le_of_ble_eq_true rfl) (Nat.le_of_ble_eq_true rfl) ?_
  exact W.iret (v := 0) hx hb hr (fun t ht hW => ⟨⟨0, (), rfl, rfl, trivial⟩, hS.F ht⟩) hS.2.2 dX6_blank_7

set_option maxHeartbeats 4000000 in
set_option maxRecDepth 100000 in
theorem c_X6_fault (l : Launch) (dC : Nat → ClassId) (dI : Nat → Nat → Nat) (cI cB : ClassId) (h0 : Nat) (hp : Nat) (hs : Nat) (hh : Nat) (hc : Nat) (kp : Nat) (rt : Nat) (cd : Nat) : Met l yX6_fault wsX6_fault ({ frames := 1, cells := 0, slots := 0, locals := 21 }) (cz_Pp dC dI cI cB [.ref h0] [(h0, .inr (6, [.ref hp, .ref hs, .ref hh, .ref hc, .ref kp, .ref rt, .int 0])), (hp, .inr (2, [.ref cd, .int 0]))]) (vp_Si (fun r : Int32 => r = 0)) 0 0 (fun _ => False) := by
  refine Met.ofW (cc := cX6_fault) (maxL := 1) (ret := (some .int)) (by decide) rfl ?_
  intro p e s m args below meth c s₁ B hml hv
  obtain ⟨rfl, hP, hN⟩ := hv
  have hx := B.exec
  have hb := B.bytes
  have hr := B.returns
  have hts := atoms_spec (ws := wsX6_fault) B.pre
  have hown : s.vm.findClass RX6 = some m.cls := findClass_of_methodNamed B.named
  have hlocks := B.notSynchronized
  have hK := hN.1
  have hiX6 : ∀ w ∈ wsX60, w ∈ wsX6_fault := (fun _ h => List.mem_cons_of_mem _ (List.mem_append_left _ (List.mem_append_right _ h)))
  have hl := lv_entry ([.ref h0]) (n := 1) (Nat.le_of_ble_eq_true rfl)
  rw [lg_entry_eq]
  generalize (lg_sl ([.ref h0]) ++ List.replicate (1 - (lg_sl ([.ref h0])).length) Slot.unset).toArray = ls at hl ⊢
  have hl : lv_has ls 1 [(0, .ref h0)] := hl
  refine lv_aload_n hx hb dX6_fault_0 rfl (lv_at hl 0 rfl) ?_
  refine va_get (D := (dC, dI)) (ci := 6) (v := .ref hp) (C := RX6) (T := TX6) (N := 7) hx hb hts hiX6 hown hK hP 0 rfl rfl 0 (by decide) (hts (.fieldLink RX6 12 "LeftProfile" "page" "LLeftProfile$Page;") (List.mem_of_getElem? (i := 1) rfl)) (fun _ h9 => h9) rfl dX6_fault_1 ?_
  refine vp_callSi (cz_run (va_runV (As := []) (rest := []) ⟨hx, hb, hml, hown, hts⟩ (c_X2_firstFault0 l dC dI cI cB hp cd ) (cwV 0 hts gX6_fault_X2_firstFault rfl rfl rfl (by decide +kernel) ⟨Nat.le_of_ble_eq_true rfl, Nat.le_of_ble_eq_true rfl⟩) (cz_pV (hP.sub (ws' := [(hp, .inr (2, [.ref cd, .int 0]))]) [1] rfl) hN (va_recv hK (hP.sub (ws' := [(hp, .inr (2, [.ref cd, .int 0]))]) [1] rfl) (ci := 2) (q0 := 0) rfl rfl)) rfl rfl hl.1 rfl (lv_room (Nat.le_of_ble_eq_true rfl)) dX6_fault_4 ⟨Nat.le_of_ble_eq_true rfl, Nat.le_of_ble_eq_true rfl⟩)) (fun r_1 hr_1 => ?_)
  obtain rfl : r_1 = 0 := hr_1
  exact W.iret (v := 0) hx hb hr (fun t ht hW => ⟨0, rfl, rfl, ht⟩) (fun _ h => absurd h List.not_mem_nil) dX6_fault_7

set_option maxHeartbeats 4000000 in
set_option maxRecDepth 100000 in
theorem c_X6_hall (l : Launch) (dC : Nat → ClassId) (dI : Nat → Nat → Nat) (cI cB : ClassId) (h0 : Nat) (hp : Nat) (hs : Nat) (hh : Nat) (hc : Nat) (kp : Nat) (rt : Nat) (cd : Nat) : Met l yX6_hall wsX6_hall ({ frames := 1, cells := 0, slots := 0, locals := 20 }) (cz_Pp dC dI cI cB [.ref h0] [(h0, .inr (6, [.ref hp, .ref hs, .ref hh, .ref hc, .ref kp, .ref rt, .int 0])), (hp, .inr (2, [.ref cd, .int 0]))]) (vp_Si (fun r : Int32 => r = (-103))) 0 0 (fun _ => False) := by
  refine Met.ofW (cc := cX6_hall) (maxL := 1) (ret := (some .int)) (by decide) rfl ?_
  intro p e s m args below meth c s₁ B hml hv
  obtain ⟨rfl, hP, hN⟩ := hv
  have hx := B.exec
  have hb := B.bytes
  have hr := B.returns
  have hts := atoms_spec (ws := wsX6_hall) B.pre
  have hown : s.vm.findClass RX6 = some m.cls := findClass_of_methodNamed B.named
  have hlocks := B.notSynchronized
  have hK := hN.1
  have hiX6 : ∀ w ∈ wsX60, w ∈ wsX6_hall := (fun _ h => List.mem_cons_of_mem _ (List.mem_append_left _ (List.mem_append_left _ (List.mem_append_left _ (List.mem_append_right _ h)))))
  have hl := lv_entry ([.ref h0]) (n := 1) (Nat.le_of_ble_eq_true rfl)
  rw [lg_entry_eq]
  generalize (lg_sl ([.ref h0]) ++ List.replicate (1 - (lg_sl ([.ref h0])).length) Slot.unset).toArray = ls at hl ⊢
  have hl : lv_has ls 1 [(0, .ref h0)] := hl
  refine lv_aload_n hx hb dX6_hall_0 rfl (lv_at hl 0 rfl) ?_
  refine va_get (D := (dC, dI)) (ci := 6) (v := .ref hp) (C := RX6) (T := TX6) (N := 7) hx hb hts hiX6 hown hK hP 0 rfl rfl 0 (by decide) (hts (.fieldLink RX6 12 "LeftProfile" "page" "LLeftProfile$Page;") (List.mem_of_getElem? (i := 1) rfl)) (fun _ h9 => h9) rfl dX6_hall_1 ?_
  refine vp_callSi (cz_run (va_runV (As := []) (rest := []) ⟨hx, hb, hml, hown, hts⟩ (c_X2_isHall0 l dC dI cI cB hp cd ) (cwV 0 hts gX6_hall_X2_isHall rfl rfl rfl (by decide +kernel) ⟨Nat.le_of_ble_eq_true rfl, Nat.le_of_ble_eq_true rfl⟩) (cz_pV (hP.sub (ws' := [(hp, .inr (2, [.ref cd, .int 0]))]) [1] rfl) hN (va_recv hK (hP.sub (ws' := [(hp, .inr (2, [.ref cd, .int 0]))]) [1] rfl) (ci := 2) (q0 := 0) rfl rfl)) rfl rfl hl.1 rfl (lv_room (Nat.le_of_ble_eq_true rfl)) dX6_hall_4 ⟨Nat.le_of_ble_eq_true rfl, Nat.le_of_ble_eq_true rfl⟩)) (fun r_1 hr_1 => ?_)
  obtain ⟨rfl, hr_1⟩ := hr_1
  refine lv_if_ne (tgt := 13) hx hb dX6_hall_7 (by decide) (fun c => absurd (by decide) c) (fun _ => ?_)
  refine lv_bipush (v := (-103)) hx hb dX6_hall_10 (by decide) ?_
  exact W.iret (v := (-103)) hx hb hr (fun t ht hW => ⟨(-103), rfl, rfl, ht⟩) (fun _ h => absurd h List.not_mem_nil) dX6_hall_12

theorem c_X6_on_a1 (p0 : Int32) (hr_1 : ¬ cz_in 0 p0 19) : ((-101) : Int32) = cz_ron p0 := by first | (subst_vars; rfl) | ((try simp only [cz_rl, cz_ron, cz_r2, cz_r1, cz_rr, cz_rw, cz_rc]) <;> (repeat' split) <;> (first | rfl | ((try simp only [cz_in, cz_lt, cz_le, cz_eq, cz_l] at *) <;> (first | omega | (simp_all; done)))))
theorem c_X6_on_a2 (p0 : Int32) (hr_1 : cz_in 0 p0 19) : ((-103) : Int32) = cz_ron p0 := by first | (subst_vars; rfl) | ((try simp only [cz_rl, cz_ron, cz_r2, cz_r1, cz_rr, cz_rw, cz_rc]) <;> (repeat' split) <;> (first | rfl | ((try simp only [cz_in, cz_lt, cz_le, cz_eq, cz_l] at *) <;> (first | omega | (simp_all; done)))))
set_option maxHeartbeats 4000000 in
set_option maxRecDepth 100000 in
theorem c_X6_on (l : Launch) (dC : Nat → ClassId) (dI : Nat → Nat → Nat) (cI cB : ClassId) (h0 : Nat) (p0 : Int32) (hp : Nat) (hs : Nat) (hh : Nat) (hc : Nat) (kp : Nat) (rt : Nat) : Met l yX6_on wsX6_on ({ frames := 1, cells := 0, slots := 0, locals := 20 }) (cz_Pp dC dI cI cB [.ref h0, .int p0] [(h0, .inr (6, [.ref hp, .ref hs, .ref hh, .ref hc, .ref kp, .ref rt, .int 0])), (hh, .inr (1, [.int 0, .int 0, .int 0]))]) (vp_Si (fun r : Int32 => r = cz_ron p0)) 0 0 (fun _ => False) := by
  refine Met.ofW (cc := cX6_on) (maxL := 2) (ret := (some .int)) (by decide) rfl ?_
  intro p e s m args below meth c s₁ B hml hv
  obtain ⟨rfl, hP, hN⟩ := hv
  have hx := B.exec
  have hb := B.bytes
  have hr := B.returns
  have hts := atoms_spec (ws := wsX6_on) B.pre
  have hown : s.vm.findClass RX6 = some m.cls := findClass_of_methodNamed B.named
  have hlocks := B.notSynchronized
  have hK := hN.1
  have hiX6 : ∀ w ∈ wsX60, w ∈ wsX6_on := (fun _ h => List.mem_cons_of_mem _ (List.mem_append_left _ (List.mem_append_left _ (List.mem_append_right _ h))))
  have hl := lv_entry ([.ref h0, .int p0]) (n := 2) (Nat.le_of_ble_eq_true rfl)
  rw [lg_entry_eq]
  generalize (lg_sl ([.ref h0, .int p0]) ++ List.replicate (2 - (lg_sl ([.ref h0, .int p0])).length) Slot.unset).toArray = ls at hl ⊢
  have hl : lv_has ls 2 [(0, .ref h0), (1, .int p0)] := hl
  refine lv_iload_n hx hb dX6_on_0 rfl (lv_at hl 1 rfl) ?_
  refine vp_callSi (cz_run (va_runS (As := [.int p0]) (rest := []) ⟨hx, hb, hml, hown, hts⟩ (c_X6_isPlace l dC dI cI cB p0 ) (va_cwS 1 hts gX6_on_X6_isPlace rfl rfl rfl (by decide +kernel) ⟨Nat.le_of_ble_eq_true rfl, Nat.le_of_ble_eq_true rfl⟩) (cz_pS (hP.sub (ws' := []) [] rfl) hN) rfl rfl hl.1 rfl (lv_room (Nat.le_of_ble_eq_true rfl)) dX6_on_1 ⟨Nat.le_of_ble_eq_true rfl, Nat.le_of_ble_eq_true rfl⟩)) (fun r_1 hr_1 => ?_)
  rcases hr_1 with ⟨rfl, hr_1⟩ | ⟨rfl, hr_1⟩
  · refine lv_if_ne (tgt := 10) hx hb dX6_on_4 (by decide) (fun c => absurd (by decide) c) (fun _ => ?_)
    refine lv_bipush (v := (-101)) hx hb dX6_on_7 (by decide) ?_
    exact W.iret (v := (-101)) hx hb hr (fun t ht hW => ⟨(-101), rfl, (c_X6_on_a1 p0 hr_1), ht⟩) (fun _ h => absurd h List.not_mem_nil) dX6_on_9
  · refine lv_if_ne (tgt := 10) hx hb dX6_on_4 (by decide) (fun _ => ?_) (fun c => absurd c (by decide))
    refine lv_aload_n hx hb dX6_on_10 rfl (lv_at hl 0 rfl) ?_
    refine va_get (D := (dC, dI)) (ci := 6) (v := .ref hh) (C := RX6) (T := TX6) (N := 7) hx hb hts hiX6 hown hK hP 0 rfl rfl 2 (by decide) (hts (.fieldLink RX6 27 "LeftProfile" "hall" "LLeftProfile$Hall;") (List.mem_of_getElem? (i := 1) rfl)) (fun _ h9 => h9) rfl dX6_on_11 ?_
    refine vp_callSi (cz_run (va_runV (As := []) (rest := []) ⟨hx, hb, hml, hown, hts⟩ (c_X1_isMissing l dC dI cI cB hh 0 0 0 ) (cwV 0 hts gX6_on_X1_isMissing rfl rfl rfl (by decide +kernel) ⟨Nat.le_of_ble_eq_true rfl, Nat.le_of_ble_eq_true rfl⟩) (cz_pV (hP.sub (ws' := [(hh, .inr (1, [.int 0, .int 0, .int 0]))]) [1] rfl) hN (va_recv hK (hP.sub (ws' := [(hh, .inr (1, [.int 0, .int 0, .int 0]))]) [1] rfl) (ci := 1) (q0 := 0) rfl rfl)) rfl rfl hl.1 rfl (lv_room (Nat.le_of_ble_eq_true rfl)) dX6_on_14 ⟨Nat.le_of_ble_eq_true rfl, Nat.le_of_ble_eq_true rfl⟩)) (fun r_2 hr_2 => ?_)
    rcases hr_2 with ⟨rfl, hr_2⟩ | ⟨rfl, hr_2⟩
    · exact absurd hr_2 (by decide)
    · refine lv_if_eq (tgt := 23) hx hb dX6_on_17 (by decide) (fun c => absurd c (by decide)) (fun _ => ?_)
      refine lv_bipush (v := (-103)) hx hb dX6_on_20 (by decide) ?_
      exact W.iret (v := (-103)) hx hb hr (fun t ht hW => ⟨(-103), rfl, (c_X6_on_a2 p0 hr_1), ht⟩) (fun _ h => absurd h List.not_mem_nil) dX6_on_22

theorem c_X6_duke_a1 (p0 : Int32) (p1 : Int32) (hr_1 : ¬ cz_in 0 p0 19) : ((-101) : Int32) = cz_r2 p0 p1 3 := by first | (subst_vars; rfl) | ((try simp only [cz_rl, cz_ron, cz_r2, cz_r1, cz_rr, cz_rw, cz_rc]) <;> (repeat' split) <;> (first | rfl | ((try simp only [cz_in, cz_lt, cz_le, cz_eq, cz_l] at *) <;> (first | omega | (simp_all; done)))))
theorem c_X6_duke_a2 (p0 : Int32) (p1 : Int32) (hr_1 : cz_in 0 p0 19) (c_2 : p1 < 0) : ((-102) : Int32) = cz_r2 p0 p1 3 := by first | (subst_vars; rfl) | ((try simp only [cz_rl, cz_ron, cz_r2, cz_r1, cz_rr, cz_rw, cz_rc]) <;> (repeat' split) <;> (first | rfl | ((try simp only [cz_in, cz_lt, cz_le, cz_eq, cz_l] at *) <;> (first | omega | (simp_all; done)))))
theorem c_X6_duke_a3 (p0 : Int32) (p1 : Int32) (hr_1 : cz_in 0 p0 19) (c_2 : ¬ p1 < 0) (c_3 : p1 < 4) : ((-103) : Int32) = cz_r2 p0 p1 3 := by first | (subst_vars; rfl) | ((try simp only [cz_rl, cz_ron, cz_r2, cz_r1, cz_rr, cz_rw, cz_rc]) <;> (repeat' split) <;> (first | rfl | ((try simp only [cz_in, cz_lt, cz_le, cz_eq, cz_l] at *) <;> (first | omega | (simp_all; done)))))
theorem c_X6_duke_a4 (p0 : Int32) (p1 : Int32) (hr_1 : cz_in 0 p0 19) (c_2 : ¬ p1 < 0) (c_3 : ¬ p1 < 4) : ((-102) : Int32) = cz_r2 p0 p1 3 := by first | (subst_vars; rfl) | ((try simp only [cz_rl, cz_ron, cz_r2, cz_r1, cz_rr, cz_rw, cz_rc]) <;> (repeat' split) <;> (first | rfl | ((try simp only [cz_in, cz_lt, cz_le, cz_eq, cz_l] at *) <;> (first | omega | (simp_all; done)))))
set_option maxHeartbeats 4000000 in
set_option maxRecDepth 100000 in
theorem c_X6_duke (l : Launch) (dC : Nat → ClassId) (dI : Nat → Nat → Nat) (cI cB : ClassId) (h0 : Nat) (p0 : Int32) (p1 : Int32) (hp : Nat) (hs : Nat) (hh : Nat) (hc : Nat) (kp : Nat) (rt : Nat) : Met l yX6_duke wsX6_duke ({ frames := 1, cells := 0, slots := 0, locals := 20 }) (cz_Pp dC dI cI cB [.ref h0, .int p0, .int p1] [(h0, .inr (6, [.ref hp, .ref hs, .ref hh, .ref hc, .ref kp, .ref rt, .int 0])), (hh, .inr (1, [.int 0, .int 0, .int 0]))]) (vp_Si (fun r : Int32 => r = cz_r2 p0 p1 3)) 0 0 (fun _ => False) := by
  refine Met.ofW (cc := cX6_duke) (maxL := 3) (ret := (some .int)) (by decide) rfl ?_
  intro p e s m args below meth c s₁ B hml hv
  obtain ⟨rfl, hP, hN⟩ := hv
  have hx := B.exec
  have hb := B.bytes
  have hr := B.returns
  have hts := atoms_spec (ws := wsX6_duke) B.pre
  have hown : s.vm.findClass RX6 = some m.cls := findClass_of_methodNamed B.named
  have hlocks := B.notSynchronized
  have hK := hN.1
  have hiX6 : ∀ w ∈ wsX60, w ∈ wsX6_duke := (fun _ h => List.mem_cons_of_mem _ (List.mem_append_left _ (List.mem_append_left _ (List.mem_append_right _ h))))
  have hl := lv_entry ([.ref h0, .int p0, .int p1]) (n := 3) (Nat.le_of_ble_eq_true rfl)
  rw [lg_entry_eq]
  generalize (lg_sl ([.ref h0, .int p0, .int p1]) ++ List.replicate (3 - (lg_sl ([.ref h0, .int p0, .int p1])).length) Slot.unset).toArray = ls at hl ⊢
  have hl : lv_has ls 3 [(0, .ref h0), (1, .int p0), (2, .int p1)] := hl
  refine lv_iload_n hx hb dX6_duke_0 rfl (lv_at hl 1 rfl) ?_
  refine vp_callSi (cz_run (va_runS (As := [.int p0]) (rest := []) ⟨hx, hb, hml, hown, hts⟩ (c_X6_isPlace l dC dI cI cB p0 ) (va_cwS 1 hts gX6_duke_X6_isPlace rfl rfl rfl (by decide +kernel) ⟨Nat.le_of_ble_eq_true rfl, Nat.le_of_ble_eq_true rfl⟩) (cz_pS (hP.sub (ws' := []) [] rfl) hN) rfl rfl hl.1 rfl (lv_room (Nat.le_of_ble_eq_true rfl)) dX6_duke_1 ⟨Nat.le_of_ble_eq_true rfl, Nat.le_of_ble_eq_true rfl⟩)) (fun r_1 hr_1 => ?_)
  rcases hr_1 with ⟨rfl, hr_1⟩ | ⟨rfl, hr_1⟩
  · refine lv_if_ne (tgt := 10) hx hb dX6_duke_4 (by decide) (fun c => absurd (by decide) c) (fun _ => ?_)
    refine lv_bipush (v := (-101)) hx hb dX6_duke_7 (by decide) ?_
    exact W.iret (v := (-101)) hx hb hr (fun t ht hW => ⟨(-101), rfl, (c_X6_duke_a1 p0 p1 hr_1), ht⟩) (fun _ h => absurd h List.not_mem_nil) dX6_duke_9
  · refine lv_if_ne (tgt := 10) hx hb dX6_duke_4 (by decide) (fun _ => ?_) (fun c => absurd c (by decide))
    refine lv_iload_n hx hb dX6_duke_10 rfl (lv_at hl 2 rfl) ?_
    refine lv_if_lt (tgt := 19) hx hb dX6_duke_11 (by decide) (fun c_2 => ?_) (fun c_2 => ?_)
    · refine lv_bipush (v := (-102)) hx hb dX6_duke_19 (by decide) ?_
      exact W.iret (v := (-102)) hx hb hr (fun t ht hW => ⟨(-102), rfl, (c_X6_duke_a2 p0 p1 hr_1 c_2), ht⟩) (fun _ h => absurd h List.not_mem_nil) dX6_duke_21
    · refine lv_iload_n hx hb dX6_duke_14 rfl (lv_at hl 2 rfl) ?_
      refine lv_iconst (v := 4) hx hb dX6_duke_15 (by decide) ?_
      refine lv_icmp_lt (tgt := 22) hx hb dX6_duke_16 (by decide) (fun c_3 => ?_) (fun c_3 => ?_)
      · refine lv_aload_n hx hb dX6_duke_22 rfl (lv_at hl 0 rfl) ?_
        refine va_get (D := (dC, dI)) (ci := 6) (v := .ref hh) (C := RX6) (T := TX6) (N := 7) hx hb hts hiX6 hown hK hP 0 rfl rfl 2 (by decide) (hts (.fieldLink RX6 27 "LeftProfile" "hall" "LLeftProfile$Hall;") (List.mem_of_getElem? (i := 1) rfl)) (fun _ h9 => h9) rfl dX6_duke_23 ?_
        refine vp_callSi (cz_run (va_runV (As := []) (rest := []) ⟨hx, hb, hml, hown, hts⟩ (c_X1_isMissing l dC dI cI cB hh 0 0 0 ) (cwV 0 hts gX6_duke_X1_isMissing rfl rfl rfl (by decide +kernel) ⟨Nat.le_of_ble_eq_true rfl, Nat.le_of_ble_eq_true rfl⟩) (cz_pV (hP.sub (ws' := [(hh, .inr (1, [.int 0, .int 0, .int 0]))]) [1] rfl) hN (va_recv hK (hP.sub (ws' := [(hh, .inr (1, [.int 0, .int 0, .int 0]))]) [1] rfl) (ci := 1) (q0 := 0) rfl rfl)) rfl rfl hl.1 rfl (lv_room (Nat.le_of_ble_eq_true rfl)) dX6_duke_26 ⟨Nat.le_of_ble_eq_true rfl, Nat.le_of_ble_eq_true rfl⟩)) (fun r_4 hr_4 => ?_)
        rcases hr_4 with ⟨rfl, hr_4⟩ | ⟨rfl, hr_4⟩
        · exact absurd hr_4 (by decide)
        · refine lv_if_ne (tgt := 54) hx hb dX6_duke_29 (by decide) (fun _ => ?_) (fun c => absurd c (by decide))
          refine lv_bipush (v := (-103)) hx hb dX6_duke_54 (by decide) ?_
          exact W.iret (v := (-103)) hx hb hr (fun t ht hW => ⟨(-103), rfl, (c_X6_duke_a3 p0 p1 hr_1 c_2 c_3), ht⟩) (fun _ h => absurd h List.not_mem_nil) dX6_duke_56
      · refine lv_bipush (v := (-102)) hx hb dX6_duke_19 (by decide) ?_
        exact W.iret (v := (-102)) hx hb hr (fun t ht hW => ⟨(-102), rfl, (c_X6_duke_a4 p0 p1 hr_1 c_2 c_3), ht⟩) (fun _ h => absurd h List.not_mem_nil) dX6_duke_21

theorem c_X6_courtier_a1 (p0 : Int32) (p1 : Int32) (hr_1 : ¬ cz_in 0 p1 19) : ((-101) : Int32) = cz_r2 p1 p0 4 := by first | (subst_vars; rfl) | ((try simp only [cz_rl, cz_ron, cz_r2, cz_r1, cz_rr, cz_rw, cz_rc]) <;> (repeat' split) <;> (first | rfl | ((try simp only [cz_in, cz_lt, cz_le, cz_eq, cz_l] at *) <;> (first | omega | (simp_all; done)))))
theorem c_X6_courtier_a2 (p0 : Int32) (p1 : Int32) (hr_1 : cz_in 0 p1 19) (hr_2 : ¬ cz_in 0 p0 4) : ((-102) : Int32) = cz_r2 p1 p0 4 := by first | (subst_vars; rfl) | ((try simp only [cz_rl, cz_ron, cz_r2, cz_r1, cz_rr, cz_rw, cz_rc]) <;> (repeat' split) <;> (first | rfl | ((try simp only [cz_in, cz_lt, cz_le, cz_eq, cz_l] at *) <;> (first | omega | (simp_all; done)))))
theorem c_X6_courtier_a3 (p0 : Int32) (p1 : Int32) (hr_1 : cz_in 0 p1 19) (hr_2 : cz_in 0 p0 4) : ((-103) : Int32) = cz_r2 p1 p0 4 := by first | (subst_vars; rfl) | ((try simp only [cz_rl, cz_ron, cz_r2, cz_r1, cz_rr, cz_rw, cz_rc]) <;> (repeat' split) <;> (first | rfl | ((try simp only [cz_in, cz_lt, cz_le, cz_eq, cz_l] at *) <;> (first | omega | (simp_all; done)))))
set_option maxHeartbeats 4000000 in
set_option maxRecDepth 100000 in
theorem c_X6_courtier (l : Launch) (dC : Nat → ClassId) (dI : Nat → Nat → Nat) (cI cB : ClassId) (h0 : Nat) (p0 : Int32) (p1 : Int32) (hp : Nat) (hs : Nat) (hh : Nat) (hc : Nat) (kp : Nat) (rt : Nat) : Met l yX6_courtier wsX6_courtier ({ frames := 1, cells := 0, slots := 0, locals := 20 }) (cz_Pp dC dI cI cB [.ref h0, .int p0, .int p1] [(h0, .inr (6, [.ref hp, .ref hs, .ref hh, .ref hc, .ref kp, .ref rt, .int 0])), (hh, .inr (1, [.int 0, .int 0, .int 0]))]) (vp_Si (fun r : Int32 => r = cz_r2 p1 p0 4)) 0 0 (fun _ => False) := by
  refine Met.ofW (cc := cX6_courtier) (maxL := 3) (ret := (some .int)) (by decide) rfl ?_
  intro p e s m args below meth c s₁ B hml hv
  obtain ⟨rfl, hP, hN⟩ := hv
  have hx := B.exec
  have hb := B.bytes
  have hr := B.returns
  have hts := atoms_spec (ws := wsX6_courtier) B.pre
  have hown : s.vm.findClass RX6 = some m.cls := findClass_of_methodNamed B.named
  have hlocks := B.notSynchronized
  have hK := hN.1
  have hiX6 : ∀ w ∈ wsX60, w ∈ wsX6_courtier := (fun _ h => List.mem_cons_of_mem _ (List.mem_append_left _ (List.mem_append_left _ (List.mem_append_left _ (List.mem_append_right _ h)))))
  have hl := lv_entry ([.ref h0, .int p0, .int p1]) (n := 3) (Nat.le_of_ble_eq_true rfl)
  rw [lg_entry_eq]
  generalize (lg_sl ([.ref h0, .int p0, .int p1]) ++ List.replicate (3 - (lg_sl ([.ref h0, .int p0, .int p1])).length) Slot.unset).toArray = ls at hl ⊢
  have hl : lv_has ls 3 [(0, .ref h0), (1, .int p0), (2, .int p1)] := hl
  refine lv_iload_n hx hb dX6_courtier_0 rfl (lv_at hl 2 rfl) ?_
  refine vp_callSi (cz_run (va_runS (As := [.int p1]) (rest := []) ⟨hx, hb, hml, hown, hts⟩ (c_X6_isPlace l dC dI cI cB p1 ) (va_cwS 1 hts gX6_courtier_X6_isPlace rfl rfl rfl (by decide +kernel) ⟨Nat.le_of_ble_eq_true rfl, Nat.le_of_ble_eq_true rfl⟩) (cz_pS (hP.sub (ws' := []) [] rfl) hN) rfl rfl hl.1 rfl (lv_room (Nat.le_of_ble_eq_true rfl)) dX6_courtier_1 ⟨Nat.le_of_ble_eq_true rfl, Nat.le_of_ble_eq_true rfl⟩)) (fun r_1 hr_1 => ?_)
  rcases hr_1 with ⟨rfl, hr_1⟩ | ⟨rfl, hr_1⟩
  · refine lv_if_ne (tgt := 10) hx hb dX6_courtier_4 (by decide) (fun c => absurd (by decide) c) (fun _ => ?_)
    refine lv_bipush (v := (-101)) hx hb dX6_courtier_7 (by decide) ?_
    exact W.iret (v := (-101)) hx hb hr (fun t ht hW => ⟨(-101), rfl, (c_X6_courtier_a1 p0 p1 hr_1), ht⟩) (fun _ h => absurd h List.not_mem_nil) dX6_courtier_9
  · refine lv_if_ne (tgt := 10) hx hb dX6_courtier_4 (by decide) (fun _ => ?_) (fun c => absurd c (by decide))
    refine lv_iload_n hx hb dX6_courtier_10 rfl (lv_at hl 1 rfl) ?_
    refine vp_callSi (cz_run (va_runS (As := [.int p0]) (rest := []) ⟨hx, hb, hml, hown, hts⟩ (c_X6_isKind l dC dI cI cB p0 ) (va_cwS 1 hts gX6_courtier_X6_isKind rfl rfl rfl (by decide +kernel) ⟨Nat.le_of_ble_eq_true rfl, Nat.le_of_ble_eq_true rfl⟩) (cz_pS (hP.sub (ws' := []) [] rfl) hN) rfl rfl hl.1 rfl (lv_room (Nat.le_of_ble_eq_true rfl)) dX6_courtier_11 ⟨Nat.le_of_ble_eq_true rfl, Nat.le_of_ble_eq_true rfl⟩)) (fun r_2 hr_2 => ?_)
    rcases hr_2 with ⟨rfl, hr_2⟩ | ⟨rfl, hr_2⟩
    · refine lv_if_ne (tgt := 20) hx hb dX6_courtier_14 (by decide) (fun c => absurd (by decide) c) (fun _ => ?_)
      refine lv_bipush (v := (-102)) hx hb dX6_courtier_17 (by decide) ?_
      exact W.iret (v := (-102)) hx hb hr (fun t ht hW => ⟨(-102), rfl, (c_X6_courtier_a2 p0 p1 hr_1 hr_2), ht⟩) (fun _ h => absurd h List.not_mem_nil) dX6_courtier_19
    · refine lv_if_ne (tgt := 20) hx hb dX6_courtier_14 (by decide) (fun _ => ?_) (fun c => absurd c (by decide))
      refine lv_aload_n hx hb dX6_courtier_20 rfl (lv_at hl 0 rfl) ?_
      refine va_get (D := (dC, dI)) (ci := 6) (v := .ref hh) (C := RX6) (T := TX6) (N := 7) hx hb hts hiX6 hown hK hP 0 rfl rfl 2 (by decide) (hts (.fieldLink RX6 27 "LeftProfile" "hall" "LLeftProfile$Hall;") (List.mem_of_getElem? (i := 1) rfl)) (fun _ h9 => h9) rfl dX6_courtier_21 ?_
      refine vp_callSi (cz_run (va_runV (As := []) (rest := []) ⟨hx, hb, hml, hown, hts⟩ (c_X1_isMissing l dC dI cI cB hh 0 0 0 ) (cwV 0 hts gX6_courtier_X1_isMissing rfl rfl rfl (by decide +kernel) ⟨Nat.le_of_ble_eq_true rfl, Nat.le_of_ble_eq_true rfl⟩) (cz_pV (hP.sub (ws' := [(hh, .inr (1, [.int 0, .int 0, .int 0]))]) [1] rfl) hN (va_recv hK (hP.sub (ws' := [(hh, .inr (1, [.int 0, .int 0, .int 0]))]) [1] rfl) (ci := 1) (q0 := 0) rfl rfl)) rfl rfl hl.1 rfl (lv_room (Nat.le_of_ble_eq_true rfl)) dX6_courtier_24 ⟨Nat.le_of_ble_eq_true rfl, Nat.le_of_ble_eq_true rfl⟩)) (fun r_3 hr_3 => ?_)
      rcases hr_3 with ⟨rfl, hr_3⟩ | ⟨rfl, hr_3⟩
      · exact absurd hr_3 (by decide)
      · refine lv_if_ne (tgt := 44) hx hb dX6_courtier_27 (by decide) (fun _ => ?_) (fun c => absurd c (by decide))
        refine lv_bipush (v := (-103)) hx hb dX6_courtier_44 (by decide) ?_
        exact W.iret (v := (-103)) hx hb hr (fun t ht hW => ⟨(-103), rfl, (c_X6_courtier_a3 p0 p1 hr_1 hr_2), ht⟩) (fun _ h => absurd h List.not_mem_nil) dX6_courtier_46

set_option maxHeartbeats 4000000 in
set_option maxRecDepth 100000 in
theorem c_X6_about (l : Launch) (dC : Nat → ClassId) (dI : Nat → Nat → Nat) (cI cB : ClassId) (h0 : Nat) (p0 : Int32) (p1 : Int32) (hp : Nat) (hs : Nat) (hh : Nat) (hc : Nat) (kp : Nat) (rt : Nat) (k1 : Nat) (k2 : Nat) (k3 : Nat) (k4 : Nat) (k5 : Nat) : Met l yX6_about wsX6_about ({ frames := 1, cells := 0, slots := 0, locals := 21 }) (cz_Pp dC dI cI cB [.ref h0, .int p0, .int p1] [(h0, .inr (6, [.ref hp, .ref hs, .ref hh, .ref hc, .ref kp, .ref rt, .int 0])), (hc, .inr (0, [.int (-1), .int 0, .int 0, .ref k1, .ref k2, .ref k3, .ref k4, .ref k5]))]) (vp_Si (fun r : Int32 => r = (-101))) 0 0 (fun _ => False) := by
  refine Met.ofW (cc := cX6_about) (maxL := 3) (ret := (some .int)) (by decide) rfl ?_
  intro p e s m args below meth c s₁ B hml hv
  obtain ⟨rfl, hP, hN⟩ := hv
  have hx := B.exec
  have hb := B.bytes
  have hr := B.returns
  have hts := atoms_spec (ws := wsX6_about) B.pre
  have hown : s.vm.findClass RX6 = some m.cls := findClass_of_methodNamed B.named
  have hlocks := B.notSynchronized
  have hK := hN.1
  have hiX6 : ∀ w ∈ wsX60, w ∈ wsX6_about := (fun _ h => List.mem_cons_of_mem _ (List.mem_append_left _ (List.mem_append_left _ (List.mem_append_left _ (List.mem_append_left _ (List.mem_append_right _ h))))))
  have hl := lv_entry ([.ref h0, .int p0, .int p1]) (n := 3) (Nat.le_of_ble_eq_true rfl)
  rw [lg_entry_eq]
  generalize (lg_sl ([.ref h0, .int p0, .int p1]) ++ List.replicate (3 - (lg_sl ([.ref h0, .int p0, .int p1])).length) Slot.unset).toArray = ls at hl ⊢
  have hl : lv_has ls 3 [(0, .ref h0), (1, .int p0), (2, .int p1)] := hl
  refine lv_aload_n hx hb dX6_about_0 rfl (lv_at hl 0 rfl) ?_
  refine va_get (D := (dC, dI)) (ci := 6) (v := .ref hc) (C := RX6) (T := TX6) (N := 7) hx hb hts hiX6 hown hK hP 0 rfl rfl 3 (by decide) (hts (.fieldLink RX6 32 "LeftProfile" "court" "LLeftProfile$Court;") (List.mem_of_getElem? (i := 1) rfl)) (fun _ h9 => h9) rfl dX6_about_1 ?_
  refine lv_iload_n hx hb dX6_about_4 rfl (lv_at hl 1 rfl) ?_
  refine vp_callSi (cz_run (va_runV (As := [.int p0]) (rest := []) ⟨hx, hb, hml, hown, hts⟩ (c_X0_has0 l dC dI cI cB hc p0 (-1) 0 k1 k2 k3 k4 k5 ) (cwV 1 hts gX6_about_X0_has rfl rfl rfl (by decide +kernel) ⟨Nat.le_of_ble_eq_true rfl, Nat.le_of_ble_eq_true rfl⟩) (cz_pV (hP.sub (ws' := [(hc, .inr (0, [.int (-1), .int 0, .int 0, .ref k1, .ref k2, .ref k3, .ref k4, .ref k5]))]) [1] rfl) hN (va_recv hK (hP.sub (ws' := [(hc, .inr (0, [.int (-1), .int 0, .int 0, .ref k1, .ref k2, .ref k3, .ref k4, .ref k5]))]) [1] rfl) (ci := 0) (q0 := 0) rfl rfl)) rfl rfl hl.1 rfl (lv_room (Nat.le_of_ble_eq_true rfl)) dX6_about_5 ⟨Nat.le_of_ble_eq_true rfl, Nat.le_of_ble_eq_true rfl⟩)) (fun r_1 hr_1 => ?_)
  obtain ⟨rfl, hr_1⟩ := hr_1
  refine lv_if_ne (tgt := 14) hx hb dX6_about_8 (by decide) (fun c => absurd (by decide) c) (fun _ => ?_)
  refine lv_bipush (v := (-101)) hx hb dX6_about_11 (by decide) ?_
  exact W.iret (v := (-101)) hx hb hr (fun t ht hW => ⟨(-101), rfl, rfl, ht⟩) (fun _ h => absurd h List.not_mem_nil) dX6_about_13

set_option maxHeartbeats 4000000 in
set_option maxRecDepth 100000 in
theorem c_X6_as (l : Launch) (dC : Nat → ClassId) (dI : Nat → Nat → Nat) (cI cB : ClassId) (h0 : Nat) (p0 : Int32) (p1 : Int32) (hp : Nat) (hs : Nat) (hh : Nat) (hc : Nat) (kp : Nat) (rt : Nat) (k1 : Nat) (k2 : Nat) (k3 : Nat) (k4 : Nat) (k5 : Nat) : Met l yX6_as wsX6_as ({ frames := 1, cells := 0, slots := 0, locals := 21 }) (cz_Pp dC dI cI cB [.ref h0, .int p0, .int p1] [(h0, .inr (6, [.ref hp, .ref hs, .ref hh, .ref hc, .ref kp, .ref rt, .int 0])), (hc, .inr (0, [.int (-1), .int 0, .int 0, .ref k1, .ref k2, .ref k3, .ref k4, .ref k5]))]) (vp_Si (fun r : Int32 => r = (-101))) 0 0 (fun _ => False) := by
  refine Met.ofW (cc := cX6_as) (maxL := 3) (ret := (some .int)) (by decide) rfl ?_
  intro p e s m args below meth c s₁ B hml hv
  obtain ⟨rfl, hP, hN⟩ := hv
  have hx := B.exec
  have hb := B.bytes
  have hr := B.returns
  have hts := atoms_spec (ws := wsX6_as) B.pre
  have hown : s.vm.findClass RX6 = some m.cls := findClass_of_methodNamed B.named
  have hlocks := B.notSynchronized
  have hK := hN.1
  have hiX6 : ∀ w ∈ wsX60, w ∈ wsX6_as := (fun _ h => List.mem_cons_of_mem _ (List.mem_append_left _ (List.mem_append_right _ h)))
  have hl := lv_entry ([.ref h0, .int p0, .int p1]) (n := 3) (Nat.le_of_ble_eq_true rfl)
  rw [lg_entry_eq]
  generalize (lg_sl ([.ref h0, .int p0, .int p1]) ++ List.replicate (3 - (lg_sl ([.ref h0, .int p0, .int p1])).length) Slot.unset).toArray = ls at hl ⊢
  have hl : lv_has ls 3 [(0, .ref h0), (1, .int p0), (2, .int p1)] := hl
  refine lv_aload_n hx hb dX6_as_0 rfl (lv_at hl 0 rfl) ?_
  refine va_get (D := (dC, dI)) (ci := 6) (v := .ref hc) (C := RX6) (T := TX6) (N := 7) hx hb hts hiX6 hown hK hP 0 rfl rfl 3 (by decide) (hts (.fieldLink RX6 32 "LeftProfile" "court" "LLeftProfile$Court;") (List.mem_of_getElem? (i := 1) rfl)) (fun _ h9 => h9) rfl dX6_as_1 ?_
  refine lv_iload_n hx hb dX6_as_4 rfl (lv_at hl 1 rfl) ?_
  refine vp_callSi (cz_run (va_runV (As := [.int p0]) (rest := []) ⟨hx, hb, hml, hown, hts⟩ (c_X0_has0 l dC dI cI cB hc p0 (-1) 0 k1 k2 k3 k4 k5 ) (cwV 1 hts gX6_as_X0_has rfl rfl rfl (by decide +kernel) ⟨Nat.le_of_ble_eq_true rfl, Nat.le_of_ble_eq_true rfl⟩) (cz_pV (hP.sub (ws' := [(hc, .inr (0, [.int (-1), .int 0, .int 0, .ref k1, .ref k2, .ref k3, .ref k4, .ref k5]))]) [1] rfl) hN (va_recv hK (hP.sub (ws' := [(hc, .inr (0, [.int (-1), .int 0, .int 0, .ref k1, .ref k2, .ref k3, .ref k4, .ref k5]))]) [1] rfl) (ci := 0) (q0 := 0) rfl rfl)) rfl rfl hl.1 rfl (lv_room (Nat.le_of_ble_eq_true rfl)) dX6_as_5 ⟨Nat.le_of_ble_eq_true rfl, Nat.le_of_ble_eq_true rfl⟩)) (fun r_1 hr_1 => ?_)
  obtain ⟨rfl, hr_1⟩ := hr_1
  refine lv_if_ne (tgt := 14) hx hb dX6_as_8 (by decide) (fun c => absurd (by decide) c) (fun _ => ?_)
  refine lv_bipush (v := (-101)) hx hb dX6_as_11 (by decide) ?_
  exact W.iret (v := (-101)) hx hb hr (fun t ht hW => ⟨(-101), rfl, rfl, ht⟩) (fun _ h => absurd h List.not_mem_nil) dX6_as_13

set_option maxHeartbeats 4000000 in
set_option maxRecDepth 100000 in
theorem c_X6_go (l : Launch) (dC : Nat → ClassId) (dI : Nat → Nat → Nat) (cI cB : ClassId) (h0 : Nat) (p0 : Int32) (p1 : Int32) (hp : Nat) (hs : Nat) (hh : Nat) (hc : Nat) (kp : Nat) (rt : Nat) (k1 : Nat) (k2 : Nat) (k3 : Nat) (k4 : Nat) (k5 : Nat) : Met l yX6_go wsX6_go ({ frames := 1, cells := 0, slots := 0, locals := 21 }) (cz_Pp dC dI cI cB [.ref h0, .int p0, .int p1] [(h0, .inr (6, [.ref hp, .ref hs, .ref hh, .ref hc, .ref kp, .ref rt, .int 0])), (hc, .inr (0, [.int (-1), .int 0, .int 0, .ref k1, .ref k2, .ref k3, .ref k4, .ref k5]))]) (vp_Si (fun r : Int32 => r = (-101))) 0 0 (fun _ => False) := by
  refine Met.ofW (cc := cX6_go) (maxL := 4) (ret := (some .int)) (by decide) rfl ?_
  intro p e s m args below meth c s₁ B hml hv
  obtain ⟨rfl, hP, hN⟩ := hv
  have hx := B.exec
  have hb := B.bytes
  have hr := B.returns
  have hts := atoms_spec (ws := wsX6_go) B.pre
  have hown : s.vm.findClass RX6 = some m.cls := findClass_of_methodNamed B.named
  have hlocks := B.notSynchronized
  have hK := hN.1
  have hiX6 : ∀ w ∈ wsX60, w ∈ wsX6_go := (fun _ h => List.mem_cons_of_mem _ (List.mem_append_left _ (List.mem_append_left _ (List.mem_append_left _ (List.mem_append_right _ h)))))
  have hl := lv_entry ([.ref h0, .int p0, .int p1]) (n := 4) (Nat.le_of_ble_eq_true rfl)
  rw [lg_entry_eq]
  generalize (lg_sl ([.ref h0, .int p0, .int p1]) ++ List.replicate (4 - (lg_sl ([.ref h0, .int p0, .int p1])).length) Slot.unset).toArray = ls at hl ⊢
  have hl : lv_has ls 4 [(0, .ref h0), (1, .int p0), (2, .int p1)] := hl
  refine lv_aload_n hx hb dX6_go_0 rfl (lv_at hl 0 rfl) ?_
  refine va_get (D := (dC, dI)) (ci := 6) (v := .ref hc) (C := RX6) (T := TX6) (N := 7) hx hb hts hiX6 hown hK hP 0 rfl rfl 3 (by decide) (hts (.fieldLink RX6 32 "LeftProfile" "court" "LLeftProfile$Court;") (List.mem_of_getElem? (i := 1) rfl)) (fun _ h9 => h9) rfl dX6_go_1 ?_
  refine lv_iload_n hx hb dX6_go_4 rfl (lv_at hl 1 rfl) ?_
  refine vp_callSi (cz_run (va_runV (As := [.int p0]) (rest := []) ⟨hx, hb, hml, hown, hts⟩ (c_X0_has0 l dC dI cI cB hc p0 (-1) 0 k1 k2 k3 k4 k5 ) (cwV 1 hts gX6_go_X0_has rfl rfl rfl (by decide +kernel) ⟨Nat.le_of_ble_eq_true rfl, Nat.le_of_ble_eq_true rfl⟩) (cz_pV (hP.sub (ws' := [(hc, .inr (0, [.int (-1), .int 0, .int 0, .ref k1, .ref k2, .ref k3, .ref k4, .ref k5]))]) [1] rfl) hN (va_recv hK (hP.sub (ws' := [(hc, .inr (0, [.int (-1), .int 0, .int 0, .ref k1, .ref k2, .ref k3, .ref k4, .ref k5]))]) [1] rfl) (ci := 0) (q0 := 0) rfl rfl)) rfl rfl hl.1 rfl (lv_room (Nat.le_of_ble_eq_true rfl)) dX6_go_5 ⟨Nat.le_of_ble_eq_true rfl, Nat.le_of_ble_eq_true rfl⟩)) (fun r_1 hr_1 => ?_)
  obtain ⟨rfl, hr_1⟩ := hr_1
  refine lv_if_eq (tgt := 18) hx hb dX6_go_8 (by decide) (fun _ => ?_) (fun c => absurd (by decide) c)
  refine lv_bipush (v := (-101)) hx hb dX6_go_18 (by decide) ?_
  exact W.iret (v := (-101)) hx hb hr (fun t ht hW => ⟨(-101), rfl, rfl, ht⟩) (fun _ h => absurd h List.not_mem_nil) dX6_go_20

theorem c_X6_act_a1 (p0 : Int32) (c_1 : p0 < 0) : ((-102) : Int32) = cz_r1 p0 2 := by first | (subst_vars; rfl) | ((try simp only [cz_rl, cz_ron, cz_r2, cz_r1, cz_rr, cz_rw, cz_rc]) <;> (repeat' split) <;> (first | rfl | ((try simp only [cz_in, cz_lt, cz_le, cz_eq, cz_l] at *) <;> (first | omega | (simp_all; done)))))
theorem c_X6_act_a2 (p0 : Int32) (c_1 : ¬ p0 < 0) (c_2 : p0 < 3) : ((-103) : Int32) = cz_r1 p0 2 := by first | (subst_vars; rfl) | ((try simp only [cz_rl, cz_ron, cz_r2, cz_r1, cz_rr, cz_rw, cz_rc]) <;> (repeat' split) <;> (first | rfl | ((try simp only [cz_in, cz_lt, cz_le, cz_eq, cz_l] at *) <;> (first | omega | (simp_all; done)))))
theorem c_X6_act_a3 (p0 : Int32) (c_1 : ¬ p0 < 0) (c_2 : ¬ p0 < 3) : ((-102) : Int32) = cz_r1 p0 2 := by first | (subst_vars; rfl) | ((try simp only [cz_rl, cz_ron, cz_r2, cz_r1, cz_rr, cz_rw, cz_rc]) <;> (repeat' split) <;> (first | rfl | ((try simp only [cz_in, cz_lt, cz_le, cz_eq, cz_l] at *) <;> (first | omega | (simp_all; done)))))
set_option maxHeartbeats 4000000 in
set_option maxRecDepth 100000 in
theorem c_X6_act (l : Launch) (dC : Nat → ClassId) (dI : Nat → Nat → Nat) (cI cB : ClassId) (h0 : Nat) (p0 : Int32) (hp : Nat) (hs : Nat) (hh : Nat) (hc : Nat) (kp : Nat) (rt : Nat) (si : Nat) (k1 : Nat) (k2 : Nat) (k3 : Nat) (k4 : Nat) (k5 : Nat) : Met l yX6_act wsX6_act ({ frames := 1, cells := 0, slots := 0, locals := 26 }) (cz_Pp dC dI cI cB [.ref h0, .int p0] [(h0, .inr (6, [.ref hp, .ref hs, .ref hh, .ref hc, .ref kp, .ref rt, .int 0])), (hs, .inr (4, [.ref hh, .ref hc, .ref si])), (hc, .inr (0, [.int (-1), .int 0, .int 0, .ref k1, .ref k2, .ref k3, .ref k4, .ref k5]))]) (vp_Si (fun r : Int32 => r = cz_r1 p0 2)) 0 0 (fun _ => False) := by
  refine Met.ofW (cc := cX6_act) (maxL := 3) (ret := (some .int)) (by decide) rfl ?_
  intro p e s m args below meth c s₁ B hml hv
  obtain ⟨rfl, hP, hN⟩ := hv
  have hx := B.exec
  have hb := B.bytes
  have hr := B.returns
  have hts := atoms_spec (ws := wsX6_act) B.pre
  have hown : s.vm.findClass RX6 = some m.cls := findClass_of_methodNamed B.named
  have hlocks := B.notSynchronized
  have hK := hN.1
  have hiX0 : ∀ w ∈ wsX00, w ∈ wsX6_act := (fun _ h => List.mem_cons_of_mem _ (List.mem_append_left _ (List.mem_append_left _ (List.mem_append_left _ (List.mem_append_right _ h)))))
  have hiX6 : ∀ w ∈ wsX60, w ∈ wsX6_act := (fun _ h => List.mem_cons_of_mem _ (List.mem_append_left _ (List.mem_append_left _ (List.mem_append_left _ (List.mem_append_left _ (List.mem_append_right _ h))))))
  have hl := lv_entry ([.ref h0, .int p0]) (n := 3) (Nat.le_of_ble_eq_true rfl)
  rw [lg_entry_eq]
  generalize (lg_sl ([.ref h0, .int p0]) ++ List.replicate (3 - (lg_sl ([.ref h0, .int p0])).length) Slot.unset).toArray = ls at hl ⊢
  have hl : lv_has ls 3 [(0, .ref h0), (1, .int p0)] := hl
  refine lv_iload_n hx hb dX6_act_0 rfl (lv_at hl 1 rfl) ?_
  refine lv_if_lt (tgt := 9) hx hb dX6_act_1 (by decide) (fun c_1 => ?_) (fun c_1 => ?_)
  · refine lv_bipush (v := (-102)) hx hb dX6_act_9 (by decide) ?_
    exact W.iret (v := (-102)) hx hb hr (fun t ht hW => ⟨(-102), rfl, (c_X6_act_a1 p0 c_1), ht⟩) (fun _ h => absurd h List.not_mem_nil) dX6_act_11
  · refine lv_iload_n hx hb dX6_act_4 rfl (lv_at hl 1 rfl) ?_
    refine lv_iconst (v := 3) hx hb dX6_act_5 (by decide) ?_
    refine lv_icmp_lt (tgt := 12) hx hb dX6_act_6 (by decide) (fun c_2 => ?_) (fun c_2 => ?_)
    · refine lv_aload_n hx hb dX6_act_12 rfl (lv_at hl 0 rfl) ?_
      refine va_get (D := (dC, dI)) (ci := 6) (v := .ref hs) (C := RX6) (T := TX6) (N := 7) hx hb hts hiX6 hown hK hP 0 rfl rfl 1 (by decide) (hts (.fieldLink RX6 19 "LeftProfile" "scene" "LLeftProfile$Scene;") (List.mem_of_getElem? (i := 1) rfl)) (fun _ h9 => h9) rfl dX6_act_13 ?_
      refine lv_aload_n hx hb dX6_act_16 rfl (lv_at hl 0 rfl) ?_
      refine va_get (D := (dC, dI)) (ci := 6) (v := .ref hc) (C := RX6) (T := TX6) (N := 7) hx hb hts hiX6 hown hK hP 0 rfl rfl 3 (by decide) (hts (.fieldLink RX6 32 "LeftProfile" "court" "LLeftProfile$Court;") (List.mem_of_getElem? (i := 2) rfl)) (fun _ h9 => h9) rfl dX6_act_17 ?_
      refine va_get (D := (dC, dI)) (ci := 0) (v := .int (-1)) (C := RX0) (T := TX0) (N := 8) hx hb hts hiX0 hown hK hP 2 rfl rfl 0 (by decide) (hts (.fieldLink RX6 91 "LeftProfile$Court" "stance" "I") (List.mem_of_getElem? (i := 3) rfl)) (fun _ h9 => h9) rfl dX6_act_20 ?_
      refine lv_iload_n hx hb dX6_act_23 rfl (lv_at hl 1 rfl) ?_
      refine vp_callSi (cz_run (va_runV (As := [.int (-1), .int p0]) (rest := []) ⟨hx, hb, hml, hown, hts⟩ (c_X4_after0 l dC dI cI cB hs p0 hh hc si ) (cwV 2 hts gX6_act_X4_after rfl rfl rfl (by decide +kernel) ⟨Nat.le_of_ble_eq_true rfl, Nat.le_of_ble_eq_true rfl⟩) (cz_pV (hP.sub (ws' := [(hs, .inr (4, [.ref hh, .ref hc, .ref si]))]) [1] rfl) hN (va_recv hK (hP.sub (ws' := [(hs, .inr (4, [.ref hh, .ref hc, .ref si]))]) [1] rfl) (ci := 4) (q0 := 0) rfl rfl)) rfl rfl hl.1 rfl (lv_room (Nat.le_of_ble_eq_true rfl)) dX6_act_24 ⟨Nat.le_of_ble_eq_true rfl, Nat.le_of_ble_eq_true rfl⟩)) (fun r_3 hr_3 => ?_)
      obtain rfl : r_3 = (-1) := hr_3
      refine lv_istore_n (lv' := [(2, .int (-1)), (0, .ref h0), (1, .int p0)]) hx hb dX6_act_27 rfl hl (by decide) rfl (fun ls hl => ?_)
      refine lv_iload_n hx hb dX6_act_28 rfl (lv_at hl 0 rfl) ?_
      refine lv_iconst (v := (-1)) hx hb dX6_act_29 (by decide) ?_
      refine lv_icmp_ne (tgt := 36) hx hb dX6_act_30 (by decide) (fun c => absurd (by decide) c) (fun _ => ?_)
      refine lv_bipush (v := (-103)) hx hb dX6_act_33 (by decide) ?_
      exact W.iret (v := (-103)) hx hb hr (fun t ht hW => ⟨(-103), rfl, (c_X6_act_a2 p0 c_1 c_2), ht⟩) (fun _ h => absurd h List.not_mem_nil) dX6_act_35
    · refine lv_bipush (v := (-102)) hx hb dX6_act_9 (by decide) ?_
      exact W.iret (v := (-102)) hx hb hr (fun t ht hW => ⟨(-102), rfl, (c_X6_act_a3 p0 c_1 c_2), ht⟩) (fun _ h => absurd h List.not_mem_nil) dX6_act_11

set_option maxHeartbeats 4000000 in
set_option maxRecDepth 100000 in
theorem c_X6_guilty (l : Launch) (dC : Nat → ClassId) (dI : Nat → Nat → Nat) (cI cB : ClassId) (h0 : Nat) (hp : Nat) (hs : Nat) (hh : Nat) (hc : Nat) (kp : Nat) (rt : Nat) (si : Nat) (k1 : Nat) (k2 : Nat) (k3 : Nat) (k4 : Nat) (k5 : Nat) : Met l yX6_guilty wsX6_guilty ({ frames := 2, cells := 0, slots := 0, locals := 47 }) (cz_Pp dC dI cI cB [.ref h0] [(h0, .inr (6, [.ref hp, .ref hs, .ref hh, .ref hc, .ref kp, .ref rt, .int 0])), (hs, .inr (4, [.ref hh, .ref hc, .ref si])), (hc, .inr (0, [.int (-1), .int 0, .int 0, .ref k1, .ref k2, .ref k3, .ref k4, .ref k5])), (hh, .inr (1, [.int 0, .int 0, .int 0]))]) (vp_Si (fun r : Int32 => r = 0)) 0 0 (fun _ => False) := by
  refine Met.ofW (cc := cX6_guilty) (maxL := 1) (ret := (some .int)) (by decide) rfl ?_
  intro p e s m args below meth c s₁ B hml hv
  obtain ⟨rfl, hP, hN⟩ := hv
  have hx := B.exec
  have hb := B.bytes
  have hr := B.returns
  have hts := atoms_spec (ws := wsX6_guilty) B.pre
  have hown : s.vm.findClass RX6 = some m.cls := findClass_of_methodNamed B.named
  have hlocks := B.notSynchronized
  have hK := hN.1
  have hiX0 : ∀ w ∈ wsX00, w ∈ wsX6_guilty := (fun _ h => List.mem_cons_of_mem _ (List.mem_append_left _ (List.mem_append_left _ (List.mem_append_left _ (List.mem_append_right _ h)))))
  have hiX1 : ∀ w ∈ wsX10, w ∈ wsX6_guilty := (fun _ h => List.mem_cons_of_mem _ (List.mem_append_left _ (List.mem_append_left _ (List.mem_append_right _ h))))
  have hiX6 : ∀ w ∈ wsX60, w ∈ wsX6_guilty := (fun _ h => List.mem_cons_of_mem _ (List.mem_append_left _ (List.mem_append_left _ (List.mem_append_left _ (List.mem_append_left _ (List.mem_append_right _ h))))))
  have hl := lv_entry ([.ref h0]) (n := 1) (Nat.le_of_ble_eq_true rfl)
  rw [lg_entry_eq]
  generalize (lg_sl ([.ref h0]) ++ List.replicate (1 - (lg_sl ([.ref h0])).length) Slot.unset).toArray = ls at hl ⊢
  have hl : lv_has ls 1 [(0, .ref h0)] := hl
  refine lv_aload_n hx hb dX6_guilty_0 rfl (lv_at hl 0 rfl) ?_
  refine va_get (D := (dC, dI)) (ci := 6) (v := .ref hs) (C := RX6) (T := TX6) (N := 7) hx hb hts hiX6 hown hK hP 0 rfl rfl 1 (by decide) (hts (.fieldLink RX6 19 "LeftProfile" "scene" "LLeftProfile$Scene;") (List.mem_of_getElem? (i := 1) rfl)) (fun _ h9 => h9) rfl dX6_guilty_1 ?_
  refine lv_aload_n hx hb dX6_guilty_4 rfl (lv_at hl 0 rfl) ?_
  refine va_get (D := (dC, dI)) (ci := 6) (v := .ref hc) (C := RX6) (T := TX6) (N := 7) hx hb hts hiX6 hown hK hP 0 rfl rfl 3 (by decide) (hts (.fieldLink RX6 32 "LeftProfile" "court" "LLeftProfile$Court;") (List.mem_of_getElem? (i := 2) rfl)) (fun _ h9 => h9) rfl dX6_guilty_5 ?_
  refine va_get (D := (dC, dI)) (ci := 0) (v := .int (-1)) (C := RX0) (T := TX0) (N := 8) hx hb hts hiX0 hown hK hP 2 rfl rfl 0 (by decide) (hts (.fieldLink RX6 91 "LeftProfile$Court" "stance" "I") (List.mem_of_getElem? (i := 3) rfl)) (fun _ h9 => h9) rfl dX6_guilty_8 ?_
  refine lv_aload_n hx hb dX6_guilty_11 rfl (lv_at hl 0 rfl) ?_
  refine va_get (D := (dC, dI)) (ci := 6) (v := .ref hh) (C := RX6) (T := TX6) (N := 7) hx hb hts hiX6 hown hK hP 0 rfl rfl 2 (by decide) (hts (.fieldLink RX6 27 "LeftProfile" "hall" "LLeftProfile$Hall;") (List.mem_of_getElem? (i := 4) rfl)) (fun _ h9 => h9) rfl dX6_guilty_12 ?_
  refine va_get (D := (dC, dI)) (ci := 1) (v := .int 0) (C := RX1) (T := TX1) (N := 3) hx hb hts hiX1 hown hK hP 3 rfl rfl 0 (by decide) (hts (.fieldLink RX6 84 "LeftProfile$Hall" "walls" "I") (List.mem_of_getElem? (i := 5) rfl)) (fun _ h9 => h9) rfl dX6_guilty_15 ?_
  refine vp_callSi (cz_run (va_runV (As := [.int (-1), .int 0]) (rest := []) ⟨hx, hb, hml, hown, hts⟩ (c_X4_guiltyIf0 l dC dI cI cB hs (-1) 0 hh hc si (-1) 0 k1 k2 k3 k4 k5 ) (cwV 2 hts gX6_guilty_X4_guiltyIf rfl rfl rfl (by decide +kernel) ⟨Nat.le_of_ble_eq_true rfl, Nat.le_of_ble_eq_true rfl⟩) (cz_pV (hP.sub (ws' := [(hs, .inr (4, [.ref hh, .ref hc, .ref si])), (hc, .inr (0, [.int (-1), .int 0, .int 0, .ref k1, .ref k2, .ref k3, .ref k4, .ref k5]))]) [1, 2] rfl) hN (va_recv hK (hP.sub (ws' := [(hs, .inr (4, [.ref hh, .ref hc, .ref si])), (hc, .inr (0, [.int (-1), .int 0, .int 0, .ref k1, .ref k2, .ref k3, .ref k4, .ref k5]))]) [1, 2] rfl) (ci := 4) (q0 := 0) rfl rfl)) rfl rfl hl.1 rfl (lv_room (Nat.le_of_ble_eq_true rfl)) dX6_guilty_18 ⟨Nat.le_of_ble_eq_true rfl, Nat.le_of_ble_eq_true rfl⟩)) (fun r_1 hr_1 => ?_)
  obtain rfl : r_1 = 0 := hr_1
  exact W.iret (v := 0) hx hb hr (fun t ht hW => ⟨0, rfl, rfl, ht⟩) (fun _ h => absurd h List.not_mem_nil) dX6_guilty_21

theorem c_X6_room_a1 (p0 : Int32) (p1 : Int32) (c_1 : p0 < 1) : ((-102) : Int32) = cz_rr p0 p1 := by first | (subst_vars; rfl) | ((try simp only [cz_rl, cz_ron, cz_r2, cz_r1, cz_rr, cz_rw, cz_rc]) <;> (repeat' split) <;> (first | rfl | ((try simp only [cz_in, cz_lt, cz_le, cz_eq, cz_l] at *) <;> (first | omega | (simp_all; done)))))
theorem c_X6_room_a2 (p0 : Int32) (p1 : Int32) (c_1 : ¬ p0 < 1) (c_2 : 3 < p0) : ((-102) : Int32) = cz_rr p0 p1 := by first | (subst_vars; rfl) | ((try simp only [cz_rl, cz_ron, cz_r2, cz_r1, cz_rr, cz_rw, cz_rc]) <;> (repeat' split) <;> (first | rfl | ((try simp only [cz_in, cz_lt, cz_le, cz_eq, cz_l] at *) <;> (first | omega | (simp_all; done)))))
theorem c_X6_room_a3 (p0 : Int32) (p1 : Int32) (c_1 : ¬ p0 < 1) (c_2 : ¬ 3 < p0) (c_3 : p1 < 0) : ((-102) : Int32) = cz_rr p0 p1 := by first | (subst_vars; rfl) | ((try simp only [cz_rl, cz_ron, cz_r2, cz_r1, cz_rr, cz_rw, cz_rc]) <;> (repeat' split) <;> (first | rfl | ((try simp only [cz_in, cz_lt, cz_le, cz_eq, cz_l] at *) <;> (first | omega | (simp_all; done)))))
theorem c_X6_room_a4 (p0 : Int32) (p1 : Int32) (c_1 : ¬ p0 < 1) (c_2 : ¬ 3 < p0) (c_3 : ¬ p1 < 0) (c_4 : p1 < 3) : ((-103) : Int32) = cz_rr p0 p1 := by first | (subst_vars; rfl) | ((try simp only [cz_rl, cz_ron, cz_r2, cz_r1, cz_rr, cz_rw, cz_rc]) <;> (repeat' split) <;> (first | rfl | ((try simp only [cz_in, cz_lt, cz_le, cz_eq, cz_l] at *) <;> (first | omega | (simp_all; done)))))
theorem c_X6_room_a5 (p0 : Int32) (p1 : Int32) (c_1 : ¬ p0 < 1) (c_2 : ¬ 3 < p0) (c_3 : ¬ p1 < 0) (c_4 : ¬ p1 < 3) : ((-102) : Int32) = cz_rr p0 p1 := by first | (subst_vars; rfl) | ((try simp only [cz_rl, cz_ron, cz_r2, cz_r1, cz_rr, cz_rw, cz_rc]) <;> (repeat' split) <;> (first | rfl | ((try simp only [cz_in, cz_lt, cz_le, cz_eq, cz_l] at *) <;> (first | omega | (simp_all; done)))))
set_option maxHeartbeats 4000000 in
set_option maxRecDepth 100000 in
theorem c_X6_room (l : Launch) (dC : Nat → ClassId) (dI : Nat → Nat → Nat) (cI cB : ClassId) (h0 : Nat) (p0 : Int32) (p1 : Int32) (hp : Nat) (hs : Nat) (hh : Nat) (hc : Nat) (kp : Nat) (rt : Nat) (k1 : Nat) (k2 : Nat) (k3 : Nat) (k4 : Nat) (k5 : Nat) : Met l yX6_room wsX6_room ({ frames := 0, cells := 0, slots := 0, locals := 0 }) (cz_Pp dC dI cI cB [.ref h0, .int p0, .int p1] [(h0, .inr (6, [.ref hp, .ref hs, .ref hh, .ref hc, .ref kp, .ref rt, .int 0])), (hc, .inr (0, [.int (-1), .int 0, .int 0, .ref k1, .ref k2, .ref k3, .ref k4, .ref k5]))]) (vp_Si (fun r : Int32 => r = cz_rr p0 p1)) 0 0 (fun _ => False) := by
  refine Met.ofW (cc := cX6_room) (maxL := 3) (ret := (some .int)) (by decide) rfl ?_
  intro p e s m args below meth c s₁ B hml hv
  obtain ⟨rfl, hP, hN⟩ := hv
  have hx := B.exec
  have hb := B.bytes
  have hr := B.returns
  have hts := atoms_spec (ws := wsX6_room) B.pre
  have hown : s.vm.findClass RX6 = some m.cls := findClass_of_methodNamed B.named
  have hlocks := B.notSynchronized
  have hK := hN.1
  have hiX0 : ∀ w ∈ wsX00, w ∈ wsX6_room := (fun _ h => List.mem_cons_of_mem _ (List.mem_append_left _ (List.mem_append_left _ (List.mem_append_left _ (List.mem_append_right _ h)))))
  have hiX6 : ∀ w ∈ wsX60, w ∈ wsX6_room := (fun _ h => List.mem_cons_of_mem _ (List.mem_append_left _ (List.mem_append_left _ (List.mem_append_left _ (List.mem_append_left _ (List.mem_append_right _ h))))))
  have hl := lv_entry ([.ref h0, .int p0, .int p1]) (n := 3) (Nat.le_of_ble_eq_true rfl)
  rw [lg_entry_eq]
  generalize (lg_sl ([.ref h0, .int p0, .int p1]) ++ List.replicate (3 - (lg_sl ([.ref h0, .int p0, .int p1])).length) Slot.unset).toArray = ls at hl ⊢
  have hl : lv_has ls 3 [(0, .ref h0), (1, .int p0), (2, .int p1)] := hl
  refine lv_iload_n hx hb dX6_room_0 rfl (lv_at hl 1 rfl) ?_
  refine lv_iconst (v := 1) hx hb dX6_room_1 (by decide) ?_
  refine lv_icmp_lt (tgt := 19) hx hb dX6_room_2 (by decide) (fun c_1 => ?_) (fun c_1 => ?_)
  · refine lv_bipush (v := (-102)) hx hb dX6_room_19 (by decide) ?_
    exact W.iret (v := (-102)) hx hb hr (fun t ht hW => ⟨(-102), rfl, (c_X6_room_a1 p0 p1 c_1), ht⟩) (fun _ h => absurd h List.not_mem_nil) dX6_room_21
  · refine lv_iload_n hx hb dX6_room_5 rfl (lv_at hl 1 rfl) ?_
    refine lv_iconst (v := 3) hx hb dX6_room_6 (by decide) ?_
    refine lv_icmp_gt (tgt := 19) hx hb dX6_room_7 (by decide) (fun c_2 => ?_) (fun c_2 => ?_)
    · refine lv_bipush (v := (-102)) hx hb dX6_room_19 (by decide) ?_
      exact W.iret (v := (-102)) hx hb hr (fun t ht hW => ⟨(-102), rfl, (c_X6_room_a2 p0 p1 c_1 c_2), ht⟩) (fun _ h => absurd h List.not_mem_nil) dX6_room_21
    · refine lv_iload_n hx hb dX6_room_10 rfl (lv_at hl 2 rfl) ?_
      refine lv_if_lt (tgt := 19) hx hb dX6_room_11 (by decide) (fun c_3 => ?_) (fun c_3 => ?_)
      · refine lv_bipush (v := (-102)) hx hb dX6_room_19 (by decide) ?_
        exact W.iret (v := (-102)) hx hb hr (fun t ht hW => ⟨(-102), rfl, (c_X6_room_a3 p0 p1 c_1 c_2 c_3), ht⟩) (fun _ h => absurd h List.not_mem_nil) dX6_room_21
      · refine lv_iload_n hx hb dX6_room_14 rfl (lv_at hl 2 rfl) ?_
        refine lv_iconst (v := 3) hx hb dX6_room_15 (by decide) ?_
        refine lv_icmp_lt (tgt := 22) hx hb dX6_room_16 (by decide) (fun c_4 => ?_) (fun c_4 => ?_)
        · refine lv_aload_n hx hb dX6_room_22 rfl (lv_at hl 0 rfl) ?_
          refine va_get (D := (dC, dI)) (ci := 6) (v := .ref hc) (C := RX6) (T := TX6) (N := 7) hx hb hts hiX6 hown hK hP 0 rfl rfl 3 (by decide) (hts (.fieldLink RX6 32 "LeftProfile" "court" "LLeftProfile$Court;") (List.mem_of_getElem? (i := 1) rfl)) (fun _ h9 => h9) rfl dX6_room_23 ?_
          refine va_get (D := (dC, dI)) (ci := 0) (v := .int (-1)) (C := RX0) (T := TX0) (N := 8) hx hb hts hiX0 hown hK hP 1 rfl rfl 0 (by decide) (hts (.fieldLink RX6 91 "LeftProfile$Court" "stance" "I") (List.mem_of_getElem? (i := 2) rfl)) (fun _ h9 => h9) rfl dX6_room_26 ?_
          refine lv_iconst (v := (-1)) hx hb dX6_room_29 (by decide) ?_
          refine lv_icmp_ne (tgt := 36) hx hb dX6_room_30 (by decide) (fun c => absurd (by decide) c) (fun _ => ?_)
          refine lv_bipush (v := (-103)) hx hb dX6_room_33 (by decide) ?_
          exact W.iret (v := (-103)) hx hb hr (fun t ht hW => ⟨(-103), rfl, (c_X6_room_a4 p0 p1 c_1 c_2 c_3 c_4), ht⟩) (fun _ h => absurd h List.not_mem_nil) dX6_room_35
        · refine lv_bipush (v := (-102)) hx hb dX6_room_19 (by decide) ?_
          exact W.iret (v := (-102)) hx hb hr (fun t ht hW => ⟨(-102), rfl, (c_X6_room_a5 p0 p1 c_1 c_2 c_3 c_4), ht⟩) (fun _ h => absurd h List.not_mem_nil) dX6_room_21

theorem c_X6_brick_a1 (p0 : Int32) (c_1 : p0 < 0) : ((-102) : Int32) = cz_r1 p0 1 := by first | (subst_vars; rfl) | ((try simp only [cz_rl, cz_ron, cz_r2, cz_r1, cz_rr, cz_rw, cz_rc]) <;> (repeat' split) <;> (first | rfl | ((try simp only [cz_in, cz_lt, cz_le, cz_eq, cz_l] at *) <;> (first | omega | (simp_all; done)))))
theorem c_X6_brick_a2 (p0 : Int32) (c_1 : ¬ p0 < 0) (c_2 : p0 ≤ 1) : ((-103) : Int32) = cz_r1 p0 1 := by first | (subst_vars; rfl) | ((try simp only [cz_rl, cz_ron, cz_r2, cz_r1, cz_rr, cz_rw, cz_rc]) <;> (repeat' split) <;> (first | rfl | ((try simp only [cz_in, cz_lt, cz_le, cz_eq, cz_l] at *) <;> (first | omega | (simp_all; done)))))
theorem c_X6_brick_a3 (p0 : Int32) (c_1 : ¬ p0 < 0) (c_2 : ¬ p0 ≤ 1) : ((-102) : Int32) = cz_r1 p0 1 := by first | (subst_vars; rfl) | ((try simp only [cz_rl, cz_ron, cz_r2, cz_r1, cz_rr, cz_rw, cz_rc]) <;> (repeat' split) <;> (first | rfl | ((try simp only [cz_in, cz_lt, cz_le, cz_eq, cz_l] at *) <;> (first | omega | (simp_all; done)))))
set_option maxHeartbeats 4000000 in
set_option maxRecDepth 100000 in
theorem c_X6_brick (l : Launch) (dC : Nat → ClassId) (dI : Nat → Nat → Nat) (cI cB : ClassId) (h0 : Nat) (p0 : Int32) (hp : Nat) (hs : Nat) (hh : Nat) (hc : Nat) (kp : Nat) (rt : Nat) (k1 : Nat) (k2 : Nat) (k3 : Nat) (k4 : Nat) (k5 : Nat) : Met l yX6_brick wsX6_brick ({ frames := 0, cells := 0, slots := 0, locals := 0 }) (cz_Pp dC dI cI cB [.ref h0, .int p0] [(h0, .inr (6, [.ref hp, .ref hs, .ref hh, .ref hc, .ref kp, .ref rt, .int 0])), (hc, .inr (0, [.int (-1), .int 0, .int 0, .ref k1, .ref k2, .ref k3, .ref k4, .ref k5]))]) (vp_Si (fun r : Int32 => r = cz_r1 p0 1)) 0 0 (fun _ => False) := by
  refine Met.ofW (cc := cX6_brick) (maxL := 3) (ret := (some .int)) (by decide) rfl ?_
  intro p e s m args below meth c s₁ B hml hv
  obtain ⟨rfl, hP, hN⟩ := hv
  have hx := B.exec
  have hb := B.bytes
  have hr := B.returns
  have hts := atoms_spec (ws := wsX6_brick) B.pre
  have hown : s.vm.findClass RX6 = some m.cls := findClass_of_methodNamed B.named
  have hlocks := B.notSynchronized
  have hK := hN.1
  have hiX0 : ∀ w ∈ wsX00, w ∈ wsX6_brick := (fun _ h => List.mem_cons_of_mem _ (List.mem_append_left _ (List.mem_append_left _ (List.mem_append_left _ (List.mem_append_right _ h)))))
  have hiX6 : ∀ w ∈ wsX60, w ∈ wsX6_brick := (fun _ h => List.mem_cons_of_mem _ (List.mem_append_left _ (List.mem_append_left _ (List.mem_append_left _ (List.mem_append_left _ (List.mem_append_right _ h))))))
  have hl := lv_entry ([.ref h0, .int p0]) (n := 3) (Nat.le_of_ble_eq_true rfl)
  rw [lg_entry_eq]
  generalize (lg_sl ([.ref h0, .int p0]) ++ List.replicate (3 - (lg_sl ([.ref h0, .int p0])).length) Slot.unset).toArray = ls at hl ⊢
  have hl : lv_has ls 3 [(0, .ref h0), (1, .int p0)] := hl
  refine lv_iload_n hx hb dX6_brick_0 rfl (lv_at hl 1 rfl) ?_
  refine lv_if_lt (tgt := 9) hx hb dX6_brick_1 (by decide) (fun c_1 => ?_) (fun c_1 => ?_)
  · refine lv_bipush (v := (-102)) hx hb dX6_brick_9 (by decide) ?_
    exact W.iret (v := (-102)) hx hb hr (fun t ht hW => ⟨(-102), rfl, (c_X6_brick_a1 p0 c_1), ht⟩) (fun _ h => absurd h List.not_mem_nil) dX6_brick_11
  · refine lv_iload_n hx hb dX6_brick_4 rfl (lv_at hl 1 rfl) ?_
    refine lv_iconst (v := 1) hx hb dX6_brick_5 (by decide) ?_
    refine lv_icmp_le (tgt := 12) hx hb dX6_brick_6 (by decide) (fun c_2 => ?_) (fun c_2 => ?_)
    · refine lv_aload_n hx hb dX6_brick_12 rfl (lv_at hl 0 rfl) ?_
      refine va_get (D := (dC, dI)) (ci := 6) (v := .ref hc) (C := RX6) (T := TX6) (N := 7) hx hb hts hiX6 hown hK hP 0 rfl rfl 3 (by decide) (hts (.fieldLink RX6 32 "LeftProfile" "court" "LLeftProfile$Court;") (List.mem_of_getElem? (i := 1) rfl)) (fun _ h9 => h9) rfl dX6_brick_13 ?_
      refine va_get (D := (dC, dI)) (ci := 0) (v := .int (-1)) (C := RX0) (T := TX0) (N := 8) hx hb hts hiX0 hown hK hP 1 rfl rfl 0 (by decide) (hts (.fieldLink RX6 91 "LeftProfile$Court" "stance" "I") (List.mem_of_getElem? (i := 2) rfl)) (fun _ h9 => h9) rfl dX6_brick_16 ?_
      refine lv_iconst (v := (-1)) hx hb dX6_brick_19 (by decide) ?_
      refine lv_icmp_ne (tgt := 26) hx hb dX6_brick_20 (by decide) (fun c => absurd (by decide) c) (fun _ => ?_)
      refine lv_bipush (v := (-103)) hx hb dX6_brick_23 (by decide) ?_
      exact W.iret (v := (-103)) hx hb hr (fun t ht hW => ⟨(-103), rfl, (c_X6_brick_a2 p0 c_1 c_2), ht⟩) (fun _ h => absurd h List.not_mem_nil) dX6_brick_25
    · refine lv_bipush (v := (-102)) hx hb dX6_brick_9 (by decide) ?_
      exact W.iret (v := (-102)) hx hb hr (fun t ht hW => ⟨(-102), rfl, (c_X6_brick_a3 p0 c_1 c_2), ht⟩) (fun _ h => absurd h List.not_mem_nil) dX6_brick_11

theorem c_X6_way_a1 (p0 : Int32) (p1 : Int32) (hr_1 : ¬ cz_in 0 p0 19) : ((-101) : Int32) = cz_r2 p0 p1 1 := by first | (subst_vars; rfl) | ((try simp only [cz_rl, cz_ron, cz_r2, cz_r1, cz_rr, cz_rw, cz_rc]) <;> (repeat' split) <;> (first | rfl | ((try simp only [cz_in, cz_lt, cz_le, cz_eq, cz_l] at *) <;> (first | omega | (simp_all; done)))))
theorem c_X6_way_a2 (p0 : Int32) (p1 : Int32) (hr_1 : cz_in 0 p0 19) (c_2 : p1 < 0) : ((-102) : Int32) = cz_r2 p0 p1 1 := by first | (subst_vars; rfl) | ((try simp only [cz_rl, cz_ron, cz_r2, cz_r1, cz_rr, cz_rw, cz_rc]) <;> (repeat' split) <;> (first | rfl | ((try simp only [cz_in, cz_lt, cz_le, cz_eq, cz_l] at *) <;> (first | omega | (simp_all; done)))))
theorem c_X6_way_a3 (p0 : Int32) (p1 : Int32) (hr_1 : cz_in 0 p0 19) (c_2 : ¬ p1 < 0) (c_3 : p1 ≤ 1) : ((-103) : Int32) = cz_r2 p0 p1 1 := by first | (subst_vars; rfl) | ((try simp only [cz_rl, cz_ron, cz_r2, cz_r1, cz_rr, cz_rw, cz_rc]) <;> (repeat' split) <;> (first | rfl | ((try simp only [cz_in, cz_lt, cz_le, cz_eq, cz_l] at *) <;> (first | omega | (simp_all; done)))))
theorem c_X6_way_a4 (p0 : Int32) (p1 : Int32) (hr_1 : cz_in 0 p0 19) (c_2 : ¬ p1 < 0) (c_3 : ¬ p1 ≤ 1) : ((-102) : Int32) = cz_r2 p0 p1 1 := by first | (subst_vars; rfl) | ((try simp only [cz_rl, cz_ron, cz_r2, cz_r1, cz_rr, cz_rw, cz_rc]) <;> (repeat' split) <;> (first | rfl | ((try simp only [cz_in, cz_lt, cz_le, cz_eq, cz_l] at *) <;> (first | omega | (simp_all; done)))))
set_option maxHeartbeats 4000000 in
set_option maxRecDepth 100000 in
theorem c_X6_way (l : Launch) (dC : Nat → ClassId) (dI : Nat → Nat → Nat) (cI cB : ClassId) (h0 : Nat) (p0 : Int32) (p1 : Int32) (hp : Nat) (hs : Nat) (hh : Nat) (hc : Nat) (kp : Nat) (rt : Nat) (k1 : Nat) (k2 : Nat) (k3 : Nat) (k4 : Nat) (k5 : Nat) : Met l yX6_way wsX6_way ({ frames := 1, cells := 0, slots := 0, locals := 20 }) (cz_Pp dC dI cI cB [.ref h0, .int p0, .int p1] [(h0, .inr (6, [.ref hp, .ref hs, .ref hh, .ref hc, .ref kp, .ref rt, .int 0])), (hc, .inr (0, [.int (-1), .int 0, .int 0, .ref k1, .ref k2, .ref k3, .ref k4, .ref k5]))]) (vp_Si (fun r : Int32 => r = cz_r2 p0 p1 1)) 0 0 (fun _ => False) := by
  refine Met.ofW (cc := cX6_way) (maxL := 4) (ret := (some .int)) (by decide) rfl ?_
  intro p e s m args below meth c s₁ B hml hv
  obtain ⟨rfl, hP, hN⟩ := hv
  have hx := B.exec
  have hb := B.bytes
  have hr := B.returns
  have hts := atoms_spec (ws := wsX6_way) B.pre
  have hown : s.vm.findClass RX6 = some m.cls := findClass_of_methodNamed B.named
  have hlocks := B.notSynchronized
  have hK := hN.1
  have hiX0 : ∀ w ∈ wsX00, w ∈ wsX6_way := (fun _ h => List.mem_cons_of_mem _ (List.mem_append_left _ (List.mem_append_left _ (List.mem_append_left _ (List.mem_append_left _ (List.mem_append_right _ h))))))
  have hiX6 : ∀ w ∈ wsX60, w ∈ wsX6_way := (fun _ h => List.mem_cons_of_mem _ (List.mem_append_left _ (List.mem_append_left _ (List.mem_append_left _ (List.mem_append_left _ (List.mem_append_left _ (List.mem_append_right _ h)))))))
  have hl := lv_entry ([.ref h0, .int p0, .int p1]) (n := 4) (Nat.le_of_ble_eq_true rfl)
  rw [lg_entry_eq]
  generalize (lg_sl ([.ref h0, .int p0, .int p1]) ++ List.replicate (4 - (lg_sl ([.ref h0, .int p0, .int p1])).length) Slot.unset).toArray = ls at hl ⊢
  have hl : lv_has ls 4 [(0, .ref h0), (1, .int p0), (2, .int p1)] := hl
  refine lv_iload_n hx hb dX6_way_0 rfl (lv_at hl 1 rfl) ?_
  refine vp_callSi (cz_run (va_runS (As := [.int p0]) (rest := []) ⟨hx, hb, hml, hown, hts⟩ (c_X6_isPlace l dC dI cI cB p0 ) (va_cwS 1 hts gX6_way_X6_isPlace rfl rfl rfl (by decide +kernel) ⟨Nat.le_of_ble_eq_true rfl, Nat.le_of_ble_eq_true rfl⟩) (cz_pS (hP.sub (ws' := []) [] rfl) hN) rfl rfl hl.1 rfl (lv_room (Nat.le_of_ble_eq_true rfl)) dX6_way_1 ⟨Nat.le_of_ble_eq_true rfl, Nat.le_of_ble_eq_true rfl⟩)) (fun r_1 hr_1 => ?_)
  rcases hr_1 with ⟨rfl, hr_1⟩ | ⟨rfl, hr_1⟩
  · refine lv_if_ne (tgt := 10) hx hb dX6_way_4 (by decide) (fun c => absurd (by decide) c) (fun _ => ?_)
    refine lv_bipush (v := (-101)) hx hb dX6_way_7 (by decide) ?_
    exact W.iret (v := (-101)) hx hb hr (fun t ht hW => ⟨(-101), rfl, (c_X6_way_a1 p0 p1 hr_1), ht⟩) (fun _ h => absurd h List.not_mem_nil) dX6_way_9
  · refine lv_if_ne (tgt := 10) hx hb dX6_way_4 (by decide) (fun _ => ?_) (fun c => absurd c (by decide))
    refine lv_iload_n hx hb dX6_way_10 rfl (lv_at hl 2 rfl) ?_
    refine lv_if_lt (tgt := 19) hx hb dX6_way_11 (by decide) (fun c_2 => ?_) (fun c_2 => ?_)
    · refine lv_bipush (v := (-102)) hx hb dX6_way_19 (by decide) ?_
      exact W.iret (v := (-102)) hx hb hr (fun t ht hW => ⟨(-102), rfl, (c_X6_way_a2 p0 p1 hr_1 c_2), ht⟩) (fun _ h => absurd h List.not_mem_nil) dX6_way_21
    · refine lv_iload_n hx hb dX6_way_14 rfl (lv_at hl 2 rfl) ?_
      refine lv_iconst (v := 1) hx hb dX6_way_15 (by decide) ?_
      refine lv_icmp_le (tgt := 22) hx hb dX6_way_16 (by decide) (fun c_3 => ?_) (fun c_3 => ?_)
      · refine lv_aload_n hx hb dX6_way_22 rfl (lv_at hl 0 rfl) ?_
        refine va_get (D := (dC, dI)) (ci := 6) (v := .ref hc) (C := RX6) (T := TX6) (N := 7) hx hb hts hiX6 hown hK hP 0 rfl rfl 3 (by decide) (hts (.fieldLink RX6 32 "LeftProfile" "court" "LLeftProfile$Court;") (List.mem_of_getElem? (i := 1) rfl)) (fun _ h9 => h9) rfl dX6_way_23 ?_
        refine va_get (D := (dC, dI)) (ci := 0) (v := .int (-1)) (C := RX0) (T := TX0) (N := 8) hx hb hts hiX0 hown hK hP 1 rfl rfl 0 (by decide) (hts (.fieldLink RX6 91 "LeftProfile$Court" "stance" "I") (List.mem_of_getElem? (i := 2) rfl)) (fun _ h9 => h9) rfl dX6_way_26 ?_
        refine lv_iconst (v := (-1)) hx hb dX6_way_29 (by decide) ?_
        refine lv_icmp_ne (tgt := 36) hx hb dX6_way_30 (by decide) (fun c => absurd (by decide) c) (fun _ => ?_)
        refine lv_bipush (v := (-103)) hx hb dX6_way_33 (by decide) ?_
        exact W.iret (v := (-103)) hx hb hr (fun t ht hW => ⟨(-103), rfl, (c_X6_way_a3 p0 p1 hr_1 c_2 c_3), ht⟩) (fun _ h => absurd h List.not_mem_nil) dX6_way_35
      · refine lv_bipush (v := (-102)) hx hb dX6_way_19 (by decide) ?_
        exact W.iret (v := (-102)) hx hb hr (fun t ht hW => ⟨(-102), rfl, (c_X6_way_a4 p0 p1 hr_1 c_2 c_3), ht⟩) (fun _ h => absurd h List.not_mem_nil) dX6_way_21

set_option maxHeartbeats 4000000 in
set_option maxRecDepth 100000 in
theorem c_X6_told (l : Launch) (dC : Nat → ClassId) (dI : Nat → Nat → Nat) (cI cB : ClassId) (h0 : Nat) (p0 : Int32) (p1 : Int32) (hp : Nat) (hs : Nat) (hh : Nat) (hc : Nat) (kp : Nat) (rt : Nat) (k1 : Nat) (k2 : Nat) (k3 : Nat) (k4 : Nat) (k5 : Nat) : Met l yX6_told wsX6_told ({ frames := 1, cells := 0, slots := 0, locals := 21 }) (cz_Pp dC dI cI cB [.ref h0, .int p0, .int p1] [(h0, .inr (6, [.ref hp, .ref hs, .ref hh, .ref hc, .ref kp, .ref rt, .int 0])), (hc, .inr (0, [.int (-1), .int 0, .int 0, .ref k1, .ref k2, .ref k3, .ref k4, .ref k5]))]) (vp_Si (fun r : Int32 => r = (-101))) 0 0 (fun _ => False) := by
  refine Met.ofW (cc := cX6_told) (maxL := 4) (ret := (some .int)) (by decide) rfl ?_
  intro p e s m args below meth c s₁ B hml hv
  obtain ⟨rfl, hP, hN⟩ := hv
  have hx := B.exec
  have hb := B.bytes
  have hr := B.returns
  have hts := atoms_spec (ws := wsX6_told) B.pre
  have hown : s.vm.findClass RX6 = some m.cls := findClass_of_methodNamed B.named
  have hlocks := B.notSynchronized
  have hK := hN.1
  have hiX6 : ∀ w ∈ wsX60, w ∈ wsX6_told := (fun _ h => List.mem_cons_of_mem _ (List.mem_append_left _ (List.mem_append_right _ h)))
  have hl := lv_entry ([.ref h0, .int p0, .int p1]) (n := 4) (Nat.le_of_ble_eq_true rfl)
  rw [lg_entry_eq]
  generalize (lg_sl ([.ref h0, .int p0, .int p1]) ++ List.replicate (4 - (lg_sl ([.ref h0, .int p0, .int p1])).length) Slot.unset).toArray = ls at hl ⊢
  have hl : lv_has ls 4 [(0, .ref h0), (1, .int p0), (2, .int p1)] := hl
  refine lv_aload_n hx hb dX6_told_0 rfl (lv_at hl 0 rfl) ?_
  refine va_get (D := (dC, dI)) (ci := 6) (v := .ref hc) (C := RX6) (T := TX6) (N := 7) hx hb hts hiX6 hown hK hP 0 rfl rfl 3 (by decide) (hts (.fieldLink RX6 32 "LeftProfile" "court" "LLeftProfile$Court;") (List.mem_of_getElem? (i := 1) rfl)) (fun _ h9 => h9) rfl dX6_told_1 ?_
  refine lv_iload_n hx hb dX6_told_4 rfl (lv_at hl 1 rfl) ?_
  refine vp_callSi (cz_run (va_runV (As := [.int p0]) (rest := []) ⟨hx, hb, hml, hown, hts⟩ (c_X0_has0 l dC dI cI cB hc p0 (-1) 0 k1 k2 k3 k4 k5 ) (cwV 1 hts gX6_told_X0_has rfl rfl rfl (by decide +kernel) ⟨Nat.le_of_ble_eq_true rfl, Nat.le_of_ble_eq_true rfl⟩) (cz_pV (hP.sub (ws' := [(hc, .inr (0, [.int (-1), .int 0, .int 0, .ref k1, .ref k2, .ref k3, .ref k4, .ref k5]))]) [1] rfl) hN (va_recv hK (hP.sub (ws' := [(hc, .inr (0, [.int (-1), .int 0, .int 0, .ref k1, .ref k2, .ref k3, .ref k4, .ref k5]))]) [1] rfl) (ci := 0) (q0 := 0) rfl rfl)) rfl rfl hl.1 rfl (lv_room (Nat.le_of_ble_eq_true rfl)) dX6_told_5 ⟨Nat.le_of_ble_eq_true rfl, Nat.le_of_ble_eq_true rfl⟩)) (fun r_1 hr_1 => ?_)
  obtain ⟨rfl, hr_1⟩ := hr_1
  refine lv_if_ne (tgt := 14) hx hb dX6_told_8 (by decide) (fun c => absurd (by decide) c) (fun _ => ?_)
  refine lv_bipush (v := (-101)) hx hb dX6_told_11 (by decide) ?_
  exact W.iret (v := (-101)) hx hb hr (fun t ht hW => ⟨(-101), rfl, rfl, ht⟩) (fun _ h => absurd h List.not_mem_nil) dX6_told_13

theorem c_X6_stood_a1 (p0 : Int32) (c_1 : p0 < 0) : ((-102) : Int32) = cz_r1 p0 2 := by first | (subst_vars; rfl) | ((try simp only [cz_rl, cz_ron, cz_r2, cz_r1, cz_rr, cz_rw, cz_rc]) <;> (repeat' split) <;> (first | rfl | ((try simp only [cz_in, cz_lt, cz_le, cz_eq, cz_l] at *) <;> (first | omega | (simp_all; done)))))
theorem c_X6_stood_a2 (p0 : Int32) (c_1 : ¬ p0 < 0) (c_2 : p0 ≤ 2) : ((-103) : Int32) = cz_r1 p0 2 := by first | (subst_vars; rfl) | ((try simp only [cz_rl, cz_ron, cz_r2, cz_r1, cz_rr, cz_rw, cz_rc]) <;> (repeat' split) <;> (first | rfl | ((try simp only [cz_in, cz_lt, cz_le, cz_eq, cz_l] at *) <;> (first | omega | (simp_all; done)))))
theorem c_X6_stood_a3 (p0 : Int32) (c_1 : ¬ p0 < 0) (c_2 : ¬ p0 ≤ 2) : ((-102) : Int32) = cz_r1 p0 2 := by first | (subst_vars; rfl) | ((try simp only [cz_rl, cz_ron, cz_r2, cz_r1, cz_rr, cz_rw, cz_rc]) <;> (repeat' split) <;> (first | rfl | ((try simp only [cz_in, cz_lt, cz_le, cz_eq, cz_l] at *) <;> (first | omega | (simp_all; done)))))
set_option maxHeartbeats 4000000 in
set_option maxRecDepth 100000 in
theorem c_X6_stood (l : Launch) (dC : Nat → ClassId) (dI : Nat → Nat → Nat) (cI cB : ClassId) (h0 : Nat) (p0 : Int32) (hp : Nat) (hs : Nat) (hh : Nat) (hc : Nat) (kp : Nat) (rt : Nat) : Met l yX6_stood wsX6_stood ({ frames := 1, cells := 0, slots := 0, locals := 20 }) (cz_Pp dC dI cI cB [.ref h0, .int p0] [(h0, .inr (6, [.ref hp, .ref hs, .ref hh, .ref hc, .ref kp, .ref rt, .int 0])), (hh, .inr (1, [.int 0, .int 0, .int 0]))]) (vp_Si (fun r : Int32 => r = cz_r1 p0 2)) 0 0 (fun _ => False) := by
  refine Met.ofW (cc := cX6_stood) (maxL := 2) (ret := (some .int)) (by decide) rfl ?_
  intro p e s m args below meth c s₁ B hml hv
  obtain ⟨rfl, hP, hN⟩ := hv
  have hx := B.exec
  have hb := B.bytes
  have hr := B.returns
  have hts := atoms_spec (ws := wsX6_stood) B.pre
  have hown : s.vm.findClass RX6 = some m.cls := findClass_of_methodNamed B.named
  have hlocks := B.notSynchronized
  have hK := hN.1
  have hiX6 : ∀ w ∈ wsX60, w ∈ wsX6_stood := (fun _ h => List.mem_cons_of_mem _ (List.mem_append_left _ (List.mem_append_left _ (List.mem_append_left _ (List.mem_append_left _ (List.mem_append_right _ h))))))
  have hl := lv_entry ([.ref h0, .int p0]) (n := 2) (Nat.le_of_ble_eq_true rfl)
  rw [lg_entry_eq]
  generalize (lg_sl ([.ref h0, .int p0]) ++ List.replicate (2 - (lg_sl ([.ref h0, .int p0])).length) Slot.unset).toArray = ls at hl ⊢
  have hl : lv_has ls 2 [(0, .ref h0), (1, .int p0)] := hl
  refine lv_iload_n hx hb dX6_stood_0 rfl (lv_at hl 1 rfl) ?_
  refine lv_if_lt (tgt := 9) hx hb dX6_stood_1 (by decide) (fun c_1 => ?_) (fun c_1 => ?_)
  · refine lv_bipush (v := (-102)) hx hb dX6_stood_9 (by decide) ?_
    exact W.iret (v := (-102)) hx hb hr (fun t ht hW => ⟨(-102), rfl, (c_X6_stood_a1 p0 c_1), ht⟩) (fun _ h => absurd h List.not_mem_nil) dX6_stood_11
  · refine lv_iload_n hx hb dX6_stood_4 rfl (lv_at hl 1 rfl) ?_
    refine lv_iconst (v := 2) hx hb dX6_stood_5 (by decide) ?_
    refine lv_icmp_le (tgt := 12) hx hb dX6_stood_6 (by decide) (fun c_2 => ?_) (fun c_2 => ?_)
    · refine lv_aload_n hx hb dX6_stood_12 rfl (lv_at hl 0 rfl) ?_
      refine va_get (D := (dC, dI)) (ci := 6) (v := .ref hh) (C := RX6) (T := TX6) (N := 7) hx hb hts hiX6 hown hK hP 0 rfl rfl 2 (by decide) (hts (.fieldLink RX6 27 "LeftProfile" "hall" "LLeftProfile$Hall;") (List.mem_of_getElem? (i := 1) rfl)) (fun _ h9 => h9) rfl dX6_stood_13 ?_
      refine vp_callSi (cz_run (va_runV (As := []) (rest := []) ⟨hx, hb, hml, hown, hts⟩ (c_X1_isMissing l dC dI cI cB hh 0 0 0 ) (cwV 0 hts gX6_stood_X1_isMissing rfl rfl rfl (by decide +kernel) ⟨Nat.le_of_ble_eq_true rfl, Nat.le_of_ble_eq_true rfl⟩) (cz_pV (hP.sub (ws' := [(hh, .inr (1, [.int 0, .int 0, .int 0]))]) [1] rfl) hN (va_recv hK (hP.sub (ws' := [(hh, .inr (1, [.int 0, .int 0, .int 0]))]) [1] rfl) (ci := 1) (q0 := 0) rfl rfl)) rfl rfl hl.1 rfl (lv_room (Nat.le_of_ble_eq_true rfl)) dX6_stood_16 ⟨Nat.le_of_ble_eq_true rfl, Nat.le_of_ble_eq_true rfl⟩)) (fun r_3 hr_3 => ?_)
      rcases hr_3 with ⟨rfl, hr_3⟩ | ⟨rfl, hr_3⟩
      · exact absurd hr_3 (by decide)
      · refine lv_if_eq (tgt := 25) hx hb dX6_stood_19 (by decide) (fun c => absurd c (by decide)) (fun _ => ?_)
        refine lv_bipush (v := (-103)) hx hb dX6_stood_22 (by decide) ?_
        exact W.iret (v := (-103)) hx hb hr (fun t ht hW => ⟨(-103), rfl, (c_X6_stood_a2 p0 c_1 c_2), ht⟩) (fun _ h => absurd h List.not_mem_nil) dX6_stood_24
    · refine lv_bipush (v := (-102)) hx hb dX6_stood_9 (by decide) ?_
      exact W.iret (v := (-102)) hx hb hr (fun t ht hW => ⟨(-102), rfl, (c_X6_stood_a3 p0 c_1 c_2), ht⟩) (fun _ h => absurd h List.not_mem_nil) dX6_stood_11

theorem c_X6_walk_a1 (p0 : Int32) (p1 : Int32) (p2 : Int32) (c_1 : p0 < 1) : ((-102) : Int32) = cz_rw p0 p1 p2 := by first | (subst_vars; rfl) | ((try simp only [cz_rl, cz_ron, cz_r2, cz_r1, cz_rr, cz_rw, cz_rc]) <;> (repeat' split) <;> (first | rfl | ((try simp only [cz_in, cz_lt, cz_le, cz_eq, cz_l] at *) <;> (first | omega | (simp_all; done)))))
theorem c_X6_walk_a2 (p0 : Int32) (p1 : Int32) (p2 : Int32) (c_1 : ¬ p0 < 1) (c_2 : 60 < p0) : ((-102) : Int32) = cz_rw p0 p1 p2 := by first | (subst_vars; rfl) | ((try simp only [cz_rl, cz_ron, cz_r2, cz_r1, cz_rr, cz_rw, cz_rc]) <;> (repeat' split) <;> (first | rfl | ((try simp only [cz_in, cz_lt, cz_le, cz_eq, cz_l] at *) <;> (first | omega | (simp_all; done)))))
theorem c_X6_walk_a3 (p0 : Int32) (p1 : Int32) (p2 : Int32) (c_1 : ¬ p0 < 1) (c_2 : ¬ 60 < p0) (c_3 : p1 < 0) : ((-102) : Int32) = cz_rw p0 p1 p2 := by first | (subst_vars; rfl) | ((try simp only [cz_rl, cz_ron, cz_r2, cz_r1, cz_rr, cz_rw, cz_rc]) <;> (repeat' split) <;> (first | rfl | ((try simp only [cz_in, cz_lt, cz_le, cz_eq, cz_l] at *) <;> (first | omega | (simp_all; done)))))
theorem c_X6_walk_a4 (p0 : Int32) (p1 : Int32) (p2 : Int32) (c_1 : ¬ p0 < 1) (c_2 : ¬ 60 < p0) (c_3 : ¬ p1 < 0) (c_4 : p2 < 0) : ((-102) : Int32) = cz_rw p0 p1 p2 := by first | (subst_vars; rfl) | ((try simp only [cz_rl, cz_ron, cz_r2, cz_r1, cz_rr, cz_rw, cz_rc]) <;> (repeat' split) <;> (first | rfl | ((try simp only [cz_in, cz_lt, cz_le, cz_eq, cz_l] at *) <;> (first | omega | (simp_all; done)))))
theorem c_X6_walk_a5 (p0 : Int32) (p1 : Int32) (p2 : Int32) (c_1 : ¬ p0 < 1) (c_2 : ¬ 60 < p0) (c_3 : ¬ p1 < 0) (c_4 : ¬ p2 < 0) (c_5 : p2 ≤ 3) : ((-103) : Int32) = cz_rw p0 p1 p2 := by first | (subst_vars; rfl) | ((try simp only [cz_rl, cz_ron, cz_r2, cz_r1, cz_rr, cz_rw, cz_rc]) <;> (repeat' split) <;> (first | rfl | ((try simp only [cz_in, cz_lt, cz_le, cz_eq, cz_l] at *) <;> (first | omega | (simp_all; done)))))
theorem c_X6_walk_a6 (p0 : Int32) (p1 : Int32) (p2 : Int32) (c_1 : ¬ p0 < 1) (c_2 : ¬ 60 < p0) (c_3 : ¬ p1 < 0) (c_4 : ¬ p2 < 0) (c_5 : ¬ p2 ≤ 3) : ((-102) : Int32) = cz_rw p0 p1 p2 := by first | (subst_vars; rfl) | ((try simp only [cz_rl, cz_ron, cz_r2, cz_r1, cz_rr, cz_rw, cz_rc]) <;> (repeat' split) <;> (first | rfl | ((try simp only [cz_in, cz_lt, cz_le, cz_eq, cz_l] at *) <;> (first | omega | (simp_all; done)))))
set_option maxHeartbeats 4000000 in
set_option maxRecDepth 100000 in
theorem c_X6_walk (l : Launch) (dC : Nat → ClassId) (dI : Nat → Nat → Nat) (cI cB : ClassId) (h0 : Nat) (p0 : Int32) (p1 : Int32) (p2 : Int32) (hp : Nat) (hs : Nat) (hh : Nat) (hc : Nat) (kp : Nat) (rt : Nat) (k1 : Nat) (k2 : Nat) (k3 : Nat) (k4 : Nat) (k5 : Nat) : Met l yX6_walk wsX6_walk ({ frames := 0, cells := 0, slots := 0, locals := 0 }) (cz_Pp dC dI cI cB [.ref h0, .int p0, .int p1, .int p2] [(h0, .inr (6, [.ref hp, .ref hs, .ref hh, .ref hc, .ref kp, .ref rt, .int 0])), (hc, .inr (0, [.int (-1), .int 0, .int 0, .ref k1, .ref k2, .ref k3, .ref k4, .ref k5]))]) (vp_Si (fun r : Int32 => r = cz_rw p0 p1 p2)) 0 0 (fun _ => False) := by
  refine Met.ofW (cc := cX6_walk) (maxL := 4) (ret := (some .int)) (by decide) rfl ?_
  intro p e s m args below meth c s₁ B hml hv
  obtain ⟨rfl, hP, hN⟩ := hv
  have hx := B.exec
  have hb := B.bytes
  have hr := B.returns
  have hts := atoms_spec (ws := wsX6_walk) B.pre
  have hown : s.vm.findClass RX6 = some m.cls := findClass_of_methodNamed B.named
  have hlocks := B.notSynchronized
  have hK := hN.1
  have hiX0 : ∀ w ∈ wsX00, w ∈ wsX6_walk := (fun _ h => List.mem_cons_of_mem _ (List.mem_append_left _ (List.mem_append_left _ (List.mem_append_left _ (List.mem_append_right _ h)))))
  have hiX6 : ∀ w ∈ wsX60, w ∈ wsX6_walk := (fun _ h => List.mem_cons_of_mem _ (List.mem_append_left _ (List.mem_append_left _ (List.mem_append_left _ (List.mem_append_left _ (List.mem_append_right _ h))))))
  have hl := lv_entry ([.ref h0, .int p0, .int p1, .int p2]) (n := 4) (Nat.le_of_ble_eq_true rfl)
  rw [lg_entry_eq]
  generalize (lg_sl ([.ref h0, .int p0, .int p1, .int p2]) ++ List.replicate (4 - (lg_sl ([.ref h0, .int p0, .int p1, .int p2])).length) Slot.unset).toArray = ls at hl ⊢
  have hl : lv_has ls 4 [(0, .ref h0), (1, .int p0), (2, .int p1), (3, .int p2)] := hl
  refine lv_iload_n hx hb dX6_walk_0 rfl (lv_at hl 1 rfl) ?_
  refine lv_iconst (v := 1) hx hb dX6_walk_1 (by decide) ?_
  refine lv_icmp_lt (tgt := 24) hx hb dX6_walk_2 (by decide) (fun c_1 => ?_) (fun c_1 => ?_)
  · refine lv_bipush (v := (-102)) hx hb dX6_walk_24 (by decide) ?_
    exact W.iret (v := (-102)) hx hb hr (fun t ht hW => ⟨(-102), rfl, (c_X6_walk_a1 p0 p1 p2 c_1), ht⟩) (fun _ h => absurd h List.not_mem_nil) dX6_walk_26
  · refine lv_iload_n hx hb dX6_walk_5 rfl (lv_at hl 1 rfl) ?_
    refine lv_bipush (v := 60) hx hb dX6_walk_6 (by decide) ?_
    refine lv_icmp_gt (tgt := 24) hx hb dX6_walk_8 (by decide) (fun c_2 => ?_) (fun c_2 => ?_)
    · refine lv_bipush (v := (-102)) hx hb dX6_walk_24 (by decide) ?_
      exact W.iret (v := (-102)) hx hb hr (fun t ht hW => ⟨(-102), rfl, (c_X6_walk_a2 p0 p1 p2 c_1 c_2), ht⟩) (fun _ h => absurd h List.not_mem_nil) dX6_walk_26
    · refine lv_iload_n hx hb dX6_walk_11 rfl (lv_at hl 2 rfl) ?_
      refine lv_if_lt (tgt := 24) hx hb dX6_walk_12 (by decide) (fun c_3 => ?_) (fun c_3 => ?_)
      · refine lv_bipush (v := (-102)) hx hb dX6_walk_24 (by decide) ?_
        exact W.iret (v := (-102)) hx hb hr (fun t ht hW => ⟨(-102), rfl, (c_X6_walk_a3 p0 p1 p2 c_1 c_2 c_3), ht⟩) (fun _ h => absurd h List.not_mem_nil) dX6_walk_26
      · refine lv_iload_n hx hb dX6_walk_15 rfl (lv_at hl 3 rfl) ?_
        refine lv_if_lt (tgt := 24) hx hb dX6_walk_16 (by decide) (fun c_4 => ?_) (fun c_4 => ?_)
        · refine lv_bipush (v := (-102)) hx hb dX6_walk_24 (by decide) ?_
          exact W.iret (v := (-102)) hx hb hr (fun t ht hW => ⟨(-102), rfl, (c_X6_walk_a4 p0 p1 p2 c_1 c_2 c_3 c_4), ht⟩) (fun _ h => absurd h List.not_mem_nil) dX6_walk_26
        · refine lv_iload_n hx hb dX6_walk_19 rfl (lv_at hl 3 rfl) ?_
          refine lv_iconst (v := 3) hx hb dX6_walk_20 (by decide) ?_
          refine lv_icmp_le (tgt := 27) hx hb dX6_walk_21 (by decide) (fun c_5 => ?_) (fun c_5 => ?_)
          · refine lv_aload_n hx hb dX6_walk_27 rfl (lv_at hl 0 rfl) ?_
            refine va_get (D := (dC, dI)) (ci := 6) (v := .ref hc) (C := RX6) (T := TX6) (N := 7) hx hb hts hiX6 hown hK hP 0 rfl rfl 3 (by decide) (hts (.fieldLink RX6 32 "LeftProfile" "court" "LLeftProfile$Court;") (List.mem_of_getElem? (i := 1) rfl)) (fun _ h9 => h9) rfl dX6_walk_28 ?_
            refine va_get (D := (dC, dI)) (ci := 0) (v := .int (-1)) (C := RX0) (T := TX0) (N := 8) hx hb hts hiX0 hown hK hP 1 rfl rfl 0 (by decide) (hts (.fieldLink RX6 91 "LeftProfile$Court" "stance" "I") (List.mem_of_getElem? (i := 2) rfl)) (fun _ h9 => h9) rfl dX6_walk_31 ?_
            refine lv_iconst (v := (-1)) hx hb dX6_walk_34 (by decide) ?_
            refine lv_icmp_ne (tgt := 41) hx hb dX6_walk_35 (by decide) (fun c => absurd (by decide) c) (fun _ => ?_)
            refine lv_bipush (v := (-103)) hx hb dX6_walk_38 (by decide) ?_
            exact W.iret (v := (-103)) hx hb hr (fun t ht hW => ⟨(-103), rfl, (c_X6_walk_a5 p0 p1 p2 c_1 c_2 c_3 c_4 c_5), ht⟩) (fun _ h => absurd h List.not_mem_nil) dX6_walk_40
          · refine lv_bipush (v := (-102)) hx hb dX6_walk_24 (by decide) ?_
            exact W.iret (v := (-102)) hx hb hr (fun t ht hW => ⟨(-102), rfl, (c_X6_walk_a6 p0 p1 p2 c_1 c_2 c_3 c_4 c_5), ht⟩) (fun _ h => absurd h List.not_mem_nil) dX6_walk_26

set_option maxHeartbeats 4000000 in
set_option maxRecDepth 100000 in
theorem c_X6_image (l : Launch) (dC : Nat → ClassId) (dI : Nat → Nat → Nat) (cI cB : ClassId) (h0 : Nat) (hp : Nat) (hs : Nat) (hh : Nat) (hc : Nat) (kp : Nat) (rt : Nat) : Met l yX6_image wsX6_image ({ frames := 1, cells := 0, slots := 0, locals := 20 }) (cz_Pp dC dI cI cB [.ref h0] [(h0, .inr (6, [.ref hp, .ref hs, .ref hh, .ref hc, .ref kp, .ref rt, .int 0])), (hh, .inr (1, [.int 0, .int 0, .int 0]))]) (vp_Si (fun r : Int32 => r = (-103))) 0 0 (fun _ => False) := by
  refine Met.ofW (cc := cX6_image) (maxL := 1) (ret := (some .int)) (by decide) rfl ?_
  intro p e s m args below meth c s₁ B hml hv
  obtain ⟨rfl, hP, hN⟩ := hv
  have hx := B.exec
  have hb := B.bytes
  have hr := B.returns
  have hts := atoms_spec (ws := wsX6_image) B.pre
  have hown : s.vm.findClass RX6 = some m.cls := findClass_of_methodNamed B.named
  have hlocks := B.notSynchronized
  have hK := hN.1
  have hiX6 : ∀ w ∈ wsX60, w ∈ wsX6_image := (fun _ h => List.mem_cons_of_mem _ (List.mem_append_left _ (List.mem_append_left _ (List.mem_append_right _ h))))
  have hl := lv_entry ([.ref h0]) (n := 1) (Nat.le_of_ble_eq_true rfl)
  rw [lg_entry_eq]
  generalize (lg_sl ([.ref h0]) ++ List.replicate (1 - (lg_sl ([.ref h0])).length) Slot.unset).toArray = ls at hl ⊢
  have hl : lv_has ls 1 [(0, .ref h0)] := hl
  refine lv_aload_n hx hb dX6_image_0 rfl (lv_at hl 0 rfl) ?_
  refine va_get (D := (dC, dI)) (ci := 6) (v := .ref hh) (C := RX6) (T := TX6) (N := 7) hx hb hts hiX6 hown hK hP 0 rfl rfl 2 (by decide) (hts (.fieldLink RX6 27 "LeftProfile" "hall" "LLeftProfile$Hall;") (List.mem_of_getElem? (i := 1) rfl)) (fun _ h9 => h9) rfl dX6_image_1 ?_
  refine vp_callSi (cz_run (va_runV (As := []) (rest := []) ⟨hx, hb, hml, hown, hts⟩ (c_X1_isMissing l dC dI cI cB hh 0 0 0 ) (cwV 0 hts gX6_image_X1_isMissing rfl rfl rfl (by decide +kernel) ⟨Nat.le_of_ble_eq_true rfl, Nat.le_of_ble_eq_true rfl⟩) (cz_pV (hP.sub (ws' := [(hh, .inr (1, [.int 0, .int 0, .int 0]))]) [1] rfl) hN (va_recv hK (hP.sub (ws' := [(hh, .inr (1, [.int 0, .int 0, .int 0]))]) [1] rfl) (ci := 1) (q0 := 0) rfl rfl)) rfl rfl hl.1 rfl (lv_room (Nat.le_of_ble_eq_true rfl)) dX6_image_4 ⟨Nat.le_of_ble_eq_true rfl, Nat.le_of_ble_eq_true rfl⟩)) (fun r_1 hr_1 => ?_)
  rcases hr_1 with ⟨rfl, hr_1⟩ | ⟨rfl, hr_1⟩
  · exact absurd hr_1 (by decide)
  · refine lv_if_eq (tgt := 13) hx hb dX6_image_7 (by decide) (fun c => absurd c (by decide)) (fun _ => ?_)
    refine lv_bipush (v := (-103)) hx hb dX6_image_10 (by decide) ?_
    exact W.iret (v := (-103)) hx hb hr (fun t ht hW => ⟨(-103), rfl, rfl, ht⟩) (fun _ h => absurd h List.not_mem_nil) dX6_image_12

set_option maxHeartbeats 4000000 in
set_option maxRecDepth 100000 in
theorem c_X6_restore (l : Launch) (dC : Nat → ClassId) (dI : Nat → Nat → Nat) (cI cB : ClassId) (h0 : Nat) (hp : Nat) (hs : Nat) (hh : Nat) (hc : Nat) (kp : Nat) (rt : Nat) : Met l yX6_restore wsX6_restore ({ frames := 0, cells := 0, slots := 0, locals := 0 }) (cz_Pp dC dI cI cB [.ref h0] [(h0, .inr (6, [.ref hp, .ref hs, .ref hh, .ref hc, .ref kp, .ref rt, .int 0]))]) (vp_Si (fun r : Int32 => r = (-103))) 0 0 (fun _ => False) := by
  refine Met.ofW (cc := cX6_restore) (maxL := 1) (ret := (some .int)) (by decide) rfl ?_
  intro p e s m args below meth c s₁ B hml hv
  obtain ⟨rfl, hP, hN⟩ := hv
  have hx := B.exec
  have hb := B.bytes
  have hr := B.returns
  have hts := atoms_spec (ws := wsX6_restore) B.pre
  have hown : s.vm.findClass RX6 = some m.cls := findClass_of_methodNamed B.named
  have hlocks := B.notSynchronized
  have hK := hN.1
  have hiX6 : ∀ w ∈ wsX60, w ∈ wsX6_restore := (fun _ h => List.mem_cons_of_mem _ (List.mem_append_left _ (List.mem_append_left _ (List.mem_append_right _ h))))
  have hl := lv_entry ([.ref h0]) (n := 1) (Nat.le_of_ble_eq_true rfl)
  rw [lg_entry_eq]
  generalize (lg_sl ([.ref h0]) ++ List.replicate (1 - (lg_sl ([.ref h0])).length) Slot.unset).toArray = ls at hl ⊢
  have hl : lv_has ls 1 [(0, .ref h0)] := hl
  refine lv_aload_n hx hb dX6_restore_0 rfl (lv_at hl 0 rfl) ?_
  refine va_get (D := (dC, dI)) (ci := 6) (v := .int 0) (C := RX6) (T := TX6) (N := 7) hx hb hts hiX6 hown hK hP 0 rfl rfl 6 (by decide) (hts (.fieldLink RX6 46 "LeftProfile" "keptReading" "I") (List.mem_of_getElem? (i := 1) rfl)) (fun _ h9 => h9) rfl dX6_restore_1 ?_
  refine lv_if_eq (tgt := 21) hx hb dX6_restore_4 (by decide) (fun _ => ?_) (fun c => absurd (by decide) c)
  refine lv_bipush (v := (-103)) hx hb dX6_restore_21 (by decide) ?_
  exact W.iret (v := (-103)) hx hb hr (fun t ht hW => ⟨(-103), rfl, rfl, ht⟩) (fun _ h => absurd h List.not_mem_nil) dX6_restore_23

theorem c_X6_count_a1 (p0 : Int32) (c_1 : p0 = 0) : (0 : Int32) = cz_rc p0 := by first | (subst_vars; rfl) | ((try simp only [cz_rl, cz_ron, cz_r2, cz_r1, cz_rr, cz_rw, cz_rc]) <;> (repeat' split) <;> (first | rfl | ((try simp only [cz_in, cz_lt, cz_le, cz_eq, cz_l] at *) <;> (first | omega | (simp_all; done)))))
theorem c_X6_count_a2 (p0 : Int32) (c_1 : p0 = 1) : (0 : Int32) = cz_rc p0 := by first | (subst_vars; rfl) | ((try simp only [cz_rl, cz_ron, cz_r2, cz_r1, cz_rr, cz_rw, cz_rc]) <;> (repeat' split) <;> (first | rfl | ((try simp only [cz_in, cz_lt, cz_le, cz_eq, cz_l] at *) <;> (first | omega | (simp_all; done)))))
theorem c_X6_count_a3 (p0 : Int32) (c_1 : p0 = 2) : ((-1) : Int32) = cz_rc p0 := by first | (subst_vars; rfl) | ((try simp only [cz_rl, cz_ron, cz_r2, cz_r1, cz_rr, cz_rw, cz_rc]) <;> (repeat' split) <;> (first | rfl | ((try simp only [cz_in, cz_lt, cz_le, cz_eq, cz_l] at *) <;> (first | omega | (simp_all; done)))))
theorem c_X6_count_a4 (p0 : Int32) (c_1 : p0 = 3) : ((-1) : Int32) = cz_rc p0 := by first | (subst_vars; rfl) | ((try simp only [cz_rl, cz_ron, cz_r2, cz_r1, cz_rr, cz_rw, cz_rc]) <;> (repeat' split) <;> (first | rfl | ((try simp only [cz_in, cz_lt, cz_le, cz_eq, cz_l] at *) <;> (first | omega | (simp_all; done)))))
theorem c_X6_count_a5 (p0 : Int32) (c_1 : p0 = 4) : (0 : Int32) = cz_rc p0 := by first | (subst_vars; rfl) | ((try simp only [cz_rl, cz_ron, cz_r2, cz_r1, cz_rr, cz_rw, cz_rc]) <;> (repeat' split) <;> (first | rfl | ((try simp only [cz_in, cz_lt, cz_le, cz_eq, cz_l] at *) <;> (first | omega | (simp_all; done)))))
theorem c_X6_count_a6 (p0 : Int32) (c_1 : p0 = 5) : (0 : Int32) = cz_rc p0 := by first | (subst_vars; rfl) | ((try simp only [cz_rl, cz_ron, cz_r2, cz_r1, cz_rr, cz_rw, cz_rc]) <;> (repeat' split) <;> (first | rfl | ((try simp only [cz_in, cz_lt, cz_le, cz_eq, cz_l] at *) <;> (first | omega | (simp_all; done)))))
theorem c_X6_count_a7 (p0 : Int32) (c_1 : p0 = 6) : (0 : Int32) = cz_rc p0 := by first | (subst_vars; rfl) | ((try simp only [cz_rl, cz_ron, cz_r2, cz_r1, cz_rr, cz_rw, cz_rc]) <;> (repeat' split) <;> (first | rfl | ((try simp only [cz_in, cz_lt, cz_le, cz_eq, cz_l] at *) <;> (first | omega | (simp_all; done)))))
theorem c_X6_count_a8 (p0 : Int32) (c_1 : p0 = 7) : (0 : Int32) = cz_rc p0 := by first | (subst_vars; rfl) | ((try simp only [cz_rl, cz_ron, cz_r2, cz_r1, cz_rr, cz_rw, cz_rc]) <;> (repeat' split) <;> (first | rfl | ((try simp only [cz_in, cz_lt, cz_le, cz_eq, cz_l] at *) <;> (first | omega | (simp_all; done)))))
theorem c_X6_count_a9 (p0 : Int32) (c_1 : p0 = 8) : (0 : Int32) = cz_rc p0 := by first | (subst_vars; rfl) | ((try simp only [cz_rl, cz_ron, cz_r2, cz_r1, cz_rr, cz_rw, cz_rc]) <;> (repeat' split) <;> (first | rfl | ((try simp only [cz_in, cz_lt, cz_le, cz_eq, cz_l] at *) <;> (first | omega | (simp_all; done)))))
theorem c_X6_count_a10 (p0 : Int32) (c_1 : p0.toInt < 0 ∨ 8 < p0.toInt) : ((-102) : Int32) = cz_rc p0 := by first | (subst_vars; rfl) | ((try simp only [cz_rl, cz_ron, cz_r2, cz_r1, cz_rr, cz_rw, cz_rc]) <;> (repeat' split) <;> (first | rfl | ((try simp only [cz_in, cz_lt, cz_le, cz_eq, cz_l] at *) <;> (first | omega | (simp_all; done)))))
set_option maxHeartbeats 4000000 in
set_option maxRecDepth 100000 in
theorem c_X6_count (l : Launch) (dC : Nat → ClassId) (dI : Nat → Nat → Nat) (cI cB : ClassId) (h0 : Nat) (p0 : Int32) (hp : Nat) (hs : Nat) (hh : Nat) (hc : Nat) (kp : Nat) (rt : Nat) (k1 : Nat) (k2 : Nat) (k3 : Nat) (k4 : Nat) (k5 : Nat) (si : Nat) (cd : Nat) : Met l yX6_count wsX6_count ({ frames := 2, cells := 0, slots := 0, locals := 47 }) (cz_Pp dC dI cI cB [.ref h0, .int p0] [(h0, .inr (6, [.ref hp, .ref hs, .ref hh, .ref hc, .ref kp, .ref rt, .int 0])), (hh, .inr (1, [.int 0, .int 0, .int 0])), (hc, .inr (0, [.int (-1), .int 0, .int 0, .ref k1, .ref k2, .ref k3, .ref k4, .ref k5])), (hs, .inr (4, [.ref hh, .ref hc, .ref si])), (hp, .inr (2, [.ref cd, .int 0]))]) (vp_Si (fun r : Int32 => r = cz_rc p0)) 0 0 (fun _ => False) := by
  refine Met.ofW (cc := cX6_count) (maxL := 2) (ret := (some .int)) (by decide) rfl ?_
  intro p e s m args below meth c s₁ B hml hv
  obtain ⟨rfl, hP, hN⟩ := hv
  have hx := B.exec
  have hb := B.bytes
  have hr := B.returns
  have hts := atoms_spec (ws := wsX6_count) B.pre
  have hown : s.vm.findClass RX6 = some m.cls := findClass_of_methodNamed B.named
  have hlocks := B.notSynchronized
  have hK := hN.1
  have hiX0 : ∀ w ∈ wsX00, w ∈ wsX6_count := (fun _ h => List.mem_cons_of_mem _ (List.mem_append_left _ (List.mem_append_left _ (List.mem_append_left _ (List.mem_append_right _ h)))))
  have hiX1 : ∀ w ∈ wsX10, w ∈ wsX6_count := (fun _ h => List.mem_cons_of_mem _ (List.mem_append_left _ (List.mem_append_left _ (List.mem_append_left _ (List.mem_append_left _ (List.mem_append_right _ h))))))
  have hiX2 : ∀ w ∈ wsX20, w ∈ wsX6_count := (fun _ h => List.mem_cons_of_mem _ (List.mem_append_left _ (List.mem_append_left _ (List.mem_append_right _ h))))
  have hiX6 : ∀ w ∈ wsX60, w ∈ wsX6_count := (fun _ h => List.mem_cons_of_mem _ (List.mem_append_left _ (List.mem_append_left _ (List.mem_append_left _ (List.mem_append_left _ (List.mem_append_left _ (List.mem_append_right _ h)))))))
  have hl := lv_entry ([.ref h0, .int p0]) (n := 2) (Nat.le_of_ble_eq_true rfl)
  rw [lg_entry_eq]
  generalize (lg_sl ([.ref h0, .int p0]) ++ List.replicate (2 - (lg_sl ([.ref h0, .int p0])).length) Slot.unset).toArray = ls at hl ⊢
  have hl : lv_has ls 2 [(0, .ref h0), (1, .int p0)] := hl
  refine lv_iload_n hx hb dX6_count_0 rfl (lv_at hl 1 rfl) ?_
  rcases cz_sw_0_8 p0 with c_1 | c_1 | c_1 | c_1 | c_1 | c_1 | c_1 | c_1 | c_1 | c_1
  · refine lv_tableIn (off := 51) (tgt := 52) hx hb dX6_count_1 (by rw [c_1]; decide) (by rw [c_1]; decide) (by rw [c_1]; decide) (by decide) ?_
    refine lv_aload_n hx hb dX6_count_52 rfl (lv_at hl 0 rfl) ?_
    refine va_get (D := (dC, dI)) (ci := 6) (v := .ref hh) (C := RX6) (T := TX6) (N := 7) hx hb hts hiX6 hown hK hP 0 rfl rfl 2 (by decide) (hts (.fieldLink RX6 27 "LeftProfile" "hall" "LLeftProfile$Hall;") (List.mem_of_getElem? (i := 1) rfl)) (fun _ h9 => h9) rfl dX6_count_53 ?_
    refine va_get (D := (dC, dI)) (ci := 1) (v := .int 0) (C := RX1) (T := TX1) (N := 3) hx hb hts hiX1 hown hK hP 1 rfl rfl 1 (by decide) (hts (.fieldLink RX6 74 "LeftProfile$Hall" "floors" "I") (List.mem_of_getElem? (i := 2) rfl)) (fun _ h9 => h9) rfl dX6_count_56 ?_
    exact W.iret (v := 0) hx hb hr (fun t ht hW => ⟨0, rfl, (c_X6_count_a1 p0 c_1), ht⟩) (fun _ h => absurd h List.not_mem_nil) dX6_count_59
  · refine lv_tableIn (off := 59) (tgt := 60) hx hb dX6_count_1 (by rw [c_1]; decide) (by rw [c_1]; decide) (by rw [c_1]; decide) (by decide) ?_
    refine lv_aload_n hx hb dX6_count_60 rfl (lv_at hl 0 rfl) ?_
    refine va_get (D := (dC, dI)) (ci := 6) (v := .ref hc) (C := RX6) (T := TX6) (N := 7) hx hb hts hiX6 hown hK hP 0 rfl rfl 3 (by decide) (hts (.fieldLink RX6 32 "LeftProfile" "court" "LLeftProfile$Court;") (List.mem_of_getElem? (i := 3) rfl)) (fun _ h9 => h9) rfl dX6_count_61 ?_
    refine va_get (D := (dC, dI)) (ci := 0) (v := .int 0) (C := RX0) (T := TX0) (N := 8) hx hb hts hiX0 hown hK hP 2 rfl rfl 2 (by decide) (hts (.fieldLink RX6 194 "LeftProfile$Court" "size" "I") (List.mem_of_getElem? (i := 4) rfl)) (fun _ h9 => h9) rfl dX6_count_64 ?_
    exact W.iret (v := 0) hx hb hr (fun t ht hW => ⟨0, rfl, (c_X6_count_a2 p0 c_1), ht⟩) (fun _ h => absurd h List.not_mem_nil) dX6_count_67
  · refine lv_tableIn (off := 67) (tgt := 68) hx hb dX6_count_1 (by rw [c_1]; decide) (by rw [c_1]; decide) (by rw [c_1]; decide) (by decide) ?_
    refine lv_aload_n hx hb dX6_count_68 rfl (lv_at hl 0 rfl) ?_
    refine va_get (D := (dC, dI)) (ci := 6) (v := .ref hc) (C := RX6) (T := TX6) (N := 7) hx hb hts hiX6 hown hK hP 0 rfl rfl 3 (by decide) (hts (.fieldLink RX6 32 "LeftProfile" "court" "LLeftProfile$Court;") (List.mem_of_getElem? (i := 3) rfl)) (fun _ h9 => h9) rfl dX6_count_69 ?_
    refine va_get (D := (dC, dI)) (ci := 0) (v := .int (-1)) (C := RX0) (T := TX0) (N := 8) hx hb hts hiX0 hown hK hP 2 rfl rfl 0 (by decide) (hts (.fieldLink RX6 91 "LeftProfile$Court" "stance" "I") (List.mem_of_getElem? (i := 5) rfl)) (fun _ h9 => h9) rfl dX6_count_72 ?_
    refine vp_callSi (cz_run (va_runS (As := [.int (-1)]) (rest := []) ⟨hx, hb, hml, hown, hts⟩ (c_X6_placeOf l dC dI cI cB (-1) ) (va_cwS 1 hts gX6_count_X6_placeOf rfl rfl rfl (by decide +kernel) ⟨Nat.le_of_ble_eq_true rfl, Nat.le_of_ble_eq_true rfl⟩) (cz_pS (hP.sub (ws' := []) [] rfl) hN) rfl rfl hl.1 rfl (lv_room (Nat.le_of_ble_eq_true rfl)) dX6_count_75 ⟨Nat.le_of_ble_eq_true rfl, Nat.le_of_ble_eq_true rfl⟩)) (fun r_2 hr_2 => ?_)
    obtain rfl : r_2 = (-1) := hr_2.trans (by decide)
    exact W.iret (v := (-1)) hx hb hr (fun t ht hW => ⟨(-1), rfl, (c_X6_count_a3 p0 c_1), ht⟩) (fun _ h => absurd h List.not_mem_nil) dX6_count_78
  · refine lv_tableIn (off := 78) (tgt := 79) hx hb dX6_count_1 (by rw [c_1]; decide) (by rw [c_1]; decide) (by rw [c_1]; decide) (by decide) ?_
    refine lv_aload_n hx hb dX6_count_79 rfl (lv_at hl 0 rfl) ?_
    refine va_get (D := (dC, dI)) (ci := 6) (v := .ref hc) (C := RX6) (T := TX6) (N := 7) hx hb hts hiX6 hown hK hP 0 rfl rfl 3 (by decide) (hts (.fieldLink RX6 32 "LeftProfile" "court" "LLeftProfile$Court;") (List.mem_of_getElem? (i := 3) rfl)) (fun _ h9 => h9) rfl dX6_count_80 ?_
    refine va_get (D := (dC, dI)) (ci := 0) (v := .int (-1)) (C := RX0) (T := TX0) (N := 8) hx hb hts hiX0 hown hK hP 2 rfl rfl 0 (by decide) (hts (.fieldLink RX6 91 "LeftProfile$Court" "stance" "I") (List.mem_of_getElem? (i := 5) rfl)) (fun _ h9 => h9) rfl dX6_count_83 ?_
    refine vp_callSi (cz_run (va_runS (As := [.int (-1)]) (rest := []) ⟨hx, hb, hml, hown, hts⟩ (c_X6_sideOf l dC dI cI cB (-1) ) (va_cwS 1 hts gX6_count_X6_sideOf rfl rfl rfl (by decide +kernel) ⟨Nat.le_of_ble_eq_true rfl, Nat.le_of_ble_eq_true rfl⟩) (cz_pS (hP.sub (ws' := []) [] rfl) hN) rfl rfl hl.1 rfl (lv_room (Nat.le_of_ble_eq_true rfl)) dX6_count_86 ⟨Nat.le_of_ble_eq_true rfl, Nat.le_of_ble_eq_true rfl⟩)) (fun r_3 hr_3 => ?_)
    obtain rfl : r_3 = (-1) := hr_3.trans (by decide)
    exact W.iret (v := (-1)) hx hb hr (fun t ht hW => ⟨(-1), rfl, (c_X6_count_a4 p0 c_1), ht⟩) (fun _ h => absurd h List.not_mem_nil) dX6_count_89
  · refine lv_tableIn (off := 89) (tgt := 90) hx hb dX6_count_1 (by rw [c_1]; decide) (by rw [c_1]; decide) (by rw [c_1]; decide) (by decide) ?_
    refine lv_aload_n hx hb dX6_count_90 rfl (lv_at hl 0 rfl) ?_
    refine va_get (D := (dC, dI)) (ci := 6) (v := .ref hs) (C := RX6) (T := TX6) (N := 7) hx hb hts hiX6 hown hK hP 0 rfl rfl 1 (by decide) (hts (.fieldLink RX6 19 "LeftProfile" "scene" "LLeftProfile$Scene;") (List.mem_of_getElem? (i := 6) rfl)) (fun _ h9 => h9) rfl dX6_count_91 ?_
    refine lv_aload_n hx hb dX6_count_94 rfl (lv_at hl 0 rfl) ?_
    refine va_get (D := (dC, dI)) (ci := 6) (v := .ref hc) (C := RX6) (T := TX6) (N := 7) hx hb hts hiX6 hown hK hP 0 rfl rfl 3 (by decide) (hts (.fieldLink RX6 32 "LeftProfile" "court" "LLeftProfile$Court;") (List.mem_of_getElem? (i := 3) rfl)) (fun _ h9 => h9) rfl dX6_count_95 ?_
    refine va_get (D := (dC, dI)) (ci := 0) (v := .int (-1)) (C := RX0) (T := TX0) (N := 8) hx hb hts hiX0 hown hK hP 2 rfl rfl 0 (by decide) (hts (.fieldLink RX6 91 "LeftProfile$Court" "stance" "I") (List.mem_of_getElem? (i := 5) rfl)) (fun _ h9 => h9) rfl dX6_count_98 ?_
    refine lv_aload_n hx hb dX6_count_101 rfl (lv_at hl 0 rfl) ?_
    refine va_get (D := (dC, dI)) (ci := 6) (v := .ref hh) (C := RX6) (T := TX6) (N := 7) hx hb hts hiX6 hown hK hP 0 rfl rfl 2 (by decide) (hts (.fieldLink RX6 27 "LeftProfile" "hall" "LLeftProfile$Hall;") (List.mem_of_getElem? (i := 1) rfl)) (fun _ h9 => h9) rfl dX6_count_102 ?_
    refine va_get (D := (dC, dI)) (ci := 1) (v := .int 0) (C := RX1) (T := TX1) (N := 3) hx hb hts hiX1 hown hK hP 1 rfl rfl 0 (by decide) (hts (.fieldLink RX6 84 "LeftProfile$Hall" "walls" "I") (List.mem_of_getElem? (i := 7) rfl)) (fun _ h9 => h9) rfl dX6_count_105 ?_
    refine vp_callSi (cz_run (va_runV (As := [.int (-1), .int 0]) (rest := []) ⟨hx, hb, hml, hown, hts⟩ (c_X4_guiltyIf0 l dC dI cI cB hs (-1) 0 hh hc si (-1) 0 k1 k2 k3 k4 k5 ) (cwV 2 hts gX6_count_X4_guiltyIf rfl rfl rfl (by decide +kernel) ⟨Nat.le_of_ble_eq_true rfl, Nat.le_of_ble_eq_true rfl⟩) (cz_pV (hP.sub (ws' := [(hs, .inr (4, [.ref hh, .ref hc, .ref si])), (hc, .inr (0, [.int (-1), .int 0, .int 0, .ref k1, .ref k2, .ref k3, .ref k4, .ref k5]))]) [3, 2] rfl) hN (va_recv hK (hP.sub (ws' := [(hs, .inr (4, [.ref hh, .ref hc, .ref si])), (hc, .inr (0, [.int (-1), .int 0, .int 0, .ref k1, .ref k2, .ref k3, .ref k4, .ref k5]))]) [3, 2] rfl) (ci := 4) (q0 := 0) rfl rfl)) rfl rfl hl.1 rfl (lv_room (Nat.le_of_ble_eq_true rfl)) dX6_count_108 ⟨Nat.le_of_ble_eq_true rfl, Nat.le_of_ble_eq_true rfl⟩)) (fun r_4 hr_4 => ?_)
    obtain rfl : r_4 = 0 := hr_4
    refine vp_callSi (cz_run (va_runS (As := [.int 0]) (rest := []) ⟨hx, hb, hml, hown, hts⟩ (c_J6_bitCount_0f7a4 l dC dI cI cB 0 ) (va_cwS 1 hts gX6_count_J6_bitCount_0f7a4 rfl rfl rfl (by decide +kernel) ⟨Nat.le_of_ble_eq_true rfl, Nat.le_of_ble_eq_true rfl⟩) (cz_pS (hP.sub (ws' := []) [] rfl) hN) rfl rfl hl.1 rfl (lv_room (Nat.le_of_ble_eq_true rfl)) dX6_count_111 ⟨Nat.le_of_ble_eq_true rfl, Nat.le_of_ble_eq_true rfl⟩)) (fun r_5 hr_5 => ?_)
    obtain rfl : r_5 = 0 := hr_5.trans (by decide)
    exact W.iret (v := 0) hx hb hr (fun t ht hW => ⟨0, rfl, (c_X6_count_a5 p0 c_1), ht⟩) (fun _ h => absurd h List.not_mem_nil) dX6_count_114
  · refine lv_tableIn (off := 114) (tgt := 115) hx hb dX6_count_1 (by rw [c_1]; decide) (by rw [c_1]; decide) (by rw [c_1]; decide) (by decide) ?_
    refine lv_aload_n hx hb dX6_count_115 rfl (lv_at hl 0 rfl) ?_
    refine va_get (D := (dC, dI)) (ci := 6) (v := .ref hc) (C := RX6) (T := TX6) (N := 7) hx hb hts hiX6 hown hK hP 0 rfl rfl 3 (by decide) (hts (.fieldLink RX6 32 "LeftProfile" "court" "LLeftProfile$Court;") (List.mem_of_getElem? (i := 3) rfl)) (fun _ h9 => h9) rfl dX6_count_116 ?_
    refine vp_callSi (cz_run (va_runV (As := []) (rest := []) ⟨hx, hb, hml, hown, hts⟩ (c_X0_howManyTold0 l dC dI cI cB hc (-1) 0 k1 k2 k3 k4 k5 ) (cwV 0 hts gX6_count_X0_howManyTold rfl rfl rfl (by decide +kernel) ⟨Nat.le_of_ble_eq_true rfl, Nat.le_of_ble_eq_true rfl⟩) (cz_pV (hP.sub (ws' := [(hc, .inr (0, [.int (-1), .int 0, .int 0, .ref k1, .ref k2, .ref k3, .ref k4, .ref k5]))]) [2] rfl) hN (va_recv hK (hP.sub (ws' := [(hc, .inr (0, [.int (-1), .int 0, .int 0, .ref k1, .ref k2, .ref k3, .ref k4, .ref k5]))]) [2] rfl) (ci := 0) (q0 := 0) rfl rfl)) rfl rfl hl.1 rfl (lv_room (Nat.le_of_ble_eq_true rfl)) dX6_count_119 ⟨Nat.le_of_ble_eq_true rfl, Nat.le_of_ble_eq_true rfl⟩)) (fun r_6 hr_6 => ?_)
    obtain rfl : r_6 = 0 := hr_6
    exact W.iret (v := 0) hx hb hr (fun t ht hW => ⟨0, rfl, (c_X6_count_a6 p0 c_1), ht⟩) (fun _ h => absurd h List.not_mem_nil) dX6_count_122
  · refine lv_tableIn (off := 122) (tgt := 123) hx hb dX6_count_1 (by rw [c_1]; decide) (by rw [c_1]; decide) (by rw [c_1]; decide) (by decide) ?_
    refine lv_aload_n hx hb dX6_count_123 rfl (lv_at hl 0 rfl) ?_
    refine va_get (D := (dC, dI)) (ci := 6) (v := .ref hc) (C := RX6) (T := TX6) (N := 7) hx hb hts hiX6 hown hK hP 0 rfl rfl 3 (by decide) (hts (.fieldLink RX6 32 "LeftProfile" "court" "LLeftProfile$Court;") (List.mem_of_getElem? (i := 3) rfl)) (fun _ h9 => h9) rfl dX6_count_124 ?_
    refine va_get (D := (dC, dI)) (ci := 0) (v := .int 0) (C := RX0) (T := TX0) (N := 8) hx hb hts hiX0 hown hK hP 2 rfl rfl 1 (by decide) (hts (.fieldLink RX6 147 "LeftProfile$Court" "acts" "I") (List.mem_of_getElem? (i := 8) rfl)) (fun _ h9 => h9) rfl dX6_count_127 ?_
    exact W.iret (v := 0) hx hb hr (fun t ht hW => ⟨0, rfl, (c_X6_count_a7 p0 c_1), ht⟩) (fun _ h => absurd h List.not_mem_nil) dX6_count_130
  · refine lv_tableIn (off := 130) (tgt := 131) hx hb dX6_count_1 (by rw [c_1]; decide) (by rw [c_1]; decide) (by rw [c_1]; decide) (by decide) ?_
    refine lv_aload_n hx hb dX6_count_131 rfl (lv_at hl 0 rfl) ?_
    refine va_get (D := (dC, dI)) (ci := 6) (v := .ref hp) (C := RX6) (T := TX6) (N := 7) hx hb hts hiX6 hown hK hP 0 rfl rfl 0 (by decide) (hts (.fieldLink RX6 12 "LeftProfile" "page" "LLeftProfile$Page;") (List.mem_of_getElem? (i := 9) rfl)) (fun _ h9 => h9) rfl dX6_count_132 ?_
    refine va_get (D := (dC, dI)) (ci := 2) (v := .int 0) (C := RX2) (T := TX2) (N := 2) hx hb hts hiX2 hown hK hP 4 rfl rfl 1 (by decide) (hts (.fieldLink RX6 203 "LeftProfile$Page" "size" "I") (List.mem_of_getElem? (i := 10) rfl)) (fun _ h9 => h9) rfl dX6_count_135 ?_
    exact W.iret (v := 0) hx hb hr (fun t ht hW => ⟨0, rfl, (c_X6_count_a8 p0 c_1), ht⟩) (fun _ h => absurd h List.not_mem_nil) dX6_count_138
  · refine lv_tableIn (off := 138) (tgt := 139) hx hb dX6_count_1 (by rw [c_1]; decide) (by rw [c_1]; decide) (by rw [c_1]; decide) (by decide) ?_
    refine lv_aload_n hx hb dX6_count_139 rfl (lv_at hl 0 rfl) ?_
    refine va_get (D := (dC, dI)) (ci := 6) (v := .ref hh) (C := RX6) (T := TX6) (N := 7) hx hb hts hiX6 hown hK hP 0 rfl rfl 2 (by decide) (hts (.fieldLink RX6 27 "LeftProfile" "hall" "LLeftProfile$Hall;") (List.mem_of_getElem? (i := 1) rfl)) (fun _ h9 => h9) rfl dX6_count_140 ?_
    refine va_get (D := (dC, dI)) (ci := 1) (v := .int 0) (C := RX1) (T := TX1) (N := 3) hx hb hts hiX1 hown hK hP 1 rfl rfl 2 (by decide) (hts (.fieldLink RX6 191 "LeftProfile$Hall" "readings" "I") (List.mem_of_getElem? (i := 11) rfl)) (fun _ h9 => h9) rfl dX6_count_143 ?_
    exact W.iret (v := 0) hx hb hr (fun t ht hW => ⟨0, rfl, (c_X6_count_a9 p0 c_1), ht⟩) (fun _ h => absurd h List.not_mem_nil) dX6_count_146
  · refine lv_tableOut (tgt := 147) hx hb dX6_count_1 c_1 (by decide) ?_
    refine lv_bipush (v := (-102)) hx hb dX6_count_147 (by decide) ?_
    exact W.iret (v := (-102)) hx hb hr (fun t ht hW => ⟨(-102), rfl, (c_X6_count_a10 p0 c_1), ht⟩) (fun _ h => absurd h List.not_mem_nil) dX6_count_149

set_option maxHeartbeats 4000000 in
set_option maxRecDepth 100000 in
theorem c_X6_mixedCourtiers (l : Launch) (dC : Nat → ClassId) (dI : Nat → Nat → Nat) (cI cB : ClassId) (h0 : Nat) (p0 : Int64) (hp : Nat) (hs : Nat) (hh : Nat) (hc : Nat) (kp : Nat) (rt : Nat) (k1 : Nat) (k2 : Nat) (k3 : Nat) (k4 : Nat) (k5 : Nat) : Met l yX6_mixedCourtiers wsX6_mixedCourtiers ({ frames := 0, cells := 0, slots := 0, locals := 0 }) (cz_Pp dC dI cI cB [.ref h0, .long p0] [(h0, .inr (6, [.ref hp, .ref hs, .ref hh, .ref hc, .ref kp, .ref rt, .int 0])), (hc, .inr (0, [.int (-1), .int 0, .int 0, .ref k1, .ref k2, .ref k3, .ref k4, .ref k5]))]) (vp_Sl (fun r : Int64 => r = p0)) 0 0 (fun _ => False) := by
  refine Met.ofW (cc := cX6_mixedCourtiers) (maxL := 7) (ret := (some .long)) (by decide) rfl ?_
  intro p e s m args below meth c s₁ B hml hv
  obtain ⟨rfl, hP, hN⟩ := hv
  have hx := B.exec
  have hb := B.bytes
  have hr := B.returns
  have hts := atoms_spec (ws := wsX6_mixedCourtiers) B.pre
  have hown : s.vm.findClass RX6 = some m.cls := findClass_of_methodNamed B.named
  have hlocks := B.notSynchronized
  have hK := hN.1
  have hiX0 : ∀ w ∈ wsX00, w ∈ wsX6_mixedCourtiers := (fun _ h => List.mem_cons_of_mem _ (List.mem_append_left _ (List.mem_append_left _ (List.mem_append_left _ (List.mem_append_right _ h)))))
  have hiX6 : ∀ w ∈ wsX60, w ∈ wsX6_mixedCourtiers := (fun _ h => List.mem_cons_of_mem _ (List.mem_append_left _ (List.mem_append_left _ (List.mem_append_left _ (List.mem_append_left _ (List.mem_append_right _ h))))))
  have hl := lv_entry ([.ref h0, .long p0]) (n := 7) (Nat.le_of_ble_eq_true rfl)
  rw [lg_entry_eq]
  generalize (lg_sl ([.ref h0, .long p0]) ++ List.replicate (7 - (lg_sl ([.ref h0, .long p0])).length) Slot.unset).toArray = ls at hl ⊢
  have hl : lv_has ls 7 [(0, .ref h0), (1, .long p0)] := hl
  refine lv_lload_n hx hb dX6_mixedCourtiers_0 rfl (lv_at hl 1 rfl) ?_
  refine lv_lstore_n (lv' := [(3, .long p0), (0, .ref h0), (1, .long p0)]) hx hb dX6_mixedCourtiers_1 rfl hl (by decide) rfl (fun ls hl => ?_)
  refine lv_iconst (v := 0) hx hb dX6_mixedCourtiers_2 (by decide) ?_
  refine lv_istore (lv' := [(5, .int 0), (3, .long p0), (0, .ref h0), (1, .long p0)]) hx hb dX6_mixedCourtiers_3 hl (by decide) rfl (fun ls hl => ?_)
  refine lv_iload hx hb dX6_mixedCourtiers_5 (lv_at hl 0 rfl) ?_
  refine lv_aload_n hx hb dX6_mixedCourtiers_7 rfl (lv_at hl 2 rfl) ?_
  refine va_get (D := (dC, dI)) (ci := 6) (v := .ref hc) (C := RX6) (T := TX6) (N := 7) hx hb hts hiX6 hown hK hP 0 rfl rfl 3 (by decide) (hts (.fieldLink RX6 32 "LeftProfile" "court" "LLeftProfile$Court;") (List.mem_of_getElem? (i := 1) rfl)) (fun _ h9 => h9) rfl dX6_mixedCourtiers_8 ?_
  refine va_get (D := (dC, dI)) (ci := 0) (v := .int 0) (C := RX0) (T := TX0) (N := 8) hx hb hts hiX0 hown hK hP 1 rfl rfl 2 (by decide) (hts (.fieldLink RX6 194 "LeftProfile$Court" "size" "I") (List.mem_of_getElem? (i := 2) rfl)) (fun _ h9 => h9) rfl dX6_mixedCourtiers_11 ?_
  refine lv_icmp_ge (tgt := 66) hx hb dX6_mixedCourtiers_14 (by decide) (fun _ => ?_) (fun c => absurd (by decide) c)
  refine lv_lload_n hx hb dX6_mixedCourtiers_66 rfl (lv_at hl 1 rfl) ?_
  exact W.lret (v := p0) hx hb hr (fun t ht hW => ⟨p0, rfl, rfl, ht⟩) (fun _ h => absurd h List.not_mem_nil) dX6_mixedCourtiers_67

set_option maxHeartbeats 4000000 in
set_option maxRecDepth 100000 in
theorem c_X6_digest (l : Launch) (dC : Nat → ClassId) (dI : Nat → Nat → Nat) (cI cB : ClassId) (h0 : Nat) (hp : Nat) (hs : Nat) (hh : Nat) (hc : Nat) (kp : Nat) (rt : Nat) (k1 : Nat) (k2 : Nat) (k3 : Nat) (k4 : Nat) (k5 : Nat) (si : Nat) (cd : Nat) : Met l yX6_digest wsX6_digest ({ frames := 3, cells := 0, slots := 0, locals := 68 }) (cz_Pp dC dI cI cB [.ref h0] [(h0, .inr (6, [.ref hp, .ref hs, .ref hh, .ref hc, .ref kp, .ref rt, .int 0])), (hh, .inr (1, [.int 0, .int 0, .int 0])), (hc, .inr (0, [.int (-1), .int 0, .int 0, .ref k1, .ref k2, .ref k3, .ref k4, .ref k5])), (hs, .inr (4, [.ref hh, .ref hc, .ref si])), (hp, .inr (2, [.ref cd, .int 0]))]) (vp_Sl (fun r : Int64 => r = 19010087417389617)) 0 0 (fun _ => False) := by
  refine Met.ofW (cc := cX6_digest) (maxL := 4) (ret := (some .long)) (by decide) rfl ?_
  intro p e s m args below meth c s₁ B hml hv
  obtain ⟨rfl, hP, hN⟩ := hv
  have hx := B.exec
  have hb := B.bytes
  have hr := B.returns
  have hts := atoms_spec (ws := wsX6_digest) B.pre
  have hown : s.vm.findClass RX6 = some m.cls := findClass_of_methodNamed B.named
  have hlocks := B.notSynchronized
  have hK := hN.1
  have hiX0 : ∀ w ∈ wsX00, w ∈ wsX6_digest := (fun _ h => List.mem_cons_of_mem _ (List.mem_append_left _ (List.mem_append_left _ (List.mem_append_left _ (List.mem_append_left _ (List.mem_append_left _ (List.mem_append_right _ h)))))))
  have hiX2 : ∀ w ∈ wsX20, w ∈ wsX6_digest := (fun _ h => List.mem_cons_of_mem _ (List.mem_append_left _ (List.mem_append_left _ (List.mem_append_left _ (List.mem_append_left _ (List.mem_append_right _ h))))))
  have hiX6 : ∀ w ∈ wsX60, w ∈ wsX6_digest := (fun _ h => List.mem_cons_of_mem _ (List.mem_append_left _ (List.mem_append_left _ (List.mem_append_left _ (List.mem_append_left _ (List.mem_append_left _ (List.mem_append_left _ (List.mem_append_right _ h))))))))
  have hl := lv_entry ([.ref h0]) (n := 4) (Nat.le_of_ble_eq_true rfl)
  rw [lg_entry_eq]
  generalize (lg_sl ([.ref h0]) ++ List.replicate (4 - (lg_sl ([.ref h0])).length) Slot.unset).toArray = ls at hl ⊢
  have hl : lv_has ls 4 [(0, .ref h0)] := hl
  refine lv_ldc2 (v := 719) hx hb hown (hts (.constantLong RX6 204 (719)) (List.mem_of_getElem? (i := 1) rfl)) dX6_digest_0 ?_
  refine lv_lstore_n (lv' := [(1, .long 719), (0, .ref h0)]) hx hb dX6_digest_3 rfl hl (by decide) rfl (fun ls hl => ?_)
  refine lv_aload_n hx hb dX6_digest_4 rfl (lv_at hl 1 rfl) ?_
  refine va_get (D := (dC, dI)) (ci := 6) (v := .ref hh) (C := RX6) (T := TX6) (N := 7) hx hb hts hiX6 hown hK hP 0 rfl rfl 2 (by decide) (hts (.fieldLink RX6 27 "LeftProfile" "hall" "LLeftProfile$Hall;") (List.mem_of_getElem? (i := 2) rfl)) (fun _ h9 => h9) rfl dX6_digest_5 ?_
  refine vp_callSi (cz_run (va_runV (As := []) (rest := []) ⟨hx, hb, hml, hown, hts⟩ (c_X1_isMissing l dC dI cI cB hh 0 0 0 ) (cwV 0 hts gX6_digest_X1_isMissing rfl rfl rfl (by decide +kernel) ⟨Nat.le_of_ble_eq_true rfl, Nat.le_of_ble_eq_true rfl⟩) (cz_pV (hP.sub (ws' := [(hh, .inr (1, [.int 0, .int 0, .int 0]))]) [1] rfl) hN (va_recv hK (hP.sub (ws' := [(hh, .inr (1, [.int 0, .int 0, .int 0]))]) [1] rfl) (ci := 1) (q0 := 0) rfl rfl)) rfl rfl hl.1 rfl (lv_room (Nat.le_of_ble_eq_true rfl)) dX6_digest_8 ⟨Nat.le_of_ble_eq_true rfl, Nat.le_of_ble_eq_true rfl⟩)) (fun r_1 hr_1 => ?_)
  rcases hr_1 with ⟨rfl, hr_1⟩ | ⟨rfl, hr_1⟩
  · exact absurd hr_1 (by decide)
  · refine lv_if_ne (tgt := 38) hx hb dX6_digest_11 (by decide) (fun _ => ?_) (fun c => absurd c (by decide))
    refine lv_aload_n hx hb dX6_digest_38 rfl (lv_at hl 1 rfl) ?_
    refine lv_lload_n hx hb dX6_digest_39 rfl (lv_at hl 0 rfl) ?_
    refine vp_callSl (cz_run (va_runV (As := [.long 719]) (rest := []) ⟨hx, hb, hml, hown, hts⟩ (c_X6_mixedCourtiers l dC dI cI cB h0 719 hp hs hh hc kp rt k1 k2 k3 k4 k5 ) (cwV 1 hts gX6_digest_X6_mixedCourtiers rfl rfl rfl (by decide +kernel) ⟨Nat.le_of_ble_eq_true rfl, Nat.le_of_ble_eq_true rfl⟩) (cz_pV (hP.sub (ws' := [(h0, .inr (6, [.ref hp, .ref hs, .ref hh, .ref hc, .ref kp, .ref rt, .int 0])), (hc, .inr (0, [.int (-1), .int 0, .int 0, .ref k1, .ref k2, .ref k3, .ref k4, .ref k5]))]) [0, 2] rfl) hN (va_recv hK (hP.sub (ws' := [(h0, .inr (6, [.ref hp, .ref hs, .ref hh, .ref hc, .ref kp, .ref rt, .int 0])), (hc, .inr (0, [.int (-1), .int 0, .int 0, .ref k1, .ref k2, .ref k3, .ref k4, .ref k5]))]) [0, 2] rfl) (ci := 6) (q0 := 0) rfl rfl)) rfl rfl hl.1 rfl (lv_room (Nat.le_of_ble_eq_true rfl)) dX6_digest_40 ⟨Nat.le_of_ble_eq_true rfl, Nat.le_of_ble_eq_true rfl⟩)) (fun r_2 hr_2 => ?_)
    obtain rfl : r_2 = 719 := hr_2
    refine lv_lstore_n (lv' := [(1, .long 719), (0, .ref h0)]) hx hb dX6_digest_43 rfl hl (by decide) rfl (fun ls hl => ?_)
    refine lv_aload_n hx hb dX6_digest_44 rfl (lv_at hl 1 rfl) ?_
    refine va_get (D := (dC, dI)) (ci := 6) (v := .ref hc) (C := RX6) (T := TX6) (N := 7) hx hb hts hiX6 hown hK hP 0 rfl rfl 3 (by decide) (hts (.fieldLink RX6 32 "LeftProfile" "court" "LLeftProfile$Court;") (List.mem_of_getElem? (i := 3) rfl)) (fun _ h9 => h9) rfl dX6_digest_45 ?_
    refine va_get (D := (dC, dI)) (ci := 0) (v := .int (-1)) (C := RX0) (T := TX0) (N := 8) hx hb hts hiX0 hown hK hP 2 rfl rfl 0 (by decide) (hts (.fieldLink RX6 91 "LeftProfile$Court" "stance" "I") (List.mem_of_getElem? (i := 4) rfl)) (fun _ h9 => h9) rfl dX6_digest_48 ?_
    refine lv_iconst (v := (-1)) hx hb dX6_digest_51 (by decide) ?_
    refine lv_icmp_eq (tgt := 114) hx hb dX6_digest_52 (by decide) (fun _ => ?_) (fun c => absurd (by decide) c)
    refine lv_aload_n hx hb dX6_digest_114 rfl (lv_at hl 1 rfl) ?_
    refine va_get (D := (dC, dI)) (ci := 6) (v := .ref hh) (C := RX6) (T := TX6) (N := 7) hx hb hts hiX6 hown hK hP 0 rfl rfl 2 (by decide) (hts (.fieldLink RX6 27 "LeftProfile" "hall" "LLeftProfile$Hall;") (List.mem_of_getElem? (i := 2) rfl)) (fun _ h9 => h9) rfl dX6_digest_115 ?_
    refine vp_callSi (cz_run (va_runV (As := []) (rest := []) ⟨hx, hb, hml, hown, hts⟩ (c_X1_isMissing l dC dI cI cB hh 0 0 0 ) (cwV 0 hts gX6_digest_X1_isMissing rfl rfl rfl (by decide +kernel) ⟨Nat.le_of_ble_eq_true rfl, Nat.le_of_ble_eq_true rfl⟩) (cz_pV (hP.sub (ws' := [(hh, .inr (1, [.int 0, .int 0, .int 0]))]) [1] rfl) hN (va_recv hK (hP.sub (ws' := [(hh, .inr (1, [.int 0, .int 0, .int 0]))]) [1] rfl) (ci := 1) (q0 := 0) rfl rfl)) rfl rfl hl.1 rfl (lv_room (Nat.le_of_ble_eq_true rfl)) dX6_digest_118 ⟨Nat.le_of_ble_eq_true rfl, Nat.le_of_ble_eq_true rfl⟩)) (fun r_3 hr_3 => ?_)
    rcases hr_3 with ⟨rfl, hr_3⟩ | ⟨rfl, hr_3⟩
    · exact absurd hr_3 (by decide)
    · refine lv_if_ne (tgt := 147) hx hb dX6_digest_121 (by decide) (fun _ => ?_) (fun c => absurd c (by decide))
      refine lv_iconst (v := 0) hx hb dX6_digest_147 (by decide) ?_
      refine lv_istore_n (lv' := [(3, .int 0), (1, .long 719), (0, .ref h0)]) hx hb dX6_digest_148 rfl hl (by decide) rfl (fun ls hl => ?_)
      refine lv_iload_n hx hb dX6_digest_149 rfl (lv_at hl 0 rfl) ?_
      refine lv_aload_n hx hb dX6_digest_150 rfl (lv_at hl 2 rfl) ?_
      refine va_get (D := (dC, dI)) (ci := 6) (v := .ref hp) (C := RX6) (T := TX6) (N := 7) hx hb hts hiX6 hown hK hP 0 rfl rfl 0 (by decide) (hts (.fieldLink RX6 12 "LeftProfile" "page" "LLeftProfile$Page;") (List.mem_of_getElem? (i := 5) rfl)) (fun _ h9 => h9) rfl dX6_digest_151 ?_
      refine va_get (D := (dC, dI)) (ci := 2) (v := .int 0) (C := RX2) (T := TX2) (N := 2) hx hb hts hiX2 hown hK hP 4 rfl rfl 1 (by decide) (hts (.fieldLink RX6 203 "LeftProfile$Page" "size" "I") (List.mem_of_getElem? (i := 6) rfl)) (fun _ h9 => h9) rfl dX6_digest_154 ?_
      refine lv_icmp_ge (tgt := 179) hx hb dX6_digest_157 (by decide) (fun _ => ?_) (fun c => absurd (by decide) c)
      refine lv_iconst (v := 0) hx hb dX6_digest_179 (by decide) ?_
      refine lv_istore_n (lv' := [(3, .int 0), (1, .long 719), (0, .ref h0)]) hx hb dX6_digest_180 rfl hl (by decide) rfl (fun ls hl => ?_)
      refine lv_iload_n hx hb dX6_digest_181 rfl (lv_at hl 0 rfl) ?_
      refine lv_bipush (v := 8) hx hb dX6_digest_182 (by decide) ?_
      refine lv_icmp_gt (tgt := 203) hx hb dX6_digest_184 (by decide) (fun c => absurd c (by decide)) (fun _ => ?_)
      refine lv_lload_n hx hb dX6_digest_187 rfl (lv_at hl 1 rfl) ?_
      refine lv_aload_n hx hb dX6_digest_188 rfl (lv_at hl 2 rfl) ?_
      refine lv_iload_n hx hb dX6_digest_189 rfl (lv_at hl 0 rfl) ?_
      refine vp_callSi (cz_run (va_runV (As := [.int 0]) (rest := [.long 719]) ⟨hx, hb, hml, hown, hts⟩ (c_X6_count l dC dI cI cB h0 0 hp hs hh hc kp rt k1 k2 k3 k4 k5 si cd ) (cwV 1 hts gX6_digest_X6_count rfl rfl rfl (by decide +kernel) ⟨Nat.le_of_ble_eq_true rfl, Nat.le_of_ble_eq_true rfl⟩) (cz_pV hP hN (va_recv hK hP (ci := 6) (q0 := 0) rfl rfl)) rfl rfl hl.1 rfl (lv_room (Nat.le_of_ble_eq_true rfl)) dX6_digest_190 ⟨Nat.le_of_ble_eq_true rfl, Nat.le_of_ble_eq_true rfl⟩)) (fun r_4 hr_4 => ?_)
      obtain rfl : r_4 = 0 := hr_4.trans (by decide)
      refine vp_callSl (cz_run (va_runS (As := [.long 719, .int 0]) (rest := []) ⟨hx, hb, hml, hown, hts⟩ (c_X6_mixed l dC dI cI cB 719 0 ) (va_cwS 2 hts gX6_digest_X6_mixed rfl rfl rfl (by decide +kernel) ⟨Nat.le_of_ble_eq_true rfl, Nat.le_of_ble_eq_true rfl⟩) (cz_pS (hP.sub (ws' := []) [] rfl) hN) rfl rfl hl.1 rfl (lv_room (Nat.le_of_ble_eq_true rfl)) dX6_digest_193 ⟨Nat.le_of_ble_eq_true rfl, Nat.le_of_ble_eq_true rfl⟩)) (fun r_5 hr_5 => ?_)
      obtain rfl : r_5 = 22289 := hr_5.trans (by decide)
      refine lv_lstore_n (lv' := [(1, .long 22289), (3, .int 0), (0, .ref h0)]) hx hb dX6_digest_196 rfl hl (by decide) rfl (fun ls hl => ?_)
      refine lv_iinc (v := 1) (lv' := [(3, .int 1), (1, .long 22289), (0, .ref h0)]) hx hb dX6_digest_197 hl (k := 1) rfl (by decide) (by decide) rfl (fun ls hl => ?_)
      refine lv_goto (tgt := 181) hx hb dX6_digest_200 (by decide) ?_
      refine lv_iload_n hx hb dX6_digest_181 rfl (lv_at hl 0 rfl) ?_
      refine lv_bipush (v := 8) hx hb dX6_digest_182 (by decide) ?_
      refine lv_icmp_gt (tgt := 203) hx hb dX6_digest_184 (by decide) (fun c => absurd c (by decide)) (fun _ => ?_)
      refine lv_lload_n hx hb dX6_digest_187 rfl (lv_at hl 1 rfl) ?_
      refine lv_aload_n hx hb dX6_digest_188 rfl (lv_at hl 2 rfl) ?_
      refine lv_iload_n hx hb dX6_digest_189 rfl (lv_at hl 0 rfl) ?_
      refine vp_callSi (cz_run (va_runV (As := [.int 1]) (rest := [.long 22289]) ⟨hx, hb, hml, hown, hts⟩ (c_X6_count l dC dI cI cB h0 1 hp hs hh hc kp rt k1 k2 k3 k4 k5 si cd ) (cwV 1 hts gX6_digest_X6_count rfl rfl rfl (by decide +kernel) ⟨Nat.le_of_ble_eq_true rfl, Nat.le_of_ble_eq_true rfl⟩) (cz_pV hP hN (va_recv hK hP (ci := 6) (q0 := 0) rfl rfl)) rfl rfl hl.1 rfl (lv_room (Nat.le_of_ble_eq_true rfl)) dX6_digest_190 ⟨Nat.le_of_ble_eq_true rfl, Nat.le_of_ble_eq_true rfl⟩)) (fun r_6 hr_6 => ?_)
      obtain rfl : r_6 = 0 := hr_6.trans (by decide)
      refine vp_callSl (cz_run (va_runS (As := [.long 22289, .int 0]) (rest := []) ⟨hx, hb, hml, hown, hts⟩ (c_X6_mixed l dC dI cI cB 22289 0 ) (va_cwS 2 hts gX6_digest_X6_mixed rfl rfl rfl (by decide +kernel) ⟨Nat.le_of_ble_eq_true rfl, Nat.le_of_ble_eq_true rfl⟩) (cz_pS (hP.sub (ws' := []) [] rfl) hN) rfl rfl hl.1 rfl (lv_room (Nat.le_of_ble_eq_true rfl)) dX6_digest_193 ⟨Nat.le_of_ble_eq_true rfl, Nat.le_of_ble_eq_true rfl⟩)) (fun r_7 hr_7 => ?_)
      obtain rfl : r_7 = 690959 := hr_7.trans (by decide)
      refine lv_lstore_n (lv' := [(1, .long 690959), (3, .int 1), (0, .ref h0)]) hx hb dX6_digest_196 rfl hl (by decide) rfl (fun ls hl => ?_)
      refine lv_iinc (v := 2) (lv' := [(3, .int 2), (1, .long 690959), (0, .ref h0)]) hx hb dX6_digest_197 hl (k := 1) rfl (by decide) (by decide) rfl (fun ls hl => ?_)
      refine lv_goto (tgt := 181) hx hb dX6_digest_200 (by decide) ?_
      refine lv_iload_n hx hb dX6_digest_181 rfl (lv_at hl 0 rfl) ?_
      refine lv_bipush (v := 8) hx hb dX6_digest_182 (by decide) ?_
      refine lv_icmp_gt (tgt := 203) hx hb dX6_digest_184 (by decide) (fun c => absurd c (by decide)) (fun _ => ?_)
      refine lv_lload_n hx hb dX6_digest_187 rfl (lv_at hl 1 rfl) ?_
      refine lv_aload_n hx hb dX6_digest_188 rfl (lv_at hl 2 rfl) ?_
      refine lv_iload_n hx hb dX6_digest_189 rfl (lv_at hl 0 rfl) ?_
      refine vp_callSi (cz_run (va_runV (As := [.int 2]) (rest := [.long 690959]) ⟨hx, hb, hml, hown, hts⟩ (c_X6_count l dC dI cI cB h0 2 hp hs hh hc kp rt k1 k2 k3 k4 k5 si cd ) (cwV 1 hts gX6_digest_X6_count rfl rfl rfl (by decide +kernel) ⟨Nat.le_of_ble_eq_true rfl, Nat.le_of_ble_eq_true rfl⟩) (cz_pV hP hN (va_recv hK hP (ci := 6) (q0 := 0) rfl rfl)) rfl rfl hl.1 rfl (lv_room (Nat.le_of_ble_eq_true rfl)) dX6_digest_190 ⟨Nat.le_of_ble_eq_true rfl, Nat.le_of_ble_eq_true rfl⟩)) (fun r_8 hr_8 => ?_)
      obtain rfl : r_8 = (-1) := hr_8.trans (by decide)
      refine vp_callSl (cz_run (va_runS (As := [.long 690959, .int (-1)]) (rest := []) ⟨hx, hb, hml, hown, hts⟩ (c_X6_mixed l dC dI cI cB 690959 (-1) ) (va_cwS 2 hts gX6_digest_X6_mixed rfl rfl rfl (by decide +kernel) ⟨Nat.le_of_ble_eq_true rfl, Nat.le_of_ble_eq_true rfl⟩) (cz_pS (hP.sub (ws' := []) [] rfl) hN) rfl rfl hl.1 rfl (lv_room (Nat.le_of_ble_eq_true rfl)) dX6_digest_193 ⟨Nat.le_of_ble_eq_true rfl, Nat.le_of_ble_eq_true rfl⟩)) (fun r_9 hr_9 => ?_)
      obtain rfl : r_9 = 21419728 := hr_9.trans (by decide)
      refine lv_lstore_n (lv' := [(1, .long 21419728), (3, .int 2), (0, .ref h0)]) hx hb dX6_digest_196 rfl hl (by decide) rfl (fun ls hl => ?_)
      refine lv_iinc (v := 3) (lv' := [(3, .int 3), (1, .long 21419728), (0, .ref h0)]) hx hb dX6_digest_197 hl (k := 1) rfl (by decide) (by decide) rfl (fun ls hl => ?_)
      refine lv_goto (tgt := 181) hx hb dX6_digest_200 (by decide) ?_
      refine lv_iload_n hx hb dX6_digest_181 rfl (lv_at hl 0 rfl) ?_
      refine lv_bipush (v := 8) hx hb dX6_digest_182 (by decide) ?_
      refine lv_icmp_gt (tgt := 203) hx hb dX6_digest_184 (by decide) (fun c => absurd c (by decide)) (fun _ => ?_)
      refine lv_lload_n hx hb dX6_digest_187 rfl (lv_at hl 1 rfl) ?_
      refine lv_aload_n hx hb dX6_digest_188 rfl (lv_at hl 2 rfl) ?_
      refine lv_iload_n hx hb dX6_digest_189 rfl (lv_at hl 0 rfl) ?_
      refine vp_callSi (cz_run (va_runV (As := [.int 3]) (rest := [.long 21419728]) ⟨hx, hb, hml, hown, hts⟩ (c_X6_count l dC dI cI cB h0 3 hp hs hh hc kp rt k1 k2 k3 k4 k5 si cd ) (cwV 1 hts gX6_digest_X6_count rfl rfl rfl (by decide +kernel) ⟨Nat.le_of_ble_eq_true rfl, Nat.le_of_ble_eq_true rfl⟩) (cz_pV hP hN (va_recv hK hP (ci := 6) (q0 := 0) rfl rfl)) rfl rfl hl.1 rfl (lv_room (Nat.le_of_ble_eq_true rfl)) dX6_digest_190 ⟨Nat.le_of_ble_eq_true rfl, Nat.le_of_ble_eq_true rfl⟩)) (fun r_10 hr_10 => ?_)
      obtain rfl : r_10 = (-1) := hr_10.trans (by decide)
      refine vp_callSl (cz_run (va_runS (As := [.long 21419728, .int (-1)]) (rest := []) ⟨hx, hb, hml, hown, hts⟩ (c_X6_mixed l dC dI cI cB 21419728 (-1) ) (va_cwS 2 hts gX6_digest_X6_mixed rfl rfl rfl (by decide +kernel) ⟨Nat.le_of_ble_eq_true rfl, Nat.le_of_ble_eq_true rfl⟩) (cz_pS (hP.sub (ws' := []) [] rfl) hN) rfl rfl hl.1 rfl (lv_room (Nat.le_of_ble_eq_true rfl)) dX6_digest_193 ⟨Nat.le_of_ble_eq_true rfl, Nat.le_of_ble_eq_true rfl⟩)) (fun r_11 hr_11 => ?_)
      obtain rfl : r_11 = 664011567 := hr_11.trans (by decide)
      refine lv_lstore_n (lv' := [(1, .long 664011567), (3, .int 3), (0, .ref h0)]) hx hb dX6_digest_196 rfl hl (by decide) rfl (fun ls hl => ?_)
      refine lv_iinc (v := 4) (lv' := [(3, .int 4), (1, .long 664011567), (0, .ref h0)]) hx hb dX6_digest_197 hl (k := 1) rfl (by decide) (by decide) rfl (fun ls hl => ?_)
      refine lv_goto (tgt := 181) hx hb dX6_digest_200 (by decide) ?_
      refine lv_iload_n hx hb dX6_digest_181 rfl (lv_at hl 0 rfl) ?_
      refine lv_bipush (v := 8) hx hb dX6_digest_182 (by decide) ?_
      refine lv_icmp_gt (tgt := 203) hx hb dX6_digest_184 (by decide) (fun c => absurd c (by decide)) (fun _ => ?_)
      refine lv_lload_n hx hb dX6_digest_187 rfl (lv_at hl 1 rfl) ?_
      refine lv_aload_n hx hb dX6_digest_188 rfl (lv_at hl 2 rfl) ?_
      refine lv_iload_n hx hb dX6_digest_189 rfl (lv_at hl 0 rfl) ?_
      refine vp_callSi (cz_run (va_runV (As := [.int 4]) (rest := [.long 664011567]) ⟨hx, hb, hml, hown, hts⟩ (c_X6_count l dC dI cI cB h0 4 hp hs hh hc kp rt k1 k2 k3 k4 k5 si cd ) (cwV 1 hts gX6_digest_X6_count rfl rfl rfl (by decide +kernel) ⟨Nat.le_of_ble_eq_true rfl, Nat.le_of_ble_eq_true rfl⟩) (cz_pV hP hN (va_recv hK hP (ci := 6) (q0 := 0) rfl rfl)) rfl rfl hl.1 rfl (lv_room (Nat.le_of_ble_eq_true rfl)) dX6_digest_190 ⟨Nat.le_of_ble_eq_true rfl, Nat.le_of_ble_eq_true rfl⟩)) (fun r_12 hr_12 => ?_)
      obtain rfl : r_12 = 0 := hr_12.trans (by decide)
      refine vp_callSl (cz_run (va_runS (As := [.long 664011567, .int 0]) (rest := []) ⟨hx, hb, hml, hown, hts⟩ (c_X6_mixed l dC dI cI cB 664011567 0 ) (va_cwS 2 hts gX6_digest_X6_mixed rfl rfl rfl (by decide +kernel) ⟨Nat.le_of_ble_eq_true rfl, Nat.le_of_ble_eq_true rfl⟩) (cz_pS (hP.sub (ws' := []) [] rfl) hN) rfl rfl hl.1 rfl (lv_room (Nat.le_of_ble_eq_true rfl)) dX6_digest_193 ⟨Nat.le_of_ble_eq_true rfl, Nat.le_of_ble_eq_true rfl⟩)) (fun r_13 hr_13 => ?_)
      obtain rfl : r_13 = 20584358577 := hr_13.trans (by decide)
      refine lv_lstore_n (lv' := [(1, .long 20584358577), (3, .int 4), (0, .ref h0)]) hx hb dX6_digest_196 rfl hl (by decide) rfl (fun ls hl => ?_)
      refine lv_iinc (v := 5) (lv' := [(3, .int 5), (1, .long 20584358577), (0, .ref h0)]) hx hb dX6_digest_197 hl (k := 1) rfl (by decide) (by decide) rfl (fun ls hl => ?_)
      refine lv_goto (tgt := 181) hx hb dX6_digest_200 (by decide) ?_
      refine lv_iload_n hx hb dX6_digest_181 rfl (lv_at hl 0 rfl) ?_
      refine lv_bipush (v := 8) hx hb dX6_digest_182 (by decide) ?_
      refine lv_icmp_gt (tgt := 203) hx hb dX6_digest_184 (by decide) (fun c => absurd c (by decide)) (fun _ => ?_)
      refine lv_lload_n hx hb dX6_digest_187 rfl (lv_at hl 1 rfl) ?_
      refine lv_aload_n hx hb dX6_digest_188 rfl (lv_at hl 2 rfl) ?_
      refine lv_iload_n hx hb dX6_digest_189 rfl (lv_at hl 0 rfl) ?_
      refine vp_callSi (cz_run (va_runV (As := [.int 5]) (rest := [.long 20584358577]) ⟨hx, hb, hml, hown, hts⟩ (c_X6_count l dC dI cI cB h0 5 hp hs hh hc kp rt k1 k2 k3 k4 k5 si cd ) (cwV 1 hts gX6_digest_X6_count rfl rfl rfl (by decide +kernel) ⟨Nat.le_of_ble_eq_true rfl, Nat.le_of_ble_eq_true rfl⟩) (cz_pV hP hN (va_recv hK hP (ci := 6) (q0 := 0) rfl rfl)) rfl rfl hl.1 rfl (lv_room (Nat.le_of_ble_eq_true rfl)) dX6_digest_190 ⟨Nat.le_of_ble_eq_true rfl, Nat.le_of_ble_eq_true rfl⟩)) (fun r_14 hr_14 => ?_)
      obtain rfl : r_14 = 0 := hr_14.trans (by decide)
      refine vp_callSl (cz_run (va_runS (As := [.long 20584358577, .int 0]) (rest := []) ⟨hx, hb, hml, hown, hts⟩ (c_X6_mixed l dC dI cI cB 20584358577 0 ) (va_cwS 2 hts gX6_digest_X6_mixed rfl rfl rfl (by decide +kernel) ⟨Nat.le_of_ble_eq_true rfl, Nat.le_of_ble_eq_true rfl⟩) (cz_pS (hP.sub (ws' := []) [] rfl) hN) rfl rfl hl.1 rfl (lv_room (Nat.le_of_ble_eq_true rfl)) dX6_digest_193 ⟨Nat.le_of_ble_eq_true rfl, Nat.le_of_ble_eq_true rfl⟩)) (fun r_15 hr_15 => ?_)
      obtain rfl : r_15 = 638115115887 := hr_15.trans (by decide)
      refine lv_lstore_n (lv' := [(1, .long 638115115887), (3, .int 5), (0, .ref h0)]) hx hb dX6_digest_196 rfl hl (by decide) rfl (fun ls hl => ?_)
      refine lv_iinc (v := 6) (lv' := [(3, .int 6), (1, .long 638115115887), (0, .ref h0)]) hx hb dX6_digest_197 hl (k := 1) rfl (by decide) (by decide) rfl (fun ls hl => ?_)
      refine lv_goto (tgt := 181) hx hb dX6_digest_200 (by decide) ?_
      refine lv_iload_n hx hb dX6_digest_181 rfl (lv_at hl 0 rfl) ?_
      refine lv_bipush (v := 8) hx hb dX6_digest_182 (by decide) ?_
      refine lv_icmp_gt (tgt := 203) hx hb dX6_digest_184 (by decide) (fun c => absurd c (by decide)) (fun _ => ?_)
      refine lv_lload_n hx hb dX6_digest_187 rfl (lv_at hl 1 rfl) ?_
      refine lv_aload_n hx hb dX6_digest_188 rfl (lv_at hl 2 rfl) ?_
      refine lv_iload_n hx hb dX6_digest_189 rfl (lv_at hl 0 rfl) ?_
      refine vp_callSi (cz_run (va_runV (As := [.int 6]) (rest := [.long 638115115887]) ⟨hx, hb, hml, hown, hts⟩ (c_X6_count l dC dI cI cB h0 6 hp hs hh hc kp rt k1 k2 k3 k4 k5 si cd ) (cwV 1 hts gX6_digest_X6_count rfl rfl rfl (by decide +kernel) ⟨Nat.le_of_ble_eq_true rfl, Nat.le_of_ble_eq_true rfl⟩) (cz_pV hP hN (va_recv hK hP (ci := 6) (q0 := 0) rfl rfl)) rfl rfl hl.1 rfl (lv_room (Nat.le_of_ble_eq_true rfl)) dX6_digest_190 ⟨Nat.le_of_ble_eq_true rfl, Nat.le_of_ble_eq_true rfl⟩)) (fun r_16 hr_16 => ?_)
      obtain rfl : r_16 = 0 := hr_16.trans (by decide)
      refine vp_callSl (cz_run (va_runS (As := [.long 638115115887, .int 0]) (rest := []) ⟨hx, hb, hml, hown, hts⟩ (c_X6_mixed l dC dI cI cB 638115115887 0 ) (va_cwS 2 hts gX6_digest_X6_mixed rfl rfl rfl (by decide +kernel) ⟨Nat.le_of_ble_eq_true rfl, Nat.le_of_ble_eq_true rfl⟩) (cz_pS (hP.sub (ws' := []) [] rfl) hN) rfl rfl hl.1 rfl (lv_room (Nat.le_of_ble_eq_true rfl)) dX6_digest_193 ⟨Nat.le_of_ble_eq_true rfl, Nat.le_of_ble_eq_true rfl⟩)) (fun r_17 hr_17 => ?_)
      obtain rfl : r_17 = 19781568592497 := hr_17.trans (by decide)
      refine lv_lstore_n (lv' := [(1, .long 19781568592497), (3, .int 6), (0, .ref h0)]) hx hb dX6_digest_196 rfl hl (by decide) rfl (fun ls hl => ?_)
      refine lv_iinc (v := 7) (lv' := [(3, .int 7), (1, .long 19781568592497), (0, .ref h0)]) hx hb dX6_digest_197 hl (k := 1) rfl (by decide) (by decide) rfl (fun ls hl => ?_)
      refine lv_goto (tgt := 181) hx hb dX6_digest_200 (by decide) ?_
      refine lv_iload_n hx hb dX6_digest_181 rfl (lv_at hl 0 rfl) ?_
      refine lv_bipush (v := 8) hx hb dX6_digest_182 (by decide) ?_
      refine lv_icmp_gt (tgt := 203) hx hb dX6_digest_184 (by decide) (fun c => absurd c (by decide)) (fun _ => ?_)
      refine lv_lload_n hx hb dX6_digest_187 rfl (lv_at hl 1 rfl) ?_
      refine lv_aload_n hx hb dX6_digest_188 rfl (lv_at hl 2 rfl) ?_
      refine lv_iload_n hx hb dX6_digest_189 rfl (lv_at hl 0 rfl) ?_
      refine vp_callSi (cz_run (va_runV (As := [.int 7]) (rest := [.long 19781568592497]) ⟨hx, hb, hml, hown, hts⟩ (c_X6_count l dC dI cI cB h0 7 hp hs hh hc kp rt k1 k2 k3 k4 k5 si cd ) (cwV 1 hts gX6_digest_X6_count rfl rfl rfl (by decide +kernel) ⟨Nat.le_of_ble_eq_true rfl, Nat.le_of_ble_eq_true rfl⟩) (cz_pV hP hN (va_recv hK hP (ci := 6) (q0 := 0) rfl rfl)) rfl rfl hl.1 rfl (lv_room (Nat.le_of_ble_eq_true rfl)) dX6_digest_190 ⟨Nat.le_of_ble_eq_true rfl, Nat.le_of_ble_eq_true rfl⟩)) (fun r_18 hr_18 => ?_)
      obtain rfl : r_18 = 0 := hr_18.trans (by decide)
      refine vp_callSl (cz_run (va_runS (As := [.long 19781568592497, .int 0]) (rest := []) ⟨hx, hb, hml, hown, hts⟩ (c_X6_mixed l dC dI cI cB 19781568592497 0 ) (va_cwS 2 hts gX6_digest_X6_mixed rfl rfl rfl (by decide +kernel) ⟨Nat.le_of_ble_eq_true rfl, Nat.le_of_ble_eq_true rfl⟩) (cz_pS (hP.sub (ws' := []) [] rfl) hN) rfl rfl hl.1 rfl (lv_room (Nat.le_of_ble_eq_true rfl)) dX6_digest_193 ⟨Nat.le_of_ble_eq_true rfl, Nat.le_of_ble_eq_true rfl⟩)) (fun r_19 hr_19 => ?_)
      obtain rfl : r_19 = 613228626367407 := hr_19.trans (by decide)
      refine lv_lstore_n (lv' := [(1, .long 613228626367407), (3, .int 7), (0, .ref h0)]) hx hb dX6_digest_196 rfl hl (by decide) rfl (fun ls hl => ?_)
      refine lv_iinc (v := 8) (lv' := [(3, .int 8), (1, .long 613228626367407), (0, .ref h0)]) hx hb dX6_digest_197 hl (k := 1) rfl (by decide) (by decide) rfl (fun ls hl => ?_)
      refine lv_goto (tgt := 181) hx hb dX6_digest_200 (by decide) ?_
      refine lv_iload_n hx hb dX6_digest_181 rfl (lv_at hl 0 rfl) ?_
      refine lv_bipush (v := 8) hx hb dX6_digest_182 (by decide) ?_
      refine lv_icmp_gt (tgt := 203) hx hb dX6_digest_184 (by decide) (fun c => absurd c (by decide)) (fun _ => ?_)
      refine lv_lload_n hx hb dX6_digest_187 rfl (lv_at hl 1 rfl) ?_
      refine lv_aload_n hx hb dX6_digest_188 rfl (lv_at hl 2 rfl) ?_
      refine lv_iload_n hx hb dX6_digest_189 rfl (lv_at hl 0 rfl) ?_
      refine vp_callSi (cz_run (va_runV (As := [.int 8]) (rest := [.long 613228626367407]) ⟨hx, hb, hml, hown, hts⟩ (c_X6_count l dC dI cI cB h0 8 hp hs hh hc kp rt k1 k2 k3 k4 k5 si cd ) (cwV 1 hts gX6_digest_X6_count rfl rfl rfl (by decide +kernel) ⟨Nat.le_of_ble_eq_true rfl, Nat.le_of_ble_eq_true rfl⟩) (cz_pV hP hN (va_recv hK hP (ci := 6) (q0 := 0) rfl rfl)) rfl rfl hl.1 rfl (lv_room (Nat.le_of_ble_eq_true rfl)) dX6_digest_190 ⟨Nat.le_of_ble_eq_true rfl, Nat.le_of_ble_eq_true rfl⟩)) (fun r_20 hr_20 => ?_)
      obtain rfl : r_20 = 0 := hr_20.trans (by decide)
      refine vp_callSl (cz_run (va_runS (As := [.long 613228626367407, .int 0]) (rest := []) ⟨hx, hb, hml, hown, hts⟩ (c_X6_mixed l dC dI cI cB 613228626367407 0 ) (va_cwS 2 hts gX6_digest_X6_mixed rfl rfl rfl (by decide +kernel) ⟨Nat.le_of_ble_eq_true rfl, Nat.le_of_ble_eq_true rfl⟩) (cz_pS (hP.sub (ws' := []) [] rfl) hN) rfl rfl hl.1 rfl (lv_room (Nat.le_of_ble_eq_true rfl)) dX6_digest_193 ⟨Nat.le_of_ble_eq_true rfl, Nat.le_of_ble_eq_true rfl⟩)) (fun r_21 hr_21 => ?_)
      obtain rfl : r_21 = 19010087417389617 := hr_21.trans (by decide)
      refine lv_lstore_n (lv' := [(1, .long 19010087417389617), (3, .int 8), (0, .ref h0)]) hx hb dX6_digest_196 rfl hl (by decide) rfl (fun ls hl => ?_)
      refine lv_iinc (v := 9) (lv' := [(3, .int 9), (1, .long 19010087417389617), (0, .ref h0)]) hx hb dX6_digest_197 hl (k := 1) rfl (by decide) (by decide) rfl (fun ls hl => ?_)
      refine lv_goto (tgt := 181) hx hb dX6_digest_200 (by decide) ?_
      refine lv_iload_n hx hb dX6_digest_181 rfl (lv_at hl 0 rfl) ?_
      refine lv_bipush (v := 8) hx hb dX6_digest_182 (by decide) ?_
      refine lv_icmp_gt (tgt := 203) hx hb dX6_digest_184 (by decide) (fun _ => ?_) (fun c => absurd (by decide) c)
      refine lv_lload_n hx hb dX6_digest_203 rfl (lv_at hl 1 rfl) ?_
      exact W.lret (v := 19010087417389617) hx hb hr (fun t ht hW => ⟨19010087417389617, rfl, rfl, ht⟩) (fun _ h => absurd h List.not_mem_nil) dX6_digest_204
