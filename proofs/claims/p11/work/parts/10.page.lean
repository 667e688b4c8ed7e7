/-- the WALLs as Hall.read lays them -/
def cz_wl (f : Nat → Int32) : Nat → Int32
  | 0 => 0
  | k + 1 => if f (k / 5 * 6 + k % 5) = 35 then cz_wl f k ||| (1 <<< (nI k &&& 31)) else cz_wl f k
def cz_an (n : Nat) : Nat := if 24 ≤ n then n else n + 1
def cz_af (n : Nat) (f : Nat → Int32) (v : Int32) : Nat → Int32 := if 24 ≤ n then f else upd f n v
def cz_ar (n : Nat) : Int32 := if 24 ≤ n then -104 else nI (n + 1)

theorem c_X2_add_a1 (n0 : Nat) (hn24 : n0 ≤ 24) (c_1 : n0 < 24) : (n0 + 1) = cz_an n0 := by first | (subst_vars; rfl) | assumption | ((try subst_vars) <;> (try simp only [cz_an, cz_af, cz_ar]) <;> (repeat' split) <;> (first | rfl | contradiction | ((try simp only [cz_in, cz_du, cz_lt, cz_le, cz_eq, cz_l] at *) <;> (first | omega | (simp_all; done))))) | ((try subst_vars); simp only [cz_an, cz_af, cz_ar, cz_in, *, and_self, and_true, true_and, if_true, if_false])
theorem c_X2_add_a2 (p0 : Int32) (n0 : Nat) (f0 : Nat → Int32) (hn24 : n0 ≤ 24) (c_1 : n0 < 24) : (upd f0 n0 p0) = cz_af n0 f0 p0 := by first | (subst_vars; rfl) | assumption | ((try subst_vars) <;> (try simp only [cz_an, cz_af, cz_ar]) <;> (repeat' split) <;> (first | rfl | contradiction | ((try simp only [cz_in, cz_du, cz_lt, cz_le, cz_eq, cz_l] at *) <;> (first | omega | (simp_all; done))))) | ((try subst_vars); simp only [cz_an, cz_af, cz_ar, cz_in, *, and_self, and_true, true_and, if_true, if_false])
theorem c_X2_add_a3 (n0 : Nat) (hn24 : n0 ≤ 24) (c_1 : n0 < 24) : ((nI (n0 + 1)) : Int32) = cz_ar n0 := by first | (subst_vars; rfl) | assumption | ((try subst_vars) <;> (try simp only [cz_an, cz_af, cz_ar]) <;> (repeat' split) <;> (first | rfl | contradiction | ((try simp only [cz_in, cz_du, cz_lt, cz_le, cz_eq, cz_l] at *) <;> (first | omega | (simp_all; done))))) | ((try subst_vars); simp only [cz_an, cz_af, cz_ar, cz_in, *, and_self, and_true, true_and, if_true, if_false])
theorem c_X2_add_a4 (n0 : Nat) (hn24 : n0 ≤ 24) (c_1 : ¬ n0 < 24) : n0 = cz_an n0 := by first | (subst_vars; rfl) | assumption | ((try subst_vars) <;> (try simp only [cz_an, cz_af, cz_ar]) <;> (repeat' split) <;> (first | rfl | contradiction | ((try simp only [cz_in, cz_du, cz_lt, cz_le, cz_eq, cz_l] at *) <;> (first | omega | (simp_all; done))))) | ((try subst_vars); simp only [cz_an, cz_af, cz_ar, cz_in, *, and_self, and_true, true_and, if_true, if_false])
theorem c_X2_add_a5 (p0 : Int32) (n0 : Nat) (f0 : Nat → Int32) (hn24 : n0 ≤ 24) (c_1 : ¬ n0 < 24) : f0 = cz_af n0 f0 p0 := by first | (subst_vars; rfl) | assumption | ((try subst_vars) <;> (try simp only [cz_an, cz_af, cz_ar]) <;> (repeat' split) <;> (first | rfl | contradiction | ((try simp only [cz_in, cz_du, cz_lt, cz_le, cz_eq, cz_l] at *) <;> (first | omega | (simp_all; done))))) | ((try subst_vars); simp only [cz_an, cz_af, cz_ar, cz_in, *, and_self, and_true, true_and, if_true, if_false])
theorem c_X2_add_a6 (n0 : Nat) (hn24 : n0 ≤ 24) (c_1 : ¬ n0 < 24) : ((-104) : Int32) = cz_ar n0 := by first | (subst_vars; rfl) | assumption | ((try subst_vars) <;> (try simp only [cz_an, cz_af, cz_ar]) <;> (repeat' split) <;> (first | rfl | contradiction | ((try simp only [cz_in, cz_du, cz_lt, cz_le, cz_eq, cz_l] at *) <;> (first | omega | (simp_all; done))))) | ((try subst_vars); simp only [cz_an, cz_af, cz_ar, cz_in, *, and_self, and_true, true_and, if_true, if_false])
set_option maxHeartbeats 4000000 in
set_option maxRecDepth 100000 in
theorem c_X2_add (l : Launch) (dC : Nat → ClassId) (dI : Nat → Nat → Nat) (cI cB : ClassId) (hp : Nat) (p0 : Int32) (cd : Nat) (n0 : Nat) (f0 : Nat → Int32) (sz : Nat) (hn24 : n0 ≤ 24) : Met l yX2_add wsX2_add ({ frames := 0, cells := 0, slots := 0, locals := 0 }) (cz_Pm dC dI cI cB [.ref hp, .int p0] [(hp, .inr (2, [.ref cd, .int (nI n0)])), (cd, .inl (cI, 24, .inl f0))] sz) (va_Qi (fun (r : Int32) (_ : Unit) => r = cz_ar n0) (fun _ t => ∃ (nn : Nat) (ff : Nat → Int32), (nn = cz_an n0) ∧ (ff = cz_af n0 f0 p0) ∧ va_P (dC, dI) vwCl [(hp, .inr (2, [.ref cd, .int (nI nn)])), (cd, .inl (cI, 24, .inl ff))] t.heap ∧ va_D (va_A [(hp, .inr (2, [.ref cd, .int (nI n0)])), (cd, .inl (cI, 24, .inl f0))] sz) [(hp, .inr (2, [.ref cd, .int (nI nn)])), (cd, .inl (cI, 24, .inl ff))]) (va_A [(hp, .inr (2, [.ref cd, .int (nI n0)])), (cd, .inl (cI, 24, .inl f0))] sz)) 0 0 (va_A [(hp, .inr (2, [.ref cd, .int (nI n0)])), (cd, .inl (cI, 24, .inl f0))] sz) := by
  refine cz_of (cc := cX2_add) (maxL := 2) (ret := (some .int)) (by decide) rfl ?_
  intro p e s m args below meth c s₁ Q B hml hv hQ
  obtain ⟨rfl, hsz, hP, hN, hD0⟩ := hv
  have hx := B.exec
  have hb := B.bytes
  have hr := B.returns
  have hts := atoms_spec (ws := wsX2_add) B.pre
  have hown : s.vm.findClass RX2 = some m.cls := findClass_of_methodNamed B.named
  have hlocks := B.notSynchronized
  have hK := hN.1
  have hiX2 : ∀ w ∈ wsX20, w ∈ wsX2_add := (fun _ h => List.mem_cons_of_mem _ (List.mem_append_right _ h))
  subst hsz
  have hD := hD0.self (sz := s.heap.size)
  generalize hAe : va_A [(hp, .inr (2, [.ref cd, .int (nI n0)])), (cd, .inl (cI, 24, .inl f0))] s.heap.size = A at hD hQ ⊢
  have hA : ∀ q : Nat, s.heap.size ≤ q → A q := fun q h => by rw [← hAe]; exact Or.inr h
  have hS : va_S A s.heap s.heap [] := va_S.rf
  obtain ⟨H, eH⟩ : ∃ H, H = s.heap := ⟨_, rfl⟩
  have hP : va_P (dC, dI) vwCl [(hp, .inr (2, [.ref cd, .int (nI n0)])), (cd, .inl (cI, 24, .inl f0))] s.heap := hP
  have hl := lv_entry ([.ref hp, .int p0]) (n := 2) (Nat.le_of_ble_eq_true rfl)
  rw [lg_entry_eq]
  generalize (lg_sl ([.ref hp, .int p0]) ++ List.replicate (2 - (lg_sl ([.ref hp, .int p0])).length) Slot.unset).toArray = ls at hl ⊢
  have hl : lv_has ls 2 [(0, .ref hp), (1, .int p0)] := hl
  refine lv_aload_n hx hb dX2_add_0 rfl (lv_at hl 0 rfl) ?_
  refine va_get (D := (dC, dI)) (ci := 2) (v := .int (nI n0)) (C := RX2) (T := TX2) (N := 2) hx hb hts hiX2 hown hK hP 0 rfl rfl 1 (by decide) (hts (.fieldLink RX2 15 "LeftProfile$Page" "size" "I") (List.mem_of_getElem? (i := 1) rfl)) (fun _ h9 => h9) rfl dX2_add_1 ?_
  refine lv_bipush (v := 24) hx hb dX2_add_4 (by decide) ?_
  refine lv_icmp_lt (tgt := 12) hx hb dX2_add_6 (by decide) (fun c_1 => ?_) (fun c_1 => ?_)
  · have c_1 : n0 < 24 := (nI_ltI (a := n0) (b := 24) (by omega) (by omega)).mp c_1
    refine lv_aload_n hx hb dX2_add_12 rfl (lv_at hl 0 rfl) ?_
    refine va_get (D := (dC, dI)) (ci := 2) (v := .ref cd) (C := RX2) (T := TX2) (N := 2) hx hb hts hiX2 hown hK hP 0 rfl rfl 0 (by decide) (hts (.fieldLink RX2 11 "LeftProfile$Page" "codes" "[I") (List.mem_of_getElem? (i := 2) rfl)) (fun _ h9 => h9) rfl dX2_add_13 ?_
    refine lv_aload_n hx hb dX2_add_16 rfl (lv_at hl 0 rfl) ?_
    refine va_get (D := (dC, dI)) (ci := 2) (v := .int (nI n0)) (C := RX2) (T := TX2) (N := 2) hx hb hts hiX2 hown hK hP 0 rfl rfl 1 (by decide) (hts (.fieldLink RX2 15 "LeftProfile$Page" "size" "I") (List.mem_of_getElem? (i := 1) rfl)) (fun _ h9 => h9) rfl dX2_add_17 ?_
    refine lv_iload_n hx hb dX2_add_20 rfl (lv_at hl 1 rfl) ?_
    refine va_iast hx hb hK hP hD hS 1 0 rfl rfl (vp_in_nI (n := n0) (by omega) (by omega)) dX2_add_21 (fun H locs hP hD hS => ?_)
    rw [show (nI n0).toNatClampNeg = n0 from nI_clamp (n := n0) (by omega)] at hP hD
    have hP : va_P (dC, dI) vwCl [(hp, .inr (2, [.ref cd, .int (nI n0)])), (cd, .inl (cI, 24, .inl (upd f0 n0 p0)))] H := hP
    have hD : va_D A [(hp, .inr (2, [.ref cd, .int (nI n0)])), (cd, .inl (cI, 24, .inl (upd f0 n0 p0)))] := hD
    refine lv_aload_n hx hb dX2_add_22 rfl (lv_at hl 0 rfl) ?_
    refine lv_dup hx hb dX2_add_23 rfl ?_
    refine va_get (D := (dC, dI)) (ci := 2) (v := .int (nI n0)) (C := RX2) (T := TX2) (N := 2) hx hb hts hiX2 hown hK hP 0 rfl rfl 1 (by decide) (hts (.fieldLink RX2 15 "LeftProfile$Page" "size" "I") (List.mem_of_getElem? (i := 1) rfl)) (fun _ h9 => h9) rfl dX2_add_24 ?_
    refine lv_iconst (v := 1) hx hb dX2_add_27 (by decide) ?_
    refine lv_iadd hx hb dX2_add_28 ?_
    refine cz_i (y := (nI (n0 + 1))) (nI_add n0 1) ?_
    refine va_put (D := (dC, dI)) (ci := 2) (v := .int (nI (n0 + 1))) (ty := .int) (C := RX2) (T := TX2) (N := 2) hx hb hts hiX2 tyX2 tyX2_ok nmX2 hown hK hP hD hS 0 rfl rfl 1 (by decide) (hts (.fieldLink RX2 15 "LeftProfile$Page" "size" "I") (List.mem_of_getElem? (i := 1) rfl)) (fun _ h9 => h9) rfl (by decide +kernel) rfl rfl (Nat.le_of_ble_eq_true rfl) dX2_add_29 (fun H locs hP hD hS => ?_)
    have hP : va_P (dC, dI) vwCl [(hp, .inr (2, [.ref cd, .int (nI (n0 + 1))])), (cd, .inl (cI, 24, .inl (upd f0 n0 p0)))] H := hP
    have hD : va_D A [(hp, .inr (2, [.ref cd, .int (nI (n0 + 1))])), (cd, .inl (cI, 24, .inl (upd f0 n0 p0)))] := hD
    refine lv_aload_n hx hb dX2_add_32 rfl (lv_at hl 0 rfl) ?_
    refine va_get (D := (dC, dI)) (ci := 2) (v := .int (nI (n0 + 1))) (C := RX2) (T := TX2) (N := 2) hx hb hts hiX2 hown hK hP 0 rfl rfl 1 (by decide) (hts (.fieldLink RX2 15 "LeftProfile$Page" "size" "I") (List.mem_of_getElem? (i := 1) rfl)) (fun _ h9 => h9) rfl dX2_add_33 ?_
    refine W.widen (k := 0) (n := 0) (Nat.le_of_ble_eq_true rfl) (Nat.le_of_ble_eq_true rfl) ?_
    have hP9 := hP.sub (ws' := [(hp, .inr (2, [.ref cd, .int (nI (n0 + 1))])), (cd, .inl (cI, 24, .inl (upd f0 n0 p0)))]) [0, 1] rfl
    have hD9 := hD.sub (ws' := [(hp, .inr (2, [.ref cd, .int (nI (n0 + 1))])), (cd, .inl (cI, 24, .inl (upd f0 n0 p0)))]) [0, 1] (by decide) rfl
    rw [hQ]; exact W.iret (v := (nI (n0 + 1))) hx hb hr (fun t ht hW => ⟨⟨(nI (n0 + 1)), (), rfl, (c_X2_add_a3 n0 hn24 c_1), ⟨(n0 + 1), (upd f0 n0 p0), (c_X2_add_a1 n0 hn24 c_1), (c_X2_add_a2 p0 n0 f0 hn24 c_1), by rw [ht]; exact hP9, hD9⟩⟩, hS.F ht⟩) hS.2.2 dX2_add_36
  · have c_1 : ¬ n0 < 24 := fun h => c_1 ((nI_ltI (a := n0) (b := 24) (by omega) (by omega)).mpr h)
    refine lv_bipush (v := (-104)) hx hb dX2_add_9 (by decide) ?_
    refine W.widen (k := 0) (n := 0) (Nat.le_of_ble_eq_true rfl) (Nat.le_of_ble_eq_true rfl) ?_
    have hP9 := hP.sub (ws' := [(hp, .inr (2, [.ref cd, .int (nI n0)])), (cd, .inl (cI, 24, .inl f0))]) [0, 1] rfl
    have hD9 := hD.sub (ws' := [(hp, .inr (2, [.ref cd, .int (nI n0)])), (cd, .inl (cI, 24, .inl f0))]) [0, 1] (by decide) rfl
    rw [hQ]; exact W.iret (v := (-104)) hx hb hr (fun t ht hW => ⟨⟨(-104), (), rfl, (c_X2_add_a6 n0 hn24 c_1), ⟨n0, f0, (c_X2_add_a4 n0 hn24 c_1), (c_X2_add_a5 p0 n0 f0 hn24 c_1), by rw [ht]; exact hP9, hD9⟩⟩, hS.F ht⟩) hS.2.2 dX2_add_11

set_option maxHeartbeats 4000000 in
set_option maxRecDepth 100000 in
theorem c_X2_clear (l : Launch) (dC : Nat → ClassId) (dI : Nat → Nat → Nat) (cI cB : ClassId) (hp : Nat) (cd : Nat) (n0 : Nat) (sz : Nat) : Met l yX2_clear wsX2_clear ({ frames := 0, cells := 0, slots := 0, locals := 0 }) (cz_Pm dC dI cI cB [.ref hp] [(hp, .inr (2, [.ref cd, .int (nI n0)]))] sz) (va_Qi (fun (r : Int32) (_ : Unit) => r = (nI n0)) (fun _ t => va_P (dC, dI) vwCl [(hp, .inr (2, [.ref cd, .int (nI 0)]))] t.heap ∧ va_D (va_A [(hp, .inr (2, [.ref cd, .int (nI n0)]))] sz) [(hp, .inr (2, [.ref cd, .int (nI 0)]))]) (va_A [(hp, .inr (2, [.ref cd, .int (nI n0)]))] sz)) 0 0 (va_A [(hp, .inr (2, [.ref cd, .int (nI n0)]))] sz) := by
  refine cz_of (cc := cX2_clear) (maxL := 2) (ret := (some .int)) (by decide) rfl ?_
  intro p e s m args below meth c s₁ Q B hml hv hQ
  obtain ⟨rfl, hsz, hP, hN, hD0⟩ := hv
  have hx := B.exec
  have hb := B.bytes
  have hr := B.returns
  have hts := atoms_spec (ws := wsX2_clear) B.pre
  have hown : s.vm.findClass RX2 = some m.cls := findClass_of_methodNamed B.named
  have hlocks := B.notSynchronized
  have hK := hN.1
  have hiX2 : ∀ w ∈ wsX20, w ∈ wsX2_clear := (fun _ h => List.mem_cons_of_mem _ (List.mem_append_right _ h))
  subst hsz
  have hD := hD0.self (sz := s.heap.size)
  generalize hAe : va_A [(hp, .inr (2, [.ref cd, .int (nI n0)]))] s.heap.size = A at hD hQ ⊢
  have hA : ∀ q : Nat, s.heap.size ≤ q → A q := fun q h => by rw [← hAe]; exact Or.inr h
  have hS : va_S A s.heap s.heap [] := va_S.rf
  obtain ⟨H, eH⟩ : ∃ H, H = s.heap := ⟨_, rfl⟩
  have hP : va_P (dC, dI) vwCl [(hp, .inr (2, [.ref cd, .int (nI n0)]))] s.heap := hP
  have hl := lv_entry ([.ref hp]) (n := 2) (Nat.le_of_ble_eq_true rfl)
  rw [lg_entry_eq]
  generalize (lg_sl ([.ref hp]) ++ List.replicate (2 - (lg_sl ([.ref hp])).length) Slot.unset).toArray = ls at hl ⊢
  have hl : lv_has ls 2 [(0, .ref hp)] := hl
  refine lv_aload_n hx hb dX2_clear_0 rfl (lv_at hl 0 rfl) ?_
  refine va_get (D := (dC, dI)) (ci := 2) (v := .int (nI n0)) (C := RX2) (T := TX2) (N := 2) hx hb hts hiX2 hown hK hP 0 rfl rfl 1 (by decide) (hts (.fieldLink RX2 15 "LeftProfile$Page" "size" "I") (List.mem_of_getElem? (i := 1) rfl)) (fun _ h9 => h9) rfl dX2_clear_1 ?_
  refine lv_istore_n (lv' := [(1, .int (nI n0)), (0, .ref hp)]) hx hb dX2_clear_4 rfl hl (by decide) rfl (fun ls hl => ?_)
  refine lv_aload_n hx hb dX2_clear_5 rfl (lv_at hl 1 rfl) ?_
  refine lv_iconst (v := 0) hx hb dX2_clear_6 (by decide) ?_
  refine va_put (D := (dC, dI)) (ci := 2) (v := .int 0) (ty := .int) (C := RX2) (T := TX2) (N := 2) hx hb hts hiX2 tyX2 tyX2_ok nmX2 hown hK hP hD hS 0 rfl rfl 1 (by decide) (hts (.fieldLink RX2 15 "LeftProfile$Page" "size" "I") (List.mem_of_getElem? (i := 1) rfl)) (fun _ h9 => h9) rfl (by decide +kernel) rfl rfl (Nat.le_of_ble_eq_true rfl) dX2_clear_7 (fun H locs hP hD hS => ?_)
  have hP : va_P (dC, dI) vwCl [(hp, .inr (2, [.ref cd, .int 0]))] H := hP
  have hD : va_D A [(hp, .inr (2, [.ref cd, .int 0]))] := hD
  refine lv_iload_n hx hb dX2_clear_10 rfl (lv_at hl 0 rfl) ?_
  refine W.widen (k := 0) (n := 0) (Nat.le_of_ble_eq_true rfl) (Nat.le_of_ble_eq_true rfl) ?_
  have hP9 := hP.sub (ws' := [(hp, .inr (2, [.ref cd, .int 0]))]) [0] rfl
  have hD9 := hD.sub (ws' := [(hp, .inr (2, [.ref cd, .int 0]))]) [0] (by decide) rfl
  rw [hQ]; exact W.iret (v := (nI n0)) hx hb hr (fun t ht hW => ⟨⟨(nI n0), (), rfl, rfl, ⟨by rw [ht]; exact hP9, hD9⟩⟩, hS.F ht⟩) hS.2.2 dX2_clear_11

theorem c_X2_codeAt_a1 (j0 : Nat) (n0 : Nat) (f0 : Nat → Int32) (hn24 : n0 ≤ 24) (hj : j0 < n0) (c_1 : j0 < 0) : ((-1) : Int32) = (f0 j0) := by first | (subst_vars; rfl) | assumption | ((try subst_vars) <;> (repeat' split) <;> (first | rfl | contradiction | ((try simp only [cz_in, cz_du, cz_lt, cz_le, cz_eq, cz_l] at *) <;> (first | omega | (simp_all; done))))) | ((try subst_vars); simp only [cz_in, *, and_self, and_true, true_and, if_true, if_false])
theorem c_X2_codeAt_a2 (j0 : Nat) (n0 : Nat) (f0 : Nat → Int32) (hn24 : n0 ≤ 24) (hj : j0 < n0) (c_1 : ¬ j0 < 0) (c_2 : n0 ≤ j0) : ((-1) : Int32) = (f0 j0) := by first | (subst_vars; rfl) | assumption | ((try subst_vars) <;> (repeat' split) <;> (first | rfl | contradiction | ((try simp only [cz_in, cz_du, cz_lt, cz_le, cz_eq, cz_l] at *) <;> (first | omega | (simp_all; done))))) | ((try subst_vars); simp only [cz_in, *, and_self, and_true, true_and, if_true, if_false])
set_option maxHeartbeats 4000000 in
set_option maxRecDepth 100000 in
theorem c_X2_codeAt (l : Launch) (dC : Nat → ClassId) (dI : Nat → Nat → Nat) (cI cB : ClassId) (hp : Nat) (j0 : Nat) (cd : Nat) (n0 : Nat) (f0 : Nat → Int32) (hn24 : n0 ≤ 24) (hj : j0 < n0) : Met l yX2_codeAt wsX2_codeAt ({ frames := 0, cells := 0, slots := 0, locals := 0 }) (cz_Pp dC dI cI cB [.ref hp, .int (nI j0)] [(hp, .inr (2, [.ref cd, .int (nI n0)])), (cd, .inl (cI, 24, .inl f0))]) (vp_Si (fun r : Int32 => r = (f0 j0))) 0 0 (fun _ => False) := by
  refine cz_of (cc := cX2_codeAt) (maxL := 2) (ret := (some .int)) (by decide) rfl ?_
  intro p e s m args below meth c s₁ Q B hml hv hQ
  obtain ⟨rfl, hP, hN⟩ := hv
  have hx := B.exec
  have hb := B.bytes
  have hr := B.returns
  have hts := atoms_spec (ws := wsX2_codeAt) B.pre
  have hown : s.vm.findClass RX2 = some m.cls := findClass_of_methodNamed B.named
  have hlocks := B.notSynchronized
  have hK := hN.1
  have hiX2 : ∀ w ∈ wsX20, w ∈ wsX2_codeAt := (fun _ h => List.mem_cons_of_mem _ (List.mem_append_right _ h))
  have hl := lv_entry ([.ref hp, .int (nI j0)]) (n := 2) (Nat.le_of_ble_eq_true rfl)
  rw [lg_entry_eq]
  generalize (lg_sl ([.ref hp, .int (nI j0)]) ++ List.replicate (2 - (lg_sl ([.ref hp, .int (nI j0)])).length) Slot.unset).toArray = ls at hl ⊢
  have hl : lv_has ls 2 [(0, .ref hp), (1, .int (nI j0))] := hl
  refine lv_iload_n hx hb dX2_codeAt_0 rfl (lv_at hl 1 rfl) ?_
  refine lv_if_lt (tgt := 21) hx hb dX2_codeAt_1 (by decide) (fun c_1 => ?_) (fun c_1 => ?_)
  · have c_1 : j0 < 0 := (nI_ltI (a := j0) (b := 0) (by omega) (by omega)).mp c_1
    refine lv_iconst (v := (-1)) hx hb dX2_codeAt_21 (by decide) ?_
    rw [hQ]; exact W.iret (v := (-1)) hx hb hr (fun t ht hW => ⟨(-1), rfl, (c_X2_codeAt_a1 j0 n0 f0 hn24 hj c_1), ht⟩) (fun _ h => absurd h List.not_mem_nil) dX2_codeAt_22
  · have c_1 : ¬ j0 < 0 := fun h => c_1 ((nI_ltI (a := j0) (b := 0) (by omega) (by omega)).mpr h)
    refine lv_iload_n hx hb dX2_codeAt_4 rfl (lv_at hl 1 rfl) ?_
    refine lv_aload_n hx hb dX2_codeAt_5 rfl (lv_at hl 0 rfl) ?_
    refine va_get (D := (dC, dI)) (ci := 2) (v := .int (nI n0)) (C := RX2) (T := TX2) (N := 2) hx hb hts hiX2 hown hK hP 0 rfl rfl 1 (by decide) (hts (.fieldLink RX2 15 "LeftProfile$Page" "size" "I") (List.mem_of_getElem? (i := 1) rfl)) (fun _ h9 => h9) rfl dX2_codeAt_6 ?_
    refine lv_icmp_ge (tgt := 21) hx hb dX2_codeAt_9 (by decide) (fun c_2 => ?_) (fun c_2 => ?_)
    · have c_2 : n0 ≤ j0 := (nI_leI (a := n0) (b := j0) (by omega) (by omega)).mp c_2
      refine lv_iconst (v := (-1)) hx hb dX2_codeAt_21 (by decide) ?_
      rw [hQ]; exact W.iret (v := (-1)) hx hb hr (fun t ht hW => ⟨(-1), rfl, (c_X2_codeAt_a2 j0 n0 f0 hn24 hj c_1 c_2), ht⟩) (fun _ h => absurd h List.not_mem_nil) dX2_codeAt_22
    · have c_2 : ¬ n0 ≤ j0 := fun h => c_2 ((nI_leI (a := n0) (b := j0) (by omega) (by omega)).mpr h)
      refine lv_aload_n hx hb dX2_codeAt_12 rfl (lv_at hl 0 rfl) ?_
      refine va_get (D := (dC, dI)) (ci := 2) (v := .ref cd) (C := RX2) (T := TX2) (N := 2) hx hb hts hiX2 hown hK hP 0 rfl rfl 0 (by decide) (hts (.fieldLink RX2 11 "LeftProfile$Page" "codes" "[I") (List.mem_of_getElem? (i := 2) rfl)) (fun _ h9 => h9) rfl dX2_codeAt_13 ?_
      refine lv_iload_n hx hb dX2_codeAt_16 rfl (lv_at hl 1 rfl) ?_
      refine va_iald hx hb hK hP 1 0 rfl rfl (vp_in_nI (n := j0) (by omega) (by omega)) dX2_codeAt_17 ?_
      refine cz_i (y := (f0 j0)) (congrArg f0 (nI_clamp (n := j0) (by omega))) ?_
      refine lv_goto (tgt := 22) hx hb dX2_codeAt_18 (by decide) ?_
      rw [hQ]; exact W.iret (v := (f0 j0)) hx hb hr (fun t ht hW => ⟨(f0 j0), rfl, rfl, ht⟩) (fun _ h => absurd h List.not_mem_nil) dX2_codeAt_22

theorem c_X2_fits_a1 (j0 : Nat) (n0 : Nat) (f0 : Nat → Int32) (r_2 : Int32) (hn24 : n0 ≤ 24) (hj : j0 < n0) (c_1 : j0 < 23) (hr_2 : r_2 = (f0 j0)) (c_3 : ¬ (j0 % 6) = 5) (c_4 : r_2 = 46) : cz_fit f0 j0 := by first | (subst_vars; rfl) | assumption | ((try subst_vars) <;> (try simp only [cz_fit]) <;> (repeat' split) <;> (first | rfl | contradiction | ((try simp only [cz_in, cz_du, cz_lt, cz_le, cz_eq, cz_l] at *) <;> (first | omega | (simp_all; done))))) | ((try subst_vars); simp only [cz_fit, cz_in, *, and_self, and_true, true_and, if_true, if_false])
theorem c_X2_fits_a2 (j0 : Nat) (n0 : Nat) (f0 : Nat → Int32) (r_2 : Int32) (hn24 : n0 ≤ 24) (hj : j0 < n0) (c_1 : j0 < 23) (hr_2 : r_2 = (f0 j0)) (c_3 : ¬ (j0 % 6) = 5) (c_4 : ¬ r_2 = 46) (c_5 : ¬ r_2 = 35) : ¬ cz_fit f0 j0 := by first | (subst_vars; rfl) | assumption | ((try subst_vars) <;> (try simp only [cz_fit]) <;> (repeat' split) <;> (first | rfl | contradiction | ((try simp only [cz_in, cz_du, cz_lt, cz_le, cz_eq, cz_l] at *) <;> (first | omega | (simp_all; done))))) | ((try subst_vars); simp only [cz_fit, cz_in, *, and_self, and_true, true_and, if_true, if_false])
theorem c_X2_fits_a3 (j0 : Nat) (n0 : Nat) (f0 : Nat → Int32) (r_2 : Int32) (hn24 : n0 ≤ 24) (hj : j0 < n0) (c_1 : j0 < 23) (hr_2 : r_2 = (f0 j0)) (c_3 : ¬ (j0 % 6) = 5) (c_4 : ¬ r_2 = 46) (c_5 : r_2 = 35) : cz_fit f0 j0 := by first | (subst_vars; rfl) | assumption | ((try subst_vars) <;> (try simp only [cz_fit]) <;> (repeat' split) <;> (first | rfl | contradiction | ((try simp only [cz_in, cz_du, cz_lt, cz_le, cz_eq, cz_l] at *) <;> (first | omega | (simp_all; done))))) | ((try subst_vars); simp only [cz_fit, cz_in, *, and_self, and_true, true_and, if_true, if_false])
theorem c_X2_fits_a4 (j0 : Nat) (n0 : Nat) (f0 : Nat → Int32) (r_2 : Int32) (hn24 : n0 ≤ 24) (hj : j0 < n0) (c_1 : j0 < 23) (hr_2 : r_2 = (f0 j0)) (c_3 : (j0 % 6) = 5) (c_6 : ¬ r_2 = 47) : ¬ cz_fit f0 j0 := by first | (subst_vars; rfl) | assumption | ((try subst_vars) <;> (try simp only [cz_fit]) <;> (repeat' split) <;> (first | rfl | contradiction | ((try simp only [cz_in, cz_du, cz_lt, cz_le, cz_eq, cz_l] at *) <;> (first | omega | (simp_all; done))))) | ((try subst_vars); simp only [cz_fit, cz_in, *, and_self, and_true, true_and, if_true, if_false])
theorem c_X2_fits_a5 (j0 : Nat) (n0 : Nat) (f0 : Nat → Int32) (r_2 : Int32) (hn24 : n0 ≤ 24) (hj : j0 < n0) (c_1 : j0 < 23) (hr_2 : r_2 = (f0 j0)) (c_3 : (j0 % 6) = 5) (c_6 : r_2 = 47) : cz_fit f0 j0 := by first | (subst_vars; rfl) | assumption | ((try subst_vars) <;> (try simp only [cz_fit]) <;> (repeat' split) <;> (first | rfl | contradiction | ((try simp only [cz_in, cz_du, cz_lt, cz_le, cz_eq, cz_l] at *) <;> (first | omega | (simp_all; done))))) | ((try subst_vars); simp only [cz_fit, cz_in, *, and_self, and_true, true_and, if_true, if_false])
theorem c_X2_fits_a6 (j0 : Nat) (n0 : Nat) (f0 : Nat → Int32) (hn24 : n0 ≤ 24) (hj : j0 < n0) (c_1 : ¬ j0 < 23) : ¬ cz_fit f0 j0 := by first | (subst_vars; rfl) | assumption | ((try subst_vars) <;> (try simp only [cz_fit]) <;> (repeat' split) <;> (first | rfl | contradiction | ((try simp only [cz_in, cz_du, cz_lt, cz_le, cz_eq, cz_l] at *) <;> (first | omega | (simp_all; done))))) | ((try subst_vars); simp only [cz_fit, cz_in, *, and_self, and_true, true_and, if_true, if_false])
set_option maxHeartbeats 4000000 in
set_option maxRecDepth 100000 in
theorem c_X2_fits (l : Launch) (dC : Nat → ClassId) (dI : Nat → Nat → Nat) (cI cB : ClassId) (hp : Nat) (j0 : Nat) (cd : Nat) (n0 : Nat) (f0 : Nat → Int32) (hn24 : n0 ≤ 24) (hj : j0 < n0) : Met l yX2_fits wsX2_fits ({ frames := 1, cells := 0, slots := 0, locals := 21 }) (cz_Pp dC dI cI cB [.ref hp, .int (nI j0)] [(hp, .inr (2, [.ref cd, .int (nI n0)])), (cd, .inl (cI, 24, .inl f0))]) (vp_Si (fun r : Int32 => (r = 0 ∧ ¬ cz_fit f0 j0) ∨ (r = 1 ∧ cz_fit f0 j0))) 0 0 (fun _ => False) := by
  refine cz_of (cc := cX2_fits) (maxL := 3) (ret := (some .boolean)) (by decide) rfl ?_
  intro p e s m args below meth c s₁ Q B hml hv hQ
  obtain ⟨rfl, hP, hN⟩ := hv
  have hx := B.exec
  have hb := B.bytes
  have hr := B.returns
  have hts := atoms_spec (ws := wsX2_fits) B.pre
  have hown : s.vm.findClass RX2 = some m.cls := findClass_of_methodNamed B.named
  have hlocks := B.notSynchronized
  have hK := hN.1
  have hl := lv_entry ([.ref hp, .int (nI j0)]) (n := 3) (Nat.le_of_ble_eq_true rfl)
  rw [lg_entry_eq]
  generalize (lg_sl ([.ref hp, .int (nI j0)]) ++ List.replicate (3 - (lg_sl ([.ref hp, .int (nI j0)])).length) Slot.unset).toArray = ls at hl ⊢
  have hl : lv_has ls 3 [(0, .ref hp), (1, .int (nI j0))] := hl
  refine lv_iload_n hx hb dX2_fits_0 rfl (lv_at hl 1 rfl) ?_
  refine lv_bipush (v := 23) hx hb dX2_fits_1 (by decide) ?_
  refine lv_icmp_lt (tgt := 8) hx hb dX2_fits_3 (by decide) (fun c_1 => ?_) (fun c_1 => ?_)
  · have c_1 : j0 < 23 := (nI_ltI (a := j0) (b := 23) (by omega) (by omega)).mp c_1
    refine lv_aload_n hx hb dX2_fits_8 rfl (lv_at hl 0 rfl) ?_
    refine lv_iload_n hx hb dX2_fits_9 rfl (lv_at hl 1 rfl) ?_
    refine vp_callSi (cz_run (va_runV (As := [.int (nI j0)]) (rest := []) ⟨hx, hb, hml, hown, hts⟩ (c_X2_codeAt l dC dI cI cB hp j0 cd n0 f0 hn24 hj) (cwV 1 hts gX2_fits_X2_codeAt rfl rfl rfl (by decide +kernel) ⟨Nat.le_of_ble_eq_true rfl, Nat.le_of_ble_eq_true rfl⟩) (cz_pV hP hN (va_recv hK hP (ci := 2) (q0 := 0) rfl rfl)) rfl rfl hl.1 rfl (lv_room (Nat.le_of_ble_eq_true rfl)) dX2_fits_10 ⟨Nat.le_of_ble_eq_true rfl, Nat.le_of_ble_eq_true rfl⟩)) (fun r_2 hr_2 => ?_)
    refine lv_istore_n (lv' := [(2, .int r_2), (0, .ref hp), (1, .int (nI j0))]) hx hb dX2_fits_13 rfl hl (by decide) rfl (fun ls hl => ?_)
    refine lv_iload_n hx hb dX2_fits_14 rfl (lv_at hl 2 rfl) ?_
    refine lv_bipush (v := 6) hx hb dX2_fits_15 (by decide) ?_
    refine lv_irem hx hb dX2_fits_17 (by decide) ?_
    refine cz_i (y := (nI (j0 % 6))) (pk_rem (a := j0) (d := 6) (by omega) (by decide) (by decide)) ?_
    refine lv_iconst (v := 5) hx hb dX2_fits_18 (by decide) ?_
    refine lv_icmp_ne (tgt := 34) hx hb dX2_fits_19 (by decide) (fun c_3 => ?_) (fun c_3 => ?_)
    · have c_3 : ¬ (j0 % 6) = 5 := fun h => c_3 ((nI_eq (a := (j0 % 6)) (b := 5) (by omega) (by omega)).mpr h)
      refine lv_iload_n hx hb dX2_fits_34 rfl (lv_at hl 0 rfl) ?_
      refine lv_bipush (v := 46) hx hb dX2_fits_35 (by decide) ?_
      refine lv_icmp_eq (tgt := 46) hx hb dX2_fits_37 (by decide) (fun c_4 => ?_) (fun c_4 => ?_)
      · refine lv_iconst (v := 1) hx hb dX2_fits_46 (by decide) ?_
        refine lv_goto (tgt := 51) hx hb dX2_fits_47 (by decide) ?_
        rw [hQ]; exact W.zret (v := 1) hx hb hr (by decide) (fun t ht hW => ⟨1, rfl, (Or.inr (⟨rfl, (c_X2_fits_a1 j0 n0 f0 r_2 hn24 hj c_1 hr_2 c_3 c_4)⟩)), ht⟩) (fun _ h => absurd h List.not_mem_nil) dX2_fits_51
      · refine lv_iload_n hx hb dX2_fits_40 rfl (lv_at hl 0 rfl) ?_
        refine lv_bipush (v := 35) hx hb dX2_fits_41 (by decide) ?_
        refine lv_icmp_ne (tgt := 50) hx hb dX2_fits_43 (by decide) (fun c_5 => ?_) (fun c_5 => ?_)
        · refine lv_iconst (v := 0) hx hb dX2_fits_50 (by decide) ?_
          rw [hQ]; exact W.zret (v := 0) hx hb hr (by decide) (fun t ht hW => ⟨0, rfl, (Or.inl ⟨rfl, (c_X2_fits_a2 j0 n0 f0 r_2 hn24 hj c_1 hr_2 c_3 c_4 c_5)⟩), ht⟩) (fun _ h => absurd h List.not_mem_nil) dX2_fits_51
        · refine lv_iconst (v := 1) hx hb dX2_fits_46 (by decide) ?_
          refine lv_goto (tgt := 51) hx hb dX2_fits_47 (by decide) ?_
          rw [hQ]; exact W.zret (v := 1) hx hb hr (by decide) (fun t ht hW => ⟨1, rfl, (Or.inr (⟨rfl, (c_X2_fits_a3 j0 n0 f0 r_2 hn24 hj c_1 hr_2 c_3 c_4 c_5)⟩)), ht⟩) (fun _ h => absurd h List.not_mem_nil) dX2_fits_51
    · have c_3 : (j0 % 6) = 5 := (nI_eq (a := (j0 % 6)) (b := 5) (by omega) (by omega)).mp c_3
      refine lv_iload_n hx hb dX2_fits_22 rfl (lv_at hl 0 rfl) ?_
      refine lv_bipush (v := 47) hx hb dX2_fits_23 (by decide) ?_
      refine lv_icmp_ne (tgt := 32) hx hb dX2_fits_25 (by decide) (fun c_6 => ?_) (fun c_6 => ?_)
      · refine lv_iconst (v := 0) hx hb dX2_fits_32 (by decide) ?_
        rw [hQ]; exact W.zret (v := 0) hx hb hr (by decide) (fun t ht hW => ⟨0, rfl, (Or.inl ⟨rfl, (c_X2_fits_a4 j0 n0 f0 r_2 hn24 hj c_1 hr_2 c_3 c_6)⟩), ht⟩) (fun _ h => absurd h List.not_mem_nil) dX2_fits_33
      · refine lv_iconst (v := 1) hx hb dX2_fits_28 (by decide) ?_
        refine lv_goto (tgt := 33) hx hb dX2_fits_29 (by decide) ?_
        rw [hQ]; exact W.zret (v := 1) hx hb hr (by decide) (fun t ht hW => ⟨1, rfl, (Or.inr (⟨rfl, (c_X2_fits_a5 j0 n0 f0 r_2 hn24 hj c_1 hr_2 c_3 c_6)⟩)), ht⟩) (fun _ h => absurd h List.not_mem_nil) dX2_fits_33
  · have c_1 : ¬ j0 < 23 := fun h => c_1 ((nI_ltI (a := j0) (b := 23) (by omega) (by omega)).mpr h)
    refine lv_iconst (v := 0) hx hb dX2_fits_6 (by decide) ?_
    rw [hQ]; exact W.zret (v := 0) hx hb hr (by decide) (fun t ht hW => ⟨0, rfl, (Or.inl ⟨rfl, (c_X2_fits_a6 j0 n0 f0 hn24 hj c_1)⟩), ht⟩) (fun _ h => absurd h List.not_mem_nil) dX2_fits_7

set_option maxHeartbeats 4000000 in
set_option maxRecDepth 100000 in
theorem c_X2_firstFault (l : Launch) (dC : Nat → ClassId) (dI : Nat → Nat → Nat) (cI cB : ClassId) (hp : Nat) (cd : Nat) (n0 : Nat) (f0 : Nat → Int32) (hn24 : n0 ≤ 24) : Met l yX2_firstFault wsX2_firstFault ({ frames := 2, cells := 0, slots := 0, locals := 43 }) (cz_Pp dC dI cI cB [.ref hp] [(hp, .inr (2, [.ref cd, .int (nI n0)])), (cd, .inl (cI, 24, .inl f0))]) (vp_Si (fun r : Int32 => ∃ kk : Nat, r = nI kk ∧ (kk ≤ n0) ∧ (cz_fits f0 kk) ∧ (kk = n0 ∨ ¬ cz_fit f0 kk))) 0 0 (fun _ => False) := by
  refine cz_of (cc := cX2_firstFault) (maxL := 2) (ret := (some .int)) (by decide) rfl ?_
  intro p e s m args below meth c s₁ Q B hml hv hQ
  obtain ⟨rfl, hP, hN⟩ := hv
  have hx := B.exec
  have hb := B.bytes
  have hr := B.returns
  have hts := atoms_spec (ws := wsX2_firstFault) B.pre
  have hown : s.vm.findClass RX2 = some m.cls := findClass_of_methodNamed B.named
  have hlocks := B.notSynchronized
  have hK := hN.1
  have hiX2 : ∀ w ∈ wsX20, w ∈ wsX2_firstFault := (fun _ h => List.mem_cons_of_mem _ (List.mem_append_right _ h))
  have hl := lv_entry ([.ref hp]) (n := 2) (Nat.le_of_ble_eq_true rfl)
  rw [lg_entry_eq]
  generalize (lg_sl ([.ref hp]) ++ List.replicate (2 - (lg_sl ([.ref hp])).length) Slot.unset).toArray = ls at hl ⊢
  have hl : lv_has ls 2 [(0, .ref hp)] := hl
  refine lv_iconst (v := 0) hx hb dX2_firstFault_0 (by decide) ?_
  refine lv_istore_n (lv' := [(1, .int 0), (0, .ref hp)]) hx hb dX2_firstFault_1 rfl hl (by decide) rfl (fun ls hl => ?_)
  have lp2 : ∀ (n2 : Nat) (i2 : Nat) (ls : Array Slot), i2 + n2 = n0 → cz_fits f0 i2 → lv_has ls 2 [(0, .ref hp), (1, .int (nI i2))] → W p l e ({ frames := 2, cells := 0, slots := 0, locals := 43 } : Room) s m #[Value.ref hp] below meth c s.heap [] 0 0 Q (F0 m 2 ls []) := by
    intro n2
    induction n2 with
    | zero =>
      intro i2 ls hi2 hm hl
      obtain rfl : n0 = i2 := by omega
      refine lv_iload_n hx hb dX2_firstFault_2 rfl (lv_at hl 1 rfl) ?_
      refine lv_aload_n hx hb dX2_firstFault_3 rfl (lv_at hl 0 rfl) ?_
      refine va_get (D := (dC, dI)) (ci := 2) (v := .int (nI n0)) (C := RX2) (T := TX2) (N := 2) hx hb hts hiX2 hown hK hP 0 rfl rfl 1 (by decide) (hts (.fieldLink RX2 15 "LeftProfile$Page" "size" "I") (List.mem_of_getElem? (i := 1) rfl)) (fun _ h9 => h9) rfl dX2_firstFault_4 ?_
      refine lv_icmp_ge (tgt := 26) hx hb dX2_firstFault_7 (by decide) (fun c_1 => ?_) (fun c_1 => ?_)
      · refine lv_aload_n hx hb dX2_firstFault_26 rfl (lv_at hl 0 rfl) ?_
        refine va_get (D := (dC, dI)) (ci := 2) (v := .int (nI n0)) (C := RX2) (T := TX2) (N := 2) hx hb hts hiX2 hown hK hP 0 rfl rfl 1 (by decide) (hts (.fieldLink RX2 15 "LeftProfile$Page" "size" "I") (List.mem_of_getElem? (i := 1) rfl)) (fun _ h9 => h9) rfl dX2_firstFault_27 ?_
        rw [hQ]; exact W.iret (v := (nI n0)) hx hb hr (fun t ht hW => ⟨(nI n0), rfl, ⟨n0, rfl, by omega, hm, Or.inl rfl⟩, ht⟩) (fun _ h => absurd h List.not_mem_nil) dX2_firstFault_30
      · exact absurd (show nI n0 ≤ nI n0 from nI_le (a := n0) (b := n0) (by omega) (by omega)) c_1
    | succ n2 ih2 =>
      intro i2 ls hi2 hm hl
      refine lv_iload_n hx hb dX2_firstFault_2 rfl (lv_at hl 1 rfl) ?_
      refine lv_aload_n hx hb dX2_firstFault_3 rfl (lv_at hl 0 rfl) ?_
      refine va_get (D := (dC, dI)) (ci := 2) (v := .int (nI n0)) (C := RX2) (T := TX2) (N := 2) hx hb hts hiX2 hown hK hP 0 rfl rfl 1 (by decide) (hts (.fieldLink RX2 15 "LeftProfile$Page" "size" "I") (List.mem_of_getElem? (i := 1) rfl)) (fun _ h9 => h9) rfl dX2_firstFault_4 ?_
      refine lv_icmp_ge (tgt := 26) hx hb dX2_firstFault_7 (by decide) (fun c_2 => ?_) (fun c_2 => ?_)
      · exact absurd c_2 (show ¬ nI n0 ≤ nI i2 from nI_ge (a := i2) (b := n0) (by omega) (by omega))
      · refine lv_aload_n hx hb dX2_firstFault_10 rfl (lv_at hl 0 rfl) ?_
        refine lv_iload_n hx hb dX2_firstFault_11 rfl (lv_at hl 1 rfl) ?_
        refine vp_callSi (cz_run (va_runV (As := [.int (nI i2)]) (rest := []) ⟨hx, hb, hml, hown, hts⟩ (c_X2_fits l dC dI cI cB hp i2 cd n0 f0 hn24 (by omega)) (cwV 1 hts gX2_firstFault_X2_fits rfl rfl rfl (by decide +kernel) ⟨Nat.le_of_ble_eq_true rfl, Nat.le_of_ble_eq_true rfl⟩) (cz_pV hP hN (va_recv hK hP (ci := 2) (q0 := 0) rfl rfl)) rfl rfl hl.1 rfl (lv_room (Nat.le_of_ble_eq_true rfl)) dX2_firstFault_12 ⟨Nat.le_of_ble_eq_true rfl, Nat.le_of_ble_eq_true rfl⟩)) (fun r_3 hr_3 => ?_)
        rcases hr_3 with ⟨rfl, hr_3⟩ | ⟨rfl, hr_3⟩
        · refine lv_if_ne (tgt := 20) hx hb dX2_firstFault_15 (by decide) (fun c => absurd (by decide) c) (fun _ => ?_)
          refine lv_iload_n hx hb dX2_firstFault_18 rfl (lv_at hl 1 rfl) ?_
          rw [hQ]; exact W.iret (v := (nI i2)) hx hb hr (fun t ht hW => ⟨(nI i2), rfl, ⟨i2, rfl, by omega, hm, Or.inr hr_3⟩, ht⟩) (fun _ h => absurd h List.not_mem_nil) dX2_firstFault_19
        · refine lv_if_ne (tgt := 20) hx hb dX2_firstFault_15 (by decide) (fun _ => ?_) (fun c => absurd c (by decide))
          refine lv_iinc (v := (nI (i2 + 1))) (lv' := [(1, .int (nI (i2 + 1))), (0, .ref hp)]) hx hb dX2_firstFault_20 hl (k := 1) rfl (nI_add i2 1) (by decide) rfl (fun ls hl => ?_)
          refine lv_goto (tgt := 2) hx hb dX2_firstFault_23 (by decide) ?_
          exact ih2 (i2 + 1) ls (by omega) (cz_fits1 hm hr_3) (lv_sub hl [1, 0] rfl)
  exact lp2 n0 0 ls (by omega) cz_fits0 (lv_sub hl [1, 0] rfl)

set_option maxHeartbeats 4000000 in
set_option maxRecDepth 100000 in
theorem c_X2_isHall (l : Launch) (dC : Nat → ClassId) (dI : Nat → Nat → Nat) (cI cB : ClassId) (hp : Nat) (cd : Nat) (n0 : Nat) (f0 : Nat → Int32) (hn24 : n0 ≤ 24) : Met l yX2_isHall wsX2_isHall ({ frames := 3, cells := 0, slots := 0, locals := 64 }) (cz_Pp dC dI cI cB [.ref hp] [(hp, .inr (2, [.ref cd, .int (nI n0)])), (cd, .inl (cI, 24, .inl f0))]) (vp_Si (fun r : Int32 => (r = 0 ∧ ¬ (n0 = 23 ∧ cz_fits f0 23)) ∨ (r = 1 ∧ (n0 = 23 ∧ cz_fits f0 23)))) 0 0 (fun _ => False) := by
  refine cz_of (cc := cX2_isHall) (maxL := 1) (ret := (some .boolean)) (by decide) rfl ?_
  intro p e s m args below meth c s₁ Q B hml hv hQ
  obtain ⟨rfl, hP, hN⟩ := hv
  have hx := B.exec
  have hb := B.bytes
  have hr := B.returns
  have hts := atoms_spec (ws := wsX2_isHall) B.pre
  have hown : s.vm.findClass RX2 = some m.cls := findClass_of_methodNamed B.named
  have hlocks := B.notSynchronized
  have hK := hN.1
  have hiX2 : ∀ w ∈ wsX20, w ∈ wsX2_isHall := (fun _ h => List.mem_cons_of_mem _ (List.mem_append_right _ h))
  have hl := lv_entry ([.ref hp]) (n := 1) (Nat.le_of_ble_eq_true rfl)
  rw [lg_entry_eq]
  generalize (lg_sl ([.ref hp]) ++ List.replicate (1 - (lg_sl ([.ref hp])).length) Slot.unset).toArray = ls at hl ⊢
  have hl : lv_has ls 1 [(0, .ref hp)] := hl
  refine lv_aload_n hx hb dX2_isHall_0 rfl (lv_at hl 0 rfl) ?_
  refine va_get (D := (dC, dI)) (ci := 2) (v := .int (nI n0)) (C := RX2) (T := TX2) (N := 2) hx hb hts hiX2 hown hK hP 0 rfl rfl 1 (by decide) (hts (.fieldLink RX2 15 "LeftProfile$Page" "size" "I") (List.mem_of_getElem? (i := 1) rfl)) (fun _ h9 => h9) rfl dX2_isHall_1 ?_
  refine lv_bipush (v := 23) hx hb dX2_isHall_4 (by decide) ?_
  refine lv_icmp_ne (tgt := 22) hx hb dX2_isHall_6 (by decide) (fun c_1 => ?_) (fun c_1 => ?_)
  · have c_1 : ¬ n0 = 23 := fun h => c_1 ((nI_eq (a := n0) (b := 23) (by omega) (by omega)).mpr h)
    refine lv_iconst (v := 0) hx hb dX2_isHall_22 (by decide) ?_
    rw [hQ]; exact W.zret (v := 0) hx hb hr (by decide) (fun t ht hW => ⟨0, rfl, (Or.inl ⟨rfl, (fun h => c_1 h.1)⟩), ht⟩) (fun _ h => absurd h List.not_mem_nil) dX2_isHall_23
  · have c_1 : n0 = 23 := (nI_eq (a := n0) (b := 23) (by omega) (by omega)).mp c_1
    refine lv_aload_n hx hb dX2_isHall_9 rfl (lv_at hl 0 rfl) ?_
    refine vp_callSi (cz_run (va_runV (As := []) (rest := []) ⟨hx, hb, hml, hown, hts⟩ (c_X2_firstFault l dC dI cI cB hp cd n0 f0 hn24) (cwV 0 hts gX2_isHall_X2_firstFault rfl rfl rfl (by decide +kernel) ⟨Nat.le_of_ble_eq_true rfl, Nat.le_of_ble_eq_true rfl⟩) (cz_pV hP hN (va_recv hK hP (ci := 2) (q0 := 0) rfl rfl)) rfl rfl hl.1 rfl (lv_room (Nat.le_of_ble_eq_true rfl)) dX2_isHall_10 ⟨Nat.le_of_ble_eq_true rfl, Nat.le_of_ble_eq_true rfl⟩)) (fun r_2 hr_2 => ?_)
    obtain ⟨kk_3, rfl, hr_2_k, hr_2_f, hr_2_n⟩ := hr_2
    refine lv_bipush (v := 23) hx hb dX2_isHall_13 (by decide) ?_
    refine lv_icmp_ne (tgt := 22) hx hb dX2_isHall_15 (by decide) (fun c_4 => ?_) (fun c_4 => ?_)
    · have c_4 : ¬ kk_3 = 23 := fun h => c_4 ((nI_eq (a := kk_3) (b := 23) (by omega) (by omega)).mpr h)
      refine lv_iconst (v := 0) hx hb dX2_isHall_22 (by decide) ?_
      rw [hQ]; exact W.zret (v := 0) hx hb hr (by decide) (fun t ht hW => ⟨0, rfl, (Or.inl ⟨rfl, (cz_nh hr_2_k hr_2_n c_1 c_4)⟩), ht⟩) (fun _ h => absurd h List.not_mem_nil) dX2_isHall_23
    · have c_4 : kk_3 = 23 := (nI_eq (a := kk_3) (b := 23) (by omega) (by omega)).mp c_4
      refine lv_iconst (v := 1) hx hb dX2_isHall_18 (by decide) ?_
      refine lv_goto (tgt := 23) hx hb dX2_isHall_19 (by decide) ?_
      rw [hQ]; exact W.zret (v := 1) hx hb hr (by decide) (fun t ht hW => ⟨1, rfl, (Or.inr (⟨rfl, ⟨c_1, by have e := c_4; rw [← e]; exact hr_2_f⟩⟩)), ht⟩) (fun _ h => absurd h List.not_mem_nil) dX2_isHall_23

theorem c_X2_isWall_a1 (j0 : Nat) (n0 : Nat) (f0 : Nat → Int32) (r_1 : Int32) (hn24 : n0 ≤ 24) (hj : j0 < 20) (h23 : n0 = 23) (hr_1 : r_1 = (f0 (((j0 / 5) * 6) + (j0 % 5)))) (c_2 : ¬ r_1 = 35) : ¬ f0 (j0 / 5 * 6 + j0 % 5) = 35 := by first | (subst_vars; rfl) | assumption | ((try subst_vars) <;> (repeat' split) <;> (first | rfl | contradiction | ((try simp only [cz_in, cz_du, cz_lt, cz_le, cz_eq, cz_l] at *) <;> (first | omega | (simp_all; done))))) | ((try subst_vars); simp only [cz_in, *, and_self, and_true, true_and, if_true, if_false])
theorem c_X2_isWall_a2 (j0 : Nat) (n0 : Nat) (f0 : Nat → Int32) (r_1 : Int32) (hn24 : n0 ≤ 24) (hj : j0 < 20) (h23 : n0 = 23) (hr_1 : r_1 = (f0 (((j0 / 5) * 6) + (j0 % 5)))) (c_2 : r_1 = 35) : f0 (j0 / 5 * 6 + j0 % 5) = 35 := by first | (subst_vars; rfl) | assumption | ((try subst_vars) <;> (repeat' split) <;> (first | rfl | contradiction | ((try simp only [cz_in, cz_du, cz_lt, cz_le, cz_eq, cz_l] at *) <;> (first | omega | (simp_all; done))))) | ((try subst_vars); simp only [cz_in, *, and_self, and_true, true_and, if_true, if_false])
set_option maxHeartbeats 4000000 in
set_option maxRecDepth 100000 in
theorem c_X2_isWall (l : Launch) (dC : Nat → ClassId) (dI : Nat → Nat → Nat) (cI cB : ClassId) (hp : Nat) (j0 : Nat) (cd : Nat) (n0 : Nat) (f0 : Nat → Int32) (hn24 : n0 ≤ 24) (hj : j0 < 20) (h23 : n0 = 23) : Met l yX2_isWall wsX2_isWall ({ frames := 1, cells := 0, slots := 0, locals := 21 }) (cz_Pp dC dI cI cB [.ref hp, .int (nI j0)] [(hp, .inr (2, [.ref cd, .int (nI n0)])), (cd, .inl (cI, 24, .inl f0))]) (vp_Si (fun r : Int32 => (r = 0 ∧ ¬ f0 (j0 / 5 * 6 + j0 % 5) = 35) ∨ (r = 1 ∧ f0 (j0 / 5 * 6 + j0 % 5) = 35))) 0 0 (fun _ => False) := by
  refine cz_of (cc := cX2_isWall) (maxL := 2) (ret := (some .boolean)) (by decide) rfl ?_
  intro p e s m args below meth c s₁ Q B hml hv hQ
  obtain ⟨rfl, hP, hN⟩ := hv
  have hx := B.exec
  have hb := B.bytes
  have hr := B.returns
  have hts := atoms_spec (ws := wsX2_isWall) B.pre
  have hown : s.vm.findClass RX2 = some m.cls := findClass_of_methodNamed B.named
  have hlocks := B.notSynchronized
  have hK := hN.1
  have hl := lv_entry ([.ref hp, .int (nI j0)]) (n := 2) (Nat.le_of_ble_eq_true rfl)
  rw [lg_entry_eq]
  generalize (lg_sl ([.ref hp, .int (nI j0)]) ++ List.replicate (2 - (lg_sl ([.ref hp, .int (nI j0)])).length) Slot.unset).toArray = ls at hl ⊢
  have hl : lv_has ls 2 [(0, .ref hp), (1, .int (nI j0))] := hl
  refine lv_aload_n hx hb dX2_isWall_0 rfl (lv_at hl 0 rfl) ?_
  refine lv_iload_n hx hb dX2_isWall_1 rfl (lv_at hl 1 rfl) ?_
  refine lv_iconst (v := 5) hx hb dX2_isWall_2 (by decide) ?_
  refine lv_idiv hx hb dX2_isWall_3 (by decide) ?_
  refine cz_i (y := (nI (j0 / 5))) (pk_div (a := j0) (d := 5) (by omega) (by decide) (by decide)) ?_
  refine lv_bipush (v := 6) hx hb dX2_isWall_4 (by decide) ?_
  refine lv_imul hx hb dX2_isWall_6 ?_
  refine cz_i (y := (nI ((j0 / 5) * 6))) (pk_mul (j0 / 5) 6) ?_
  refine lv_iload_n hx hb dX2_isWall_7 rfl (lv_at hl 1 rfl) ?_
  refine lv_iconst (v := 5) hx hb dX2_isWall_8 (by decide) ?_
  refine lv_irem hx hb dX2_isWall_9 (by decide) ?_
  refine cz_i (y := (nI (j0 % 5))) (pk_rem (a := j0) (d := 5) (by omega) (by decide) (by decide)) ?_
  refine lv_iadd hx hb dX2_isWall_10 ?_
  refine cz_i (y := (nI (((j0 / 5) * 6) + (j0 % 5)))) (nI_add ((j0 / 5) * 6) (j0 % 5)) ?_
  refine vp_callSi (cz_run (va_runV (As := [.int (nI (((j0 / 5) * 6) + (j0 % 5)))]) (rest := []) ⟨hx, hb, hml, hown, hts⟩ (c_X2_codeAt l dC dI cI cB hp (((j0 / 5) * 6) + (j0 % 5)) cd n0 f0 hn24 (by omega)) (cwV 1 hts gX2_isWall_X2_codeAt rfl rfl rfl (by decide +kernel) ⟨Nat.le_of_ble_eq_true rfl, Nat.le_of_ble_eq_true rfl⟩) (cz_pV hP hN (va_recv hK hP (ci := 2) (q0 := 0) rfl rfl)) rfl rfl hl.1 rfl (lv_room (Nat.le_of_ble_eq_true rfl)) dX2_isWall_11 ⟨Nat.le_of_ble_eq_true rfl, Nat.le_of_ble_eq_true rfl⟩)) (fun r_1 hr_1 => ?_)
  refine lv_bipush (v := 35) hx hb dX2_isWall_14 (by decide) ?_
  refine lv_icmp_ne (tgt := 23) hx hb dX2_isWall_16 (by decide) (fun c_2 => ?_) (fun c_2 => ?_)
  · refine lv_iconst (v := 0) hx hb dX2_isWall_23 (by decide) ?_
    rw [hQ]; exact W.zret (v := 0) hx hb hr (by decide) (fun t ht hW => ⟨0, rfl, (Or.inl ⟨rfl, (c_X2_isWall_a1 j0 n0 f0 r_1 hn24 hj h23 hr_1 c_2)⟩), ht⟩) (fun _ h => absurd h List.not_mem_nil) dX2_isWall_24
  · refine lv_iconst (v := 1) hx hb dX2_isWall_19 (by decide) ?_
    refine lv_goto (tgt := 24) hx hb dX2_isWall_20 (by decide) ?_
    rw [hQ]; exact W.zret (v := 1) hx hb hr (by decide) (fun t ht hW => ⟨1, rfl, (Or.inr (⟨rfl, (c_X2_isWall_a2 j0 n0 f0 r_1 hn24 hj h23 hr_1 c_2)⟩)), ht⟩) (fun _ h => absurd h List.not_mem_nil) dX2_isWall_24

theorem c_X1_isMissing_a1 (w2 : Int32) (c_1 : ¬ w2 = 0) : ¬ w2 = 0 := by first | (subst_vars; rfl) | assumption | ((try subst_vars) <;> (repeat' split) <;> (first | rfl | contradiction | ((try simp only [cz_in, cz_du, cz_lt, cz_le, cz_eq, cz_l] at *) <;> (first | omega | (simp_all; done))))) | ((try subst_vars); simp only [cz_in, *, and_self, and_true, true_and, if_true, if_false])
theorem c_X1_isMissing_a2 (w2 : Int32) (c_1 : w2 = 0) : w2 = 0 := by first | (subst_vars; rfl) | assumption | ((try subst_vars) <;> (repeat' split) <;> (first | rfl | contradiction | ((try simp only [cz_in, cz_du, cz_lt, cz_le, cz_eq, cz_l] at *) <;> (first | omega | (simp_all; done))))) | ((try subst_vars); simp only [cz_in, *, and_self, and_true, true_and, if_true, if_false])
set_option maxHeartbeats 4000000 in
set_option maxRecDepth 100000 in
theorem c_X1_isMissing (l : Launch) (dC : Nat → ClassId) (dI : Nat → Nat → Nat) (cI cB : ClassId) (hh : Nat) (w0 : Int32) (w1 : Int32) (w2 : Int32) : Met l yX1_isMissing wsX1_isMissing ({ frames := 0, cells := 0, slots := 0, locals := 0 }) (cz_Pp dC dI cI cB [.ref hh] [(hh, .inr (1, [.int w0, .int w1, .int w2]))]) (vp_Si (fun r : Int32 => (r = 0 ∧ ¬ w2 = 0) ∨ (r = 1 ∧ w2 = 0))) 0 0 (fun _ => False) := by
  refine cz_of (cc := cX1_isMissing) (maxL := 1) (ret := (some .boolean)) (by decide) rfl ?_
  intro p e s m args below meth c s₁ Q B hml hv hQ
  obtain ⟨rfl, hP, hN⟩ := hv
  have hx := B.exec
  have hb := B.bytes
  have hr := B.returns
  have hts := atoms_spec (ws := wsX1_isMissing) B.pre
  have hown : s.vm.findClass RX1 = some m.cls := findClass_of_methodNamed B.named
  have hlocks := B.notSynchronized
  have hK := hN.1
  have hiX1 : ∀ w ∈ wsX10, w ∈ wsX1_isMissing := (fun _ h => List.mem_cons_of_mem _ (List.mem_append_right _ h))
  have hl := lv_entry ([.ref hh]) (n := 1) (Nat.le_of_ble_eq_true rfl)
  rw [lg_entry_eq]
  generalize (lg_sl ([.ref hh]) ++ List.replicate (1 - (lg_sl ([.ref hh])).length) Slot.unset).toArray = ls at hl ⊢
  have hl : lv_has ls 1 [(0, .ref hh)] := hl
  refine lv_aload_n hx hb dX1_isMissing_0 rfl (lv_at hl 0 rfl) ?_
  refine va_get (D := (dC, dI)) (ci := 1) (v := .int w2) (C := RX1) (T := TX1) (N := 3) hx hb hts hiX1 hown hK hP 0 rfl rfl 2 (by decide) (hts (.fieldLink RX1 18 "LeftProfile$Hall" "readings" "I") (List.mem_of_getElem? (i := 1) rfl)) (fun _ h9 => h9) rfl dX1_isMissing_1 ?_
  refine lv_if_ne (tgt := 11) hx hb dX1_isMissing_4 (by decide) (fun c_1 => ?_) (fun c_1 => ?_)
  · refine lv_iconst (v := 0) hx hb dX1_isMissing_11 (by decide) ?_
    rw [hQ]; exact W.zret (v := 0) hx hb hr (by decide) (fun t ht hW => ⟨0, rfl, (Or.inl ⟨rfl, (c_X1_isMissing_a1 w2 c_1)⟩), ht⟩) (fun _ h => absurd h List.not_mem_nil) dX1_isMissing_12
  · refine lv_iconst (v := 1) hx hb dX1_isMissing_7 (by decide) ?_
    refine lv_goto (tgt := 12) hx hb dX1_isMissing_8 (by decide) ?_
    rw [hQ]; exact W.zret (v := 1) hx hb hr (by decide) (fun t ht hW => ⟨1, rfl, (Or.inr (⟨rfl, (c_X1_isMissing_a2 w2 c_1)⟩)), ht⟩) (fun _ h => absurd h List.not_mem_nil) dX1_isMissing_12

theorem c_X1_read_a1 (w2 : Int32) (n0 : Nat) (f0 : Nat → Int32) (ww : Int32) (r_1 : Int32) (x_2 : Int32) (x_3 : Int32) (hn24 : n0 ≤ 24) (h23 : n0 = 23) (hw : ww = cz_wl f0 20) (hr_1 : r_1 = cz_bc ww) (ex_2 : x_2 = 20 - r_1) (ex_3 : x_3 = w2 + 1) : x_2 = 20 - cz_bc ww := by first | (subst_vars; rfl) | assumption | ((try subst_vars) <;> (repeat' split) <;> (first | rfl | contradiction | ((try simp only [cz_in, cz_du, cz_lt, cz_le, cz_eq, cz_l] at *) <;> (first | omega | (simp_all; done))))) | ((try subst_vars); simp only [cz_in, *, and_self, and_true, true_and, if_true, if_false])
theorem c_X1_read_a2 (n0 : Nat) (f0 : Nat → Int32) (i7 : Nat) (ww : Int32) (n7 : Nat) (hn24 : n0 ≤ 24) (h23 : n0 = 23) (hi7 : i7 + (n7 + 1) = 20) (hw : ww = cz_wl f0 i7) (hr_5 : ¬ f0 (i7 / 5 * 6 + i7 % 5) = 35) : ww = cz_wl f0 (i7 + 1) := by (try subst_vars); simp only [cz_wl]; split <;> first | rfl | contradiction
theorem c_X1_read_a3 (n0 : Nat) (f0 : Nat → Int32) (i7 : Nat) (ww : Int32) (n7 : Nat) (r_6 : Int32) (x_7 : Int32) (hn24 : n0 ≤ 24) (h23 : n0 = 23) (hi7 : i7 + (n7 + 1) = 20) (hw : ww = cz_wl f0 i7) (hr_5 : f0 (i7 / 5 * 6 + i7 % 5) = 35) (hr_6 : r_6 = 1 <<< ((nI i7) &&& 31)) (ex_7 : x_7 = ww ||| r_6) : x_7 = cz_wl f0 (i7 + 1) := by (try subst_vars); simp only [cz_wl]; split <;> first | rfl | contradiction
set_option maxHeartbeats 4000000 in
set_option maxRecDepth 100000 in
theorem c_X1_read (l : Launch) (dC : Nat → ClassId) (dI : Nat → Nat → Nat) (cI cB : ClassId) (hh : Nat) (hp : Nat) (w0 : Int32) (w1 : Int32) (w2 : Int32) (cd : Nat) (n0 : Nat) (f0 : Nat → Int32) (sz : Nat) (hn24 : n0 ≤ 24) (h23 : n0 = 23) : Met l yX1_read wsX1_read ({ frames := 2, cells := 0, slots := 0, locals := 42 }) (cz_Pm dC dI cI cB [.ref hh, .ref hp] [(hh, .inr (1, [.int w0, .int w1, .int w2])), (hp, .inr (2, [.ref cd, .int (nI n0)])), (cd, .inl (cI, 24, .inl f0))] sz) (va_Qv (fun _ : Unit => True) (fun _ t => ∃ (z0 : Int32) (z1 : Int32) (z2 : Int32), (z0 = cz_wl f0 20) ∧ (z1 = 20 - cz_bc z0) ∧ (z2 = w2 + 1) ∧ va_P (dC, dI) vwCl [(hh, .inr (1, [.int z0, .int z1, .int z2])), (hp, .inr (2, [.ref cd, .int (nI n0)])), (cd, .inl (cI, 24, .inl f0))] t.heap ∧ va_D (va_A [(hh, .inr (1, [.int w0, .int w1, .int w2])), (hp, .inr (2, [.ref cd, .int (nI n0)])), (cd, .inl (cI, 24, .inl f0))] sz) [(hh, .inr (1, [.int z0, .int z1, .int z2])), (hp, .inr (2, [.ref cd, .int (nI n0)])), (cd, .inl (cI, 24, .inl f0))]) (va_A [(hh, .inr (1, [.int w0, .int w1, .int w2])), (hp, .inr (2, [.ref cd, .int (nI n0)])), (cd, .inl (cI, 24, .inl f0))] sz)) 0 0 (va_A [(hh, .inr (1, [.int w0, .int w1, .int w2])), (hp, .inr (2, [.ref cd, .int (nI n0)])), (cd, .inl (cI, 24, .inl f0))] sz) := by
  refine cz_of (cc := cX1_read) (maxL := 3) (ret := none) (by decide) rfl ?_
  intro p e s m args below meth c s₁ Q B hml hv hQ
  obtain ⟨rfl, hsz, hP, hN, hD0⟩ := hv
  have hx := B.exec
  have hb := B.bytes
  have hr := B.returns
  have hts := atoms_spec (ws := wsX1_read) B.pre
  have hown : s.vm.findClass RX1 = some m.cls := findClass_of_methodNamed B.named
  have hlocks := B.notSynchronized
  have hK := hN.1
  have hiX1 : ∀ w ∈ wsX10, w ∈ wsX1_read := (fun _ h => List.mem_cons_of_mem _ (List.mem_append_left _ (List.mem_append_right _ h)))
  subst hsz
  have hD := hD0.self (sz := s.heap.size)
  generalize hAe : va_A [(hh, .inr (1, [.int w0, .int w1, .int w2])), (hp, .inr (2, [.ref cd, .int (nI n0)])), (cd, .inl (cI, 24, .inl f0))] s.heap.size = A at hD hQ ⊢
  have hA : ∀ q : Nat, s.heap.size ≤ q → A q := fun q h => by rw [← hAe]; exact Or.inr h
  have hS : va_S A s.heap s.heap [] := va_S.rf
  obtain ⟨H, eH⟩ : ∃ H, H = s.heap := ⟨_, rfl⟩
  have hP : va_P (dC, dI) vwCl [(hh, .inr (1, [.int w0, .int w1, .int w2])), (hp, .inr (2, [.ref cd, .int (nI n0)])), (cd, .inl (cI, 24, .inl f0))] s.heap := hP
  have hl := lv_entry ([.ref hh, .ref hp]) (n := 3) (Nat.le_of_ble_eq_true rfl)
  rw [lg_entry_eq]
  generalize (lg_sl ([.ref hh, .ref hp]) ++ List.replicate (3 - (lg_sl ([.ref hh, .ref hp])).length) Slot.unset).toArray = ls at hl ⊢
  have hl : lv_has ls 3 [(0, .ref hh), (1, .ref hp)] := hl
  refine lv_aload_n hx hb dX1_read_0 rfl (lv_at hl 0 rfl) ?_
  refine lv_iconst (v := 0) hx hb dX1_read_1 (by decide) ?_
  refine va_put (D := (dC, dI)) (ci := 1) (v := .int 0) (ty := .int) (C := RX1) (T := TX1) (N := 3) hx hb hts hiX1 tyX1 tyX1_ok nmX1 hown hK hP hD hS 0 rfl rfl 0 (by decide) (hts (.fieldLink RX1 9 "LeftProfile$Hall" "walls" "I") (List.mem_of_getElem? (i := 1) rfl)) (fun _ h9 => h9) rfl (by decide +kernel) rfl rfl (Nat.le_of_ble_eq_true rfl) dX1_read_2 (fun H locs hP hD hS => ?_)
  have hP : va_P (dC, dI) vwCl [(hh, .inr (1, [.int 0, .int w1, .int w2])), (hp, .inr (2, [.ref cd, .int (nI n0)])), (cd, .inl (cI, 24, .inl f0))] H := hP
  have hD : va_D A [(hh, .inr (1, [.int 0, .int w1, .int w2])), (hp, .inr (2, [.ref cd, .int (nI n0)])), (cd, .inl (cI, 24, .inl f0))] := hD
  refine lv_iconst (v := 0) hx hb dX1_read_5 (by decide) ?_
  refine lv_istore_n (lv' := [(2, .int 0), (0, .ref hh), (1, .ref hp)]) hx hb dX1_read_6 rfl hl (by decide) rfl (fun ls hl => ?_)
  have lp7 : ∀ (n7 : Nat) (i7 : Nat) (ww : Int32) (H : Heap) (locs : List Loc) (ls : Array Slot), i7 + n7 = 20 → ww = cz_wl f0 i7 → va_P (dC, dI) vwCl [(hh, .inr (1, [.int ww, .int w1, .int w2])), (hp, .inr (2, [.ref cd, .int (nI n0)])), (cd, .inl (cI, 24, .inl f0))] H → va_D A [(hh, .inr (1, [.int ww, .int w1, .int w2])), (hp, .inr (2, [.ref cd, .int (nI n0)])), (cd, .inl (cI, 24, .inl f0))] → va_S A s.heap H locs → lv_has ls 3 [(0, .ref hh), (1, .ref hp), (2, .int (nI i7))] → W p l e ({ frames := 2, cells := 0, slots := 0, locals := 42 } : Room) s m #[Value.ref hh, Value.ref hp] below meth c H locs 0 0 Q (F0 m 7 ls []) := by
    intro n7
    induction n7 with
    | zero =>
      intro i7 ww H locs ls hi7 hw hP hD hS hl
      obtain rfl : i7 = 20 := by omega
      have hl : lv_has ls 3 [(0, .ref hh), (1, .ref hp), (2, .int 20)] := hl
      refine lv_iload_n hx hb dX1_read_7 rfl (lv_at hl 2 rfl) ?_
      refine lv_bipush (v := 20) hx hb dX1_read_8 (by decide) ?_
      refine lv_icmp_ge (tgt := 40) hx hb dX1_read_10 (by decide) (fun _ => ?_) (fun c => absurd (by decide) c)
      refine lv_aload_n hx hb dX1_read_40 rfl (lv_at hl 0 rfl) ?_
      refine lv_bipush (v := 20) hx hb dX1_read_41 (by decide) ?_
      refine lv_aload_n hx hb dX1_read_43 rfl (lv_at hl 0 rfl) ?_
      refine va_get (D := (dC, dI)) (ci := 1) (v := .int ww) (C := RX1) (T := TX1) (N := 3) hx hb hts hiX1 hown hK hP 0 rfl rfl 0 (by decide) (hts (.fieldLink RX1 9 "LeftProfile$Hall" "walls" "I") (List.mem_of_getElem? (i := 1) rfl)) (fun _ h9 => h9) rfl dX1_read_44 ?_
      refine vp_callSi (cz_run (va_runS (As := [.int ww]) (rest := [.int 20, .ref hh]) ⟨hx, hb, hml, hown, hts⟩ (c_J6_bitCount_0f7a4 l dC dI cI cB ww ) (va_cwS 1 hts gX1_read_J6_bitCount_0f7a4 rfl rfl rfl (by decide +kernel) ⟨Nat.le_of_ble_eq_true rfl, Nat.le_of_ble_eq_true rfl⟩) (cz_pS (hP.sub (ws' := []) [] rfl) hN) rfl rfl hl.1 rfl (lv_room (Nat.le_of_ble_eq_true rfl)) dX1_read_47 ⟨Nat.le_of_ble_eq_true rfl, Nat.le_of_ble_eq_true rfl⟩)) (fun r_1 hr_1 => ?_)
      refine lv_isub hx hb dX1_read_50 ?_
      refine lv_topi (fun x_2 ex_2 => ?_)
      refine va_put (D := (dC, dI)) (ci := 1) (v := .int x_2) (ty := .int) (C := RX1) (T := TX1) (N := 3) hx hb hts hiX1 tyX1 tyX1_ok nmX1 hown hK hP hD hS 0 rfl rfl 1 (by decide) (hts (.fieldLink RX1 15 "LeftProfile$Hall" "floors" "I") (List.mem_of_getElem? (i := 2) rfl)) (fun _ h9 => h9) rfl (by decide +kernel) rfl rfl (Nat.le_of_ble_eq_true rfl) dX1_read_51 (fun H locs hP hD hS => ?_)
      have hP : va_P (dC, dI) vwCl [(hh, .inr (1, [.int ww, .int x_2, .int w2])), (hp, .inr (2, [.ref cd, .int (nI n0)])), (cd, .inl (cI, 24, .inl f0))] H := hP
      have hD : va_D A [(hh, .inr (1, [.int ww, .int x_2, .int w2])), (hp, .inr (2, [.ref cd, .int (nI n0)])), (cd, .inl (cI, 24, .inl f0))] := hD
      refine lv_aload_n hx hb dX1_read_54 rfl (lv_at hl 0 rfl) ?_
      refine lv_dup hx hb dX1_read_55 rfl ?_
      refine va_get (D := (dC, dI)) (ci := 1) (v := .int w2) (C := RX1) (T := TX1) (N := 3) hx hb hts hiX1 hown hK hP 0 rfl rfl 2 (by decide) (hts (.fieldLink RX1 18 "LeftProfile$Hall" "readings" "I") (List.mem_of_getElem? (i := 3) rfl)) (fun _ h9 => h9) rfl dX1_read_56 ?_
      refine lv_iconst (v := 1) hx hb dX1_read_59 (by decide) ?_
      refine lv_iadd hx hb dX1_read_60 ?_
      refine lv_topi (fun x_3 ex_3 => ?_)
      refine va_put (D := (dC, dI)) (ci := 1) (v := .int x_3) (ty := .int) (C := RX1) (T := TX1) (N := 3) hx hb hts hiX1 tyX1 tyX1_ok nmX1 hown hK hP hD hS 0 rfl rfl 2 (by decide) (hts (.fieldLink RX1 18 "LeftProfile$Hall" "readings" "I") (List.mem_of_getElem? (i := 3) rfl)) (fun _ h9 => h9) rfl (by decide +kernel) rfl rfl (Nat.le_of_ble_eq_true rfl) dX1_read_61 (fun H locs hP hD hS => ?_)
      have hP : va_P (dC, dI) vwCl [(hh, .inr (1, [.int ww, .int x_2, .int x_3])), (hp, .inr (2, [.ref cd, .int (nI n0)])), (cd, .inl (cI, 24, .inl f0))] H := hP
      have hD : va_D A [(hh, .inr (1, [.int ww, .int x_2, .int x_3])), (hp, .inr (2, [.ref cd, .int (nI n0)])), (cd, .inl (cI, 24, .inl f0))] := hD
      refine W.widen (k := 0) (n := 0) (Nat.le_of_ble_eq_true rfl) (Nat.le_of_ble_eq_true rfl) ?_
      have hP9 := hP.sub (ws' := [(hh, .inr (1, [.int ww, .int x_2, .int x_3])), (hp, .inr (2, [.ref cd, .int (nI n0)])), (cd, .inl (cI, 24, .inl f0))]) [0, 1, 2] rfl
      have hD9 := hD.sub (ws' := [(hh, .inr (1, [.int ww, .int x_2, .int x_3])), (hp, .inr (2, [.ref cd, .int (nI n0)])), (cd, .inl (cI, 24, .inl f0))]) [0, 1, 2] (by decide) rfl
      rw [hQ]; exact W.vret hx hb hr (fun t ht hW => ⟨⟨(), rfl, trivial, ⟨ww, x_2, x_3, hw, (c_X1_read_a1 w2 n0 f0 ww r_1 x_2 x_3 hn24 h23 hw hr_1 ex_2 ex_3), ex_3, by rw [ht]; exact hP9, hD9⟩⟩, hS.F ht⟩) hS.2.2 dX1_read_64
    | succ n7 ih7 =>
      intro i7 ww H locs ls hi7 hw hP hD hS hl
      refine lv_iload_n hx hb dX1_read_7 rfl (lv_at hl 2 rfl) ?_
      refine lv_bipush (v := 20) hx hb dX1_read_8 (by decide) ?_
      refine lv_icmp_ge (tgt := 40) hx hb dX1_read_10 (by decide) (fun c_4 => ?_) (fun c_4 => ?_)
      · exact absurd c_4 (show ¬ (20 : Int32) ≤ nI i7 from nI_ge (a := i7) (b := 20) (by omega) (by omega))
      · refine lv_aload_n hx hb dX1_read_13 rfl (lv_at hl 1 rfl) ?_
        refine lv_iload_n hx hb dX1_read_14 rfl (lv_at hl 2 rfl) ?_
        refine vp_callSi (cz_run (va_runV (As := [.int (nI i7)]) (rest := []) ⟨hx, hb, hml, hown, hts⟩ (c_X2_isWall l dC dI cI cB hp i7 cd n0 f0 hn24 (by omega) h23) (cwV 1 hts gX1_read_X2_isWall rfl rfl rfl (by decide +kernel) ⟨Nat.le_of_ble_eq_true rfl, Nat.le_of_ble_eq_true rfl⟩) (cz_pV (hP.sub (ws' := [(hp, .inr (2, [.ref cd, .int (nI n0)])), (cd, .inl (cI, 24, .inl f0))]) [1, 2] rfl) hN (va_recv hK (hP.sub (ws' := [(hp, .inr (2, [.ref cd, .int (nI n0)])), (cd, .inl (cI, 24, .inl f0))]) [1, 2] rfl) (ci := 2) (q0 := 0) rfl rfl)) rfl rfl hl.1 rfl (lv_room (Nat.le_of_ble_eq_true rfl)) dX1_read_15 ⟨Nat.le_of_ble_eq_true rfl, Nat.le_of_ble_eq_true rfl⟩)) (fun r_5 hr_5 => ?_)
        rcases hr_5 with ⟨rfl, hr_5⟩ | ⟨rfl, hr_5⟩
        · refine lv_if_eq (tgt := 34) hx hb dX1_read_18 (by decide) (fun _ => ?_) (fun c => absurd (by decide) c)
          refine lv_iinc (v := (nI (i7 + 1))) (lv' := [(2, .int (nI (i7 + 1))), (0, .ref hh), (1, .ref hp)]) hx hb dX1_read_34 hl (k := 2) rfl (nI_add i7 1) (by decide) rfl (fun ls hl => ?_)
          refine lv_goto (tgt := 7) hx hb dX1_read_37 (by decide) ?_
          exact ih7 (i7 + 1) ww H locs ls (by omega) (c_X1_read_a2 n0 f0 i7 ww n7 hn24 h23 hi7 hw hr_5) hP hD hS (lv_sub hl [1, 2, 0] rfl)
        · refine lv_if_eq (tgt := 34) hx hb dX1_read_18 (by decide) (fun c => absurd c (by decide)) (fun _ => ?_)
          refine lv_aload_n hx hb dX1_read_21 rfl (lv_at hl 0 rfl) ?_
          refine lv_dup hx hb dX1_read_22 rfl ?_
          refine va_get (D := (dC, dI)) (ci := 1) (v := .int ww) (C := RX1) (T := TX1) (N := 3) hx hb hts hiX1 hown hK hP 0 rfl rfl 0 (by decide) (hts (.fieldLink RX1 9 "LeftProfile$Hall" "walls" "I") (List.mem_of_getElem? (i := 1) rfl)) (fun _ h9 => h9) rfl dX1_read_23 ?_
          refine lv_iload_n hx hb dX1_read_26 rfl (lv_at hl 2 rfl) ?_
          refine vp_callSi (cz_run (va_runSN (As := [.int (nI i7)]) (rest := [.int ww, .ref hh]) ⟨hx, hb, hml, hown, hts⟩ (c_X6_bit l dC dI cI cB (nI i7) ) ⟨(va_cnB 1 hts gX1_read_X6_bit_n27 rfl rfl rfl (hN.2 (RX1, 27, yX6_bit) (by decide)) (hts (.initialized RX6) (List.mem_of_getElem? (i := 16) rfl)) (by decide +kernel) ⟨Nat.le_of_ble_eq_true rfl, Nat.le_of_ble_eq_true rfl⟩), hts (.static yX6_bit) (List.mem_of_getElem? (i := 15) rfl), trivial⟩ (cz_pS (hP.sub (ws' := []) [] rfl) hN) rfl rfl hl.1 rfl (lv_room (Nat.le_of_ble_eq_true rfl)) dX1_read_27 ⟨Nat.le_of_ble_eq_true rfl, Nat.le_of_ble_eq_true rfl⟩)) (fun r_6 hr_6 => ?_)
          refine lv_ior hx hb dX1_read_30 ?_
          refine lv_topi (fun x_7 ex_7 => ?_)
          refine va_put (D := (dC, dI)) (ci := 1) (v := .int x_7) (ty := .int) (C := RX1) (T := TX1) (N := 3) hx hb hts hiX1 tyX1 tyX1_ok nmX1 hown hK hP hD hS 0 rfl rfl 0 (by decide) (hts (.fieldLink RX1 9 "LeftProfile$Hall" "walls" "I") (List.mem_of_getElem? (i := 1) rfl)) (fun _ h9 => h9) rfl (by decide +kernel) rfl rfl (Nat.le_of_ble_eq_true rfl) dX1_read_31 (fun H locs hP hD hS => ?_)
          have hP : va_P (dC, dI) vwCl [(hh, .inr (1, [.int x_7, .int w1, .int w2])), (hp, .inr (2, [.ref cd, .int (nI n0)])), (cd, .inl (cI, 24, .inl f0))] H := hP
          have hD : va_D A [(hh, .inr (1, [.int x_7, .int w1, .int w2])), (hp, .inr (2, [.ref cd, .int (nI n0)])), (cd, .inl (cI, 24, .inl f0))] := hD
          refine lv_iinc (v := (nI (i7 + 1))) (lv' := [(2, .int (nI (i7 + 1))), (0, .ref hh), (1, .ref hp)]) hx hb dX1_read_34 hl (k := 2) rfl (nI_add i7 1) (by decide) rfl (fun ls hl => ?_)
          refine lv_goto (tgt := 7) hx hb dX1_read_37 (by decide) ?_
          exact ih7 (i7 + 1) x_7 H locs ls (by omega) (c_X1_read_a3 n0 f0 i7 ww n7 r_6 x_7 hn24 h23 hi7 hw hr_5 hr_6 ex_7) hP hD hS (lv_sub hl [1, 2, 0] rfl)
  exact lp7 20 0 0 H locs ls (by omega) rfl hP hD hS (lv_sub hl [1, 2, 0] rfl)
