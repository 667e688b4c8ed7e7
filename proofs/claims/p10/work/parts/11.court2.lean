theorem c_X0_join_a1 (k0 : Nat) (hk6 : k0 ≤ 6) (c_1 : k0 < 6) : (k0 + 1) = cz_jn k0 := by first | (subst_vars; rfl) | assumption | ((try subst_vars) <;> (try simp only [cz_jn, cz_jf, cz_jr]) <;> (repeat' split) <;> (first | rfl | contradiction | ((try simp only [cz_in, cz_du, cz_lt, cz_le, cz_eq, cz_l] at *) <;> (first | omega | (simp_all; done))))) | ((try subst_vars); simp only [cz_jn, cz_jf, cz_jr, cz_in, *, and_self, and_true, true_and, if_true, if_false])
theorem c_X0_join_a2 (p0 : Int32) (k0 : Nat) (g1 : Nat → Int32) (hk6 : k0 ≤ 6) (c_1 : k0 < 6) : (upd g1 k0 p0) = cz_jf k0 g1 p0 := by first | (subst_vars; rfl) | assumption | ((try subst_vars) <;> (try simp only [cz_jn, cz_jf, cz_jr]) <;> (repeat' split) <;> (first | rfl | contradiction | ((try simp only [cz_in, cz_du, cz_lt, cz_le, cz_eq, cz_l] at *) <;> (first | omega | (simp_all; done))))) | ((try subst_vars); simp only [cz_jn, cz_jf, cz_jr, cz_in, *, and_self, and_true, true_and, if_true, if_false])
theorem c_X0_join_a3 (p1 : Int32) (k0 : Nat) (g2 : Nat → Int32) (hk6 : k0 ≤ 6) (c_1 : k0 < 6) : (upd g2 k0 p1) = cz_jf k0 g2 p1 := by first | (subst_vars; rfl) | assumption | ((try subst_vars) <;> (try simp only [cz_jn, cz_jf, cz_jr]) <;> (repeat' split) <;> (first | rfl | contradiction | ((try simp only [cz_in, cz_du, cz_lt, cz_le, cz_eq, cz_l] at *) <;> (first | omega | (simp_all; done))))) | ((try subst_vars); simp only [cz_jn, cz_jf, cz_jr, cz_in, *, and_self, and_true, true_and, if_true, if_false])
theorem c_X0_join_a4 (k0 : Nat) (g3 : Nat → Int32) (hk6 : k0 ≤ 6) (c_1 : k0 < 6) : (upd g3 k0 0) = cz_jf k0 g3 0 := by first | (subst_vars; rfl) | assumption | ((try subst_vars) <;> (try simp only [cz_jn, cz_jf, cz_jr]) <;> (repeat' split) <;> (first | rfl | contradiction | ((try simp only [cz_in, cz_du, cz_lt, cz_le, cz_eq, cz_l] at *) <;> (first | omega | (simp_all; done))))) | ((try subst_vars); simp only [cz_jn, cz_jf, cz_jr, cz_in, *, and_self, and_true, true_and, if_true, if_false])
theorem c_X0_join_a5 (k0 : Nat) (g4 : Nat → Int32) (hk6 : k0 ≤ 6) (c_1 : k0 < 6) : (upd g4 k0 0) = cz_jf k0 g4 0 := by first | (subst_vars; rfl) | assumption | ((try subst_vars) <;> (try simp only [cz_jn, cz_jf, cz_jr]) <;> (repeat' split) <;> (first | rfl | contradiction | ((try simp only [cz_in, cz_du, cz_lt, cz_le, cz_eq, cz_l] at *) <;> (first | omega | (simp_all; done))))) | ((try subst_vars); simp only [cz_jn, cz_jf, cz_jr, cz_in, *, and_self, and_true, true_and, if_true, if_false])
theorem c_X0_join_a6 (k0 : Nat) (g5 : Nat → Int32) (hk6 : k0 ≤ 6) (c_1 : k0 < 6) : (upd g5 k0 (-1)) = cz_jf k0 g5 (-1) := by first | (subst_vars; rfl) | assumption | ((try subst_vars) <;> (try simp only [cz_jn, cz_jf, cz_jr]) <;> (repeat' split) <;> (first | rfl | contradiction | ((try simp only [cz_in, cz_du, cz_lt, cz_le, cz_eq, cz_l] at *) <;> (first | omega | (simp_all; done))))) | ((try subst_vars); simp only [cz_jn, cz_jf, cz_jr, cz_in, *, and_self, and_true, true_and, if_true, if_false])
theorem c_X0_join_a7 (k0 : Nat) (hk6 : k0 ≤ 6) (c_1 : k0 < 6) : ((nI k0) : Int32) = cz_jr k0 := by first | (subst_vars; rfl) | assumption | ((try subst_vars) <;> (try simp only [cz_jn, cz_jf, cz_jr]) <;> (repeat' split) <;> (first | rfl | contradiction | ((try simp only [cz_in, cz_du, cz_lt, cz_le, cz_eq, cz_l] at *) <;> (first | omega | (simp_all; done))))) | ((try subst_vars); simp only [cz_jn, cz_jf, cz_jr, cz_in, *, and_self, and_true, true_and, if_true, if_false])
theorem c_X0_join_a8 (k0 : Nat) (hk6 : k0 ≤ 6) (c_1 : ¬ k0 < 6) : k0 = cz_jn k0 := by first | (subst_vars; rfl) | assumption | ((try subst_vars) <;> (try simp only [cz_jn, cz_jf, cz_jr]) <;> (repeat' split) <;> (first | rfl | contradiction | ((try simp only [cz_in, cz_du, cz_lt, cz_le, cz_eq, cz_l] at *) <;> (first | omega | (simp_all; done))))) | ((try subst_vars); simp only [cz_jn, cz_jf, cz_jr, cz_in, *, and_self, and_true, true_and, if_true, if_false])
theorem c_X0_join_a9 (p0 : Int32) (k0 : Nat) (g1 : Nat → Int32) (hk6 : k0 ≤ 6) (c_1 : ¬ k0 < 6) : g1 = cz_jf k0 g1 p0 := by first | (subst_vars; rfl) | assumption | ((try subst_vars) <;> (try simp only [cz_jn, cz_jf, cz_jr]) <;> (repeat' split) <;> (first | rfl | contradiction | ((try simp only [cz_in, cz_du, cz_lt, cz_le, cz_eq, cz_l] at *) <;> (first | omega | (simp_all; done))))) | ((try subst_vars); simp only [cz_jn, cz_jf, cz_jr, cz_in, *, and_self, and_true, true_and, if_true, if_false])
theorem c_X0_join_a10 (p1 : Int32) (k0 : Nat) (g2 : Nat → Int32) (hk6 : k0 ≤ 6) (c_1 : ¬ k0 < 6) : g2 = cz_jf k0 g2 p1 := by first | (subst_vars; rfl) | assumption | ((try subst_vars) <;> (try simp only [cz_jn, cz_jf, cz_jr]) <;> (repeat' split) <;> (first | rfl | contradiction | ((try simp only [cz_in, cz_du, cz_lt, cz_le, cz_eq, cz_l] at *) <;> (first | omega | (simp_all; done))))) | ((try subst_vars); simp only [cz_jn, cz_jf, cz_jr, cz_in, *, and_self, and_true, true_and, if_true, if_false])
theorem c_X0_join_a11 (k0 : Nat) (g3 : Nat → Int32) (hk6 : k0 ≤ 6) (c_1 : ¬ k0 < 6) : g3 = cz_jf k0 g3 0 := by first | (subst_vars; rfl) | assumption | ((try subst_vars) <;> (try simp only [cz_jn, cz_jf, cz_jr]) <;> (repeat' split) <;> (first | rfl | contradiction | ((try simp only [cz_in, cz_du, cz_lt, cz_le, cz_eq, cz_l] at *) <;> (first | omega | (simp_all; done))))) | ((try subst_vars); simp only [cz_jn, cz_jf, cz_jr, cz_in, *, and_self, and_true, true_and, if_true, if_false])
theorem c_X0_join_a12 (k0 : Nat) (g4 : Nat → Int32) (hk6 : k0 ≤ 6) (c_1 : ¬ k0 < 6) : g4 = cz_jf k0 g4 0 := by first | (subst_vars; rfl) | assumption | ((try subst_vars) <;> (try simp only [cz_jn, cz_jf, cz_jr]) <;> (repeat' split) <;> (first | rfl | contradiction | ((try simp only [cz_in, cz_du, cz_lt, cz_le, cz_eq, cz_l] at *) <;> (first | omega | (simp_all; done))))) | ((try subst_vars); simp only [cz_jn, cz_jf, cz_jr, cz_in, *, and_self, and_true, true_and, if_true, if_false])
theorem c_X0_join_a13 (k0 : Nat) (g5 : Nat → Int32) (hk6 : k0 ≤ 6) (c_1 : ¬ k0 < 6) : g5 = cz_jf k0 g5 (-1) := by first | (subst_vars; rfl) | assumption | ((try subst_vars) <;> (try simp only [cz_jn, cz_jf, cz_jr]) <;> (repeat' split) <;> (first | rfl | contradiction | ((try simp only [cz_in, cz_du, cz_lt, cz_le, cz_eq, cz_l] at *) <;> (first | omega | (simp_all; done))))) | ((try subst_vars); simp only [cz_jn, cz_jf, cz_jr, cz_in, *, and_self, and_true, true_and, if_true, if_false])
theorem c_X0_join_a14 (k0 : Nat) (hk6 : k0 ≤ 6) (c_1 : ¬ k0 < 6) : ((-104) : Int32) = cz_jr k0 := by first | (subst_vars; rfl) | assumption | ((try subst_vars) <;> (try simp only [cz_jn, cz_jf, cz_jr]) <;> (repeat' split) <;> (first | rfl | contradiction | ((try simp only [cz_in, cz_du, cz_lt, cz_le, cz_eq, cz_l] at *) <;> (first | omega | (simp_all; done))))) | ((try subst_vars); simp only [cz_jn, cz_jf, cz_jr, cz_in, *, and_self, and_true, true_and, if_true, if_false])
set_option maxHeartbeats 4000000 in
set_option maxRecDepth 100000 in
theorem c_X0_join (l : Launch) (dC : Nat → ClassId) (dI : Nat → Nat → Nat) (cI cB : ClassId) (hc : Nat) (p0 : Int32) (p1 : Int32) (a0 : Int32) (a1 : Int32) (k0 : Nat) (k1 : Nat) (k2 : Nat) (k3 : Nat) (k4 : Nat) (k5 : Nat) (g1 : Nat → Int32) (g2 : Nat → Int32) (g3 : Nat → Int32) (g4 : Nat → Int32) (g5 : Nat → Int32) (sz : Nat) (hk6 : k0 ≤ 6) : Met l yX0_join wsX0_join ({ frames := 0, cells := 0, slots := 0, locals := 0 }) (cz_Pm dC dI cI cB [.ref hc, .int p0, .int p1] [(hc, .inr (0, [.int a0, .int a1, .int (nI k0), .ref k1, .ref k2, .ref k3, .ref k4, .ref k5])), (k1, .inl (cI, 6, .inl g1)), (k2, .inl (cI, 6, .inl g2)), (k3, .inl (cI, 6, .inl g3)), (k4, .inl (cI, 6, .inl g4)), (k5, .inl (cI, 6, .inl g5))] sz) (va_Qi (fun (r : Int32) (_ : Unit) => r = cz_jr k0) (fun _ t => ∃ (kk : Nat) (t1 : Nat → Int32) (t2 : Nat → Int32) (t3 : Nat → Int32) (t4 : Nat → Int32) (t5 : Nat → Int32), (kk ≤ 6) ∧ (kk = cz_jn k0) ∧ (t1 = cz_jf k0 g1 p0) ∧ (t2 = cz_jf k0 g2 p1) ∧ (t3 = cz_jf k0 g3 0) ∧ (t4 = cz_jf k0 g4 0) ∧ (t5 = cz_jf k0 g5 (-1)) ∧ va_P (dC, dI) vwCl [(hc, .inr (0, [.int a0, .int a1, .int (nI kk), .ref k1, .ref k2, .ref k3, .ref k4, .ref k5])), (k1, .inl (cI, 6, .inl t1)), (k2, .inl (cI, 6, .inl t2)), (k3, .inl (cI, 6, .inl t3)), (k4, .inl (cI, 6, .inl t4)), (k5, .inl (cI, 6, .inl t5))] t.heap ∧ va_D (va_A [(hc, .inr (0, [.int a0, .int a1, .int (nI k0), .ref k1, .ref k2, .ref k3, .ref k4, .ref k5])), (k1, .inl (cI, 6, .inl g1)), (k2, .inl (cI, 6, .inl g2)), (k3, .inl (cI, 6, .inl g3)), (k4, .inl (cI, 6, .inl g4)), (k5, .inl (cI, 6, .inl g5))] sz) [(hc, .inr (0, [.int a0, .int a1, .int (nI kk), .ref k1, .ref k2, .ref k3, .ref k4, .ref k5])), (k1, .inl (cI, 6, .inl t1)), (k2, .inl (cI, 6, .inl t2)), (k3, .inl (cI, 6, .inl t3)), (k4, .inl (cI, 6, .inl t4)), (k5, .inl (cI, 6, .inl t5))]) (va_A [(hc, .inr (0, [.int a0, .int a1, .int (nI k0), .ref k1, .ref k2, .ref k3, .ref k4, .ref k5])), (k1, .inl (cI, 6, .inl g1)), (k2, .inl (cI, 6, .inl g2)), (k3, .inl (cI, 6, .inl g3)), (k4, .inl (cI, 6, .inl g4)), (k5, .inl (cI, 6, .inl g5))] sz)) 0 0 (va_A [(hc, .inr (0, [.int a0, .int a1, .int (nI k0), .ref k1, .ref k2, .ref k3, .ref k4, .ref k5])), (k1, .inl (cI, 6, .inl g1)), (k2, .inl (cI, 6, .inl g2)), (k3, .inl (cI, 6, .inl g3)), (k4, .inl (cI, 6, .inl g4)), (k5, .inl (cI, 6, .inl g5))] sz) := by
  refine cz_of (cc := cX0_join) (maxL := 4) (ret := (some .int)) (by decide) rfl ?_
  intro p e s m args below meth c s₁ Q B hml hv hQ
  obtain ⟨rfl, hsz, hP, hN, hD0⟩ := hv
  have hx := B.exec
  have hb := B.bytes
  have hr := B.returns
  have hts := atoms_spec (ws := wsX0_join) B.pre
  have hown : s.vm.findClass RX0 = some m.cls := findClass_of_methodNamed B.named
  have hlocks := B.notSynchronized
  have hK := hN.1
  have hiX0 : ∀ w ∈ wsX00, w ∈ wsX0_join := (fun _ h => List.mem_cons_of_mem _ (List.mem_append_right _ h))
  subst hsz
  have hD := hD0.self (sz := s.heap.size)
  generalize hAe : va_A [(hc, .inr (0, [.int a0, .int a1, .int (nI k0), .ref k1, .ref k2, .ref k3, .ref k4, .ref k5])), (k1, .inl (cI, 6, .inl g1)), (k2, .inl (cI, 6, .inl g2)), (k3, .inl (cI, 6, .inl g3)), (k4, .inl (cI, 6, .inl g4)), (k5, .inl (cI, 6, .inl g5))] s.heap.size = A at hD hQ ⊢
  have hA : ∀ q : Nat, s.heap.size ≤ q → A q := fun q h => by rw [← hAe]; exact Or.inr h
  have hS : va_S A s.heap s.heap [] := va_S.rf
  obtain ⟨H, eH⟩ : ∃ H, H = s.heap := ⟨_, rfl⟩
  have hP : va_P (dC, dI) vwCl [(hc, .inr (0, [.int a0, .int a1, .int (nI k0), .ref k1, .ref k2, .ref k3, .ref k4, .ref k5])), (k1, .inl (cI, 6, .inl g1)), (k2, .inl (cI, 6, .inl g2)), (k3, .inl (cI, 6, .inl g3)), (k4, .inl (cI, 6, .inl g4)), (k5, .inl (cI, 6, .inl g5))] s.heap := hP
  have hl := lv_entry ([.ref hc, .int p0, .int p1]) (n := 4) (Nat.le_of_ble_eq_true rfl)
  rw [lg_entry_eq]
  generalize (lg_sl ([.ref hc, .int p0, .int p1]) ++ List.replicate (4 - (lg_sl ([.ref hc, .int p0, .int p1])).length) Slot.unset).toArray = ls at hl ⊢
  have hl : lv_has ls 4 [(0, .ref hc), (1, .int p0), (2, .int p1)] := hl
  refine lv_aload_n hx hb dX0_join_0 rfl (lv_at hl 0 rfl) ?_
  refine va_get (D := (dC, dI)) (ci := 0) (v := .int (nI k0)) (C := RX0) (T := TX0) (N := 8) hx hb hts hiX0 hown hK hP 0 rfl rfl 2 (by decide) (hts (.fieldLink RX0 18 "LeftProfile$Court" "size" "I") (List.mem_of_getElem? (i := 1) rfl)) (fun _ h9 => h9) rfl dX0_join_1 ?_
  refine lv_bipush (v := 6) hx hb dX0_join_4 (by decide) ?_
  refine lv_icmp_lt (tgt := 12) hx hb dX0_join_6 (by decide) (fun c_1 => ?_) (fun c_1 => ?_)
  · have c_1 : k0 < 6 := (nI_ltI (a := k0) (b := 6) (by omega) (by omega)).mp c_1
    refine lv_aload_n hx hb dX0_join_12 rfl (lv_at hl 0 rfl) ?_
    refine va_get (D := (dC, dI)) (ci := 0) (v := .int (nI k0)) (C := RX0) (T := TX0) (N := 8) hx hb hts hiX0 hown hK hP 0 rfl rfl 2 (by decide) (hts (.fieldLink RX0 18 "LeftProfile$Court" "size" "I") (List.mem_of_getElem? (i := 1) rfl)) (fun _ h9 => h9) rfl dX0_join_13 ?_
    refine lv_istore_n (lv' := [(3, .int (nI k0)), (0, .ref hc), (1, .int p0), (2, .int p1)]) hx hb dX0_join_16 rfl hl (by decide) rfl (fun ls hl => ?_)
    refine lv_aload_n hx hb dX0_join_17 rfl (lv_at hl 1 rfl) ?_
    refine va_get (D := (dC, dI)) (ci := 0) (v := .ref k1) (C := RX0) (T := TX0) (N := 8) hx hb hts hiX0 hown hK hP 0 rfl rfl 3 (by decide) (hts (.fieldLink RX0 21 "LeftProfile$Court" "kinds" "[I") (List.mem_of_getElem? (i := 2) rfl)) (fun _ h9 => h9) rfl dX0_join_18 ?_
    refine lv_iload_n hx hb dX0_join_21 rfl (lv_at hl 0 rfl) ?_
    refine lv_iload_n hx hb dX0_join_22 rfl (lv_at hl 2 rfl) ?_
    refine va_iast hx hb hK hP hD hS 1 0 rfl rfl (vp_in_nI (n := k0) (by omega) (by omega)) dX0_join_23 (fun H locs hP hD hS => ?_)
    rw [show (nI k0).toNatClampNeg = k0 from nI_clamp (n := k0) (by omega)] at hP hD
    have hP : va_P (dC, dI) vwCl [(hc, .inr (0, [.int a0, .int a1, .int (nI k0), .ref k1, .ref k2, .ref k3, .ref k4, .ref k5])), (k1, .inl (cI, 6, .inl (upd g1 k0 p0))), (k2, .inl (cI, 6, .inl g2)), (k3, .inl (cI, 6, .inl g3)), (k4, .inl (cI, 6, .inl g4)), (k5, .inl (cI, 6, .inl g5))] H := hP
    have hD : va_D A [(hc, .inr (0, [.int a0, .int a1, .int (nI k0), .ref k1, .ref k2, .ref k3, .ref k4, .ref k5])), (k1, .inl (cI, 6, .inl (upd g1 k0 p0))), (k2, .inl (cI, 6, .inl g2)), (k3, .inl (cI, 6, .inl g3)), (k4, .inl (cI, 6, .inl g4)), (k5, .inl (cI, 6, .inl g5))] := hD
    refine lv_aload_n hx hb dX0_join_24 rfl (lv_at hl 1 rfl) ?_
    refine va_get (D := (dC, dI)) (ci := 0) (v := .ref k2) (C := RX0) (T := TX0) (N := 8) hx hb hts hiX0 hown hK hP 0 rfl rfl 4 (by decide) (hts (.fieldLink RX0 25 "LeftProfile$Court" "places" "[I") (List.mem_of_getElem? (i := 3) rfl)) (fun _ h9 => h9) rfl dX0_join_25 ?_
    refine lv_iload_n hx hb dX0_join_28 rfl (lv_at hl 0 rfl) ?_
    refine lv_iload_n hx hb dX0_join_29 rfl (lv_at hl 3 rfl) ?_
    refine va_iast hx hb hK hP hD hS 2 0 rfl rfl (vp_in_nI (n := k0) (by omega) (by omega)) dX0_join_30 (fun H locs hP hD hS => ?_)
    rw [show (nI k0).toNatClampNeg = k0 from nI_clamp (n := k0) (by omega)] at hP hD
    have hP : va_P (dC, dI) vwCl [(hc, .inr (0, [.int a0, .int a1, .int (nI k0), .ref k1, .ref k2, .ref k3, .ref k4, .ref k5])), (k1, .inl (cI, 6, .inl (upd g1 k0 p0))), (k2, .inl (cI, 6, .inl (upd g2 k0 p1))), (k3, .inl (cI, 6, .inl g3)), (k4, .inl (cI, 6, .inl g4)), (k5, .inl (cI, 6, .inl g5))] H := hP
    have hD : va_D A [(hc, .inr (0, [.int a0, .int a1, .int (nI k0), .ref k1, .ref k2, .ref k3, .ref k4, .ref k5])), (k1, .inl (cI, 6, .inl (upd g1 k0 p0))), (k2, .inl (cI, 6, .inl (upd g2 k0 p1))), (k3, .inl (cI, 6, .inl g3)), (k4, .inl (cI, 6, .inl g4)), (k5, .inl (cI, 6, .inl g5))] := hD
    refine lv_aload_n hx hb dX0_join_31 rfl (lv_at hl 1 rfl) ?_
    refine va_get (D := (dC, dI)) (ci := 0) (v := .ref k3) (C := RX0) (T := TX0) (N := 8) hx hb hts hiX0 hown hK hP 0 rfl rfl 5 (by decide) (hts (.fieldLink RX0 28 "LeftProfile$Court" "sawLeft" "[I") (List.mem_of_getElem? (i := 4) rfl)) (fun _ h9 => h9) rfl dX0_join_32 ?_
    refine lv_iload_n hx hb dX0_join_35 rfl (lv_at hl 0 rfl) ?_
    refine lv_iconst (v := 0) hx hb dX0_join_36 (by decide) ?_
    refine va_iast hx hb hK hP hD hS 3 0 rfl rfl (vp_in_nI (n := k0) (by omega) (by omega)) dX0_join_37 (fun H locs hP hD hS => ?_)
    rw [show (nI k0).toNatClampNeg = k0 from nI_clamp (n := k0) (by omega)] at hP hD
    have hP : va_P (dC, dI) vwCl [(hc, .inr (0, [.int a0, .int a1, .int (nI k0), .ref k1, .ref k2, .ref k3, .ref k4, .ref k5])), (k1, .inl (cI, 6, .inl (upd g1 k0 p0))), (k2, .inl (cI, 6, .inl (upd g2 k0 p1))), (k3, .inl (cI, 6, .inl (upd g3 k0 0))), (k4, .inl (cI, 6, .inl g4)), (k5, .inl (cI, 6, .inl g5))] H := hP
    have hD : va_D A [(hc, .inr (0, [.int a0, .int a1, .int (nI k0), .ref k1, .ref k2, .ref k3, .ref k4, .ref k5])), (k1, .inl (cI, 6, .inl (upd g1 k0 p0))), (k2, .inl (cI, 6, .inl (upd g2 k0 p1))), (k3, .inl (cI, 6, .inl (upd g3 k0 0))), (k4, .inl (cI, 6, .inl g4)), (k5, .inl (cI, 6, .inl g5))] := hD
    refine lv_aload_n hx hb dX0_join_38 rfl (lv_at hl 1 rfl) ?_
    refine va_get (D := (dC, dI)) (ci := 0) (v := .ref k4) (C := RX0) (T := TX0) (N := 8) hx hb hts hiX0 hown hK hP 0 rfl rfl 6 (by decide) (hts (.fieldLink RX0 31 "LeftProfile$Court" "sawRight" "[I") (List.mem_of_getElem? (i := 5) rfl)) (fun _ h9 => h9) rfl dX0_join_39 ?_
    refine lv_iload_n hx hb dX0_join_42 rfl (lv_at hl 0 rfl) ?_
    refine lv_iconst (v := 0) hx hb dX0_join_43 (by decide) ?_
    refine va_iast hx hb hK hP hD hS 4 0 rfl rfl (vp_in_nI (n := k0) (by omega) (by omega)) dX0_join_44 (fun H locs hP hD hS => ?_)
    rw [show (nI k0).toNatClampNeg = k0 from nI_clamp (n := k0) (by omega)] at hP hD
    have hP : va_P (dC, dI) vwCl [(hc, .inr (0, [.int a0, .int a1, .int (nI k0), .ref k1, .ref k2, .ref k3, .ref k4, .ref k5])), (k1, .inl (cI, 6, .inl (upd g1 k0 p0))), (k2, .inl (cI, 6, .inl (upd g2 k0 p1))), (k3, .inl (cI, 6, .inl (upd g3 k0 0))), (k4, .inl (cI, 6, .inl (upd g4 k0 0))), (k5, .inl (cI, 6, .inl g5))] H := hP
    have hD : va_D A [(hc, .inr (0, [.int a0, .int a1, .int (nI k0), .ref k1, .ref k2, .ref k3, .ref k4, .ref k5])), (k1, .inl (cI, 6, .inl (upd g1 k0 p0))), (k2, .inl (cI, 6, .inl (upd g2 k0 p1))), (k3, .inl (cI, 6, .inl (upd g3 k0 0))), (k4, .inl (cI, 6, .inl (upd g4 k0 0))), (k5, .inl (cI, 6, .inl g5))] := hD
    refine lv_aload_n hx hb dX0_join_45 rfl (lv_at hl 1 rfl) ?_
    refine va_get (D := (dC, dI)) (ci := 0) (v := .ref k5) (C := RX0) (T := TX0) (N := 8) hx hb hts hiX0 hown hK hP 0 rfl rfl 7 (by decide) (hts (.fieldLink RX0 34 "LeftProfile$Court" "told" "[I") (List.mem_of_getElem? (i := 6) rfl)) (fun _ h9 => h9) rfl dX0_join_46 ?_
    refine lv_iload_n hx hb dX0_join_49 rfl (lv_at hl 0 rfl) ?_
    refine lv_iconst (v := (-1)) hx hb dX0_join_50 (by decide) ?_
    refine va_iast hx hb hK hP hD hS 5 0 rfl rfl (vp_in_nI (n := k0) (by omega) (by omega)) dX0_join_51 (fun H locs hP hD hS => ?_)
    rw [show (nI k0).toNatClampNeg = k0 from nI_clamp (n := k0) (by omega)] at hP hD
    have hP : va_P (dC, dI) vwCl [(hc, .inr (0, [.int a0, .int a1, .int (nI k0), .ref k1, .ref k2, .ref k3, .ref k4, .ref k5])), (k1, .inl (cI, 6, .inl (upd g1 k0 p0))), (k2, .inl (cI, 6, .inl (upd g2 k0 p1))), (k3, .inl (cI, 6, .inl (upd g3 k0 0))), (k4, .inl (cI, 6, .inl (upd g4 k0 0))), (k5, .inl (cI, 6, .inl (upd g5 k0 (-1))))] H := hP
    have hD : va_D A [(hc, .inr (0, [.int a0, .int a1, .int (nI k0), .ref k1, .ref k2, .ref k3, .ref k4, .ref k5])), (k1, .inl (cI, 6, .inl (upd g1 k0 p0))), (k2, .inl (cI, 6, .inl (upd g2 k0 p1))), (k3, .inl (cI, 6, .inl (upd g3 k0 0))), (k4, .inl (cI, 6, .inl (upd g4 k0 0))), (k5, .inl (cI, 6, .inl (upd g5 k0 (-1))))] := hD
    refine lv_aload_n hx hb dX0_join_52 rfl (lv_at hl 1 rfl) ?_
    refine lv_dup hx hb dX0_join_53 rfl ?_
    refine va_get (D := (dC, dI)) (ci := 0) (v := .int (nI k0)) (C := RX0) (T := TX0) (N := 8) hx hb hts hiX0 hown hK hP 0 rfl rfl 2 (by decide) (hts (.fieldLink RX0 18 "LeftProfile$Court" "size" "I") (List.mem_of_getElem? (i := 1) rfl)) (fun _ h9 => h9) rfl dX0_join_54 ?_
    refine lv_iconst (v := 1) hx hb dX0_join_57 (by decide) ?_
    refine lv_iadd hx hb dX0_join_58 ?_
    refine cz_i (y := (nI (k0 + 1))) (nI_add k0 1) ?_
    refine va_put (D := (dC, dI)) (ci := 0) (v := .int (nI (k0 + 1))) (ty := .int) (C := RX0) (T := TX0) (N := 8) hx hb hts hiX0 tyX0 tyX0_ok nmX0 hown hK hP hD hS 0 rfl rfl 2 (by decide) (hts (.fieldLink RX0 18 "LeftProfile$Court" "size" "I") (List.mem_of_getElem? (i := 1) rfl)) (fun _ h9 => h9) rfl (by decide +kernel) rfl rfl (Nat.le_of_ble_eq_true rfl) dX0_join_59 (fun H locs hP hD hS => ?_)
    have hP : va_P (dC, dI) vwCl [(hc, .inr (0, [.int a0, .int a1, .int (nI (k0 + 1)), .ref k1, .ref k2, .ref k3, .ref k4, .ref k5])), (k1, .inl (cI, 6, .inl (upd g1 k0 p0))), (k2, .inl (cI, 6, .inl (upd g2 k0 p1))), (k3, .inl (cI, 6, .inl (upd g3 k0 0))), (k4, .inl (cI, 6, .inl (upd g4 k0 0))), (k5, .inl (cI, 6, .inl (upd g5 k0 (-1))))] H := hP
    have hD : va_D A [(hc, .inr (0, [.int a0, .int a1, .int (nI (k0 + 1)), .ref k1, .ref k2, .ref k3, .ref k4, .ref k5])), (k1, .inl (cI, 6, .inl (upd g1 k0 p0))), (k2, .inl (cI, 6, .inl (upd g2 k0 p1))), (k3, .inl (cI, 6, .inl (upd g3 k0 0))), (k4, .inl (cI, 6, .inl (upd g4 k0 0))), (k5, .inl (cI, 6, .inl (upd g5 k0 (-1))))] := hD
    refine lv_iload_n hx hb dX0_join_62 rfl (lv_at hl 0 rfl) ?_
    refine W.widen (k := 0) (n := 0) (Nat.le_of_ble_eq_true rfl) (Nat.le_of_ble_eq_true rfl) ?_
    have hP9 := hP.sub (ws' := [(hc, .inr (0, [.int a0, .int a1, .int (nI (k0 + 1)), .ref k1, .ref k2, .ref k3, .ref k4, .ref k5])), (k1, .inl (cI, 6, .inl (upd g1 k0 p0))), (k2, .inl (cI, 6, .inl (upd g2 k0 p1))), (k3, .inl (cI, 6, .inl (upd g3 k0 0))), (k4, .inl (cI, 6, .inl (upd g4 k0 0))), (k5, .inl (cI, 6, .inl (upd g5 k0 (-1))))]) [0, 1, 2, 3, 4, 5] rfl
    have hD9 := hD.sub (ws' := [(hc, .inr (0, [.int a0, .int a1, .int (nI (k0 + 1)), .ref k1, .ref k2, .ref k3, .ref k4, .ref k5])), (k1, .inl (cI, 6, .inl (upd g1 k0 p0))), (k2, .inl (cI, 6, .inl (upd g2 k0 p1))), (k3, .inl (cI, 6, .inl (upd g3 k0 0))), (k4, .inl (cI, 6, .inl (upd g4 k0 0))), (k5, .inl (cI, 6, .inl (upd g5 k0 (-1))))]) [0, 1, 2, 3, 4, 5] (by decide) rfl
    rw [hQ]; exact W.iret (v := (nI k0)) hx hb hr (fun t ht hW => ⟨⟨(nI k0), (), rfl, (c_X0_join_a7 k0 hk6 c_1), ⟨(k0 + 1), (upd g1 k0 p0), (upd g2 k0 p1), (upd g3 k0 0), (upd g4 k0 0), (upd g5 k0 (-1)), (by omega), (c_X0_join_a1 k0 hk6 c_1), (c_X0_join_a2 p0 k0 g1 hk6 c_1), (c_X0_join_a3 p1 k0 g2 hk6 c_1), (c_X0_join_a4 k0 g3 hk6 c_1), (c_X0_join_a5 k0 g4 hk6 c_1), (c_X0_join_a6 k0 g5 hk6 c_1), by rw [ht]; exact hP9, hD9⟩⟩, hS.F ht⟩) hS.2.2 dX0_join_63
  · have c_1 : ¬ k0 < 6 := fun h => c_1 ((nI_ltI (a := k0) (b := 6) (by omega) (by omega)).mpr h)
    refine lv_bipush (v := (-104)) hx hb dX0_join_9 (by decide) ?_
    refine W.widen (k := 0) (n := 0) (Nat.le_of_ble_eq_true rfl) (Nat.le_of_ble_eq_true rfl) ?_
    have hP9 := hP.sub (ws' := [(hc, .inr (0, [.int a0, .int a1, .int (nI k0), .ref k1, .ref k2, .ref k3, .ref k4, .ref k5])), (k1, .inl (cI, 6, .inl g1)), (k2, .inl (cI, 6, .inl g2)), (k3, .inl (cI, 6, .inl g3)), (k4, .inl (cI, 6, .inl g4)), (k5, .inl (cI, 6, .inl g5))]) [0, 1, 2, 3, 4, 5] rfl
    have hD9 := hD.sub (ws' := [(hc, .inr (0, [.int a0, .int a1, .int (nI k0), .ref k1, .ref k2, .ref k3, .ref k4, .ref k5])), (k1, .inl (cI, 6, .inl g1)), (k2, .inl (cI, 6, .inl g2)), (k3, .inl (cI, 6, .inl g3)), (k4, .inl (cI, 6, .inl g4)), (k5, .inl (cI, 6, .inl g5))]) [0, 1, 2, 3, 4, 5] (by decide) rfl
    rw [hQ]; exact W.iret (v := (-104)) hx hb hr (fun t ht hW => ⟨⟨(-104), (), rfl, (c_X0_join_a14 k0 hk6 c_1), ⟨k0, g1, g2, g3, g4, g5, (by omega), (c_X0_join_a8 k0 hk6 c_1), (c_X0_join_a9 p0 k0 g1 hk6 c_1), (c_X0_join_a10 p1 k0 g2 hk6 c_1), (c_X0_join_a11 k0 g3 hk6 c_1), (c_X0_join_a12 k0 g4 hk6 c_1), (c_X0_join_a13 k0 g5 hk6 c_1), by rw [ht]; exact hP9, hD9⟩⟩, hS.F ht⟩) hS.2.2 dX0_join_11

set_option maxHeartbeats 4000000 in
set_option maxRecDepth 100000 in
theorem c_X0_look (l : Launch) (dC : Nat → ClassId) (dI : Nat → Nat → Nat) (cI cB : ClassId) (hc : Nat) (p0 : Int32) (p1 : Int32) (a0 : Int32) (a1 : Int32) (k0 : Nat) (k1 : Nat) (k2 : Nat) (k3 : Nat) (k4 : Nat) (k5 : Nat) (g3 : Nat → Int32) (g4 : Nat → Int32) (sz : Nat) (hk6 : k0 ≤ 6) : Met l yX0_look wsX0_look ({ frames := 1, cells := 0, slots := 0, locals := 21 }) (cz_Pm dC dI cI cB [.ref hc, .int p0, .int p1] [(hc, .inr (0, [.int a0, .int a1, .int (nI k0), .ref k1, .ref k2, .ref k3, .ref k4, .ref k5])), (k3, .inl (cI, 6, .inl g3)), (k4, .inl (cI, 6, .inl g4))] sz) (va_Qv (fun _ : Unit => True) (fun _ t => ∃ (t3 : Nat → Int32) (t4 : Nat → Int32), va_P (dC, dI) vwCl [(hc, .inr (0, [.int a0, .int a1, .int (nI k0), .ref k1, .ref k2, .ref k3, .ref k4, .ref k5])), (k3, .inl (cI, 6, .inl t3)), (k4, .inl (cI, 6, .inl t4))] t.heap ∧ va_D (va_A [(hc, .inr (0, [.int a0, .int a1, .int (nI k0), .ref k1, .ref k2, .ref k3, .ref k4, .ref k5])), (k3, .inl (cI, 6, .inl g3)), (k4, .inl (cI, 6, .inl g4))] sz) [(hc, .inr (0, [.int a0, .int a1, .int (nI k0), .ref k1, .ref k2, .ref k3, .ref k4, .ref k5])), (k3, .inl (cI, 6, .inl t3)), (k4, .inl (cI, 6, .inl t4))]) (va_A [(hc, .inr (0, [.int a0, .int a1, .int (nI k0), .ref k1, .ref k2, .ref k3, .ref k4, .ref k5])), (k3, .inl (cI, 6, .inl g3)), (k4, .inl (cI, 6, .inl g4))] sz)) 0 0 (va_A [(hc, .inr (0, [.int a0, .int a1, .int (nI k0), .ref k1, .ref k2, .ref k3, .ref k4, .ref k5])), (k3, .inl (cI, 6, .inl g3)), (k4, .inl (cI, 6, .inl g4))] sz) := by
  refine cz_of (cc := cX0_look) (maxL := 3) (ret := none) (by decide) rfl ?_
  intro p e s m args below meth c s₁ Q B hml hv hQ
  obtain ⟨rfl, hsz, hP, hN, hD0⟩ := hv
  have hx := B.exec
  have hb := B.bytes
  have hr := B.returns
  have hts := atoms_spec (ws := wsX0_look) B.pre
  have hown : s.vm.findClass RX0 = some m.cls := findClass_of_methodNamed B.named
  have hlocks := B.notSynchronized
  have hK := hN.1
  have hiX0 : ∀ w ∈ wsX00, w ∈ wsX0_look := (fun _ h => List.mem_cons_of_mem _ (List.mem_append_right _ h))
  subst hsz
  have hD := hD0.self (sz := s.heap.size)
  generalize hAe : va_A [(hc, .inr (0, [.int a0, .int a1, .int (nI k0), .ref k1, .ref k2, .ref k3, .ref k4, .ref k5])), (k3, .inl (cI, 6, .inl g3)), (k4, .inl (cI, 6, .inl g4))] s.heap.size = A at hD hQ ⊢
  have hA : ∀ q : Nat, s.heap.size ≤ q → A q := fun q h => by rw [← hAe]; exact Or.inr h
  have hS : va_S A s.heap s.heap [] := va_S.rf
  obtain ⟨H, eH⟩ : ∃ H, H = s.heap := ⟨_, rfl⟩
  have hP : va_P (dC, dI) vwCl [(hc, .inr (0, [.int a0, .int a1, .int (nI k0), .ref k1, .ref k2, .ref k3, .ref k4, .ref k5])), (k3, .inl (cI, 6, .inl g3)), (k4, .inl (cI, 6, .inl g4))] s.heap := hP
  have hl := lv_entry ([.ref hc, .int p0, .int p1]) (n := 3) (Nat.le_of_ble_eq_true rfl)
  rw [lg_entry_eq]
  generalize (lg_sl ([.ref hc, .int p0, .int p1]) ++ List.replicate (3 - (lg_sl ([.ref hc, .int p0, .int p1])).length) Slot.unset).toArray = ls at hl ⊢
  have hl : lv_has ls 3 [(0, .ref hc), (1, .int p0), (2, .int p1)] := hl
  refine lv_aload_n hx hb dX0_look_0 rfl (lv_at hl 0 rfl) ?_
  refine lv_iload_n hx hb dX0_look_1 rfl (lv_at hl 1 rfl) ?_
  refine vp_callSi (cz_run (va_runV (As := [.int p0]) (rest := []) ⟨hx, hb, hml, hown, hts⟩ (c_X0_has l dC dI cI cB hc p0 a0 a1 k0 k1 k2 k3 k4 k5 hk6) (cwV 1 hts gX0_look_X0_has rfl rfl rfl (by decide +kernel) ⟨Nat.le_of_ble_eq_true rfl, Nat.le_of_ble_eq_true rfl⟩) (cz_pV (hP.sub (ws' := [(hc, .inr (0, [.int a0, .int a1, .int (nI k0), .ref k1, .ref k2, .ref k3, .ref k4, .ref k5]))]) [0] rfl) hN (va_recv hK (hP.sub (ws' := [(hc, .inr (0, [.int a0, .int a1, .int (nI k0), .ref k1, .ref k2, .ref k3, .ref k4, .ref k5]))]) [0] rfl) (ci := 0) (q0 := 0) rfl rfl)) rfl rfl hl.1 rfl (lv_room (Nat.le_of_ble_eq_true rfl)) dX0_look_2 ⟨Nat.le_of_ble_eq_true rfl, Nat.le_of_ble_eq_true rfl⟩)) (fun r_1 hr_1 => ?_)
  rcases hr_1 with ⟨rfl, hr_1⟩ | ⟨rfl, j_2, hr_1, rfl⟩
  · refine lv_if_ne (tgt := 9) hx hb dX0_look_5 (by decide) (fun c => absurd (by decide) c) (fun _ => ?_)
    refine W.widen (k := 0) (n := 0) (Nat.le_of_ble_eq_true rfl) (Nat.le_of_ble_eq_true rfl) ?_
    have hP9 := hP.sub (ws' := [(hc, .inr (0, [.int a0, .int a1, .int (nI k0), .ref k1, .ref k2, .ref k3, .ref k4, .ref k5])), (k3, .inl (cI, 6, .inl g3)), (k4, .inl (cI, 6, .inl g4))]) [0, 1, 2] rfl
    have hD9 := hD.sub (ws' := [(hc, .inr (0, [.int a0, .int a1, .int (nI k0), .ref k1, .ref k2, .ref k3, .ref k4, .ref k5])), (k3, .inl (cI, 6, .inl g3)), (k4, .inl (cI, 6, .inl g4))]) [0, 1, 2] (by decide) rfl
    rw [hQ]; exact W.vret hx hb hr (fun t ht hW => ⟨⟨(), rfl, trivial, ⟨g3, g4, by rw [ht]; exact hP9, hD9⟩⟩, hS.F ht⟩) hS.2.2 dX0_look_8
  · refine lv_if_ne (tgt := 9) hx hb dX0_look_5 (by decide) (fun _ => ?_) (fun c => absurd c (by decide))
    refine lv_iload_n hx hb dX0_look_9 rfl (lv_at hl 2 rfl) ?_
    refine lv_iconst (v := 1) hx hb dX0_look_10 (by decide) ?_
    refine lv_icmp_eq (tgt := 19) hx hb dX0_look_11 (by decide) (fun c_3 => ?_) (fun c_3 => ?_)
    · refine lv_aload_n hx hb dX0_look_19 rfl (lv_at hl 0 rfl) ?_
      refine va_get (D := (dC, dI)) (ci := 0) (v := .ref k3) (C := RX0) (T := TX0) (N := 8) hx hb hts hiX0 hown hK hP 0 rfl rfl 5 (by decide) (hts (.fieldLink RX0 28 "LeftProfile$Court" "sawLeft" "[I") (List.mem_of_getElem? (i := 1) rfl)) (fun _ h9 => h9) rfl dX0_look_20 ?_
      refine lv_iload_n hx hb dX0_look_23 rfl (lv_at hl 1 rfl) ?_
      refine lv_dup2_11 hx hb dX0_look_24 rfl rfl ?_
      refine va_iald hx hb hK hP 1 0 rfl rfl (vp_in_nI (n := j_2) (by omega) (by omega)) dX0_look_25 ?_
      refine cz_i (y := (g3 j_2)) (congrArg g3 (nI_clamp (n := j_2) (by omega))) ?_
      refine lv_iconst (v := 1) hx hb dX0_look_26 (by decide) ?_
      refine lv_iadd hx hb dX0_look_27 ?_
      refine lv_topi (fun x_4 ex_4 => ?_)
      refine va_iast hx hb hK hP hD hS 1 0 rfl rfl (vp_in_nI (n := j_2) (by omega) (by omega)) dX0_look_28 (fun H locs hP hD hS => ?_)
      rw [show (nI j_2).toNatClampNeg = j_2 from nI_clamp (n := j_2) (by omega)] at hP hD
      have hP : va_P (dC, dI) vwCl [(hc, .inr (0, [.int a0, .int a1, .int (nI k0), .ref k1, .ref k2, .ref k3, .ref k4, .ref k5])), (k3, .inl (cI, 6, .inl (upd g3 j_2 x_4))), (k4, .inl (cI, 6, .inl g4))] H := hP
      have hD : va_D A [(hc, .inr (0, [.int a0, .int a1, .int (nI k0), .ref k1, .ref k2, .ref k3, .ref k4, .ref k5])), (k3, .inl (cI, 6, .inl (upd g3 j_2 x_4))), (k4, .inl (cI, 6, .inl g4))] := hD
      refine lv_iload_n hx hb dX0_look_29 rfl (lv_at hl 2 rfl) ?_
      refine lv_iconst (v := 2) hx hb dX0_look_30 (by decide) ?_
      refine lv_icmp_eq (tgt := 39) hx hb dX0_look_31 (by decide) (fun c_5 => ?_) (fun c_5 => ?_)
      · refine lv_aload_n hx hb dX0_look_39 rfl (lv_at hl 0 rfl) ?_
        refine va_get (D := (dC, dI)) (ci := 0) (v := .ref k4) (C := RX0) (T := TX0) (N := 8) hx hb hts hiX0 hown hK hP 0 rfl rfl 6 (by decide) (hts (.fieldLink RX0 31 "LeftProfile$Court" "sawRight" "[I") (List.mem_of_getElem? (i := 2) rfl)) (fun _ h9 => h9) rfl dX0_look_40 ?_
        refine lv_iload_n hx hb dX0_look_43 rfl (lv_at hl 1 rfl) ?_
        refine lv_dup2_11 hx hb dX0_look_44 rfl rfl ?_
        refine va_iald hx hb hK hP 2 0 rfl rfl (vp_in_nI (n := j_2) (by omega) (by omega)) dX0_look_45 ?_
        refine cz_i (y := (g4 j_2)) (congrArg g4 (nI_clamp (n := j_2) (by omega))) ?_
        refine lv_iconst (v := 1) hx hb dX0_look_46 (by decide) ?_
        refine lv_iadd hx hb dX0_look_47 ?_
        refine lv_topi (fun x_6 ex_6 => ?_)
        refine va_iast hx hb hK hP hD hS 2 0 rfl rfl (vp_in_nI (n := j_2) (by omega) (by omega)) dX0_look_48 (fun H locs hP hD hS => ?_)
        rw [show (nI j_2).toNatClampNeg = j_2 from nI_clamp (n := j_2) (by omega)] at hP hD
        have hP : va_P (dC, dI) vwCl [(hc, .inr (0, [.int a0, .int a1, .int (nI k0), .ref k1, .ref k2, .ref k3, .ref k4, .ref k5])), (k3, .inl (cI, 6, .inl (upd g3 j_2 x_4))), (k4, .inl (cI, 6, .inl (upd g4 j_2 x_6)))] H := hP
        have hD : va_D A [(hc, .inr (0, [.int a0, .int a1, .int (nI k0), .ref k1, .ref k2, .ref k3, .ref k4, .ref k5])), (k3, .inl (cI, 6, .inl (upd g3 j_2 x_4))), (k4, .inl (cI, 6, .inl (upd g4 j_2 x_6)))] := hD
        refine W.widen (k := 0) (n := 0) (Nat.le_of_ble_eq_true rfl) (Nat.le_of_ble_eq_true rfl) ?_
        have hP9 := hP.sub (ws' := [(hc, .inr (0, [.int a0, .int a1, .int (nI k0), .ref k1, .ref k2, .ref k3, .ref k4, .ref k5])), (k3, .inl (cI, 6, .inl (upd g3 j_2 x_4))), (k4, .inl (cI, 6, .inl (upd g4 j_2 x_6)))]) [0, 1, 2] rfl
        have hD9 := hD.sub (ws' := [(hc, .inr (0, [.int a0, .int a1, .int (nI k0), .ref k1, .ref k2, .ref k3, .ref k4, .ref k5])), (k3, .inl (cI, 6, .inl (upd g3 j_2 x_4))), (k4, .inl (cI, 6, .inl (upd g4 j_2 x_6)))]) [0, 1, 2] (by decide) rfl
        rw [hQ]; exact W.vret hx hb hr (fun t ht hW => ⟨⟨(), rfl, trivial, ⟨(upd g3 j_2 x_4), (upd g4 j_2 x_6), by rw [ht]; exact hP9, hD9⟩⟩, hS.F ht⟩) hS.2.2 dX0_look_49
      · refine lv_iload_n hx hb dX0_look_34 rfl (lv_at hl 2 rfl) ?_
        refine lv_iconst (v := 3) hx hb dX0_look_35 (by decide) ?_
        refine lv_icmp_ne (tgt := 49) hx hb dX0_look_36 (by decide) (fun c_7 => ?_) (fun c_7 => ?_)
        · refine W.widen (k := 0) (n := 0) (Nat.le_of_ble_eq_true rfl) (Nat.le_of_ble_eq_true rfl) ?_
          have hP9 := hP.sub (ws' := [(hc, .inr (0, [.int a0, .int a1, .int (nI k0), .ref k1, .ref k2, .ref k3, .ref k4, .ref k5])), (k3, .inl (cI, 6, .inl (upd g3 j_2 x_4))), (k4, .inl (cI, 6, .inl g4))]) [0, 1, 2] rfl
          have hD9 := hD.sub (ws' := [(hc, .inr (0, [.int a0, .int a1, .int (nI k0), .ref k1, .ref k2, .ref k3, .ref k4, .ref k5])), (k3, .inl (cI, 6, .inl (upd g3 j_2 x_4))), (k4, .inl (cI, 6, .inl g4))]) [0, 1, 2] (by decide) rfl
          rw [hQ]; exact W.vret hx hb hr (fun t ht hW => ⟨⟨(), rfl, trivial, ⟨(upd g3 j_2 x_4), g4, by rw [ht]; exact hP9, hD9⟩⟩, hS.F ht⟩) hS.2.2 dX0_look_49
        · refine lv_aload_n hx hb dX0_look_39 rfl (lv_at hl 0 rfl) ?_
          refine va_get (D := (dC, dI)) (ci := 0) (v := .ref k4) (C := RX0) (T := TX0) (N := 8) hx hb hts hiX0 hown hK hP 0 rfl rfl 6 (by decide) (hts (.fieldLink RX0 31 "LeftProfile$Court" "sawRight" "[I") (List.mem_of_getElem? (i := 2) rfl)) (fun _ h9 => h9) rfl dX0_look_40 ?_
          refine lv_iload_n hx hb dX0_look_43 rfl (lv_at hl 1 rfl) ?_
          refine lv_dup2_11 hx hb dX0_look_44 rfl rfl ?_
          refine va_iald hx hb hK hP 2 0 rfl rfl (vp_in_nI (n := j_2) (by omega) (by omega)) dX0_look_45 ?_
          refine cz_i (y := (g4 j_2)) (congrArg g4 (nI_clamp (n := j_2) (by omega))) ?_
          refine lv_iconst (v := 1) hx hb dX0_look_46 (by decide) ?_
          refine lv_iadd hx hb dX0_look_47 ?_
          refine lv_topi (fun x_8 ex_8 => ?_)
          refine va_iast hx hb hK hP hD hS 2 0 rfl rfl (vp_in_nI (n := j_2) (by omega) (by omega)) dX0_look_48 (fun H locs hP hD hS => ?_)
          rw [show (nI j_2).toNatClampNeg = j_2 from nI_clamp (n := j_2) (by omega)] at hP hD
          have hP : va_P (dC, dI) vwCl [(hc, .inr (0, [.int a0, .int a1, .int (nI k0), .ref k1, .ref k2, .ref k3, .ref k4, .ref k5])), (k3, .inl (cI, 6, .inl (upd g3 j_2 x_4))), (k4, .inl (cI, 6, .inl (upd g4 j_2 x_8)))] H := hP
          have hD : va_D A [(hc, .inr (0, [.int a0, .int a1, .int (nI k0), .ref k1, .ref k2, .ref k3, .ref k4, .ref k5])), (k3, .inl (cI, 6, .inl (upd g3 j_2 x_4))), (k4, .inl (cI, 6, .inl (upd g4 j_2 x_8)))] := hD
          refine W.widen (k := 0) (n := 0) (Nat.le_of_ble_eq_true rfl) (Nat.le_of_ble_eq_true rfl) ?_
          have hP9 := hP.sub (ws' := [(hc, .inr (0, [.int a0, .int a1, .int (nI k0), .ref k1, .ref k2, .ref k3, .ref k4, .ref k5])), (k3, .inl (cI, 6, .inl (upd g3 j_2 x_4))), (k4, .inl (cI, 6, .inl (upd g4 j_2 x_8)))]) [0, 1, 2] rfl
          have hD9 := hD.sub (ws' := [(hc, .inr (0, [.int a0, .int a1, .int (nI k0), .ref k1, .ref k2, .ref k3, .ref k4, .ref k5])), (k3, .inl (cI, 6, .inl (upd g3 j_2 x_4))), (k4, .inl (cI, 6, .inl (upd g4 j_2 x_8)))]) [0, 1, 2] (by decide) rfl
          rw [hQ]; exact W.vret hx hb hr (fun t ht hW => ⟨⟨(), rfl, trivial, ⟨(upd g3 j_2 x_4), (upd g4 j_2 x_8), by rw [ht]; exact hP9, hD9⟩⟩, hS.F ht⟩) hS.2.2 dX0_look_49
    · refine lv_iload_n hx hb dX0_look_14 rfl (lv_at hl 2 rfl) ?_
      refine lv_iconst (v := 3) hx hb dX0_look_15 (by decide) ?_
      refine lv_icmp_ne (tgt := 29) hx hb dX0_look_16 (by decide) (fun c_9 => ?_) (fun c_9 => ?_)
      · refine lv_iload_n hx hb dX0_look_29 rfl (lv_at hl 2 rfl) ?_
        refine lv_iconst (v := 2) hx hb dX0_look_30 (by decide) ?_
        refine lv_icmp_eq (tgt := 39) hx hb dX0_look_31 (by decide) (fun c_10 => ?_) (fun c_10 => ?_)
        · refine lv_aload_n hx hb dX0_look_39 rfl (lv_at hl 0 rfl) ?_
          refine va_get (D := (dC, dI)) (ci := 0) (v := .ref k4) (C := RX0) (T := TX0) (N := 8) hx hb hts hiX0 hown hK hP 0 rfl rfl 6 (by decide) (hts (.fieldLink RX0 31 "LeftProfile$Court" "sawRight" "[I") (List.mem_of_getElem? (i := 2) rfl)) (fun _ h9 => h9) rfl dX0_look_40 ?_
          refine lv_iload_n hx hb dX0_look_43 rfl (lv_at hl 1 rfl) ?_
          refine lv_dup2_11 hx hb dX0_look_44 rfl rfl ?_
          refine va_iald hx hb hK hP 2 0 rfl rfl (vp_in_nI (n := j_2) (by omega) (by omega)) dX0_look_45 ?_
          refine cz_i (y := (g4 j_2)) (congrArg g4 (nI_clamp (n := j_2) (by omega))) ?_
          refine lv_iconst (v := 1) hx hb dX0_look_46 (by decide) ?_
          refine lv_iadd hx hb dX0_look_47 ?_
          refine lv_topi (fun x_11 ex_11 => ?_)
          refine va_iast hx hb hK hP hD hS 2 0 rfl rfl (vp_in_nI (n := j_2) (by omega) (by omega)) dX0_look_48 (fun H locs hP hD hS => ?_)
          rw [show (nI j_2).toNatClampNeg = j_2 from nI_clamp (n := j_2) (by omega)] at hP hD
          have hP : va_P (dC, dI) vwCl [(hc, .inr (0, [.int a0, .int a1, .int (nI k0), .ref k1, .ref k2, .ref k3, .ref k4, .ref k5])), (k3, .inl (cI, 6, .inl g3)), (k4, .inl (cI, 6, .inl (upd g4 j_2 x_11)))] H := hP
          have hD : va_D A [(hc, .inr (0, [.int a0, .int a1, .int (nI k0), .ref k1, .ref k2, .ref k3, .ref k4, .ref k5])), (k3, .inl (cI, 6, .inl g3)), (k4, .inl (cI, 6, .inl (upd g4 j_2 x_11)))] := hD
          refine W.widen (k := 0) (n := 0) (Nat.le_of_ble_eq_true rfl) (Nat.le_of_ble_eq_true rfl) ?_
          have hP9 := hP.sub (ws' := [(hc, .inr (0, [.int a0, .int a1, .int (nI k0), .ref k1, .ref k2, .ref k3, .ref k4, .ref k5])), (k3, .inl (cI, 6, .inl g3)), (k4, .inl (cI, 6, .inl (upd g4 j_2 x_11)))]) [0, 1, 2] rfl
          have hD9 := hD.sub (ws' := [(hc, .inr (0, [.int a0, .int a1, .int (nI k0), .ref k1, .ref k2, .ref k3, .ref k4, .ref k5])), (k3, .inl (cI, 6, .inl g3)), (k4, .inl (cI, 6, .inl (upd g4 j_2 x_11)))]) [0, 1, 2] (by decide) rfl
          rw [hQ]; exact W.vret hx hb hr (fun t ht hW => ⟨⟨(), rfl, trivial, ⟨g3, (upd g4 j_2 x_11), by rw [ht]; exact hP9, hD9⟩⟩, hS.F ht⟩) hS.2.2 dX0_look_49
        · refine lv_iload_n hx hb dX0_look_34 rfl (lv_at hl 2 rfl) ?_
          refine lv_iconst (v := 3) hx hb dX0_look_35 (by decide) ?_
          refine lv_icmp_ne (tgt := 49) hx hb dX0_look_36 (by decide) (fun c_12 => ?_) (fun c_12 => ?_)
          · refine W.widen (k := 0) (n := 0) (Nat.le_of_ble_eq_true rfl) (Nat.le_of_ble_eq_true rfl) ?_
            have hP9 := hP.sub (ws' := [(hc, .inr (0, [.int a0, .int a1, .int (nI k0), .ref k1, .ref k2, .ref k3, .ref k4, .ref k5])), (k3, .inl (cI, 6, .inl g3)), (k4, .inl (cI, 6, .inl g4))]) [0, 1, 2] rfl
            have hD9 := hD.sub (ws' := [(hc, .inr (0, [.int a0, .int a1, .int (nI k0), .ref k1, .ref k2, .ref k3, .ref k4, .ref k5])), (k3, .inl (cI, 6, .inl g3)), (k4, .inl (cI, 6, .inl g4))]) [0, 1, 2] (by decide) rfl
            rw [hQ]; exact W.vret hx hb hr (fun t ht hW => ⟨⟨(), rfl, trivial, ⟨g3, g4, by rw [ht]; exact hP9, hD9⟩⟩, hS.F ht⟩) hS.2.2 dX0_look_49
          · refine lv_aload_n hx hb dX0_look_39 rfl (lv_at hl 0 rfl) ?_
            refine va_get (D := (dC, dI)) (ci := 0) (v := .ref k4) (C := RX0) (T := TX0) (N := 8) hx hb hts hiX0 hown hK hP 0 rfl rfl 6 (by decide) (hts (.fieldLink RX0 31 "LeftProfile$Court" "sawRight" "[I") (List.mem_of_getElem? (i := 2) rfl)) (fun _ h9 => h9) rfl dX0_look_40 ?_
            refine lv_iload_n hx hb dX0_look_43 rfl (lv_at hl 1 rfl) ?_
            refine lv_dup2_11 hx hb dX0_look_44 rfl rfl ?_
            refine va_iald hx hb hK hP 2 0 rfl rfl (vp_in_nI (n := j_2) (by omega) (by omega)) dX0_look_45 ?_
            refine cz_i (y := (g4 j_2)) (congrArg g4 (nI_clamp (n := j_2) (by omega))) ?_
            refine lv_iconst (v := 1) hx hb dX0_look_46 (by decide) ?_
            refine lv_iadd hx hb dX0_look_47 ?_
            refine lv_topi (fun x_13 ex_13 => ?_)
            refine va_iast hx hb hK hP hD hS 2 0 rfl rfl (vp_in_nI (n := j_2) (by omega) (by omega)) dX0_look_48 (fun H locs hP hD hS => ?_)
            rw [show (nI j_2).toNatClampNeg = j_2 from nI_clamp (n := j_2) (by omega)] at hP hD
            have hP : va_P (dC, dI) vwCl [(hc, .inr (0, [.int a0, .int a1, .int (nI k0), .ref k1, .ref k2, .ref k3, .ref k4, .ref k5])), (k3, .inl (cI, 6, .inl g3)), (k4, .inl (cI, 6, .inl (upd g4 j_2 x_13)))] H := hP
            have hD : va_D A [(hc, .inr (0, [.int a0, .int a1, .int (nI k0), .ref k1, .ref k2, .ref k3, .ref k4, .ref k5])), (k3, .inl (cI, 6, .inl g3)), (k4, .inl (cI, 6, .inl (upd g4 j_2 x_13)))] := hD
            refine W.widen (k := 0) (n := 0) (Nat.le_of_ble_eq_true rfl) (Nat.le_of_ble_eq_true rfl) ?_
            have hP9 := hP.sub (ws' := [(hc, .inr (0, [.int a0, .int a1, .int (nI k0), .ref k1, .ref k2, .ref k3, .ref k4, .ref k5])), (k3, .inl (cI, 6, .inl g3)), (k4, .inl (cI, 6, .inl (upd g4 j_2 x_13)))]) [0, 1, 2] rfl
            have hD9 := hD.sub (ws' := [(hc, .inr (0, [.int a0, .int a1, .int (nI k0), .ref k1, .ref k2, .ref k3, .ref k4, .ref k5])), (k3, .inl (cI, 6, .inl g3)), (k4, .inl (cI, 6, .inl (upd g4 j_2 x_13)))]) [0, 1, 2] (by decide) rfl
            rw [hQ]; exact W.vret hx hb hr (fun t ht hW => ⟨⟨(), rfl, trivial, ⟨g3, (upd g4 j_2 x_13), by rw [ht]; exact hP9, hD9⟩⟩, hS.F ht⟩) hS.2.2 dX0_look_49
      · refine lv_aload_n hx hb dX0_look_19 rfl (lv_at hl 0 rfl) ?_
        refine va_get (D := (dC, dI)) (ci := 0) (v := .ref k3) (C := RX0) (T := TX0) (N := 8) hx hb hts hiX0 hown hK hP 0 rfl rfl 5 (by decide) (hts (.fieldLink RX0 28 "LeftProfile$Court" "sawLeft" "[I") (List.mem_of_getElem? (i := 1) rfl)) (fun _ h9 => h9) rfl dX0_look_20 ?_
        refine lv_iload_n hx hb dX0_look_23 rfl (lv_at hl 1 rfl) ?_
        refine lv_dup2_11 hx hb dX0_look_24 rfl rfl ?_
        refine va_iald hx hb hK hP 1 0 rfl rfl (vp_in_nI (n := j_2) (by omega) (by omega)) dX0_look_25 ?_
        refine cz_i (y := (g3 j_2)) (congrArg g3 (nI_clamp (n := j_2) (by omega))) ?_
        refine lv_iconst (v := 1) hx hb dX0_look_26 (by decide) ?_
        refine lv_iadd hx hb dX0_look_27 ?_
        refine lv_topi (fun x_14 ex_14 => ?_)
        refine va_iast hx hb hK hP hD hS 1 0 rfl rfl (vp_in_nI (n := j_2) (by omega) (by omega)) dX0_look_28 (fun H locs hP hD hS => ?_)
        rw [show (nI j_2).toNatClampNeg = j_2 from nI_clamp (n := j_2) (by omega)] at hP hD
        have hP : va_P (dC, dI) vwCl [(hc, .inr (0, [.int a0, .int a1, .int (nI k0), .ref k1, .ref k2, .ref k3, .ref k4, .ref k5])), (k3, .inl (cI, 6, .inl (upd g3 j_2 x_14))), (k4, .inl (cI, 6, .inl g4))] H := hP
        have hD : va_D A [(hc, .inr (0, [.int a0, .int a1, .int (nI k0), .ref k1, .ref k2, .ref k3, .ref k4, .ref k5])), (k3, .inl (cI, 6, .inl (upd g3 j_2 x_14))), (k4, .inl (cI, 6, .inl g4))] := hD
        refine lv_iload_n hx hb dX0_look_29 rfl (lv_at hl 2 rfl) ?_
        refine lv_iconst (v := 2) hx hb dX0_look_30 (by decide) ?_
        refine lv_icmp_eq (tgt := 39) hx hb dX0_look_31 (by decide) (fun c_15 => ?_) (fun c_15 => ?_)
        · refine lv_aload_n hx hb dX0_look_39 rfl (lv_at hl 0 rfl) ?_
          refine va_get (D := (dC, dI)) (ci := 0) (v := .ref k4) (C := RX0) (T := TX0) (N := 8) hx hb hts hiX0 hown hK hP 0 rfl rfl 6 (by decide) (hts (.fieldLink RX0 31 "LeftProfile$Court" "sawRight" "[I") (List.mem_of_getElem? (i := 2) rfl)) (fun _ h9 => h9) rfl dX0_look_40 ?_
          refine lv_iload_n hx hb dX0_look_43 rfl (lv_at hl 1 rfl) ?_
          refine lv_dup2_11 hx hb dX0_look_44 rfl rfl ?_
          refine va_iald hx hb hK hP 2 0 rfl rfl (vp_in_nI (n := j_2) (by omega) (by omega)) dX0_look_45 ?_
          refine cz_i (y := (g4 j_2)) (congrArg g4 (nI_clamp (n := j_2) (by omega))) ?_
          refine lv_iconst (v := 1) hx hb dX0_look_46 (by decide) ?_
          refine lv_iadd hx hb dX0_look_47 ?_
          refine lv_topi (fun x_16 ex_16 => ?_)
          refine va_iast hx hb hK hP hD hS 2 0 rfl rfl (vp_in_nI (n := j_2) (by omega) (by omega)) dX0_look_48 (fun H locs hP hD hS => ?_)
          rw [show (nI j_2).toNatClampNeg = j_2 from nI_clamp (n := j_2) (by omega)] at hP hD
          have hP : va_P (dC, dI) vwCl [(hc, .inr (0, [.int a0, .int a1, .int (nI k0), .ref k1, .ref k2, .ref k3, .ref k4, .ref k5])), (k3, .inl (cI, 6, .inl (upd g3 j_2 x_14))), (k4, .inl (cI, 6, .inl (upd g4 j_2 x_16)))] H := hP
          have hD : va_D A [(hc, .inr (0, [.int a0, .int a1, .int (nI k0), .ref k1, .ref k2, .ref k3, .ref k4, .ref k5])), (k3, .inl (cI, 6, .inl (upd g3 j_2 x_14))), (k4, .inl (cI, 6, .inl (upd g4 j_2 x_16)))] := hD
          refine W.widen (k := 0) (n := 0) (Nat.le_of_ble_eq_true rfl) (Nat.le_of_ble_eq_true rfl) ?_
          have hP9 := hP.sub (ws' := [(hc, .inr (0, [.int a0, .int a1, .int (nI k0), .ref k1, .ref k2, .ref k3, .ref k4, .ref k5])), (k3, .inl (cI, 6, .inl (upd g3 j_2 x_14))), (k4, .inl (cI, 6, .inl (upd g4 j_2 x_16)))]) [0, 1, 2] rfl
          have hD9 := hD.sub (ws' := [(hc, .inr (0, [.int a0, .int a1, .int (nI k0), .ref k1, .ref k2, .ref k3, .ref k4, .ref k5])), (k3, .inl (cI, 6, .inl (upd g3 j_2 x_14))), (k4, .inl (cI, 6, .inl (upd g4 j_2 x_16)))]) [0, 1, 2] (by decide) rfl
          rw [hQ]; exact W.vret hx hb hr (fun t ht hW => ⟨⟨(), rfl, trivial, ⟨(upd g3 j_2 x_14), (upd g4 j_2 x_16), by rw [ht]; exact hP9, hD9⟩⟩, hS.F ht⟩) hS.2.2 dX0_look_49
        · refine lv_iload_n hx hb dX0_look_34 rfl (lv_at hl 2 rfl) ?_
          refine lv_iconst (v := 3) hx hb dX0_look_35 (by decide) ?_
          refine lv_icmp_ne (tgt := 49) hx hb dX0_look_36 (by decide) (fun c_17 => ?_) (fun c_17 => ?_)
          · refine W.widen (k := 0) (n := 0) (Nat.le_of_ble_eq_true rfl) (Nat.le_of_ble_eq_true rfl) ?_
            have hP9 := hP.sub (ws' := [(hc, .inr (0, [.int a0, .int a1, .int (nI k0), .ref k1, .ref k2, .ref k3, .ref k4, .ref k5])), (k3, .inl (cI, 6, .inl (upd g3 j_2 x_14))), (k4, .inl (cI, 6, .inl g4))]) [0, 1, 2] rfl
            have hD9 := hD.sub (ws' := [(hc, .inr (0, [.int a0, .int a1, .int (nI k0), .ref k1, .ref k2, .ref k3, .ref k4, .ref k5])), (k3, .inl (cI, 6, .inl (upd g3 j_2 x_14))), (k4, .inl (cI, 6, .inl g4))]) [0, 1, 2] (by decide) rfl
            rw [hQ]; exact W.vret hx hb hr (fun t ht hW => ⟨⟨(), rfl, trivial, ⟨(upd g3 j_2 x_14), g4, by rw [ht]; exact hP9, hD9⟩⟩, hS.F ht⟩) hS.2.2 dX0_look_49
          · refine lv_aload_n hx hb dX0_look_39 rfl (lv_at hl 0 rfl) ?_
            refine va_get (D := (dC, dI)) (ci := 0) (v := .ref k4) (C := RX0) (T := TX0) (N := 8) hx hb hts hiX0 hown hK hP 0 rfl rfl 6 (by decide) (hts (.fieldLink RX0 31 "LeftProfile$Court" "sawRight" "[I") (List.mem_of_getElem? (i := 2) rfl)) (fun _ h9 => h9) rfl dX0_look_40 ?_
            refine lv_iload_n hx hb dX0_look_43 rfl (lv_at hl 1 rfl) ?_
            refine lv_dup2_11 hx hb dX0_look_44 rfl rfl ?_
            refine va_iald hx hb hK hP 2 0 rfl rfl (vp_in_nI (n := j_2) (by omega) (by omega)) dX0_look_45 ?_
            refine cz_i (y := (g4 j_2)) (congrArg g4 (nI_clamp (n := j_2) (by omega))) ?_
            refine lv_iconst (v := 1) hx hb dX0_look_46 (by decide) ?_
            refine lv_iadd hx hb dX0_look_47 ?_
            refine lv_topi (fun x_18 ex_18 => ?_)
            refine va_iast hx hb hK hP hD hS 2 0 rfl rfl (vp_in_nI (n := j_2) (by omega) (by omega)) dX0_look_48 (fun H locs hP hD hS => ?_)
            rw [show (nI j_2).toNatClampNeg = j_2 from nI_clamp (n := j_2) (by omega)] at hP hD
            have hP : va_P (dC, dI) vwCl [(hc, .inr (0, [.int a0, .int a1, .int (nI k0), .ref k1, .ref k2, .ref k3, .ref k4, .ref k5])), (k3, .inl (cI, 6, .inl (upd g3 j_2 x_14))), (k4, .inl (cI, 6, .inl (upd g4 j_2 x_18)))] H := hP
            have hD : va_D A [(hc, .inr (0, [.int a0, .int a1, .int (nI k0), .ref k1, .ref k2, .ref k3, .ref k4, .ref k5])), (k3, .inl (cI, 6, .inl (upd g3 j_2 x_14))), (k4, .inl (cI, 6, .inl (upd g4 j_2 x_18)))] := hD
            refine W.widen (k := 0) (n := 0) (Nat.le_of_ble_eq_true rfl) (Nat.le_of_ble_eq_true rfl) ?_
            have hP9 := hP.sub (ws' := [(hc, .inr (0, [.int a0, .int a1, .int (nI k0), .ref k1, .ref k2, .ref k3, .ref k4, .ref k5])), (k3, .inl (cI, 6, .inl (upd g3 j_2 x_14))), (k4, .inl (cI, 6, .inl (upd g4 j_2 x_18)))]) [0, 1, 2] rfl
            have hD9 := hD.sub (ws' := [(hc, .inr (0, [.int a0, .int a1, .int (nI k0), .ref k1, .ref k2, .ref k3, .ref k4, .ref k5])), (k3, .inl (cI, 6, .inl (upd g3 j_2 x_14))), (k4, .inl (cI, 6, .inl (upd g4 j_2 x_18)))]) [0, 1, 2] (by decide) rfl
            rw [hQ]; exact W.vret hx hb hr (fun t ht hW => ⟨⟨(), rfl, trivial, ⟨(upd g3 j_2 x_14), (upd g4 j_2 x_18), by rw [ht]; exact hP9, hD9⟩⟩, hS.F ht⟩) hS.2.2 dX0_look_49

set_option maxHeartbeats 4000000 in
set_option maxRecDepth 100000 in
theorem c_X0_takeFrom (l : Launch) (dC : Nat → ClassId) (dI : Nat → Nat → Nat) (cI cB : ClassId) (hc : Nat) (ho : Nat) (a0 : Int32) (a1 : Int32) (k0 : Nat) (k1 : Nat) (k2 : Nat) (k3 : Nat) (k4 : Nat) (k5 : Nat) (b0 : Int32) (b1 : Int32) (k9 : Nat) (j1 : Nat) (j2 : Nat) (j3 : Nat) (j4 : Nat) (j5 : Nat) (g1 : Nat → Int32) (g2 : Nat → Int32) (g3 : Nat → Int32) (g4 : Nat → Int32) (g5 : Nat → Int32) (e1 : Nat → Int32) (e2 : Nat → Int32) (e3 : Nat → Int32) (e4 : Nat → Int32) (e5 : Nat → Int32) (sz : Nat) : Met l yX0_takeFrom wsX0_takeFrom ({ frames := 1, cells := 0, slots := 0, locals := 20 }) (cz_Pm dC dI cI cB [.ref hc, .ref ho] [(hc, .inr (0, [.int a0, .int a1, .int (nI k0), .ref k1, .ref k2, .ref k3, .ref k4, .ref k5])), (ho, .inr (0, [.int b0, .int b1, .int (nI k9), .ref j1, .ref j2, .ref j3, .ref j4, .ref j5])), (k1, .inl (cI, 6, .inl g1)), (k2, .inl (cI, 6, .inl g2)), (k3, .inl (cI, 6, .inl g3)), (k4, .inl (cI, 6, .inl g4)), (k5, .inl (cI, 6, .inl g5)), (j1, .inl (cI, 6, .inl e1)), (j2, .inl (cI, 6, .inl e2)), (j3, .inl (cI, 6, .inl e3)), (j4, .inl (cI, 6, .inl e4)), (j5, .inl (cI, 6, .inl e5))] sz) (va_Qv (fun _ : Unit => True) (fun _ t => ∃ (t1 : Nat → Int32) (t2 : Nat → Int32) (t3 : Nat → Int32) (t4 : Nat → Int32) (t5 : Nat → Int32), (t1 = cz_cp e1 g1) ∧ (t2 = cz_cp e2 g2) ∧ (t3 = cz_cp e3 g3) ∧ (t4 = cz_cp e4 g4) ∧ (t5 = cz_cp e5 g5) ∧ va_P (dC, dI) vwCl [(hc, .inr (0, [.int b0, .int b1, .int (nI k9), .ref k1, .ref k2, .ref k3, .ref k4, .ref k5])), (ho, .inr (0, [.int b0, .int b1, .int (nI k9), .ref j1, .ref j2, .ref j3, .ref j4, .ref j5])), (k1, .inl (cI, 6, .inl t1)), (k2, .inl (cI, 6, .inl t2)), (k3, .inl (cI, 6, .inl t3)), (k4, .inl (cI, 6, .inl t4)), (k5, .inl (cI, 6, .inl t5)), (j1, .inl (cI, 6, .inl e1)), (j2, .inl (cI, 6, .inl e2)), (j3, .inl (cI, 6, .inl e3)), (j4, .inl (cI, 6, .inl e4)), (j5, .inl (cI, 6, .inl e5))] t.heap ∧ va_D (va_A [(hc, .inr (0, [.int a0, .int a1, .int (nI k0), .ref k1, .ref k2, .ref k3, .ref k4, .ref k5])), (ho, .inr (0, [.int b0, .int b1, .int (nI k9), .ref j1, .ref j2, .ref j3, .ref j4, .ref j5])), (k1, .inl (cI, 6, .inl g1)), (k2, .inl (cI, 6, .inl g2)), (k3, .inl (cI, 6, .inl g3)), (k4, .inl (cI, 6, .inl g4)), (k5, .inl (cI, 6, .inl g5)), (j1, .inl (cI, 6, .inl e1)), (j2, .inl (cI, 6, .inl e2)), (j3, .inl (cI, 6, .inl e3)), (j4, .inl (cI, 6, .inl e4)), (j5, .inl (cI, 6, .inl e5))] sz) [(hc, .inr (0, [.int b0, .int b1, .int (nI k9), .ref k1, .ref k2, .ref k3, .ref k4, .ref k5])), (ho, .inr (0, [.int b0, .int b1, .int (nI k9), .ref j1, .ref j2, .ref j3, .ref j4, .ref j5])), (k1, .inl (cI, 6, .inl t1)), (k2, .inl (cI, 6, .inl t2)), (k3, .inl (cI, 6, .inl t3)), (k4, .inl (cI, 6, .inl t4)), (k5, .inl (cI, 6, .inl t5)), (j1, .inl (cI, 6, .inl e1)), (j2, .inl (cI, 6, .inl e2)), (j3, .inl (cI, 6, .inl e3)), (j4, .inl (cI, 6, .inl e4)), (j5, .inl (cI, 6, .inl e5))]) (va_A [(hc, .inr (0, [.int a0, .int a1, .int (nI k0), .ref k1, .ref k2, .ref k3, .ref k4, .ref k5])), (ho, .inr (0, [.int b0, .int b1, .int (nI k9), .ref j1, .ref j2, .ref j3, .ref j4, .ref j5])), (k1, .inl (cI, 6, .inl g1)), (k2, .inl (cI, 6, .inl g2)), (k3, .inl (cI, 6, .inl g3)), (k4, .inl (cI, 6, .inl g4)), (k5, .inl (cI, 6, .inl g5)), (j1, .inl (cI, 6, .inl e1)), (j2, .inl (cI, 6, .inl e2)), (j3, .inl (cI, 6, .inl e3)), (j4, .inl (cI, 6, .inl e4)), (j5, .inl (cI, 6, .inl e5))] sz)) 0 0 (va_A [(hc, .inr (0, [.int a0, .int a1, .int (nI k0), .ref k1, .ref k2, .ref k3, .ref k4, .ref k5])), (ho, .inr (0, [.int b0, .int b1, .int (nI k9), .ref j1, .ref j2, .ref j3, .ref j4, .ref j5])), (k1, .inl (cI, 6, .inl g1)), (k2, .inl (cI, 6, .inl g2)), (k3, .inl (cI, 6, .inl g3)), (k4, .inl (cI, 6, .inl g4)), (k5, .inl (cI, 6, .inl g5)), (j1, .inl (cI, 6, .inl e1)), (j2, .inl (cI, 6, .inl e2)), (j3, .inl (cI, 6, .inl e3)), (j4, .inl (cI, 6, .inl e4)), (j5, .inl (cI, 6, .inl e5))] sz) := by
  refine cz_of (cc := cX0_takeFrom) (maxL := 2) (ret := none) (by decide) rfl ?_
  intro p e s m args below meth c s₁ Q B hml hv hQ
  obtain ⟨rfl, hsz, hP, hN, hD0⟩ := hv
  have hx := B.exec
  have hb := B.bytes
  have hr := B.returns
  have hts := atoms_spec (ws := wsX0_takeFrom) B.pre
  have hown : s.vm.findClass RX0 = some m.cls := findClass_of_methodNamed B.named
  have hlocks := B.notSynchronized
  have hK := hN.1
  have hiX0 : ∀ w ∈ wsX00, w ∈ wsX0_takeFrom := (fun _ h => List.mem_cons_of_mem _ (List.mem_append_right _ h))
  subst hsz
  have hD := hD0.self (sz := s.heap.size)
  generalize hAe : va_A [(hc, .inr (0, [.int a0, .int a1, .int (nI k0), .ref k1, .ref k2, .ref k3, .ref k4, .ref k5])), (ho, .inr (0, [.int b0, .int b1, .int (nI k9), .ref j1, .ref j2, .ref j3, .ref j4, .ref j5])), (k1, .inl (cI, 6, .inl g1)), (k2, .inl (cI, 6, .inl g2)), (k3, .inl (cI, 6, .inl g3)), (k4, .inl (cI, 6, .inl g4)), (k5, .inl (cI, 6, .inl g5)), (j1, .inl (cI, 6, .inl e1)), (j2, .inl (cI, 6, .inl e2)), (j3, .inl (cI, 6, .inl e3)), (j4, .inl (cI, 6, .inl e4)), (j5, .inl (cI, 6, .inl e5))] s.heap.size = A at hD hQ ⊢
  have hA : ∀ q : Nat, s.heap.size ≤ q → A q := fun q h => by rw [← hAe]; exact Or.inr h
  have hS : va_S A s.heap s.heap [] := va_S.rf
  obtain ⟨H, eH⟩ : ∃ H, H = s.heap := ⟨_, rfl⟩
  have hP : va_P (dC, dI) vwCl [(hc, .inr (0, [.int a0, .int a1, .int (nI k0), .ref k1, .ref k2, .ref k3, .ref k4, .ref k5])), (ho, .inr (0, [.int b0, .int b1, .int (nI k9), .ref j1, .ref j2, .ref j3, .ref j4, .ref j5])), (k1, .inl (cI, 6, .inl g1)), (k2, .inl (cI, 6, .inl g2)), (k3, .inl (cI, 6, .inl g3)), (k4, .inl (cI, 6, .inl g4)), (k5, .inl (cI, 6, .inl g5)), (j1, .inl (cI, 6, .inl e1)), (j2, .inl (cI, 6, .inl e2)), (j3, .inl (cI, 6, .inl e3)), (j4, .inl (cI, 6, .inl e4)), (j5, .inl (cI, 6, .inl e5))] s.heap := hP
  have hl := lv_entry ([.ref hc, .ref ho]) (n := 2) (Nat.le_of_ble_eq_true rfl)
  rw [lg_entry_eq]
  generalize (lg_sl ([.ref hc, .ref ho]) ++ List.replicate (2 - (lg_sl ([.ref hc, .ref ho])).length) Slot.unset).toArray = ls at hl ⊢
  have hl : lv_has ls 2 [(0, .ref hc), (1, .ref ho)] := hl
  refine lv_aload_n hx hb dX0_takeFrom_0 rfl (lv_at hl 0 rfl) ?_
  refine lv_aload_n hx hb dX0_takeFrom_1 rfl (lv_at hl 1 rfl) ?_
  refine va_get (D := (dC, dI)) (ci := 0) (v := .int b0) (C := RX0) (T := TX0) (N := 8) hx hb hts hiX0 hown hK hP 1 rfl rfl 0 (by decide) (hts (.fieldLink RX0 9 "LeftProfile$Court" "stance" "I") (List.mem_of_getElem? (i := 1) rfl)) (fun _ h9 => h9) rfl dX0_takeFrom_2 ?_
  refine va_put (D := (dC, dI)) (ci := 0) (v := .int b0) (ty := .int) (C := RX0) (T := TX0) (N := 8) hx hb hts hiX0 tyX0 tyX0_ok nmX0 hown hK hP hD hS 0 rfl rfl 0 (by decide) (hts (.fieldLink RX0 9 "LeftProfile$Court" "stance" "I") (List.mem_of_getElem? (i := 1) rfl)) (fun _ h9 => h9) rfl (by decide +kernel) rfl rfl (Nat.le_of_ble_eq_true rfl) dX0_takeFrom_5 (fun H locs hP hD hS => ?_)
  have hP : va_P (dC, dI) vwCl [(hc, .inr (0, [.int b0, .int a1, .int (nI k0), .ref k1, .ref k2, .ref k3, .ref k4, .ref k5])), (ho, .inr (0, [.int b0, .int b1, .int (nI k9), .ref j1, .ref j2, .ref j3, .ref j4, .ref j5])), (k1, .inl (cI, 6, .inl g1)), (k2, .inl (cI, 6, .inl g2)), (k3, .inl (cI, 6, .inl g3)), (k4, .inl (cI, 6, .inl g4)), (k5, .inl (cI, 6, .inl g5)), (j1, .inl (cI, 6, .inl e1)), (j2, .inl (cI, 6, .inl e2)), (j3, .inl (cI, 6, .inl e3)), (j4, .inl (cI, 6, .inl e4)), (j5, .inl (cI, 6, .inl e5))] H := hP
  have hD : va_D A [(hc, .inr (0, [.int b0, .int a1, .int (nI k0), .ref k1, .ref k2, .ref k3, .ref k4, .ref k5])), (ho, .inr (0, [.int b0, .int b1, .int (nI k9), .ref j1, .ref j2, .ref j3, .ref j4, .ref j5])), (k1, .inl (cI, 6, .inl g1)), (k2, .inl (cI, 6, .inl g2)), (k3, .inl (cI, 6, .inl g3)), (k4, .inl (cI, 6, .inl g4)), (k5, .inl (cI, 6, .inl g5)), (j1, .inl (cI, 6, .inl e1)), (j2, .inl (cI, 6, .inl e2)), (j3, .inl (cI, 6, .inl e3)), (j4, .inl (cI, 6, .inl e4)), (j5, .inl (cI, 6, .inl e5))] := hD
  refine lv_aload_n hx hb dX0_takeFrom_8 rfl (lv_at hl 0 rfl) ?_
  refine lv_aload_n hx hb dX0_takeFrom_9 rfl (lv_at hl 1 rfl) ?_
  refine va_get (D := (dC, dI)) (ci := 0) (v := .int b1) (C := RX0) (T := TX0) (N := 8) hx hb hts hiX0 hown hK hP 1 rfl rfl 1 (by decide) (hts (.fieldLink RX0 15 "LeftProfile$Court" "acts" "I") (List.mem_of_getElem? (i := 2) rfl)) (fun _ h9 => h9) rfl dX0_takeFrom_10 ?_
  refine va_put (D := (dC, dI)) (ci := 0) (v := .int b1) (ty := .int) (C := RX0) (T := TX0) (N := 8) hx hb hts hiX0 tyX0 tyX0_ok nmX0 hown hK hP hD hS 0 rfl rfl 1 (by decide) (hts (.fieldLink RX0 15 "LeftProfile$Court" "acts" "I") (List.mem_of_getElem? (i := 2) rfl)) (fun _ h9 => h9) rfl (by decide +kernel) rfl rfl (Nat.le_of_ble_eq_true rfl) dX0_takeFrom_13 (fun H locs hP hD hS => ?_)
  have hP : va_P (dC, dI) vwCl [(hc, .inr (0, [.int b0, .int b1, .int (nI k0), .ref k1, .ref k2, .ref k3, .ref k4, .ref k5])), (ho, .inr (0, [.int b0, .int b1, .int (nI k9), .ref j1, .ref j2, .ref j3, .ref j4, .ref j5])), (k1, .inl (cI, 6, .inl g1)), (k2, .inl (cI, 6, .inl g2)), (k3, .inl (cI, 6, .inl g3)), (k4, .inl (cI, 6, .inl g4)), (k5, .inl (cI, 6, .inl g5)), (j1, .inl (cI, 6, .inl e1)), (j2, .inl (cI, 6, .inl e2)), (j3, .inl (cI, 6, .inl e3)), (j4, .inl (cI, 6, .inl e4)), (j5, .inl (cI, 6, .inl e5))] H := hP
  have hD : va_D A [(hc, .inr (0, [.int b0, .int b1, .int (nI k0), .ref k1, .ref k2, .ref k3, .ref k4, .ref k5])), (ho, .inr (0, [.int b0, .int b1, .int (nI k9), .ref j1, .ref j2, .ref j3, .ref j4, .ref j5])), (k1, .inl (cI, 6, .inl g1)), (k2, .inl (cI, 6, .inl g2)), (k3, .inl (cI, 6, .inl g3)), (k4, .inl (cI, 6, .inl g4)), (k5, .inl (cI, 6, .inl g5)), (j1, .inl (cI, 6, .inl e1)), (j2, .inl (cI, 6, .inl e2)), (j3, .inl (cI, 6, .inl e3)), (j4, .inl (cI, 6, .inl e4)), (j5, .inl (cI, 6, .inl e5))] := hD
  refine lv_aload_n hx hb dX0_takeFrom_16 rfl (lv_at hl 0 rfl) ?_
  refine lv_aload_n hx hb dX0_takeFrom_17 rfl (lv_at hl 1 rfl) ?_
  refine va_get (D := (dC, dI)) (ci := 0) (v := .int (nI k9)) (C := RX0) (T := TX0) (N := 8) hx hb hts hiX0 hown hK hP 1 rfl rfl 2 (by decide) (hts (.fieldLink RX0 18 "LeftProfile$Court" "size" "I") (List.mem_of_getElem? (i := 3) rfl)) (fun _ h9 => h9) rfl dX0_takeFrom_18 ?_
  refine va_put (D := (dC, dI)) (ci := 0) (v := .int (nI k9)) (ty := .int) (C := RX0) (T := TX0) (N := 8) hx hb hts hiX0 tyX0 tyX0_ok nmX0 hown hK hP hD hS 0 rfl rfl 2 (by decide) (hts (.fieldLink RX0 18 "LeftProfile$Court" "size" "I") (List.mem_of_getElem? (i := 3) rfl)) (fun _ h9 => h9) rfl (by decide +kernel) rfl rfl (Nat.le_of_ble_eq_true rfl) dX0_takeFrom_21 (fun H locs hP hD hS => ?_)
  have hP : va_P (dC, dI) vwCl [(hc, .inr (0, [.int b0, .int b1, .int (nI k9), .ref k1, .ref k2, .ref k3, .ref k4, .ref k5])), (ho, .inr (0, [.int b0, .int b1, .int (nI k9), .ref j1, .ref j2, .ref j3, .ref j4, .ref j5])), (k1, .inl (cI, 6, .inl g1)), (k2, .inl (cI, 6, .inl g2)), (k3, .inl (cI, 6, .inl g3)), (k4, .inl (cI, 6, .inl g4)), (k5, .inl (cI, 6, .inl g5)), (j1, .inl (cI, 6, .inl e1)), (j2, .inl (cI, 6, .inl e2)), (j3, .inl (cI, 6, .inl e3)), (j4, .inl (cI, 6, .inl e4)), (j5, .inl (cI, 6, .inl e5))] H := hP
  have hD : va_D A [(hc, .inr (0, [.int b0, .int b1, .int (nI k9), .ref k1, .ref k2, .ref k3, .ref k4, .ref k5])), (ho, .inr (0, [.int b0, .int b1, .int (nI k9), .ref j1, .ref j2, .ref j3, .ref j4, .ref j5])), (k1, .inl (cI, 6, .inl g1)), (k2, .inl (cI, 6, .inl g2)), (k3, .inl (cI, 6, .inl g3)), (k4, .inl (cI, 6, .inl g4)), (k5, .inl (cI, 6, .inl g5)), (j1, .inl (cI, 6, .inl e1)), (j2, .inl (cI, 6, .inl e2)), (j3, .inl (cI, 6, .inl e3)), (j4, .inl (cI, 6, .inl e4)), (j5, .inl (cI, 6, .inl e5))] := hD
  refine lv_aload_n hx hb dX0_takeFrom_24 rfl (lv_at hl 1 rfl) ?_
  refine va_get (D := (dC, dI)) (ci := 0) (v := .ref j1) (C := RX0) (T := TX0) (N := 8) hx hb hts hiX0 hown hK hP 1 rfl rfl 3 (by decide) (hts (.fieldLink RX0 21 "LeftProfile$Court" "kinds" "[I") (List.mem_of_getElem? (i := 4) rfl)) (fun _ h9 => h9) rfl dX0_takeFrom_25 ?_
  refine lv_iconst (v := 0) hx hb dX0_takeFrom_28 (by decide) ?_
  refine lv_aload_n hx hb dX0_takeFrom_29 rfl (lv_at hl 0 rfl) ?_
  refine va_get (D := (dC, dI)) (ci := 0) (v := .ref k1) (C := RX0) (T := TX0) (N := 8) hx hb hts hiX0 hown hK hP 0 rfl rfl 3 (by decide) (hts (.fieldLink RX0 21 "LeftProfile$Court" "kinds" "[I") (List.mem_of_getElem? (i := 4) rfl)) (fun _ h9 => h9) rfl dX0_takeFrom_30 ?_
  refine lv_iconst (v := 0) hx hb dX0_takeFrom_33 (by decide) ?_
  refine lv_bipush (v := 6) hx hb dX0_takeFrom_34 (by decide) ?_
  refine va_copyi (ty := .int) (sp := 0) (dp := 0) (n := 6) hx hb (by rw [hml]; exact hl.1.symm) hown (hts (.methodLink RX0 37 arraycopyName) (List.mem_of_getElem? (i := 5) rfl)) (hts (.native arraycopyName) (List.mem_of_getElem? (i := 6) rfl)) (hts (.static arraycopyName) (List.mem_of_getElem? (i := 7) rfl)) (hts (.initialized "java/lang/System") (List.mem_of_getElem? (i := 8) rfl)) hK hP hD hS 7 2 0 0 rfl rfl rfl rfl rfl (by decide) (by decide) (by decide) (by decide) (by decide) (fun _ _ => rfl) (Nat.le_of_ble_eq_true rfl) (Nat.le_of_ble_eq_true rfl) dX0_takeFrom_36 (fun H locs hP hD hS => ?_)
  have hP : va_P (dC, dI) vwCl [(hc, .inr (0, [.int b0, .int b1, .int (nI k9), .ref k1, .ref k2, .ref k3, .ref k4, .ref k5])), (ho, .inr (0, [.int b0, .int b1, .int (nI k9), .ref j1, .ref j2, .ref j3, .ref j4, .ref j5])), (k1, .inl (cI, 6, .inl (va_cpy e1 g1 (0 : Int32).toNatClampNeg (0 : Int32).toNatClampNeg (6 : Int32).toNatClampNeg))), (k2, .inl (cI, 6, .inl g2)), (k3, .inl (cI, 6, .inl g3)), (k4, .inl (cI, 6, .inl g4)), (k5, .inl (cI, 6, .inl g5)), (j1, .inl (cI, 6, .inl e1)), (j2, .inl (cI, 6, .inl e2)), (j3, .inl (cI, 6, .inl e3)), (j4, .inl (cI, 6, .inl e4)), (j5, .inl (cI, 6, .inl e5))] H := hP
  have hD : va_D A [(hc, .inr (0, [.int b0, .int b1, .int (nI k9), .ref k1, .ref k2, .ref k3, .ref k4, .ref k5])), (ho, .inr (0, [.int b0, .int b1, .int (nI k9), .ref j1, .ref j2, .ref j3, .ref j4, .ref j5])), (k1, .inl (cI, 6, .inl (va_cpy e1 g1 (0 : Int32).toNatClampNeg (0 : Int32).toNatClampNeg (6 : Int32).toNatClampNeg))), (k2, .inl (cI, 6, .inl g2)), (k3, .inl (cI, 6, .inl g3)), (k4, .inl (cI, 6, .inl g4)), (k5, .inl (cI, 6, .inl g5)), (j1, .inl (cI, 6, .inl e1)), (j2, .inl (cI, 6, .inl e2)), (j3, .inl (cI, 6, .inl e3)), (j4, .inl (cI, 6, .inl e4)), (j5, .inl (cI, 6, .inl e5))] := hD
  refine lv_aload_n hx hb dX0_takeFrom_39 rfl (lv_at hl 1 rfl) ?_
  refine va_get (D := (dC, dI)) (ci := 0) (v := .ref j2) (C := RX0) (T := TX0) (N := 8) hx hb hts hiX0 hown hK hP 1 rfl rfl 4 (by decide) (hts (.fieldLink RX0 25 "LeftProfile$Court" "places" "[I") (List.mem_of_getElem? (i := 9) rfl)) (fun _ h9 => h9) rfl dX0_takeFrom_40 ?_
  refine lv_iconst (v := 0) hx hb dX0_takeFrom_43 (by decide) ?_
  refine lv_aload_n hx hb dX0_takeFrom_44 rfl (lv_at hl 0 rfl) ?_
  refine va_get (D := (dC, dI)) (ci := 0) (v := .ref k2) (C := RX0) (T := TX0) (N := 8) hx hb hts hiX0 hown hK hP 0 rfl rfl 4 (by decide) (hts (.fieldLink RX0 25 "LeftProfile$Court" "places" "[I") (List.mem_of_getElem? (i := 9) rfl)) (fun _ h9 => h9) rfl dX0_takeFrom_45 ?_
  refine lv_iconst (v := 0) hx hb dX0_takeFrom_48 (by decide) ?_
  refine lv_bipush (v := 6) hx hb dX0_takeFrom_49 (by decide) ?_
  refine va_copyi (ty := .int) (sp := 0) (dp := 0) (n := 6) hx hb (by rw [hml]; exact hl.1.symm) hown (hts (.methodLink RX0 37 arraycopyName) (List.mem_of_getElem? (i := 5) rfl)) (hts (.native arraycopyName) (List.mem_of_getElem? (i := 6) rfl)) (hts (.static arraycopyName) (List.mem_of_getElem? (i := 7) rfl)) (hts (.initialized "java/lang/System") (List.mem_of_getElem? (i := 8) rfl)) hK hP hD hS 8 3 0 0 rfl rfl rfl rfl rfl (by decide) (by decide) (by decide) (by decide) (by decide) (fun _ _ => rfl) (Nat.le_of_ble_eq_true rfl) (Nat.le_of_ble_eq_true rfl) dX0_takeFrom_51 (fun H locs hP hD hS => ?_)
  have hP : va_P (dC, dI) vwCl [(hc, .inr (0, [.int b0, .int b1, .int (nI k9), .ref k1, .ref k2, .ref k3, .ref k4, .ref k5])), (ho, .inr (0, [.int b0, .int b1, .int (nI k9), .ref j1, .ref j2, .ref j3, .ref j4, .ref j5])), (k1, .inl (cI, 6, .inl (va_cpy e1 g1 (0 : Int32).toNatClampNeg (0 : Int32).toNatClampNeg (6 : Int32).toNatClampNeg))), (k2, .inl (cI, 6, .inl (va_cpy e2 g2 (0 : Int32).toNatClampNeg (0 : Int32).toNatClampNeg (6 : Int32).toNatClampNeg))), (k3, .inl (cI, 6, .inl g3)), (k4, .inl (cI, 6, .inl g4)), (k5, .inl (cI, 6, .inl g5)), (j1, .inl (cI, 6, .inl e1)), (j2, .inl (cI, 6, .inl e2)), (j3, .inl (cI, 6, .inl e3)), (j4, .inl (cI, 6, .inl e4)), (j5, .inl (cI, 6, .inl e5))] H := hP
  have hD : va_D A [(hc, .inr (0, [.int b0, .int b1, .int (nI k9), .ref k1, .ref k2, .ref k3, .ref k4, .ref k5])), (ho, .inr (0, [.int b0, .int b1, .int (nI k9), .ref j1, .ref j2, .ref j3, .ref j4, .ref j5])), (k1, .inl (cI, 6, .inl (va_cpy e1 g1 (0 : Int32).toNatClampNeg (0 : Int32).toNatClampNeg (6 : Int32).toNatClampNeg))), (k2, .inl (cI, 6, .inl (va_cpy e2 g2 (0 : Int32).toNatClampNeg (0 : Int32).toNatClampNeg (6 : Int32).toNatClampNeg))), (k3, .inl (cI, 6, .inl g3)), (k4, .inl (cI, 6, .inl g4)), (k5, .inl (cI, 6, .inl g5)), (j1, .inl (cI, 6, .inl e1)), (j2, .inl (cI, 6, .inl e2)), (j3, .inl (cI, 6, .inl e3)), (j4, .inl (cI, 6, .inl e4)), (j5, .inl (cI, 6, .inl e5))] := hD
  refine lv_aload_n hx hb dX0_takeFrom_54 rfl (lv_at hl 1 rfl) ?_
  refine va_get (D := (dC, dI)) (ci := 0) (v := .ref j3) (C := RX0) (T := TX0) (N := 8) hx hb hts hiX0 hown hK hP 1 rfl rfl 5 (by decide) (hts (.fieldLink RX0 28 "LeftProfile$Court" "sawLeft" "[I") (List.mem_of_getElem? (i := 10) rfl)) (fun _ h9 => h9) rfl dX0_takeFrom_55 ?_
  refine lv_iconst (v := 0) hx hb dX0_takeFrom_58 (by decide) ?_
  refine lv_aload_n hx hb dX0_takeFrom_59 rfl (lv_at hl 0 rfl) ?_
  refine va_get (D := (dC, dI)) (ci := 0) (v := .ref k3) (C := RX0) (T := TX0) (N := 8) hx hb hts hiX0 hown hK hP 0 rfl rfl 5 (by decide) (hts (.fieldLink RX0 28 "LeftProfile$Court" "sawLeft" "[I") (List.mem_of_getElem? (i := 10) rfl)) (fun _ h9 => h9) rfl dX0_takeFrom_60 ?_
  refine lv_iconst (v := 0) hx hb dX0_takeFrom_63 (by decide) ?_
  refine lv_bipush (v := 6) hx hb dX0_takeFrom_64 (by decide) ?_
  refine va_copyi (ty := .int) (sp := 0) (dp := 0) (n := 6) hx hb (by rw [hml]; exact hl.1.symm) hown (hts (.methodLink RX0 37 arraycopyName) (List.mem_of_getElem? (i := 5) rfl)) (hts (.native arraycopyName) (List.mem_of_getElem? (i := 6) rfl)) (hts (.static arraycopyName) (List.mem_of_getElem? (i := 7) rfl)) (hts (.initialized "java/lang/System") (List.mem_of_getElem? (i := 8) rfl)) hK hP hD hS 9 4 0 0 rfl rfl rfl rfl rfl (by decide) (by decide) (by decide) (by decide) (by decide) (fun _ _ => rfl) (Nat.le_of_ble_eq_true rfl) (Nat.le_of_ble_eq_true rfl) dX0_takeFrom_66 (fun H locs hP hD hS => ?_)
  have hP : va_P (dC, dI) vwCl [(hc, .inr (0, [.int b0, .int b1, .int (nI k9), .ref k1, .ref k2, .ref k3, .ref k4, .ref k5])), (ho, .inr (0, [.int b0, .int b1, .int (nI k9), .ref j1, .ref j2, .ref j3, .ref j4, .ref j5])), (k1, .inl (cI, 6, .inl (va_cpy e1 g1 (0 : Int32).toNatClampNeg (0 : Int32).toNatClampNeg (6 : Int32).toNatClampNeg))), (k2, .inl (cI, 6, .inl (va_cpy e2 g2 (0 : Int32).toNatClampNeg (0 : Int32).toNatClampNeg (6 : Int32).toNatClampNeg))), (k3, .inl (cI, 6, .inl (va_cpy e3 g3 (0 : Int32).toNatClampNeg (0 : Int32).toNatClampNeg (6 : Int32).toNatClampNeg))), (k4, .inl (cI, 6, .inl g4)), (k5, .inl (cI, 6, .inl g5)), (j1, .inl (cI, 6, .inl e1)), (j2, .inl (cI, 6, .inl e2)), (j3, .inl (cI, 6, .inl e3)), (j4, .inl (cI, 6, .inl e4)), (j5, .inl (cI, 6, .inl e5))] H := hP
  have hD : va_D A [(hc, .inr (0, [.int b0, .int b1, .int (nI k9), .ref k1, .ref k2, .ref k3, .ref k4, .ref k5])), (ho, .inr (0, [.int b0, .int b1, .int (nI k9), .ref j1, .ref j2, .ref j3, .ref j4, .ref j5])), (k1, .inl (cI, 6, .inl (va_cpy e1 g1 (0 : Int32).toNatClampNeg (0 : Int32).toNatClampNeg (6 : Int32).toNatClampNeg))), (k2, .inl (cI, 6, .inl (va_cpy e2 g2 (0 : Int32).toNatClampNeg (0 : Int32).toNatClampNeg (6 : Int32).toNatClampNeg))), (k3, .inl (cI, 6, .inl (va_cpy e3 g3 (0 : Int32).toNatClampNeg (0 : Int32).toNatClampNeg (6 : Int32).toNatClampNeg))), (k4, .inl (cI, 6, .inl g4)), (k5, .inl (cI, 6, .inl g5)), (j1, .inl (cI, 6, .inl e1)), (j2, .inl (cI, 6, .inl e2)), (j3, .inl (cI, 6, .inl e3)), (j4, .inl (cI, 6, .inl e4)), (j5, .inl (cI, 6, .inl e5))] := hD
  refine lv_aload_n hx hb dX0_takeFrom_69 rfl (lv_at hl 1 rfl) ?_
  refine va_get (D := (dC, dI)) (ci := 0) (v := .ref j4) (C := RX0) (T := TX0) (N := 8) hx hb hts hiX0 hown hK hP 1 rfl rfl 6 (by decide) (hts (.fieldLink RX0 31 "LeftProfile$Court" "sawRight" "[I") (List.mem_of_getElem? (i := 11) rfl)) (fun _ h9 => h9) rfl dX0_takeFrom_70 ?_
  refine lv_iconst (v := 0) hx hb dX0_takeFrom_73 (by decide) ?_
  refine lv_aload_n hx hb dX0_takeFrom_74 rfl (lv_at hl 0 rfl) ?_
  refine va_get (D := (dC, dI)) (ci := 0) (v := .ref k4) (C := RX0) (T := TX0) (N := 8) hx hb hts hiX0 hown hK hP 0 rfl rfl 6 (by decide) (hts (.fieldLink RX0 31 "LeftProfile$Court" "sawRight" "[I") (List.mem_of_getElem? (i := 11) rfl)) (fun _ h9 => h9) rfl dX0_takeFrom_75 ?_
  refine lv_iconst (v := 0) hx hb dX0_takeFrom_78 (by decide) ?_
  refine lv_bipush (v := 6) hx hb dX0_takeFrom_79 (by decide) ?_
  refine va_copyi (ty := .int) (sp := 0) (dp := 0) (n := 6) hx hb (by rw [hml]; exact hl.1.symm) hown (hts (.methodLink RX0 37 arraycopyName) (List.mem_of_getElem? (i := 5) rfl)) (hts (.native arraycopyName) (List.mem_of_getElem? (i := 6) rfl)) (hts (.static arraycopyName) (List.mem_of_getElem? (i := 7) rfl)) (hts (.initialized "java/lang/System") (List.mem_of_getElem? (i := 8) rfl)) hK hP hD hS 10 5 0 0 rfl rfl rfl rfl rfl (by decide) (by decide) (by decide) (by decide) (by decide) (fun _ _ => rfl) (Nat.le_of_ble_eq_true rfl) (Nat.le_of_ble_eq_true rfl) dX0_takeFrom_81 (fun H locs hP hD hS => ?_)
  have hP : va_P (dC, dI) vwCl [(hc, .inr (0, [.int b0, .int b1, .int (nI k9), .ref k1, .ref k2, .ref k3, .ref k4, .ref k5])), (ho, .inr (0, [.int b0, .int b1, .int (nI k9), .ref j1, .ref j2, .ref j3, .ref j4, .ref j5])), (k1, .inl (cI, 6, .inl (va_cpy e1 g1 (0 : Int32).toNatClampNeg (0 : Int32).toNatClampNeg (6 : Int32).toNatClampNeg))), (k2, .inl (cI, 6, .inl (va_cpy e2 g2 (0 : Int32).toNatClampNeg (0 : Int32).toNatClampNeg (6 : Int32).toNatClampNeg))), (k3, .inl (cI, 6, .inl (va_cpy e3 g3 (0 : Int32).toNatClampNeg (0 : Int32).toNatClampNeg (6 : Int32).toNatClampNeg))), (k4, .inl (cI, 6, .inl (va_cpy e4 g4 (0 : Int32).toNatClampNeg (0 : Int32).toNatClampNeg (6 : Int32).toNatClampNeg))), (k5, .inl (cI, 6, .inl g5)), (j1, .inl (cI, 6, .inl e1)), (j2, .inl (cI, 6, .inl e2)), (j3, .inl (cI, 6, .inl e3)), (j4, .inl (cI, 6, .inl e4)), (j5, .inl (cI, 6, .inl e5))] H := hP
  have hD : va_D A [(hc, .inr (0, [.int b0, .int b1, .int (nI k9), .ref k1, .ref k2, .ref k3, .ref k4, .ref k5])), (ho, .inr (0, [.int b0, .int b1, .int (nI k9), .ref j1, .ref j2, .ref j3, .ref j4, .ref j5])), (k1, .inl (cI, 6, .inl (va_cpy e1 g1 (0 : Int32).toNatClampNeg (0 : Int32).toNatClampNeg (6 : Int32).toNatClampNeg))), (k2, .inl (cI, 6, .inl (va_cpy e2 g2 (0 : Int32).toNatClampNeg (0 : Int32).toNatClampNeg (6 : Int32).toNatClampNeg))), (k3, .inl (cI, 6, .inl (va_cpy e3 g3 (0 : Int32).toNatClampNeg (0 : Int32).toNatClampNeg (6 : Int32).toNatClampNeg))), (k4, .inl (cI, 6, .inl (va_cpy e4 g4 (0 : Int32).toNatClampNeg (0 : Int32).toNatClampNeg (6 : Int32).toNatClampNeg))), (k5, .inl (cI, 6, .inl g5)), (j1, .inl (cI, 6, .inl e1)), (j2, .inl (cI, 6, .inl e2)), (j3, .inl (cI, 6, .inl e3)), (j4, .inl (cI, 6, .inl e4)), (j5, .inl (cI, 6, .inl e5))] := hD
  refine lv_aload_n hx hb dX0_takeFrom_84 rfl (lv_at hl 1 rfl) ?_
  refine va_get (D := (dC, dI)) (ci := 0) (v := .ref j5) (C := RX0) (T := TX0) (N := 8) hx hb hts hiX0 hown hK hP 1 rfl rfl 7 (by decide) (hts (.fieldLink RX0 34 "LeftProfile$Court" "told" "[I") (List.mem_of_getElem? (i := 12) rfl)) (fun _ h9 => h9) rfl dX0_takeFrom_85 ?_
  refine lv_iconst (v := 0) hx hb dX0_takeFrom_88 (by decide) ?_
  refine lv_aload_n hx hb dX0_takeFrom_89 rfl (lv_at hl 0 rfl) ?_
  refine va_get (D := (dC, dI)) (ci := 0) (v := .ref k5) (C := RX0) (T := TX0) (N := 8) hx hb hts hiX0 hown hK hP 0 rfl rfl 7 (by decide) (hts (.fieldLink RX0 34 "LeftProfile$Court" "told" "[I") (List.mem_of_getElem? (i := 12) rfl)) (fun _ h9 => h9) rfl dX0_takeFrom_90 ?_
  refine lv_iconst (v := 0) hx hb dX0_takeFrom_93 (by decide) ?_
  refine lv_bipush (v := 6) hx hb dX0_takeFrom_94 (by decide) ?_
  refine va_copyi (ty := .int) (sp := 0) (dp := 0) (n := 6) hx hb (by rw [hml]; exact hl.1.symm) hown (hts (.methodLink RX0 37 arraycopyName) (List.mem_of_getElem? (i := 5) rfl)) (hts (.native arraycopyName) (List.mem_of_getElem? (i := 6) rfl)) (hts (.static arraycopyName) (List.mem_of_getElem? (i := 7) rfl)) (hts (.initialized "java/lang/System") (List.mem_of_getElem? (i := 8) rfl)) hK hP hD hS 11 6 0 0 rfl rfl rfl rfl rfl (by decide) (by decide) (by decide) (by decide) (by decide) (fun _ _ => rfl) (Nat.le_of_ble_eq_true rfl) (Nat.le_of_ble_eq_true rfl) dX0_takeFrom_96 (fun H locs hP hD hS => ?_)
  have hP : va_P (dC, dI) vwCl [(hc, .inr (0, [.int b0, .int b1, .int (nI k9), .ref k1, .ref k2, .ref k3, .ref k4, .ref k5])), (ho, .inr (0, [.int b0, .int b1, .int (nI k9), .ref j1, .ref j2, .ref j3, .ref j4, .ref j5])), (k1, .inl (cI, 6, .inl (va_cpy e1 g1 (0 : Int32).toNatClampNeg (0 : Int32).toNatClampNeg (6 : Int32).toNatClampNeg))), (k2, .inl (cI, 6, .inl (va_cpy e2 g2 (0 : Int32).toNatClampNeg (0 : Int32).toNatClampNeg (6 : Int32).toNatClampNeg))), (k3, .inl (cI, 6, .inl (va_cpy e3 g3 (0 : Int32).toNatClampNeg (0 : Int32).toNatClampNeg (6 : Int32).toNatClampNeg))), (k4, .inl (cI, 6, .inl (va_cpy e4 g4 (0 : Int32).toNatClampNeg (0 : Int32).toNatClampNeg (6 : Int32).toNatClampNeg))), (k5, .inl (cI, 6, .inl (va_cpy e5 g5 (0 : Int32).toNatClampNeg (0 : Int32).toNatClampNeg (6 : Int32).toNatClampNeg))), (j1, .inl (cI, 6, .inl e1)), (j2, .inl (cI, 6, .inl e2)), (j3, .inl (cI, 6, .inl e3)), (j4, .inl (cI, 6, .inl e4)), (j5, .inl (cI, 6, .inl e5))] H := hP
  have hD : va_D A [(hc, .inr (0, [.int b0, .int b1, .int (nI k9), .ref k1, .ref k2, .ref k3, .ref k4, .ref k5])), (ho, .inr (0, [.int b0, .int b1, .int (nI k9), .ref j1, .ref j2, .ref j3, .ref j4, .ref j5])), (k1, .inl (cI, 6, .inl (va_cpy e1 g1 (0 : Int32).toNatClampNeg (0 : Int32).toNatClampNeg (6 : Int32).toNatClampNeg))), (k2, .inl (cI, 6, .inl (va_cpy e2 g2 (0 : Int32).toNatClampNeg (0 : Int32).toNatClampNeg (6 : Int32).toNatClampNeg))), (k3, .inl (cI, 6, .inl (va_cpy e3 g3 (0 : Int32).toNatClampNeg (0 : Int32).toNatClampNeg (6 : Int32).toNatClampNeg))), (k4, .inl (cI, 6, .inl (va_cpy e4 g4 (0 : Int32).toNatClampNeg (0 : Int32).toNatClampNeg (6 : Int32).toNatClampNeg))), (k5, .inl (cI, 6, .inl (va_cpy e5 g5 (0 : Int32).toNatClampNeg (0 : Int32).toNatClampNeg (6 : Int32).toNatClampNeg))), (j1, .inl (cI, 6, .inl e1)), (j2, .inl (cI, 6, .inl e2)), (j3, .inl (cI, 6, .inl e3)), (j4, .inl (cI, 6, .inl e4)), (j5, .inl (cI, 6, .inl e5))] := hD
  refine W.widen (k := 0) (n := 0) (Nat.le_of_ble_eq_true rfl) (Nat.le_of_ble_eq_true rfl) ?_
  have hP9 := hP.sub (ws' := [(hc, .inr (0, [.int b0, .int b1, .int (nI k9), .ref k1, .ref k2, .ref k3, .ref k4, .ref k5])), (ho, .inr (0, [.int b0, .int b1, .int (nI k9), .ref j1, .ref j2, .ref j3, .ref j4, .ref j5])), (k1, .inl (cI, 6, .inl (va_cpy e1 g1 (0 : Int32).toNatClampNeg (0 : Int32).toNatClampNeg (6 : Int32).toNatClampNeg))), (k2, .inl (cI, 6, .inl (va_cpy e2 g2 (0 : Int32).toNatClampNeg (0 : Int32).toNatClampNeg (6 : Int32).toNatClampNeg))), (k3, .inl (cI, 6, .inl (va_cpy e3 g3 (0 : Int32).toNatClampNeg (0 : Int32).toNatClampNeg (6 : Int32).toNatClampNeg))), (k4, .inl (cI, 6, .inl (va_cpy e4 g4 (0 : Int32).toNatClampNeg (0 : Int32).toNatClampNeg (6 : Int32).toNatClampNeg))), (k5, .inl (cI, 6, .inl (va_cpy e5 g5 (0 : Int32).toNatClampNeg (0 : Int32).toNatClampNeg (6 : Int32).toNatClampNeg))), (j1, .inl (cI, 6, .inl e1)), (j2, .inl (cI, 6, .inl e2)), (j3, .inl (cI, 6, .inl e3)), (j4, .inl (cI, 6, .inl e4)), (j5, .inl (cI, 6, .inl e5))]) [0, 1, 2, 3, 4, 5, 6, 7, 8, 9, 10, 11] rfl
  have hD9 := hD.sub (ws' := [(hc, .inr (0, [.int b0, .int b1, .int (nI k9), .ref k1, .ref k2, .ref k3, .ref k4, .ref k5])), (ho, .inr (0, [.int b0, .int b1, .int (nI k9), .ref j1, .ref j2, .ref j3, .ref j4, .ref j5])), (k1, .inl (cI, 6, .inl (va_cpy e1 g1 (0 : Int32).toNatClampNeg (0 : Int32).toNatClampNeg (6 : Int32).toNatClampNeg))), (k2, .inl (cI, 6, .inl (va_cpy e2 g2 (0 : Int32).toNatClampNeg (0 : Int32).toNatClampNeg (6 : Int32).toNatClampNeg))), (k3, .inl (cI, 6, .inl (va_cpy e3 g3 (0 : Int32).toNatClampNeg (0 : Int32).toNatClampNeg (6 : Int32).toNatClampNeg))), (k4, .inl (cI, 6, .inl (va_cpy e4 g4 (0 : Int32).toNatClampNeg (0 : Int32).toNatClampNeg (6 : Int32).toNatClampNeg))), (k5, .inl (cI, 6, .inl (va_cpy e5 g5 (0 : Int32).toNatClampNeg (0 : Int32).toNatClampNeg (6 : Int32).toNatClampNeg))), (j1, .inl (cI, 6, .inl e1)), (j2, .inl (cI, 6, .inl e2)), (j3, .inl (cI, 6, .inl e3)), (j4, .inl (cI, 6, .inl e4)), (j5, .inl (cI, 6, .inl e5))]) [0, 1, 2, 3, 4, 5, 6, 7, 8, 9, 10, 11] (by decide) rfl
  rw [hQ]; exact W.vret hx hb hr (fun t ht hW => ⟨⟨(), rfl, trivial, ⟨(va_cpy e1 g1 (0 : Int32).toNatClampNeg (0 : Int32).toNatClampNeg (6 : Int32).toNatClampNeg), (va_cpy e2 g2 (0 : Int32).toNatClampNeg (0 : Int32).toNatClampNeg (6 : Int32).toNatClampNeg), (va_cpy e3 g3 (0 : Int32).toNatClampNeg (0 : Int32).toNatClampNeg (6 : Int32).toNatClampNeg), (va_cpy e4 g4 (0 : Int32).toNatClampNeg (0 : Int32).toNatClampNeg (6 : Int32).toNatClampNeg), (va_cpy e5 g5 (0 : Int32).toNatClampNeg (0 : Int32).toNatClampNeg (6 : Int32).toNatClampNeg), rfl, rfl, rfl, rfl, rfl, by rw [ht]; exact hP9, hD9⟩⟩, hS.F ht⟩) hS.2.2 dX0_takeFrom_99
