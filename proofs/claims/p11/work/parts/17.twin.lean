theorem c_X7_within_a1 (p0 : Int32) (p1 : Int32) (p2 : Int32) (c_1 : p0 < p1) : ¬ cz_in p1 p0 p2 := by first | (subst_vars; rfl) | assumption | ((try subst_vars) <;> (repeat' split) <;> (first | rfl | contradiction | ((try simp only [cz_in, cz_du, cz_lt, cz_le, cz_eq, cz_l] at *) <;> (first | omega | (simp_all; done))))) | ((try subst_vars); simp only [cz_in, *, and_self, and_true, true_and, if_true, if_false])
theorem c_X7_within_a2 (p0 : Int32) (p1 : Int32) (p2 : Int32) (c_1 : ¬ p0 < p1) (c_2 : p2 < p0) : ¬ cz_in p1 p0 p2 := by first | (subst_vars; rfl) | assumption | ((try subst_vars) <;> (repeat' split) <;> (first | rfl | contradiction | ((try simp only [cz_in, cz_du, cz_lt, cz_le, cz_eq, cz_l] at *) <;> (first | omega | (simp_all; done))))) | ((try subst_vars); simp only [cz_in, *, and_self, and_true, true_and, if_true, if_false])
theorem c_X7_within_a3 (p0 : Int32) (p1 : Int32) (p2 : Int32) (c_1 : ¬ p0 < p1) (c_2 : ¬ p2 < p0) : cz_in p1 p0 p2 := by first | (subst_vars; rfl) | assumption | ((try subst_vars) <;> (repeat' split) <;> (first | rfl | contradiction | ((try simp only [cz_in, cz_du, cz_lt, cz_le, cz_eq, cz_l] at *) <;> (first | omega | (simp_all; done))))) | ((try subst_vars); simp only [cz_in, *, and_self, and_true, true_and, if_true, if_false])
set_option maxHeartbeats 4000000 in
set_option maxRecDepth 100000 in
theorem c_X7_within (l : Launch) (dC : Nat → ClassId) (dI : Nat → Nat → Nat) (cI cB : ClassId) (p0 : Int32) (p1 : Int32) (p2 : Int32) : Met l yX7_within wsX7_within ({ frames := 0, cells := 0, slots := 0, locals := 0 }) (cz_Pp dC dI cI cB [.int p0, .int p1, .int p2] []) (vp_Si (fun r : Int32 => (r = 0 ∧ ¬ cz_in p1 p0 p2) ∨ (r = 1 ∧ cz_in p1 p0 p2))) 0 0 (fun _ => False) := by
  refine cz_of (cc := cX7_within) (maxL := 3) (ret := (some .boolean)) (by decide) rfl ?_
  intro p e s m args below meth c s₁ Q B hml hv hQ
  obtain ⟨rfl, hP, hN⟩ := hv
  have hx := B.exec
  have hb := B.bytes
  have hr := B.returns
  have hts := atoms_spec (ws := wsX7_within) B.pre
  have hown : s.vm.findClass RX7 = some m.cls := findClass_of_methodNamed B.named
  have hlocks := B.notSynchronized
  have hK := hN.1
  have hl := lv_entry ([.int p0, .int p1, .int p2]) (n := 3) (Nat.le_of_ble_eq_true rfl)
  rw [lg_entry_eq]
  generalize (lg_sl ([.int p0, .int p1, .int p2]) ++ List.replicate (3 - (lg_sl ([.int p0, .int p1, .int p2])).length) Slot.unset).toArray = ls at hl ⊢
  have hl : lv_has ls 3 [(0, .int p0), (1, .int p1), (2, .int p2)] := hl
  refine lv_iload_n hx hb dX7_within_0 rfl (lv_at hl 0 rfl) ?_
  refine lv_iload_n hx hb dX7_within_1 rfl (lv_at hl 1 rfl) ?_
  refine lv_icmp_lt (tgt := 14) hx hb dX7_within_2 (by decide) (fun c_1 => ?_) (fun c_1 => ?_)
  · refine lv_iconst (v := 0) hx hb dX7_within_14 (by decide) ?_
    rw [hQ]; exact W.zret (v := 0) hx hb hr (by decide) (fun t ht hW => ⟨0, rfl, (Or.inl ⟨rfl, (c_X7_within_a1 p0 p1 p2 c_1)⟩), ht⟩) (fun _ h => absurd h List.not_mem_nil) dX7_within_15
  · refine lv_iload_n hx hb dX7_within_5 rfl (lv_at hl 0 rfl) ?_
    refine lv_iload_n hx hb dX7_within_6 rfl (lv_at hl 2 rfl) ?_
    refine lv_icmp_gt (tgt := 14) hx hb dX7_within_7 (by decide) (fun c_2 => ?_) (fun c_2 => ?_)
    · refine lv_iconst (v := 0) hx hb dX7_within_14 (by decide) ?_
      rw [hQ]; exact W.zret (v := 0) hx hb hr (by decide) (fun t ht hW => ⟨0, rfl, (Or.inl ⟨rfl, (c_X7_within_a2 p0 p1 p2 c_1 c_2)⟩), ht⟩) (fun _ h => absurd h List.not_mem_nil) dX7_within_15
    · refine lv_iconst (v := 1) hx hb dX7_within_10 (by decide) ?_
      refine lv_goto (tgt := 15) hx hb dX7_within_11 (by decide) ?_
      rw [hQ]; exact W.zret (v := 1) hx hb hr (by decide) (fun t ht hW => ⟨1, rfl, (Or.inr (⟨rfl, (c_X7_within_a3 p0 p1 p2 c_1 c_2)⟩)), ht⟩) (fun _ h => absurd h List.not_mem_nil) dX7_within_15

theorem c_X7_has_a1 (p0 : Int32) (p1 : Int32) (x_1 : Int32) (x_2 : Int32) (ex_1 : x_1 = p0 >>> (p1 &&& 31)) (ex_2 : x_2 = x_1 &&& 1) (c_3 : ¬ x_2 = 1) : ¬ cz_hs p0 p1 := by first | (subst_vars; rfl) | assumption | ((try subst_vars) <;> (try simp only [cz_hs]) <;> (repeat' split) <;> (first | rfl | contradiction | ((try simp only [cz_in, cz_du, cz_lt, cz_le, cz_eq, cz_l] at *) <;> (first | omega | (simp_all; done))))) | ((try subst_vars); simp only [cz_hs, cz_in, *, and_self, and_true, true_and, if_true, if_false])
theorem c_X7_has_a2 (p0 : Int32) (p1 : Int32) (x_1 : Int32) (x_2 : Int32) (ex_1 : x_1 = p0 >>> (p1 &&& 31)) (ex_2 : x_2 = x_1 &&& 1) (c_3 : x_2 = 1) : cz_hs p0 p1 := by first | (subst_vars; rfl) | assumption | ((try subst_vars) <;> (try simp only [cz_hs]) <;> (repeat' split) <;> (first | rfl | contradiction | ((try simp only [cz_in, cz_du, cz_lt, cz_le, cz_eq, cz_l] at *) <;> (first | omega | (simp_all; done))))) | ((try subst_vars); simp only [cz_hs, cz_in, *, and_self, and_true, true_and, if_true, if_false])
set_option maxHeartbeats 4000000 in
set_option maxRecDepth 100000 in
theorem c_X7_has (l : Launch) (dC : Nat → ClassId) (dI : Nat → Nat → Nat) (cI cB : ClassId) (p0 : Int32) (p1 : Int32) : Met l yX7_has wsX7_has ({ frames := 0, cells := 0, slots := 0, locals := 0 }) (cz_Pp dC dI cI cB [.int p0, .int p1] []) (vp_Si (fun r : Int32 => (r = 0 ∧ ¬ cz_hs p0 p1) ∨ (r = 1 ∧ cz_hs p0 p1))) 0 0 (fun _ => False) := by
  refine cz_of (cc := cX7_has) (maxL := 2) (ret := (some .boolean)) (by decide) rfl ?_
  intro p e s m args below meth c s₁ Q B hml hv hQ
  obtain ⟨rfl, hP, hN⟩ := hv
  have hx := B.exec
  have hb := B.bytes
  have hr := B.returns
  have hts := atoms_spec (ws := wsX7_has) B.pre
  have hown : s.vm.findClass RX7 = some m.cls := findClass_of_methodNamed B.named
  have hlocks := B.notSynchronized
  have hK := hN.1
  have hl := lv_entry ([.int p0, .int p1]) (n := 2) (Nat.le_of_ble_eq_true rfl)
  rw [lg_entry_eq]
  generalize (lg_sl ([.int p0, .int p1]) ++ List.replicate (2 - (lg_sl ([.int p0, .int p1])).length) Slot.unset).toArray = ls at hl ⊢
  have hl : lv_has ls 2 [(0, .int p0), (1, .int p1)] := hl
  refine lv_iload_n hx hb dX7_has_0 rfl (lv_at hl 0 rfl) ?_
  refine lv_iload_n hx hb dX7_has_1 rfl (lv_at hl 1 rfl) ?_
  refine lv_ishr hx hb dX7_has_2 ?_
  refine lv_topi (fun x_1 ex_1 => ?_)
  refine lv_iconst (v := 1) hx hb dX7_has_3 (by decide) ?_
  refine lv_iand hx hb dX7_has_4 ?_
  refine lv_topi (fun x_2 ex_2 => ?_)
  refine lv_iconst (v := 1) hx hb dX7_has_5 (by decide) ?_
  refine lv_icmp_ne (tgt := 13) hx hb dX7_has_6 (by decide) (fun c_3 => ?_) (fun c_3 => ?_)
  · refine lv_iconst (v := 0) hx hb dX7_has_13 (by decide) ?_
    rw [hQ]; exact W.zret (v := 0) hx hb hr (by decide) (fun t ht hW => ⟨0, rfl, (Or.inl ⟨rfl, (c_X7_has_a1 p0 p1 x_1 x_2 ex_1 ex_2 c_3)⟩), ht⟩) (fun _ h => absurd h List.not_mem_nil) dX7_has_14
  · refine lv_iconst (v := 1) hx hb dX7_has_9 (by decide) ?_
    refine lv_goto (tgt := 14) hx hb dX7_has_10 (by decide) ?_
    rw [hQ]; exact W.zret (v := 1) hx hb hr (by decide) (fun t ht hW => ⟨1, rfl, (Or.inr (⟨rfl, (c_X7_has_a2 p0 p1 x_1 x_2 ex_1 ex_2 c_3)⟩)), ht⟩) (fun _ h => absurd h List.not_mem_nil) dX7_has_14

def cz_sz (b : Int32) : Nat → Int32
  | 0 => 0
  | k + 1 => cz_sz b k + (b >>> (nI k &&& 31) &&& 1)

theorem c_X7_size_a1 (p0 : Int32) (i4 : Nat) (y1 : Int32) (n4 : Nat) (x_2 : Int32) (x_3 : Int32) (x_4 : Int32) (hi4 : i4 + (n4 + 1) = 20) (hm : y1 = cz_sz p0 i4) (ex_2 : x_2 = p0 >>> ((nI i4) &&& 31)) (ex_3 : x_3 = x_2 &&& 1) (ex_4 : x_4 = y1 + x_3) : x_4 = cz_sz p0 (i4 + 1) := by first | (subst_vars; rfl) | assumption | ((try subst_vars) <;> (repeat' split) <;> (first | rfl | contradiction | ((try simp only [cz_in, cz_du, cz_lt, cz_le, cz_eq, cz_l] at *) <;> (first | omega | (simp_all; done))))) | ((try subst_vars); simp only [cz_in, *, and_self, and_true, true_and, if_true, if_false])
set_option maxHeartbeats 4000000 in
set_option maxRecDepth 100000 in
theorem c_X7_size (l : Launch) (dC : Nat → ClassId) (dI : Nat → Nat → Nat) (cI cB : ClassId) (p0 : Int32) : Met l yX7_size wsX7_size ({ frames := 0, cells := 0, slots := 0, locals := 0 }) (cz_Pp dC dI cI cB [.int p0] []) (vp_Si (fun r : Int32 => r = cz_sz p0 20)) 0 0 (fun _ => False) := by
  refine cz_of (cc := cX7_size) (maxL := 3) (ret := (some .int)) (by decide) rfl ?_
  intro p e s m args below meth c s₁ Q B hml hv hQ
  obtain ⟨rfl, hP, hN⟩ := hv
  have hx := B.exec
  have hb := B.bytes
  have hr := B.returns
  have hts := atoms_spec (ws := wsX7_size) B.pre
  have hown : s.vm.findClass RX7 = some m.cls := findClass_of_methodNamed B.named
  have hlocks := B.notSynchronized
  have hK := hN.1
  have hl := lv_entry ([.int p0]) (n := 3) (Nat.le_of_ble_eq_true rfl)
  rw [lg_entry_eq]
  generalize (lg_sl ([.int p0]) ++ List.replicate (3 - (lg_sl ([.int p0])).length) Slot.unset).toArray = ls at hl ⊢
  have hl : lv_has ls 3 [(0, .int p0)] := hl
  refine lv_iconst (v := 0) hx hb dX7_size_0 (by decide) ?_
  refine lv_istore_n (lv' := [(1, .int 0), (0, .int p0)]) hx hb dX7_size_1 rfl hl (by decide) rfl (fun ls hl => ?_)
  refine lv_iconst (v := 0) hx hb dX7_size_2 (by decide) ?_
  refine lv_istore_n (lv' := [(2, .int 0), (1, .int 0), (0, .int p0)]) hx hb dX7_size_3 rfl hl (by decide) rfl (fun ls hl => ?_)
  have lp4 : ∀ (n4 : Nat) (i4 : Nat) (y1 : Int32) (ls : Array Slot), i4 + n4 = 20 → y1 = cz_sz p0 i4 → lv_has ls 3 [(0, .int p0), (1, .int y1), (2, .int (nI i4))] → W p l e ({ frames := 0, cells := 0, slots := 0, locals := 0 } : Room) s m #[Value.int p0] below meth c s.heap [] 0 0 Q (F0 m 4 ls []) := by
    intro n4
    induction n4 with
    | zero =>
      intro i4 y1 ls hi4 hm hl
      obtain rfl : i4 = 20 := by omega
      have hl : lv_has ls 3 [(0, .int p0), (1, .int y1), (2, .int 20)] := hl
      refine lv_iload_n hx hb dX7_size_4 rfl (lv_at hl 2 rfl) ?_
      refine lv_bipush (v := 20) hx hb dX7_size_5 (by decide) ?_
      refine lv_icmp_ge (tgt := 24) hx hb dX7_size_7 (by decide) (fun _ => ?_) (fun c => absurd (by decide) c)
      refine lv_iload_n hx hb dX7_size_24 rfl (lv_at hl 1 rfl) ?_
      rw [hQ]; exact W.iret (v := y1) hx hb hr (fun t ht hW => ⟨y1, rfl, hm, ht⟩) (fun _ h => absurd h List.not_mem_nil) dX7_size_25
    | succ n4 ih4 =>
      intro i4 y1 ls hi4 hm hl
      refine lv_iload_n hx hb dX7_size_4 rfl (lv_at hl 2 rfl) ?_
      refine lv_bipush (v := 20) hx hb dX7_size_5 (by decide) ?_
      refine lv_icmp_ge (tgt := 24) hx hb dX7_size_7 (by decide) (fun c_1 => ?_) (fun c_1 => ?_)
      · exact absurd c_1 (show ¬ (20 : Int32) ≤ nI i4 from nI_ge (a := i4) (b := 20) (by omega) (by omega))
      · refine lv_iload_n hx hb dX7_size_10 rfl (lv_at hl 1 rfl) ?_
        refine lv_iload_n hx hb dX7_size_11 rfl (lv_at hl 0 rfl) ?_
        refine lv_iload_n hx hb dX7_size_12 rfl (lv_at hl 2 rfl) ?_
        refine lv_ishr hx hb dX7_size_13 ?_
        refine lv_topi (fun x_2 ex_2 => ?_)
        refine lv_iconst (v := 1) hx hb dX7_size_14 (by decide) ?_
        refine lv_iand hx hb dX7_size_15 ?_
        refine lv_topi (fun x_3 ex_3 => ?_)
        refine lv_iadd hx hb dX7_size_16 ?_
        refine lv_topi (fun x_4 ex_4 => ?_)
        refine lv_istore_n (lv' := [(1, .int x_4), (0, .int p0), (2, .int (nI i4))]) hx hb dX7_size_17 rfl hl (by decide) rfl (fun ls hl => ?_)
        refine lv_iinc (v := (nI (i4 + 1))) (lv' := [(2, .int (nI (i4 + 1))), (1, .int x_4), (0, .int p0)]) hx hb dX7_size_18 hl (k := 2) rfl (nI_add i4 1) (by decide) rfl (fun ls hl => ?_)
        refine lv_goto (tgt := 4) hx hb dX7_size_21 (by decide) ?_
        exact ih4 (i4 + 1) x_4 ls (by omega) (c_X7_size_a1 p0 i4 y1 n4 x_2 x_3 x_4 hi4 hm ex_2 ex_3 ex_4) (lv_sub hl [2, 1, 0] rfl)
  exact lp4 20 0 0 ls (by omega) rfl (lv_sub hl [2, 1, 0] rfl)

theorem c_X7_isPlace_a1 (p0 : Int32) (hr_1 : ¬ cz_in 0 p0 19) : ¬ cz_in 0 p0 19 := by first | (subst_vars; rfl) | assumption | ((try subst_vars) <;> (repeat' split) <;> (first | rfl | contradiction | ((try simp only [cz_in, cz_du, cz_lt, cz_le, cz_eq, cz_l] at *) <;> (first | omega | (simp_all; done))))) | ((try subst_vars); simp only [cz_in, *, and_self, and_true, true_and, if_true, if_false])
theorem c_X7_isPlace_a2 (p0 : Int32) (hr_1 : cz_in 0 p0 19) : cz_in 0 p0 19 := by first | (subst_vars; rfl) | assumption | ((try subst_vars) <;> (repeat' split) <;> (first | rfl | contradiction | ((try simp only [cz_in, cz_du, cz_lt, cz_le, cz_eq, cz_l] at *) <;> (first | omega | (simp_all; done))))) | ((try subst_vars); simp only [cz_in, *, and_self, and_true, true_and, if_true, if_false])
set_option maxHeartbeats 4000000 in
set_option maxRecDepth 100000 in
theorem c_X7_isPlace (l : Launch) (dC : Nat → ClassId) (dI : Nat → Nat → Nat) (cI cB : ClassId) (p0 : Int32) : Met l yX7_isPlace wsX7_isPlace ({ frames := 1, cells := 0, slots := 0, locals := 22 }) (cz_Pp dC dI cI cB [.int p0] []) (vp_Si (fun r : Int32 => (r = 0 ∧ ¬ cz_in 0 p0 19) ∨ (r = 1 ∧ cz_in 0 p0 19))) 0 0 (fun _ => False) := by
  refine cz_of (cc := cX7_isPlace) (maxL := 1) (ret := (some .boolean)) (by decide) rfl ?_
  intro p e s m args below meth c s₁ Q B hml hv hQ
  obtain ⟨rfl, hP, hN⟩ := hv
  have hx := B.exec
  have hb := B.bytes
  have hr := B.returns
  have hts := atoms_spec (ws := wsX7_isPlace) B.pre
  have hown : s.vm.findClass RX7 = some m.cls := findClass_of_methodNamed B.named
  have hlocks := B.notSynchronized
  have hK := hN.1
  have hl := lv_entry ([.int p0]) (n := 1) (Nat.le_of_ble_eq_true rfl)
  rw [lg_entry_eq]
  generalize (lg_sl ([.int p0]) ++ List.replicate (1 - (lg_sl ([.int p0])).length) Slot.unset).toArray = ls at hl ⊢
  have hl : lv_has ls 1 [(0, .int p0)] := hl
  refine lv_iload_n hx hb dX7_isPlace_0 rfl (lv_at hl 0 rfl) ?_
  refine lv_iconst (v := 0) hx hb dX7_isPlace_1 (by decide) ?_
  refine lv_bipush (v := 19) hx hb dX7_isPlace_2 (by decide) ?_
  refine vp_callSi (cz_run (va_runS (As := [.int p0, .int 0, .int 19]) (rest := []) ⟨hx, hb, hml, hown, hts⟩ (c_X7_within l dC dI cI cB p0 0 19 ) (va_cwS 3 hts gX7_isPlace_X7_within rfl rfl rfl (by decide +kernel) ⟨Nat.le_of_ble_eq_true rfl, Nat.le_of_ble_eq_true rfl⟩) (cz_pS hP hN) rfl rfl hl.1 rfl (lv_room (Nat.le_of_ble_eq_true rfl)) dX7_isPlace_4 ⟨Nat.le_of_ble_eq_true rfl, Nat.le_of_ble_eq_true rfl⟩)) (fun r_1 hr_1 => ?_)
  rcases hr_1 with ⟨rfl, hr_1⟩ | ⟨rfl, hr_1⟩
  · rw [hQ]; exact W.zret (v := 0) hx hb hr (by decide) (fun t ht hW => ⟨0, rfl, (Or.inl ⟨rfl, (c_X7_isPlace_a1 p0 hr_1)⟩), ht⟩) (fun _ h => absurd h List.not_mem_nil) dX7_isPlace_7
  · rw [hQ]; exact W.zret (v := 1) hx hb hr (by decide) (fun t ht hW => ⟨1, rfl, (Or.inr (⟨rfl, (c_X7_isPlace_a2 p0 hr_1)⟩)), ht⟩) (fun _ h => absurd h List.not_mem_nil) dX7_isPlace_7

theorem c_X7_sign_a1 (p0 : Int32) (c_1 : p0 ≤ 0) (c_2 : 0 ≤ p0) : (0 : Int32) = cz_sgn p0 := by first | (subst_vars; rfl) | assumption | ((try subst_vars) <;> (try simp only [cz_sgn]) <;> (repeat' split) <;> (first | rfl | contradiction | ((try simp only [cz_in, cz_du, cz_lt, cz_le, cz_eq, cz_l] at *) <;> (first | omega | (simp_all; done))))) | ((try subst_vars); simp only [cz_sgn, cz_in, *, and_self, and_true, true_and, if_true, if_false])
theorem c_X7_sign_a2 (p0 : Int32) (c_1 : p0 ≤ 0) (c_2 : ¬ 0 ≤ p0) : ((-1) : Int32) = cz_sgn p0 := by first | (subst_vars; rfl) | assumption | ((try subst_vars) <;> (try simp only [cz_sgn]) <;> (repeat' split) <;> (first | rfl | contradiction | ((try simp only [cz_in, cz_du, cz_lt, cz_le, cz_eq, cz_l] at *) <;> (first | omega | (simp_all; done))))) | ((try subst_vars); simp only [cz_sgn, cz_in, *, and_self, and_true, true_and, if_true, if_false])
theorem c_X7_sign_a3 (p0 : Int32) (c_1 : ¬ p0 ≤ 0) : (1 : Int32) = cz_sgn p0 := by first | (subst_vars; rfl) | assumption | ((try subst_vars) <;> (try simp only [cz_sgn]) <;> (repeat' split) <;> (first | rfl | contradiction | ((try simp only [cz_in, cz_du, cz_lt, cz_le, cz_eq, cz_l] at *) <;> (first | omega | (simp_all; done))))) | ((try subst_vars); simp only [cz_sgn, cz_in, *, and_self, and_true, true_and, if_true, if_false])
set_option maxHeartbeats 4000000 in
set_option maxRecDepth 100000 in
theorem c_X7_sign (l : Launch) (dC : Nat → ClassId) (dI : Nat → Nat → Nat) (cI cB : ClassId) (p0 : Int32) : Met l yX7_sign wsX7_sign ({ frames := 0, cells := 0, slots := 0, locals := 0 }) (cz_Pp dC dI cI cB [.int p0] []) (vp_Si (fun r : Int32 => r = cz_sgn p0)) 0 0 (fun _ => False) := by
  refine cz_of (cc := cX7_sign) (maxL := 1) (ret := (some .int)) (by decide) rfl ?_
  intro p e s m args below meth c s₁ Q B hml hv hQ
  obtain ⟨rfl, hP, hN⟩ := hv
  have hx := B.exec
  have hb := B.bytes
  have hr := B.returns
  have hts := atoms_spec (ws := wsX7_sign) B.pre
  have hown : s.vm.findClass RX7 = some m.cls := findClass_of_methodNamed B.named
  have hlocks := B.notSynchronized
  have hK := hN.1
  have hl := lv_entry ([.int p0]) (n := 1) (Nat.le_of_ble_eq_true rfl)
  rw [lg_entry_eq]
  generalize (lg_sl ([.int p0]) ++ List.replicate (1 - (lg_sl ([.int p0])).length) Slot.unset).toArray = ls at hl ⊢
  have hl : lv_has ls 1 [(0, .int p0)] := hl
  refine lv_iload_n hx hb dX7_sign_0 rfl (lv_at hl 0 rfl) ?_
  refine lv_if_le (tgt := 8) hx hb dX7_sign_1 (by decide) (fun c_1 => ?_) (fun c_1 => ?_)
  · refine lv_iload_n hx hb dX7_sign_8 rfl (lv_at hl 0 rfl) ?_
    refine lv_if_ge (tgt := 16) hx hb dX7_sign_9 (by decide) (fun c_2 => ?_) (fun c_2 => ?_)
    · refine lv_iconst (v := 0) hx hb dX7_sign_16 (by decide) ?_
      rw [hQ]; exact W.iret (v := 0) hx hb hr (fun t ht hW => ⟨0, rfl, (c_X7_sign_a1 p0 c_1 c_2), ht⟩) (fun _ h => absurd h List.not_mem_nil) dX7_sign_17
    · refine lv_iconst (v := (-1)) hx hb dX7_sign_12 (by decide) ?_
      refine lv_goto (tgt := 17) hx hb dX7_sign_13 (by decide) ?_
      rw [hQ]; exact W.iret (v := (-1)) hx hb hr (fun t ht hW => ⟨(-1), rfl, (c_X7_sign_a2 p0 c_1 c_2), ht⟩) (fun _ h => absurd h List.not_mem_nil) dX7_sign_17
  · refine lv_iconst (v := 1) hx hb dX7_sign_4 (by decide) ?_
    refine lv_goto (tgt := 17) hx hb dX7_sign_5 (by decide) ?_
    rw [hQ]; exact W.iret (v := 1) hx hb hr (fun t ht hW => ⟨1, rfl, (c_X7_sign_a3 p0 c_1), ht⟩) (fun _ h => absurd h List.not_mem_nil) dX7_sign_17

theorem c_X7_sized_a1 (p0 : Int32) (c_1 : 0 ≤ p0) : (p0 : Int32) = cz_abs p0 := by first | (subst_vars; rfl) | assumption | ((try subst_vars) <;> (try simp only [cz_abs]) <;> (repeat' split) <;> (first | rfl | contradiction | ((try simp only [cz_in, cz_du, cz_lt, cz_le, cz_eq, cz_l] at *) <;> (first | omega | (simp_all; done))))) | ((try subst_vars); simp only [cz_abs, cz_in, *, and_self, and_true, true_and, if_true, if_false])
theorem c_X7_sized_a2 (p0 : Int32) (x_2 : Int32) (c_1 : ¬ 0 ≤ p0) (ex_2 : x_2 = -p0) : (x_2 : Int32) = cz_abs p0 := by first | (subst_vars; rfl) | assumption | ((try subst_vars) <;> (try simp only [cz_abs]) <;> (repeat' split) <;> (first | rfl | contradiction | ((try simp only [cz_in, cz_du, cz_lt, cz_le, cz_eq, cz_l] at *) <;> (first | omega | (simp_all; done))))) | ((try subst_vars); simp only [cz_abs, cz_in, *, and_self, and_true, true_and, if_true, if_false])
set_option maxHeartbeats 4000000 in
set_option maxRecDepth 100000 in
theorem c_X7_sized (l : Launch) (dC : Nat → ClassId) (dI : Nat → Nat → Nat) (cI cB : ClassId) (p0 : Int32) : Met l yX7_sized wsX7_sized ({ frames := 0, cells := 0, slots := 0, locals := 0 }) (cz_Pp dC dI cI cB [.int p0] []) (vp_Si (fun r : Int32 => r = cz_abs p0)) 0 0 (fun _ => False) := by
  refine cz_of (cc := cX7_sized) (maxL := 1) (ret := (some .int)) (by decide) rfl ?_
  intro p e s m args below meth c s₁ Q B hml hv hQ
  obtain ⟨rfl, hP, hN⟩ := hv
  have hx := B.exec
  have hb := B.bytes
  have hr := B.returns
  have hts := atoms_spec (ws := wsX7_sized) B.pre
  have hown : s.vm.findClass RX7 = some m.cls := findClass_of_methodNamed B.named
  have hlocks := B.notSynchronized
  have hK := hN.1
  have hl := lv_entry ([.int p0]) (n := 1) (Nat.le_of_ble_eq_true rfl)
  rw [lg_entry_eq]
  generalize (lg_sl ([.int p0]) ++ List.replicate (1 - (lg_sl ([.int p0])).length) Slot.unset).toArray = ls at hl ⊢
  have hl : lv_has ls 1 [(0, .int p0)] := hl
  refine lv_iload_n hx hb dX7_sized_0 rfl (lv_at hl 0 rfl) ?_
  refine lv_if_ge (tgt := 9) hx hb dX7_sized_1 (by decide) (fun c_1 => ?_) (fun c_1 => ?_)
  · refine lv_iload_n hx hb dX7_sized_9 rfl (lv_at hl 0 rfl) ?_
    rw [hQ]; exact W.iret (v := p0) hx hb hr (fun t ht hW => ⟨p0, rfl, (c_X7_sized_a1 p0 c_1), ht⟩) (fun _ h => absurd h List.not_mem_nil) dX7_sized_10
  · refine lv_iload_n hx hb dX7_sized_4 rfl (lv_at hl 0 rfl) ?_
    refine lv_ineg hx hb dX7_sized_5 ?_
    refine lv_topi (fun x_2 ex_2 => ?_)
    refine lv_goto (tgt := 10) hx hb dX7_sized_6 (by decide) ?_
    rw [hQ]; exact W.iret (v := x_2) hx hb hr (fun t ht hW => ⟨x_2, rfl, (c_X7_sized_a2 p0 x_2 c_1 ex_2), ht⟩) (fun _ h => absurd h List.not_mem_nil) dX7_sized_10

theorem c_X7_wayTo_a1 (p0 : Int32) (p1 : Int32) (x_1 : Int32) (x_2 : Int32) (x_3 : Int32) (x_4 : Int32) (x_5 : Int32) (x_6 : Int32) (ex_1 : x_1 = p1 / 5) (ex_2 : x_2 = p0 / 5) (ex_3 : x_3 = x_1 - x_2) (ex_4 : x_4 = p1 - p1 / 5 * 5) (ex_5 : x_5 = p0 - p0 / 5 * 5) (ex_6 : x_6 = x_4 - x_5) : x_3 = cz_dn p0 p1 := by subst_vars; rfl
theorem c_X7_wayTo_a2 (p0 : Int32) (p1 : Int32) (x_1 : Int32) (x_2 : Int32) (x_3 : Int32) (x_4 : Int32) (x_5 : Int32) (x_6 : Int32) (ex_1 : x_1 = p1 / 5) (ex_2 : x_2 = p0 / 5) (ex_3 : x_3 = x_1 - x_2) (ex_4 : x_4 = p1 - p1 / 5 * 5) (ex_5 : x_5 = p0 - p0 / 5 * 5) (ex_6 : x_6 = x_4 - x_5) : x_6 = cz_rg p0 p1 := by subst_vars; rfl
theorem c_X7_wayTo_a3 (x_3 : Int32) (x_6 : Int32) (c_7 : ¬ x_3 = 0) (c_8 : x_6 = 0) : ¬ (x_3 = 0 ∧ x_6 = 0) := by simp_all
theorem c_X7_wayTo_a4 (x_3 : Int32) (x_6 : Int32) (c_7 : ¬ x_3 = 0) (c_8 : x_6 = 0) : x_3 = 0 ∨ x_6 = 0 ∨ cz_abs x_3 = cz_abs x_6 := by simp_all
theorem c_X7_wayTo_a5 (x_3 : Int32) (x_6 : Int32) (r_9 : Int32) (x_10 : Int32) (r_11 : Int32) (x_12 : Int32) (hr_9 : r_9 = cz_sgn x_3) (ex_10 : x_10 = 3 * r_9) (hr_11 : r_11 = cz_sgn x_6) (ex_12 : x_12 = x_10 + r_11) : x_12 = 3 * cz_sgn x_3 + cz_sgn x_6 := by subst_vars; rfl
theorem c_X7_wayTo_a6 (p0 : Int32) (p1 : Int32) (x_1 : Int32) (x_2 : Int32) (x_3 : Int32) (x_4 : Int32) (x_5 : Int32) (x_6 : Int32) (ex_1 : x_1 = p1 / 5) (ex_2 : x_2 = p0 / 5) (ex_3 : x_3 = x_1 - x_2) (ex_4 : x_4 = p1 - p1 / 5 * 5) (ex_5 : x_5 = p0 - p0 / 5 * 5) (ex_6 : x_6 = x_4 - x_5) : x_3 = cz_dn p0 p1 := by subst_vars; rfl
theorem c_X7_wayTo_a7 (p0 : Int32) (p1 : Int32) (x_1 : Int32) (x_2 : Int32) (x_3 : Int32) (x_4 : Int32) (x_5 : Int32) (x_6 : Int32) (ex_1 : x_1 = p1 / 5) (ex_2 : x_2 = p0 / 5) (ex_3 : x_3 = x_1 - x_2) (ex_4 : x_4 = p1 - p1 / 5 * 5) (ex_5 : x_5 = p0 - p0 / 5 * 5) (ex_6 : x_6 = x_4 - x_5) : x_6 = cz_rg p0 p1 := by subst_vars; rfl
theorem c_X7_wayTo_a8 (x_3 : Int32) (x_6 : Int32) (c_7 : ¬ x_3 = 0) (c_8 : x_6 = 0) : ¬ (x_3 = 0 ∧ x_6 = 0) := by simp_all
theorem c_X7_wayTo_a9 (x_3 : Int32) (x_6 : Int32) (c_7 : ¬ x_3 = 0) (c_8 : x_6 = 0) : x_3 = 0 ∨ x_6 = 0 ∨ cz_abs x_3 = cz_abs x_6 := by simp_all
theorem c_X7_wayTo_a10 (x_3 : Int32) (x_6 : Int32) (r_9 : Int32) (x_10 : Int32) (r_11 : Int32) (x_12 : Int32) (hr_9 : r_9 = cz_sgn x_3) (ex_10 : x_10 = 3 * r_9) (hr_11 : r_11 = cz_sgn x_6) (ex_12 : x_12 = x_10 + r_11) : x_12 = 3 * cz_sgn x_3 + cz_sgn x_6 := by subst_vars; rfl
theorem c_X7_wayTo_a11 (p0 : Int32) (p1 : Int32) (x_1 : Int32) (x_2 : Int32) (x_3 : Int32) (x_4 : Int32) (x_5 : Int32) (x_6 : Int32) (ex_1 : x_1 = p1 / 5) (ex_2 : x_2 = p0 / 5) (ex_3 : x_3 = x_1 - x_2) (ex_4 : x_4 = p1 - p1 / 5 * 5) (ex_5 : x_5 = p0 - p0 / 5 * 5) (ex_6 : x_6 = x_4 - x_5) : x_3 = cz_dn p0 p1 := by subst_vars; rfl
theorem c_X7_wayTo_a12 (p0 : Int32) (p1 : Int32) (x_1 : Int32) (x_2 : Int32) (x_3 : Int32) (x_4 : Int32) (x_5 : Int32) (x_6 : Int32) (ex_1 : x_1 = p1 / 5) (ex_2 : x_2 = p0 / 5) (ex_3 : x_3 = x_1 - x_2) (ex_4 : x_4 = p1 - p1 / 5 * 5) (ex_5 : x_5 = p0 - p0 / 5 * 5) (ex_6 : x_6 = x_4 - x_5) : x_6 = cz_rg p0 p1 := by subst_vars; rfl
theorem c_X7_wayTo_a13 (x_3 : Int32) (x_6 : Int32) (c_7 : ¬ x_3 = 0) (c_8 : x_6 = 0) : ¬ (x_3 = 0 ∧ x_6 = 0) := by simp_all
theorem c_X7_wayTo_a14 (x_3 : Int32) (x_6 : Int32) (c_7 : ¬ x_3 = 0) (c_8 : x_6 = 0) : x_3 = 0 ∨ x_6 = 0 ∨ cz_abs x_3 = cz_abs x_6 := by simp_all
theorem c_X7_wayTo_a15 (x_3 : Int32) (x_6 : Int32) (r_9 : Int32) (x_10 : Int32) (r_11 : Int32) (x_12 : Int32) (hr_9 : r_9 = cz_sgn x_3) (ex_10 : x_10 = 3 * r_9) (hr_11 : r_11 = cz_sgn x_6) (ex_12 : x_12 = x_10 + r_11) : x_12 = 3 * cz_sgn x_3 + cz_sgn x_6 := by subst_vars; rfl
theorem c_X7_wayTo_a16 (p0 : Int32) (p1 : Int32) (x_1 : Int32) (x_2 : Int32) (x_3 : Int32) (x_4 : Int32) (x_5 : Int32) (x_6 : Int32) (ex_1 : x_1 = p1 / 5) (ex_2 : x_2 = p0 / 5) (ex_3 : x_3 = x_1 - x_2) (ex_4 : x_4 = p1 - p1 / 5 * 5) (ex_5 : x_5 = p0 - p0 / 5 * 5) (ex_6 : x_6 = x_4 - x_5) : x_3 = cz_dn p0 p1 := by subst_vars; rfl
theorem c_X7_wayTo_a17 (p0 : Int32) (p1 : Int32) (x_1 : Int32) (x_2 : Int32) (x_3 : Int32) (x_4 : Int32) (x_5 : Int32) (x_6 : Int32) (ex_1 : x_1 = p1 / 5) (ex_2 : x_2 = p0 / 5) (ex_3 : x_3 = x_1 - x_2) (ex_4 : x_4 = p1 - p1 / 5 * 5) (ex_5 : x_5 = p0 - p0 / 5 * 5) (ex_6 : x_6 = x_4 - x_5) : x_6 = cz_rg p0 p1 := by subst_vars; rfl
theorem c_X7_wayTo_a18 (x_3 : Int32) (x_6 : Int32) (c_7 : ¬ x_3 = 0) (c_8 : x_6 = 0) : ¬ (x_3 = 0 ∧ x_6 = 0) := by simp_all
theorem c_X7_wayTo_a19 (x_3 : Int32) (x_6 : Int32) (c_7 : ¬ x_3 = 0) (c_8 : x_6 = 0) : x_3 = 0 ∨ x_6 = 0 ∨ cz_abs x_3 = cz_abs x_6 := by simp_all
theorem c_X7_wayTo_a20 (x_3 : Int32) (x_6 : Int32) (r_9 : Int32) (x_10 : Int32) (r_11 : Int32) (x_12 : Int32) (hr_9 : r_9 = cz_sgn x_3) (ex_10 : x_10 = 3 * r_9) (hr_11 : r_11 = cz_sgn x_6) (ex_12 : x_12 = x_10 + r_11) : x_12 = 3 * cz_sgn x_3 + cz_sgn x_6 := by subst_vars; rfl
theorem c_X7_wayTo_a21 (p0 : Int32) (p1 : Int32) (x_1 : Int32) (x_2 : Int32) (x_3 : Int32) (x_4 : Int32) (x_5 : Int32) (x_6 : Int32) (ex_1 : x_1 = p1 / 5) (ex_2 : x_2 = p0 / 5) (ex_3 : x_3 = x_1 - x_2) (ex_4 : x_4 = p1 - p1 / 5 * 5) (ex_5 : x_5 = p0 - p0 / 5 * 5) (ex_6 : x_6 = x_4 - x_5) : x_3 = cz_dn p0 p1 := by subst_vars; rfl
theorem c_X7_wayTo_a22 (p0 : Int32) (p1 : Int32) (x_1 : Int32) (x_2 : Int32) (x_3 : Int32) (x_4 : Int32) (x_5 : Int32) (x_6 : Int32) (ex_1 : x_1 = p1 / 5) (ex_2 : x_2 = p0 / 5) (ex_3 : x_3 = x_1 - x_2) (ex_4 : x_4 = p1 - p1 / 5 * 5) (ex_5 : x_5 = p0 - p0 / 5 * 5) (ex_6 : x_6 = x_4 - x_5) : x_6 = cz_rg p0 p1 := by subst_vars; rfl
theorem c_X7_wayTo_a23 (x_3 : Int32) (x_6 : Int32) (c_7 : ¬ x_3 = 0) (c_8 : x_6 = 0) : ¬ (x_3 = 0 ∧ x_6 = 0) := by simp_all
theorem c_X7_wayTo_a24 (x_3 : Int32) (x_6 : Int32) (c_7 : ¬ x_3 = 0) (c_8 : x_6 = 0) : x_3 = 0 ∨ x_6 = 0 ∨ cz_abs x_3 = cz_abs x_6 := by simp_all
theorem c_X7_wayTo_a25 (x_3 : Int32) (x_6 : Int32) (r_9 : Int32) (x_10 : Int32) (r_11 : Int32) (x_12 : Int32) (hr_9 : r_9 = cz_sgn x_3) (ex_10 : x_10 = 3 * r_9) (hr_11 : r_11 = cz_sgn x_6) (ex_12 : x_12 = x_10 + r_11) : x_12 = 3 * cz_sgn x_3 + cz_sgn x_6 := by subst_vars; rfl
theorem c_X7_wayTo_a26 (p0 : Int32) (p1 : Int32) (x_1 : Int32) (x_2 : Int32) (x_3 : Int32) (x_4 : Int32) (x_5 : Int32) (x_6 : Int32) (ex_1 : x_1 = p1 / 5) (ex_2 : x_2 = p0 / 5) (ex_3 : x_3 = x_1 - x_2) (ex_4 : x_4 = p1 - p1 / 5 * 5) (ex_5 : x_5 = p0 - p0 / 5 * 5) (ex_6 : x_6 = x_4 - x_5) : x_3 = cz_dn p0 p1 := by subst_vars; rfl
theorem c_X7_wayTo_a27 (p0 : Int32) (p1 : Int32) (x_1 : Int32) (x_2 : Int32) (x_3 : Int32) (x_4 : Int32) (x_5 : Int32) (x_6 : Int32) (ex_1 : x_1 = p1 / 5) (ex_2 : x_2 = p0 / 5) (ex_3 : x_3 = x_1 - x_2) (ex_4 : x_4 = p1 - p1 / 5 * 5) (ex_5 : x_5 = p0 - p0 / 5 * 5) (ex_6 : x_6 = x_4 - x_5) : x_6 = cz_rg p0 p1 := by subst_vars; rfl
theorem c_X7_wayTo_a28 (x_3 : Int32) (x_6 : Int32) (c_7 : ¬ x_3 = 0) (c_8 : x_6 = 0) : ¬ (x_3 = 0 ∧ x_6 = 0) := by simp_all
theorem c_X7_wayTo_a29 (x_3 : Int32) (x_6 : Int32) (c_7 : ¬ x_3 = 0) (c_8 : x_6 = 0) : x_3 = 0 ∨ x_6 = 0 ∨ cz_abs x_3 = cz_abs x_6 := by simp_all
theorem c_X7_wayTo_a30 (x_3 : Int32) (x_6 : Int32) (r_9 : Int32) (x_10 : Int32) (r_11 : Int32) (x_12 : Int32) (hr_9 : r_9 = cz_sgn x_3) (ex_10 : x_10 = 3 * r_9) (hr_11 : r_11 = cz_sgn x_6) (ex_12 : x_12 = x_10 + r_11) : x_12 = 3 * cz_sgn x_3 + cz_sgn x_6 := by subst_vars; rfl
theorem c_X7_wayTo_a31 (p0 : Int32) (p1 : Int32) (x_1 : Int32) (x_2 : Int32) (x_3 : Int32) (x_4 : Int32) (x_5 : Int32) (x_6 : Int32) (ex_1 : x_1 = p1 / 5) (ex_2 : x_2 = p0 / 5) (ex_3 : x_3 = x_1 - x_2) (ex_4 : x_4 = p1 - p1 / 5 * 5) (ex_5 : x_5 = p0 - p0 / 5 * 5) (ex_6 : x_6 = x_4 - x_5) : x_3 = cz_dn p0 p1 := by subst_vars; rfl
theorem c_X7_wayTo_a32 (p0 : Int32) (p1 : Int32) (x_1 : Int32) (x_2 : Int32) (x_3 : Int32) (x_4 : Int32) (x_5 : Int32) (x_6 : Int32) (ex_1 : x_1 = p1 / 5) (ex_2 : x_2 = p0 / 5) (ex_3 : x_3 = x_1 - x_2) (ex_4 : x_4 = p1 - p1 / 5 * 5) (ex_5 : x_5 = p0 - p0 / 5 * 5) (ex_6 : x_6 = x_4 - x_5) : x_6 = cz_rg p0 p1 := by subst_vars; rfl
theorem c_X7_wayTo_a33 (x_3 : Int32) (x_6 : Int32) (c_7 : ¬ x_3 = 0) (c_8 : x_6 = 0) : ¬ (x_3 = 0 ∧ x_6 = 0) := by simp_all
theorem c_X7_wayTo_a34 (x_3 : Int32) (x_6 : Int32) (c_7 : ¬ x_3 = 0) (c_8 : x_6 = 0) : x_3 = 0 ∨ x_6 = 0 ∨ cz_abs x_3 = cz_abs x_6 := by simp_all
theorem c_X7_wayTo_a35 (x_3 : Int32) (x_6 : Int32) (r_9 : Int32) (x_10 : Int32) (r_11 : Int32) (x_12 : Int32) (hr_9 : r_9 = cz_sgn x_3) (ex_10 : x_10 = 3 * r_9) (hr_11 : r_11 = cz_sgn x_6) (ex_12 : x_12 = x_10 + r_11) : x_12 = 3 * cz_sgn x_3 + cz_sgn x_6 := by subst_vars; rfl
theorem c_X7_wayTo_a36 (p0 : Int32) (p1 : Int32) (x_1 : Int32) (x_2 : Int32) (x_3 : Int32) (x_4 : Int32) (x_5 : Int32) (x_6 : Int32) (ex_1 : x_1 = p1 / 5) (ex_2 : x_2 = p0 / 5) (ex_3 : x_3 = x_1 - x_2) (ex_4 : x_4 = p1 - p1 / 5 * 5) (ex_5 : x_5 = p0 - p0 / 5 * 5) (ex_6 : x_6 = x_4 - x_5) : x_3 = cz_dn p0 p1 := by subst_vars; rfl
theorem c_X7_wayTo_a37 (p0 : Int32) (p1 : Int32) (x_1 : Int32) (x_2 : Int32) (x_3 : Int32) (x_4 : Int32) (x_5 : Int32) (x_6 : Int32) (ex_1 : x_1 = p1 / 5) (ex_2 : x_2 = p0 / 5) (ex_3 : x_3 = x_1 - x_2) (ex_4 : x_4 = p1 - p1 / 5 * 5) (ex_5 : x_5 = p0 - p0 / 5 * 5) (ex_6 : x_6 = x_4 - x_5) : x_6 = cz_rg p0 p1 := by subst_vars; rfl
theorem c_X7_wayTo_a38 (x_3 : Int32) (x_6 : Int32) (c_7 : ¬ x_3 = 0) (c_8 : x_6 = 0) : ¬ (x_3 = 0 ∧ x_6 = 0) := by simp_all
theorem c_X7_wayTo_a39 (x_3 : Int32) (x_6 : Int32) (c_7 : ¬ x_3 = 0) (c_8 : x_6 = 0) : x_3 = 0 ∨ x_6 = 0 ∨ cz_abs x_3 = cz_abs x_6 := by simp_all
theorem c_X7_wayTo_a40 (x_3 : Int32) (x_6 : Int32) (r_9 : Int32) (x_10 : Int32) (r_11 : Int32) (x_12 : Int32) (hr_9 : r_9 = cz_sgn x_3) (ex_10 : x_10 = 3 * r_9) (hr_11 : r_11 = cz_sgn x_6) (ex_12 : x_12 = x_10 + r_11) : x_12 = 3 * cz_sgn x_3 + cz_sgn x_6 := by subst_vars; rfl
theorem c_X7_wayTo_a41 (p0 : Int32) (p1 : Int32) (x_1 : Int32) (x_2 : Int32) (x_3 : Int32) (x_4 : Int32) (x_5 : Int32) (x_6 : Int32) (ex_1 : x_1 = p1 / 5) (ex_2 : x_2 = p0 / 5) (ex_3 : x_3 = x_1 - x_2) (ex_4 : x_4 = p1 - p1 / 5 * 5) (ex_5 : x_5 = p0 - p0 / 5 * 5) (ex_6 : x_6 = x_4 - x_5) : x_3 = cz_dn p0 p1 := by subst_vars; rfl
theorem c_X7_wayTo_a42 (p0 : Int32) (p1 : Int32) (x_1 : Int32) (x_2 : Int32) (x_3 : Int32) (x_4 : Int32) (x_5 : Int32) (x_6 : Int32) (ex_1 : x_1 = p1 / 5) (ex_2 : x_2 = p0 / 5) (ex_3 : x_3 = x_1 - x_2) (ex_4 : x_4 = p1 - p1 / 5 * 5) (ex_5 : x_5 = p0 - p0 / 5 * 5) (ex_6 : x_6 = x_4 - x_5) : x_6 = cz_rg p0 p1 := by subst_vars; rfl
theorem c_X7_wayTo_a43 (x_3 : Int32) (x_6 : Int32) (c_7 : ¬ x_3 = 0) (c_8 : x_6 = 0) : ¬ (x_3 = 0 ∧ x_6 = 0) := by simp_all
theorem c_X7_wayTo_a44 (x_3 : Int32) (x_6 : Int32) (c_7 : ¬ x_3 = 0) (c_8 : x_6 = 0) : x_3 = 0 ∨ x_6 = 0 ∨ cz_abs x_3 = cz_abs x_6 := by simp_all
theorem c_X7_wayTo_a45 (x_3 : Int32) (x_6 : Int32) (r_9 : Int32) (x_10 : Int32) (r_11 : Int32) (x_12 : Int32) (hr_9 : r_9 = cz_sgn x_3) (ex_10 : x_10 = 3 * r_9) (hr_11 : r_11 = cz_sgn x_6) (ex_12 : x_12 = x_10 + r_11) : x_12 = 3 * cz_sgn x_3 + cz_sgn x_6 := by subst_vars; rfl
theorem c_X7_wayTo_a46 (p0 : Int32) (p1 : Int32) (x_1 : Int32) (x_2 : Int32) (x_3 : Int32) (x_4 : Int32) (x_5 : Int32) (x_6 : Int32) (ex_1 : x_1 = p1 / 5) (ex_2 : x_2 = p0 / 5) (ex_3 : x_3 = x_1 - x_2) (ex_4 : x_4 = p1 - p1 / 5 * 5) (ex_5 : x_5 = p0 - p0 / 5 * 5) (ex_6 : x_6 = x_4 - x_5) : x_3 = cz_dn p0 p1 := by subst_vars; rfl
theorem c_X7_wayTo_a47 (p0 : Int32) (p1 : Int32) (x_1 : Int32) (x_2 : Int32) (x_3 : Int32) (x_4 : Int32) (x_5 : Int32) (x_6 : Int32) (ex_1 : x_1 = p1 / 5) (ex_2 : x_2 = p0 / 5) (ex_3 : x_3 = x_1 - x_2) (ex_4 : x_4 = p1 - p1 / 5 * 5) (ex_5 : x_5 = p0 - p0 / 5 * 5) (ex_6 : x_6 = x_4 - x_5) : x_6 = cz_rg p0 p1 := by subst_vars; rfl
theorem c_X7_wayTo_a48 (x_3 : Int32) (x_6 : Int32) (r_14 : Int32) (r_15 : Int32) (c_7 : ¬ x_3 = 0) (c_8 : ¬ x_6 = 0) (hr_14 : r_14 = cz_abs x_3) (hr_15 : r_15 = cz_abs x_6) (c_16 : r_14 = r_15) : ¬ (x_3 = 0 ∧ x_6 = 0) := by simp_all
theorem c_X7_wayTo_a49 (x_3 : Int32) (x_6 : Int32) (r_14 : Int32) (r_15 : Int32) (c_7 : ¬ x_3 = 0) (c_8 : ¬ x_6 = 0) (hr_14 : r_14 = cz_abs x_3) (hr_15 : r_15 = cz_abs x_6) (c_16 : r_14 = r_15) : x_3 = 0 ∨ x_6 = 0 ∨ cz_abs x_3 = cz_abs x_6 := by simp_all
theorem c_X7_wayTo_a50 (x_3 : Int32) (x_6 : Int32) (r_14 : Int32) (r_15 : Int32) (r_17 : Int32) (x_18 : Int32) (r_19 : Int32) (x_20 : Int32) (hr_14 : r_14 = cz_abs x_3) (hr_15 : r_15 = cz_abs x_6) (hr_17 : r_17 = cz_sgn x_3) (ex_18 : x_18 = 3 * r_17) (hr_19 : r_19 = cz_sgn x_6) (ex_20 : x_20 = x_18 + r_19) : x_20 = 3 * cz_sgn x_3 + cz_sgn x_6 := by subst_vars; rfl
theorem c_X7_wayTo_a51 (p0 : Int32) (p1 : Int32) (x_1 : Int32) (x_2 : Int32) (x_3 : Int32) (x_4 : Int32) (x_5 : Int32) (x_6 : Int32) (ex_1 : x_1 = p1 / 5) (ex_2 : x_2 = p0 / 5) (ex_3 : x_3 = x_1 - x_2) (ex_4 : x_4 = p1 - p1 / 5 * 5) (ex_5 : x_5 = p0 - p0 / 5 * 5) (ex_6 : x_6 = x_4 - x_5) : x_3 = cz_dn p0 p1 := by subst_vars; rfl
theorem c_X7_wayTo_a52 (p0 : Int32) (p1 : Int32) (x_1 : Int32) (x_2 : Int32) (x_3 : Int32) (x_4 : Int32) (x_5 : Int32) (x_6 : Int32) (ex_1 : x_1 = p1 / 5) (ex_2 : x_2 = p0 / 5) (ex_3 : x_3 = x_1 - x_2) (ex_4 : x_4 = p1 - p1 / 5 * 5) (ex_5 : x_5 = p0 - p0 / 5 * 5) (ex_6 : x_6 = x_4 - x_5) : x_6 = cz_rg p0 p1 := by subst_vars; rfl
theorem c_X7_wayTo_a53 (x_3 : Int32) (x_6 : Int32) (r_14 : Int32) (r_15 : Int32) (c_7 : ¬ x_3 = 0) (c_8 : ¬ x_6 = 0) (hr_14 : r_14 = cz_abs x_3) (hr_15 : r_15 = cz_abs x_6) (c_16 : r_14 = r_15) : ¬ (x_3 = 0 ∧ x_6 = 0) := by simp_all
theorem c_X7_wayTo_a54 (x_3 : Int32) (x_6 : Int32) (r_14 : Int32) (r_15 : Int32) (c_7 : ¬ x_3 = 0) (c_8 : ¬ x_6 = 0) (hr_14 : r_14 = cz_abs x_3) (hr_15 : r_15 = cz_abs x_6) (c_16 : r_14 = r_15) : x_3 = 0 ∨ x_6 = 0 ∨ cz_abs x_3 = cz_abs x_6 := by simp_all
theorem c_X7_wayTo_a55 (x_3 : Int32) (x_6 : Int32) (r_14 : Int32) (r_15 : Int32) (r_17 : Int32) (x_18 : Int32) (r_19 : Int32) (x_20 : Int32) (hr_14 : r_14 = cz_abs x_3) (hr_15 : r_15 = cz_abs x_6) (hr_17 : r_17 = cz_sgn x_3) (ex_18 : x_18 = 3 * r_17) (hr_19 : r_19 = cz_sgn x_6) (ex_20 : x_20 = x_18 + r_19) : x_20 = 3 * cz_sgn x_3 + cz_sgn x_6 := by subst_vars; rfl
theorem c_X7_wayTo_a56 (p0 : Int32) (p1 : Int32) (x_1 : Int32) (x_2 : Int32) (x_3 : Int32) (x_4 : Int32) (x_5 : Int32) (x_6 : Int32) (ex_1 : x_1 = p1 / 5) (ex_2 : x_2 = p0 / 5) (ex_3 : x_3 = x_1 - x_2) (ex_4 : x_4 = p1 - p1 / 5 * 5) (ex_5 : x_5 = p0 - p0 / 5 * 5) (ex_6 : x_6 = x_4 - x_5) : x_3 = cz_dn p0 p1 := by subst_vars; rfl
theorem c_X7_wayTo_a57 (p0 : Int32) (p1 : Int32) (x_1 : Int32) (x_2 : Int32) (x_3 : Int32) (x_4 : Int32) (x_5 : Int32) (x_6 : Int32) (ex_1 : x_1 = p1 / 5) (ex_2 : x_2 = p0 / 5) (ex_3 : x_3 = x_1 - x_2) (ex_4 : x_4 = p1 - p1 / 5 * 5) (ex_5 : x_5 = p0 - p0 / 5 * 5) (ex_6 : x_6 = x_4 - x_5) : x_6 = cz_rg p0 p1 := by subst_vars; rfl
theorem c_X7_wayTo_a58 (x_3 : Int32) (x_6 : Int32) (r_14 : Int32) (r_15 : Int32) (c_7 : ¬ x_3 = 0) (c_8 : ¬ x_6 = 0) (hr_14 : r_14 = cz_abs x_3) (hr_15 : r_15 = cz_abs x_6) (c_16 : r_14 = r_15) : ¬ (x_3 = 0 ∧ x_6 = 0) := by simp_all
theorem c_X7_wayTo_a59 (x_3 : Int32) (x_6 : Int32) (r_14 : Int32) (r_15 : Int32) (c_7 : ¬ x_3 = 0) (c_8 : ¬ x_6 = 0) (hr_14 : r_14 = cz_abs x_3) (hr_15 : r_15 = cz_abs x_6) (c_16 : r_14 = r_15) : x_3 = 0 ∨ x_6 = 0 ∨ cz_abs x_3 = cz_abs x_6 := by simp_all
theorem c_X7_wayTo_a60 (x_3 : Int32) (x_6 : Int32) (r_14 : Int32) (r_15 : Int32) (r_17 : Int32) (x_18 : Int32) (r_19 : Int32) (x_20 : Int32) (hr_14 : r_14 = cz_abs x_3) (hr_15 : r_15 = cz_abs x_6) (hr_17 : r_17 = cz_sgn x_3) (ex_18 : x_18 = 3 * r_17) (hr_19 : r_19 = cz_sgn x_6) (ex_20 : x_20 = x_18 + r_19) : x_20 = 3 * cz_sgn x_3 + cz_sgn x_6 := by subst_vars; rfl
theorem c_X7_wayTo_a61 (p0 : Int32) (p1 : Int32) (x_1 : Int32) (x_2 : Int32) (x_3 : Int32) (x_4 : Int32) (x_5 : Int32) (x_6 : Int32) (ex_1 : x_1 = p1 / 5) (ex_2 : x_2 = p0 / 5) (ex_3 : x_3 = x_1 - x_2) (ex_4 : x_4 = p1 - p1 / 5 * 5) (ex_5 : x_5 = p0 - p0 / 5 * 5) (ex_6 : x_6 = x_4 - x_5) : x_3 = cz_dn p0 p1 := by subst_vars; rfl
theorem c_X7_wayTo_a62 (p0 : Int32) (p1 : Int32) (x_1 : Int32) (x_2 : Int32) (x_3 : Int32) (x_4 : Int32) (x_5 : Int32) (x_6 : Int32) (ex_1 : x_1 = p1 / 5) (ex_2 : x_2 = p0 / 5) (ex_3 : x_3 = x_1 - x_2) (ex_4 : x_4 = p1 - p1 / 5 * 5) (ex_5 : x_5 = p0 - p0 / 5 * 5) (ex_6 : x_6 = x_4 - x_5) : x_6 = cz_rg p0 p1 := by subst_vars; rfl
theorem c_X7_wayTo_a63 (x_3 : Int32) (x_6 : Int32) (r_14 : Int32) (r_15 : Int32) (c_7 : ¬ x_3 = 0) (c_8 : ¬ x_6 = 0) (hr_14 : r_14 = cz_abs x_3) (hr_15 : r_15 = cz_abs x_6) (c_16 : r_14 = r_15) : ¬ (x_3 = 0 ∧ x_6 = 0) := by simp_all
theorem c_X7_wayTo_a64 (x_3 : Int32) (x_6 : Int32) (r_14 : Int32) (r_15 : Int32) (c_7 : ¬ x_3 = 0) (c_8 : ¬ x_6 = 0) (hr_14 : r_14 = cz_abs x_3) (hr_15 : r_15 = cz_abs x_6) (c_16 : r_14 = r_15) : x_3 = 0 ∨ x_6 = 0 ∨ cz_abs x_3 = cz_abs x_6 := by simp_all
theorem c_X7_wayTo_a65 (x_3 : Int32) (x_6 : Int32) (r_14 : Int32) (r_15 : Int32) (r_17 : Int32) (x_18 : Int32) (r_19 : Int32) (x_20 : Int32) (hr_14 : r_14 = cz_abs x_3) (hr_15 : r_15 = cz_abs x_6) (hr_17 : r_17 = cz_sgn x_3) (ex_18 : x_18 = 3 * r_17) (hr_19 : r_19 = cz_sgn x_6) (ex_20 : x_20 = x_18 + r_19) : x_20 = 3 * cz_sgn x_3 + cz_sgn x_6 := by subst_vars; rfl
theorem c_X7_wayTo_a66 (p0 : Int32) (p1 : Int32) (x_1 : Int32) (x_2 : Int32) (x_3 : Int32) (x_4 : Int32) (x_5 : Int32) (x_6 : Int32) (ex_1 : x_1 = p1 / 5) (ex_2 : x_2 = p0 / 5) (ex_3 : x_3 = x_1 - x_2) (ex_4 : x_4 = p1 - p1 / 5 * 5) (ex_5 : x_5 = p0 - p0 / 5 * 5) (ex_6 : x_6 = x_4 - x_5) : x_3 = cz_dn p0 p1 := by subst_vars; rfl
theorem c_X7_wayTo_a67 (p0 : Int32) (p1 : Int32) (x_1 : Int32) (x_2 : Int32) (x_3 : Int32) (x_4 : Int32) (x_5 : Int32) (x_6 : Int32) (ex_1 : x_1 = p1 / 5) (ex_2 : x_2 = p0 / 5) (ex_3 : x_3 = x_1 - x_2) (ex_4 : x_4 = p1 - p1 / 5 * 5) (ex_5 : x_5 = p0 - p0 / 5 * 5) (ex_6 : x_6 = x_4 - x_5) : x_6 = cz_rg p0 p1 := by subst_vars; rfl
theorem c_X7_wayTo_a68 (x_3 : Int32) (x_6 : Int32) (r_14 : Int32) (r_15 : Int32) (c_7 : ¬ x_3 = 0) (c_8 : ¬ x_6 = 0) (hr_14 : r_14 = cz_abs x_3) (hr_15 : r_15 = cz_abs x_6) (c_16 : r_14 = r_15) : ¬ (x_3 = 0 ∧ x_6 = 0) := by simp_all
theorem c_X7_wayTo_a69 (x_3 : Int32) (x_6 : Int32) (r_14 : Int32) (r_15 : Int32) (c_7 : ¬ x_3 = 0) (c_8 : ¬ x_6 = 0) (hr_14 : r_14 = cz_abs x_3) (hr_15 : r_15 = cz_abs x_6) (c_16 : r_14 = r_15) : x_3 = 0 ∨ x_6 = 0 ∨ cz_abs x_3 = cz_abs x_6 := by simp_all
theorem c_X7_wayTo_a70 (x_3 : Int32) (x_6 : Int32) (r_14 : Int32) (r_15 : Int32) (r_17 : Int32) (x_18 : Int32) (r_19 : Int32) (x_20 : Int32) (hr_14 : r_14 = cz_abs x_3) (hr_15 : r_15 = cz_abs x_6) (hr_17 : r_17 = cz_sgn x_3) (ex_18 : x_18 = 3 * r_17) (hr_19 : r_19 = cz_sgn x_6) (ex_20 : x_20 = x_18 + r_19) : x_20 = 3 * cz_sgn x_3 + cz_sgn x_6 := by subst_vars; rfl
theorem c_X7_wayTo_a71 (p0 : Int32) (p1 : Int32) (x_1 : Int32) (x_2 : Int32) (x_3 : Int32) (x_4 : Int32) (x_5 : Int32) (x_6 : Int32) (ex_1 : x_1 = p1 / 5) (ex_2 : x_2 = p0 / 5) (ex_3 : x_3 = x_1 - x_2) (ex_4 : x_4 = p1 - p1 / 5 * 5) (ex_5 : x_5 = p0 - p0 / 5 * 5) (ex_6 : x_6 = x_4 - x_5) : x_3 = cz_dn p0 p1 := by subst_vars; rfl
theorem c_X7_wayTo_a72 (p0 : Int32) (p1 : Int32) (x_1 : Int32) (x_2 : Int32) (x_3 : Int32) (x_4 : Int32) (x_5 : Int32) (x_6 : Int32) (ex_1 : x_1 = p1 / 5) (ex_2 : x_2 = p0 / 5) (ex_3 : x_3 = x_1 - x_2) (ex_4 : x_4 = p1 - p1 / 5 * 5) (ex_5 : x_5 = p0 - p0 / 5 * 5) (ex_6 : x_6 = x_4 - x_5) : x_6 = cz_rg p0 p1 := by subst_vars; rfl
theorem c_X7_wayTo_a73 (x_3 : Int32) (x_6 : Int32) (r_14 : Int32) (r_15 : Int32) (c_7 : ¬ x_3 = 0) (c_8 : ¬ x_6 = 0) (hr_14 : r_14 = cz_abs x_3) (hr_15 : r_15 = cz_abs x_6) (c_16 : r_14 = r_15) : ¬ (x_3 = 0 ∧ x_6 = 0) := by simp_all
theorem c_X7_wayTo_a74 (x_3 : Int32) (x_6 : Int32) (r_14 : Int32) (r_15 : Int32) (c_7 : ¬ x_3 = 0) (c_8 : ¬ x_6 = 0) (hr_14 : r_14 = cz_abs x_3) (hr_15 : r_15 = cz_abs x_6) (c_16 : r_14 = r_15) : x_3 = 0 ∨ x_6 = 0 ∨ cz_abs x_3 = cz_abs x_6 := by simp_all
theorem c_X7_wayTo_a75 (x_3 : Int32) (x_6 : Int32) (r_14 : Int32) (r_15 : Int32) (r_17 : Int32) (x_18 : Int32) (r_19 : Int32) (x_20 : Int32) (hr_14 : r_14 = cz_abs x_3) (hr_15 : r_15 = cz_abs x_6) (hr_17 : r_17 = cz_sgn x_3) (ex_18 : x_18 = 3 * r_17) (hr_19 : r_19 = cz_sgn x_6) (ex_20 : x_20 = x_18 + r_19) : x_20 = 3 * cz_sgn x_3 + cz_sgn x_6 := by subst_vars; rfl
theorem c_X7_wayTo_a76 (p0 : Int32) (p1 : Int32) (x_1 : Int32) (x_2 : Int32) (x_3 : Int32) (x_4 : Int32) (x_5 : Int32) (x_6 : Int32) (ex_1 : x_1 = p1 / 5) (ex_2 : x_2 = p0 / 5) (ex_3 : x_3 = x_1 - x_2) (ex_4 : x_4 = p1 - p1 / 5 * 5) (ex_5 : x_5 = p0 - p0 / 5 * 5) (ex_6 : x_6 = x_4 - x_5) : x_3 = cz_dn p0 p1 := by subst_vars; rfl
theorem c_X7_wayTo_a77 (p0 : Int32) (p1 : Int32) (x_1 : Int32) (x_2 : Int32) (x_3 : Int32) (x_4 : Int32) (x_5 : Int32) (x_6 : Int32) (ex_1 : x_1 = p1 / 5) (ex_2 : x_2 = p0 / 5) (ex_3 : x_3 = x_1 - x_2) (ex_4 : x_4 = p1 - p1 / 5 * 5) (ex_5 : x_5 = p0 - p0 / 5 * 5) (ex_6 : x_6 = x_4 - x_5) : x_6 = cz_rg p0 p1 := by subst_vars; rfl
theorem c_X7_wayTo_a78 (x_3 : Int32) (x_6 : Int32) (r_14 : Int32) (r_15 : Int32) (c_7 : ¬ x_3 = 0) (c_8 : ¬ x_6 = 0) (hr_14 : r_14 = cz_abs x_3) (hr_15 : r_15 = cz_abs x_6) (c_16 : r_14 = r_15) : ¬ (x_3 = 0 ∧ x_6 = 0) := by simp_all
theorem c_X7_wayTo_a79 (x_3 : Int32) (x_6 : Int32) (r_14 : Int32) (r_15 : Int32) (c_7 : ¬ x_3 = 0) (c_8 : ¬ x_6 = 0) (hr_14 : r_14 = cz_abs x_3) (hr_15 : r_15 = cz_abs x_6) (c_16 : r_14 = r_15) : x_3 = 0 ∨ x_6 = 0 ∨ cz_abs x_3 = cz_abs x_6 := by simp_all
theorem c_X7_wayTo_a80 (x_3 : Int32) (x_6 : Int32) (r_14 : Int32) (r_15 : Int32) (r_17 : Int32) (x_18 : Int32) (r_19 : Int32) (x_20 : Int32) (hr_14 : r_14 = cz_abs x_3) (hr_15 : r_15 = cz_abs x_6) (hr_17 : r_17 = cz_sgn x_3) (ex_18 : x_18 = 3 * r_17) (hr_19 : r_19 = cz_sgn x_6) (ex_20 : x_20 = x_18 + r_19) : x_20 = 3 * cz_sgn x_3 + cz_sgn x_6 := by subst_vars; rfl
theorem c_X7_wayTo_a81 (p0 : Int32) (p1 : Int32) (x_1 : Int32) (x_2 : Int32) (x_3 : Int32) (x_4 : Int32) (x_5 : Int32) (x_6 : Int32) (ex_1 : x_1 = p1 / 5) (ex_2 : x_2 = p0 / 5) (ex_3 : x_3 = x_1 - x_2) (ex_4 : x_4 = p1 - p1 / 5 * 5) (ex_5 : x_5 = p0 - p0 / 5 * 5) (ex_6 : x_6 = x_4 - x_5) : x_3 = cz_dn p0 p1 := by subst_vars; rfl
theorem c_X7_wayTo_a82 (p0 : Int32) (p1 : Int32) (x_1 : Int32) (x_2 : Int32) (x_3 : Int32) (x_4 : Int32) (x_5 : Int32) (x_6 : Int32) (ex_1 : x_1 = p1 / 5) (ex_2 : x_2 = p0 / 5) (ex_3 : x_3 = x_1 - x_2) (ex_4 : x_4 = p1 - p1 / 5 * 5) (ex_5 : x_5 = p0 - p0 / 5 * 5) (ex_6 : x_6 = x_4 - x_5) : x_6 = cz_rg p0 p1 := by subst_vars; rfl
theorem c_X7_wayTo_a83 (x_3 : Int32) (x_6 : Int32) (r_14 : Int32) (r_15 : Int32) (c_7 : ¬ x_3 = 0) (c_8 : ¬ x_6 = 0) (hr_14 : r_14 = cz_abs x_3) (hr_15 : r_15 = cz_abs x_6) (c_16 : r_14 = r_15) : ¬ (x_3 = 0 ∧ x_6 = 0) := by simp_all
theorem c_X7_wayTo_a84 (x_3 : Int32) (x_6 : Int32) (r_14 : Int32) (r_15 : Int32) (c_7 : ¬ x_3 = 0) (c_8 : ¬ x_6 = 0) (hr_14 : r_14 = cz_abs x_3) (hr_15 : r_15 = cz_abs x_6) (c_16 : r_14 = r_15) : x_3 = 0 ∨ x_6 = 0 ∨ cz_abs x_3 = cz_abs x_6 := by simp_all
theorem c_X7_wayTo_a85 (x_3 : Int32) (x_6 : Int32) (r_14 : Int32) (r_15 : Int32) (r_17 : Int32) (x_18 : Int32) (r_19 : Int32) (x_20 : Int32) (hr_14 : r_14 = cz_abs x_3) (hr_15 : r_15 = cz_abs x_6) (hr_17 : r_17 = cz_sgn x_3) (ex_18 : x_18 = 3 * r_17) (hr_19 : r_19 = cz_sgn x_6) (ex_20 : x_20 = x_18 + r_19) : x_20 = 3 * cz_sgn x_3 + cz_sgn x_6 := by subst_vars; rfl
theorem c_X7_wayTo_a86 (p0 : Int32) (p1 : Int32) (x_1 : Int32) (x_2 : Int32) (x_3 : Int32) (x_4 : Int32) (x_5 : Int32) (x_6 : Int32) (ex_1 : x_1 = p1 / 5) (ex_2 : x_2 = p0 / 5) (ex_3 : x_3 = x_1 - x_2) (ex_4 : x_4 = p1 - p1 / 5 * 5) (ex_5 : x_5 = p0 - p0 / 5 * 5) (ex_6 : x_6 = x_4 - x_5) : x_3 = cz_dn p0 p1 := by subst_vars; rfl
theorem c_X7_wayTo_a87 (p0 : Int32) (p1 : Int32) (x_1 : Int32) (x_2 : Int32) (x_3 : Int32) (x_4 : Int32) (x_5 : Int32) (x_6 : Int32) (ex_1 : x_1 = p1 / 5) (ex_2 : x_2 = p0 / 5) (ex_3 : x_3 = x_1 - x_2) (ex_4 : x_4 = p1 - p1 / 5 * 5) (ex_5 : x_5 = p0 - p0 / 5 * 5) (ex_6 : x_6 = x_4 - x_5) : x_6 = cz_rg p0 p1 := by subst_vars; rfl
theorem c_X7_wayTo_a88 (x_3 : Int32) (x_6 : Int32) (r_14 : Int32) (r_15 : Int32) (c_7 : ¬ x_3 = 0) (c_8 : ¬ x_6 = 0) (hr_14 : r_14 = cz_abs x_3) (hr_15 : r_15 = cz_abs x_6) (c_16 : r_14 = r_15) : ¬ (x_3 = 0 ∧ x_6 = 0) := by simp_all
theorem c_X7_wayTo_a89 (x_3 : Int32) (x_6 : Int32) (r_14 : Int32) (r_15 : Int32) (c_7 : ¬ x_3 = 0) (c_8 : ¬ x_6 = 0) (hr_14 : r_14 = cz_abs x_3) (hr_15 : r_15 = cz_abs x_6) (c_16 : r_14 = r_15) : x_3 = 0 ∨ x_6 = 0 ∨ cz_abs x_3 = cz_abs x_6 := by simp_all
theorem c_X7_wayTo_a90 (x_3 : Int32) (x_6 : Int32) (r_14 : Int32) (r_15 : Int32) (r_17 : Int32) (x_18 : Int32) (r_19 : Int32) (x_20 : Int32) (hr_14 : r_14 = cz_abs x_3) (hr_15 : r_15 = cz_abs x_6) (hr_17 : r_17 = cz_sgn x_3) (ex_18 : x_18 = 3 * r_17) (hr_19 : r_19 = cz_sgn x_6) (ex_20 : x_20 = x_18 + r_19) : x_20 = 3 * cz_sgn x_3 + cz_sgn x_6 := by subst_vars; rfl
theorem c_X7_wayTo_a91 (p0 : Int32) (p1 : Int32) (x_1 : Int32) (x_2 : Int32) (x_3 : Int32) (x_4 : Int32) (x_5 : Int32) (x_6 : Int32) (ex_1 : x_1 = p1 / 5) (ex_2 : x_2 = p0 / 5) (ex_3 : x_3 = x_1 - x_2) (ex_4 : x_4 = p1 - p1 / 5 * 5) (ex_5 : x_5 = p0 - p0 / 5 * 5) (ex_6 : x_6 = x_4 - x_5) : x_3 = cz_dn p0 p1 := by subst_vars; rfl
theorem c_X7_wayTo_a92 (p0 : Int32) (p1 : Int32) (x_1 : Int32) (x_2 : Int32) (x_3 : Int32) (x_4 : Int32) (x_5 : Int32) (x_6 : Int32) (ex_1 : x_1 = p1 / 5) (ex_2 : x_2 = p0 / 5) (ex_3 : x_3 = x_1 - x_2) (ex_4 : x_4 = p1 - p1 / 5 * 5) (ex_5 : x_5 = p0 - p0 / 5 * 5) (ex_6 : x_6 = x_4 - x_5) : x_6 = cz_rg p0 p1 := by subst_vars; rfl
theorem c_X7_wayTo_a93 (x_3 : Int32) (x_6 : Int32) (r_14 : Int32) (r_15 : Int32) (c_7 : ¬ x_3 = 0) (c_8 : ¬ x_6 = 0) (hr_14 : r_14 = cz_abs x_3) (hr_15 : r_15 = cz_abs x_6) (c_16 : ¬ r_14 = r_15) : ¬ cz_abs x_3 = cz_abs x_6 := by subst_vars; assumption
theorem c_X7_wayTo_a94 (p0 : Int32) (p1 : Int32) (x_1 : Int32) (x_2 : Int32) (x_3 : Int32) (x_4 : Int32) (x_5 : Int32) (x_6 : Int32) (ex_1 : x_1 = p1 / 5) (ex_2 : x_2 = p0 / 5) (ex_3 : x_3 = x_1 - x_2) (ex_4 : x_4 = p1 - p1 / 5 * 5) (ex_5 : x_5 = p0 - p0 / 5 * 5) (ex_6 : x_6 = x_4 - x_5) : x_3 = cz_dn p0 p1 := by subst_vars; rfl
theorem c_X7_wayTo_a95 (p0 : Int32) (p1 : Int32) (x_1 : Int32) (x_2 : Int32) (x_3 : Int32) (x_4 : Int32) (x_5 : Int32) (x_6 : Int32) (ex_1 : x_1 = p1 / 5) (ex_2 : x_2 = p0 / 5) (ex_3 : x_3 = x_1 - x_2) (ex_4 : x_4 = p1 - p1 / 5 * 5) (ex_5 : x_5 = p0 - p0 / 5 * 5) (ex_6 : x_6 = x_4 - x_5) : x_6 = cz_rg p0 p1 := by subst_vars; rfl
theorem c_X7_wayTo_a96 (p0 : Int32) (p1 : Int32) (x_1 : Int32) (x_2 : Int32) (x_3 : Int32) (x_4 : Int32) (x_5 : Int32) (x_6 : Int32) (ex_1 : x_1 = p1 / 5) (ex_2 : x_2 = p0 / 5) (ex_3 : x_3 = x_1 - x_2) (ex_4 : x_4 = p1 - p1 / 5 * 5) (ex_5 : x_5 = p0 - p0 / 5 * 5) (ex_6 : x_6 = x_4 - x_5) : x_3 = cz_dn p0 p1 := by subst_vars; rfl
theorem c_X7_wayTo_a97 (p0 : Int32) (p1 : Int32) (x_1 : Int32) (x_2 : Int32) (x_3 : Int32) (x_4 : Int32) (x_5 : Int32) (x_6 : Int32) (ex_1 : x_1 = p1 / 5) (ex_2 : x_2 = p0 / 5) (ex_3 : x_3 = x_1 - x_2) (ex_4 : x_4 = p1 - p1 / 5 * 5) (ex_5 : x_5 = p0 - p0 / 5 * 5) (ex_6 : x_6 = x_4 - x_5) : x_6 = cz_rg p0 p1 := by subst_vars; rfl
theorem c_X7_wayTo_a98 (x_3 : Int32) (x_6 : Int32) (c_7 : x_3 = 0) (c_22 : ¬ x_6 = 0) : ¬ (x_3 = 0 ∧ x_6 = 0) := by simp_all
theorem c_X7_wayTo_a99 (x_3 : Int32) (x_6 : Int32) (c_7 : x_3 = 0) (c_22 : ¬ x_6 = 0) : x_3 = 0 ∨ x_6 = 0 ∨ cz_abs x_3 = cz_abs x_6 := by simp_all
theorem c_X7_wayTo_a100 (x_3 : Int32) (x_6 : Int32) (r_23 : Int32) (x_24 : Int32) (r_25 : Int32) (x_26 : Int32) (hr_23 : r_23 = cz_sgn x_3) (ex_24 : x_24 = 3 * r_23) (hr_25 : r_25 = cz_sgn x_6) (ex_26 : x_26 = x_24 + r_25) : x_26 = 3 * cz_sgn x_3 + cz_sgn x_6 := by subst_vars; rfl
theorem c_X7_wayTo_a101 (p0 : Int32) (p1 : Int32) (x_1 : Int32) (x_2 : Int32) (x_3 : Int32) (x_4 : Int32) (x_5 : Int32) (x_6 : Int32) (ex_1 : x_1 = p1 / 5) (ex_2 : x_2 = p0 / 5) (ex_3 : x_3 = x_1 - x_2) (ex_4 : x_4 = p1 - p1 / 5 * 5) (ex_5 : x_5 = p0 - p0 / 5 * 5) (ex_6 : x_6 = x_4 - x_5) : x_3 = cz_dn p0 p1 := by subst_vars; rfl
theorem c_X7_wayTo_a102 (p0 : Int32) (p1 : Int32) (x_1 : Int32) (x_2 : Int32) (x_3 : Int32) (x_4 : Int32) (x_5 : Int32) (x_6 : Int32) (ex_1 : x_1 = p1 / 5) (ex_2 : x_2 = p0 / 5) (ex_3 : x_3 = x_1 - x_2) (ex_4 : x_4 = p1 - p1 / 5 * 5) (ex_5 : x_5 = p0 - p0 / 5 * 5) (ex_6 : x_6 = x_4 - x_5) : x_6 = cz_rg p0 p1 := by subst_vars; rfl
theorem c_X7_wayTo_a103 (x_3 : Int32) (x_6 : Int32) (c_7 : x_3 = 0) (c_22 : ¬ x_6 = 0) : ¬ (x_3 = 0 ∧ x_6 = 0) := by simp_all
theorem c_X7_wayTo_a104 (x_3 : Int32) (x_6 : Int32) (c_7 : x_3 = 0) (c_22 : ¬ x_6 = 0) : x_3 = 0 ∨ x_6 = 0 ∨ cz_abs x_3 = cz_abs x_6 := by simp_all
theorem c_X7_wayTo_a105 (x_3 : Int32) (x_6 : Int32) (r_23 : Int32) (x_24 : Int32) (r_25 : Int32) (x_26 : Int32) (hr_23 : r_23 = cz_sgn x_3) (ex_24 : x_24 = 3 * r_23) (hr_25 : r_25 = cz_sgn x_6) (ex_26 : x_26 = x_24 + r_25) : x_26 = 3 * cz_sgn x_3 + cz_sgn x_6 := by subst_vars; rfl
theorem c_X7_wayTo_a106 (p0 : Int32) (p1 : Int32) (x_1 : Int32) (x_2 : Int32) (x_3 : Int32) (x_4 : Int32) (x_5 : Int32) (x_6 : Int32) (ex_1 : x_1 = p1 / 5) (ex_2 : x_2 = p0 / 5) (ex_3 : x_3 = x_1 - x_2) (ex_4 : x_4 = p1 - p1 / 5 * 5) (ex_5 : x_5 = p0 - p0 / 5 * 5) (ex_6 : x_6 = x_4 - x_5) : x_3 = cz_dn p0 p1 := by subst_vars; rfl
theorem c_X7_wayTo_a107 (p0 : Int32) (p1 : Int32) (x_1 : Int32) (x_2 : Int32) (x_3 : Int32) (x_4 : Int32) (x_5 : Int32) (x_6 : Int32) (ex_1 : x_1 = p1 / 5) (ex_2 : x_2 = p0 / 5) (ex_3 : x_3 = x_1 - x_2) (ex_4 : x_4 = p1 - p1 / 5 * 5) (ex_5 : x_5 = p0 - p0 / 5 * 5) (ex_6 : x_6 = x_4 - x_5) : x_6 = cz_rg p0 p1 := by subst_vars; rfl
theorem c_X7_wayTo_a108 (x_3 : Int32) (x_6 : Int32) (c_7 : x_3 = 0) (c_22 : ¬ x_6 = 0) : ¬ (x_3 = 0 ∧ x_6 = 0) := by simp_all
theorem c_X7_wayTo_a109 (x_3 : Int32) (x_6 : Int32) (c_7 : x_3 = 0) (c_22 : ¬ x_6 = 0) : x_3 = 0 ∨ x_6 = 0 ∨ cz_abs x_3 = cz_abs x_6 := by simp_all
theorem c_X7_wayTo_a110 (x_3 : Int32) (x_6 : Int32) (r_23 : Int32) (x_24 : Int32) (r_25 : Int32) (x_26 : Int32) (hr_23 : r_23 = cz_sgn x_3) (ex_24 : x_24 = 3 * r_23) (hr_25 : r_25 = cz_sgn x_6) (ex_26 : x_26 = x_24 + r_25) : x_26 = 3 * cz_sgn x_3 + cz_sgn x_6 := by subst_vars; rfl
theorem c_X7_wayTo_a111 (p0 : Int32) (p1 : Int32) (x_1 : Int32) (x_2 : Int32) (x_3 : Int32) (x_4 : Int32) (x_5 : Int32) (x_6 : Int32) (ex_1 : x_1 = p1 / 5) (ex_2 : x_2 = p0 / 5) (ex_3 : x_3 = x_1 - x_2) (ex_4 : x_4 = p1 - p1 / 5 * 5) (ex_5 : x_5 = p0 - p0 / 5 * 5) (ex_6 : x_6 = x_4 - x_5) : x_3 = cz_dn p0 p1 := by subst_vars; rfl
theorem c_X7_wayTo_a112 (p0 : Int32) (p1 : Int32) (x_1 : Int32) (x_2 : Int32) (x_3 : Int32) (x_4 : Int32) (x_5 : Int32) (x_6 : Int32) (ex_1 : x_1 = p1 / 5) (ex_2 : x_2 = p0 / 5) (ex_3 : x_3 = x_1 - x_2) (ex_4 : x_4 = p1 - p1 / 5 * 5) (ex_5 : x_5 = p0 - p0 / 5 * 5) (ex_6 : x_6 = x_4 - x_5) : x_6 = cz_rg p0 p1 := by subst_vars; rfl
theorem c_X7_wayTo_a113 (x_3 : Int32) (x_6 : Int32) (c_7 : x_3 = 0) (c_22 : ¬ x_6 = 0) : ¬ (x_3 = 0 ∧ x_6 = 0) := by simp_all
theorem c_X7_wayTo_a114 (x_3 : Int32) (x_6 : Int32) (c_7 : x_3 = 0) (c_22 : ¬ x_6 = 0) : x_3 = 0 ∨ x_6 = 0 ∨ cz_abs x_3 = cz_abs x_6 := by simp_all
theorem c_X7_wayTo_a115 (x_3 : Int32) (x_6 : Int32) (r_23 : Int32) (x_24 : Int32) (r_25 : Int32) (x_26 : Int32) (hr_23 : r_23 = cz_sgn x_3) (ex_24 : x_24 = 3 * r_23) (hr_25 : r_25 = cz_sgn x_6) (ex_26 : x_26 = x_24 + r_25) : x_26 = 3 * cz_sgn x_3 + cz_sgn x_6 := by subst_vars; rfl
theorem c_X7_wayTo_a116 (p0 : Int32) (p1 : Int32) (x_1 : Int32) (x_2 : Int32) (x_3 : Int32) (x_4 : Int32) (x_5 : Int32) (x_6 : Int32) (ex_1 : x_1 = p1 / 5) (ex_2 : x_2 = p0 / 5) (ex_3 : x_3 = x_1 - x_2) (ex_4 : x_4 = p1 - p1 / 5 * 5) (ex_5 : x_5 = p0 - p0 / 5 * 5) (ex_6 : x_6 = x_4 - x_5) : x_3 = cz_dn p0 p1 := by subst_vars; rfl
theorem c_X7_wayTo_a117 (p0 : Int32) (p1 : Int32) (x_1 : Int32) (x_2 : Int32) (x_3 : Int32) (x_4 : Int32) (x_5 : Int32) (x_6 : Int32) (ex_1 : x_1 = p1 / 5) (ex_2 : x_2 = p0 / 5) (ex_3 : x_3 = x_1 - x_2) (ex_4 : x_4 = p1 - p1 / 5 * 5) (ex_5 : x_5 = p0 - p0 / 5 * 5) (ex_6 : x_6 = x_4 - x_5) : x_6 = cz_rg p0 p1 := by subst_vars; rfl
theorem c_X7_wayTo_a118 (x_3 : Int32) (x_6 : Int32) (c_7 : x_3 = 0) (c_22 : ¬ x_6 = 0) : ¬ (x_3 = 0 ∧ x_6 = 0) := by simp_all
theorem c_X7_wayTo_a119 (x_3 : Int32) (x_6 : Int32) (c_7 : x_3 = 0) (c_22 : ¬ x_6 = 0) : x_3 = 0 ∨ x_6 = 0 ∨ cz_abs x_3 = cz_abs x_6 := by simp_all
theorem c_X7_wayTo_a120 (x_3 : Int32) (x_6 : Int32) (r_23 : Int32) (x_24 : Int32) (r_25 : Int32) (x_26 : Int32) (hr_23 : r_23 = cz_sgn x_3) (ex_24 : x_24 = 3 * r_23) (hr_25 : r_25 = cz_sgn x_6) (ex_26 : x_26 = x_24 + r_25) : x_26 = 3 * cz_sgn x_3 + cz_sgn x_6 := by subst_vars; rfl
theorem c_X7_wayTo_a121 (p0 : Int32) (p1 : Int32) (x_1 : Int32) (x_2 : Int32) (x_3 : Int32) (x_4 : Int32) (x_5 : Int32) (x_6 : Int32) (ex_1 : x_1 = p1 / 5) (ex_2 : x_2 = p0 / 5) (ex_3 : x_3 = x_1 - x_2) (ex_4 : x_4 = p1 - p1 / 5 * 5) (ex_5 : x_5 = p0 - p0 / 5 * 5) (ex_6 : x_6 = x_4 - x_5) : x_3 = cz_dn p0 p1 := by subst_vars; rfl
theorem c_X7_wayTo_a122 (p0 : Int32) (p1 : Int32) (x_1 : Int32) (x_2 : Int32) (x_3 : Int32) (x_4 : Int32) (x_5 : Int32) (x_6 : Int32) (ex_1 : x_1 = p1 / 5) (ex_2 : x_2 = p0 / 5) (ex_3 : x_3 = x_1 - x_2) (ex_4 : x_4 = p1 - p1 / 5 * 5) (ex_5 : x_5 = p0 - p0 / 5 * 5) (ex_6 : x_6 = x_4 - x_5) : x_6 = cz_rg p0 p1 := by subst_vars; rfl
theorem c_X7_wayTo_a123 (x_3 : Int32) (x_6 : Int32) (c_7 : x_3 = 0) (c_22 : ¬ x_6 = 0) : ¬ (x_3 = 0 ∧ x_6 = 0) := by simp_all
theorem c_X7_wayTo_a124 (x_3 : Int32) (x_6 : Int32) (c_7 : x_3 = 0) (c_22 : ¬ x_6 = 0) : x_3 = 0 ∨ x_6 = 0 ∨ cz_abs x_3 = cz_abs x_6 := by simp_all
theorem c_X7_wayTo_a125 (x_3 : Int32) (x_6 : Int32) (r_23 : Int32) (x_24 : Int32) (r_25 : Int32) (x_26 : Int32) (hr_23 : r_23 = cz_sgn x_3) (ex_24 : x_24 = 3 * r_23) (hr_25 : r_25 = cz_sgn x_6) (ex_26 : x_26 = x_24 + r_25) : x_26 = 3 * cz_sgn x_3 + cz_sgn x_6 := by subst_vars; rfl
theorem c_X7_wayTo_a126 (p0 : Int32) (p1 : Int32) (x_1 : Int32) (x_2 : Int32) (x_3 : Int32) (x_4 : Int32) (x_5 : Int32) (x_6 : Int32) (ex_1 : x_1 = p1 / 5) (ex_2 : x_2 = p0 / 5) (ex_3 : x_3 = x_1 - x_2) (ex_4 : x_4 = p1 - p1 / 5 * 5) (ex_5 : x_5 = p0 - p0 / 5 * 5) (ex_6 : x_6 = x_4 - x_5) : x_3 = cz_dn p0 p1 := by subst_vars; rfl
theorem c_X7_wayTo_a127 (p0 : Int32) (p1 : Int32) (x_1 : Int32) (x_2 : Int32) (x_3 : Int32) (x_4 : Int32) (x_5 : Int32) (x_6 : Int32) (ex_1 : x_1 = p1 / 5) (ex_2 : x_2 = p0 / 5) (ex_3 : x_3 = x_1 - x_2) (ex_4 : x_4 = p1 - p1 / 5 * 5) (ex_5 : x_5 = p0 - p0 / 5 * 5) (ex_6 : x_6 = x_4 - x_5) : x_6 = cz_rg p0 p1 := by subst_vars; rfl
theorem c_X7_wayTo_a128 (x_3 : Int32) (x_6 : Int32) (c_7 : x_3 = 0) (c_22 : ¬ x_6 = 0) : ¬ (x_3 = 0 ∧ x_6 = 0) := by simp_all
theorem c_X7_wayTo_a129 (x_3 : Int32) (x_6 : Int32) (c_7 : x_3 = 0) (c_22 : ¬ x_6 = 0) : x_3 = 0 ∨ x_6 = 0 ∨ cz_abs x_3 = cz_abs x_6 := by simp_all
theorem c_X7_wayTo_a130 (x_3 : Int32) (x_6 : Int32) (r_23 : Int32) (x_24 : Int32) (r_25 : Int32) (x_26 : Int32) (hr_23 : r_23 = cz_sgn x_3) (ex_24 : x_24 = 3 * r_23) (hr_25 : r_25 = cz_sgn x_6) (ex_26 : x_26 = x_24 + r_25) : x_26 = 3 * cz_sgn x_3 + cz_sgn x_6 := by subst_vars; rfl
theorem c_X7_wayTo_a131 (p0 : Int32) (p1 : Int32) (x_1 : Int32) (x_2 : Int32) (x_3 : Int32) (x_4 : Int32) (x_5 : Int32) (x_6 : Int32) (ex_1 : x_1 = p1 / 5) (ex_2 : x_2 = p0 / 5) (ex_3 : x_3 = x_1 - x_2) (ex_4 : x_4 = p1 - p1 / 5 * 5) (ex_5 : x_5 = p0 - p0 / 5 * 5) (ex_6 : x_6 = x_4 - x_5) : x_3 = cz_dn p0 p1 := by subst_vars; rfl
theorem c_X7_wayTo_a132 (p0 : Int32) (p1 : Int32) (x_1 : Int32) (x_2 : Int32) (x_3 : Int32) (x_4 : Int32) (x_5 : Int32) (x_6 : Int32) (ex_1 : x_1 = p1 / 5) (ex_2 : x_2 = p0 / 5) (ex_3 : x_3 = x_1 - x_2) (ex_4 : x_4 = p1 - p1 / 5 * 5) (ex_5 : x_5 = p0 - p0 / 5 * 5) (ex_6 : x_6 = x_4 - x_5) : x_6 = cz_rg p0 p1 := by subst_vars; rfl
theorem c_X7_wayTo_a133 (x_3 : Int32) (x_6 : Int32) (c_7 : x_3 = 0) (c_22 : ¬ x_6 = 0) : ¬ (x_3 = 0 ∧ x_6 = 0) := by simp_all
theorem c_X7_wayTo_a134 (x_3 : Int32) (x_6 : Int32) (c_7 : x_3 = 0) (c_22 : ¬ x_6 = 0) : x_3 = 0 ∨ x_6 = 0 ∨ cz_abs x_3 = cz_abs x_6 := by simp_all
theorem c_X7_wayTo_a135 (x_3 : Int32) (x_6 : Int32) (r_23 : Int32) (x_24 : Int32) (r_25 : Int32) (x_26 : Int32) (hr_23 : r_23 = cz_sgn x_3) (ex_24 : x_24 = 3 * r_23) (hr_25 : r_25 = cz_sgn x_6) (ex_26 : x_26 = x_24 + r_25) : x_26 = 3 * cz_sgn x_3 + cz_sgn x_6 := by subst_vars; rfl
theorem c_X7_wayTo_a136 (p0 : Int32) (p1 : Int32) (x_1 : Int32) (x_2 : Int32) (x_3 : Int32) (x_4 : Int32) (x_5 : Int32) (x_6 : Int32) (ex_1 : x_1 = p1 / 5) (ex_2 : x_2 = p0 / 5) (ex_3 : x_3 = x_1 - x_2) (ex_4 : x_4 = p1 - p1 / 5 * 5) (ex_5 : x_5 = p0 - p0 / 5 * 5) (ex_6 : x_6 = x_4 - x_5) : x_3 = cz_dn p0 p1 := by subst_vars; rfl
theorem c_X7_wayTo_a137 (p0 : Int32) (p1 : Int32) (x_1 : Int32) (x_2 : Int32) (x_3 : Int32) (x_4 : Int32) (x_5 : Int32) (x_6 : Int32) (ex_1 : x_1 = p1 / 5) (ex_2 : x_2 = p0 / 5) (ex_3 : x_3 = x_1 - x_2) (ex_4 : x_4 = p1 - p1 / 5 * 5) (ex_5 : x_5 = p0 - p0 / 5 * 5) (ex_6 : x_6 = x_4 - x_5) : x_6 = cz_rg p0 p1 := by subst_vars; rfl
theorem c_X7_wayTo_a138 (x_3 : Int32) (x_6 : Int32) (c_7 : x_3 = 0) (c_22 : ¬ x_6 = 0) : ¬ (x_3 = 0 ∧ x_6 = 0) := by simp_all
theorem c_X7_wayTo_a139 (x_3 : Int32) (x_6 : Int32) (c_7 : x_3 = 0) (c_22 : ¬ x_6 = 0) : x_3 = 0 ∨ x_6 = 0 ∨ cz_abs x_3 = cz_abs x_6 := by simp_all
theorem c_X7_wayTo_a140 (x_3 : Int32) (x_6 : Int32) (r_23 : Int32) (x_24 : Int32) (r_25 : Int32) (x_26 : Int32) (hr_23 : r_23 = cz_sgn x_3) (ex_24 : x_24 = 3 * r_23) (hr_25 : r_25 = cz_sgn x_6) (ex_26 : x_26 = x_24 + r_25) : x_26 = 3 * cz_sgn x_3 + cz_sgn x_6 := by subst_vars; rfl
set_option maxHeartbeats 4000000 in
set_option maxRecDepth 100000 in
theorem c_X7_wayTo (l : Launch) (dC : Nat → ClassId) (dI : Nat → Nat → Nat) (cI cB : ClassId) (p0 : Int32) (p1 : Int32) (h0_ : cz_in 0 p0 19) (h1_ : cz_in 0 p1 19) : Met l yX7_wayTo wsX7_wayTo ({ frames := 1, cells := 0, slots := 0, locals := 20 }) (cz_Pp dC dI cI cB [.int p0, .int p1] []) (vp_Si (fun r : Int32 => r = cz_wt p0 p1 ∧ (r = -1 ∨ cz_line p0 p1))) 0 0 (fun _ => False) := by
  refine cz_of (cc := cX7_wayTo) (maxL := 5) (ret := (some .int)) (by decide) rfl ?_
  intro p e s m args below meth c s₁ Q B hml hv hQ
  obtain ⟨rfl, hP, hN⟩ := hv
  have hx := B.exec
  have hb := B.bytes
  have hr := B.returns
  have hts := atoms_spec (ws := wsX7_wayTo) B.pre
  have hown : s.vm.findClass RX7 = some m.cls := findClass_of_methodNamed B.named
  have hlocks := B.notSynchronized
  have hK := hN.1
  have hl := lv_entry ([.int p0, .int p1]) (n := 5) (Nat.le_of_ble_eq_true rfl)
  rw [lg_entry_eq]
  generalize (lg_sl ([.int p0, .int p1]) ++ List.replicate (5 - (lg_sl ([.int p0, .int p1])).length) Slot.unset).toArray = ls at hl ⊢
  have hl : lv_has ls 5 [(0, .int p0), (1, .int p1)] := hl
  refine lv_iload_n hx hb dX7_wayTo_0 rfl (lv_at hl 1 rfl) ?_
  refine lv_iconst (v := 5) hx hb dX7_wayTo_1 (by decide) ?_
  refine lv_idiv hx hb dX7_wayTo_2 (by decide) ?_
  refine lv_topi (fun x_1 ex_1 => ?_)
  refine lv_iload_n hx hb dX7_wayTo_3 rfl (lv_at hl 0 rfl) ?_
  refine lv_iconst (v := 5) hx hb dX7_wayTo_4 (by decide) ?_
  refine lv_idiv hx hb dX7_wayTo_5 (by decide) ?_
  refine lv_topi (fun x_2 ex_2 => ?_)
  refine lv_isub hx hb dX7_wayTo_6 ?_
  refine lv_topi (fun x_3 ex_3 => ?_)
  refine lv_istore_n (lv' := [(2, .int x_3), (0, .int p0), (1, .int p1)]) hx hb dX7_wayTo_7 rfl hl (by decide) rfl (fun ls hl => ?_)
  refine lv_iload_n hx hb dX7_wayTo_8 rfl (lv_at hl 2 rfl) ?_
  refine lv_iconst (v := 5) hx hb dX7_wayTo_9 (by decide) ?_
  refine lv_irem hx hb dX7_wayTo_10 (by decide) ?_
  refine lv_topi (fun x_4 ex_4 => ?_)
  refine lv_iload_n hx hb dX7_wayTo_11 rfl (lv_at hl 1 rfl) ?_
  refine lv_iconst (v := 5) hx hb dX7_wayTo_12 (by decide) ?_
  refine lv_irem hx hb dX7_wayTo_13 (by decide) ?_
  refine lv_topi (fun x_5 ex_5 => ?_)
  refine lv_isub hx hb dX7_wayTo_14 ?_
  refine lv_topi (fun x_6 ex_6 => ?_)
  refine lv_istore_n (lv' := [(3, .int x_6), (2, .int x_3), (0, .int p0), (1, .int p1)]) hx hb dX7_wayTo_15 rfl hl (by decide) rfl (fun ls hl => ?_)
  refine lv_iload_n hx hb dX7_wayTo_16 rfl (lv_at hl 1 rfl) ?_
  refine lv_if_ne (tgt := 24) hx hb dX7_wayTo_17 (by decide) (fun c_7 => ?_) (fun c_7 => ?_)
  · refine lv_iload_n hx hb dX7_wayTo_24 rfl (lv_at hl 1 rfl) ?_
    refine lv_if_eq (tgt := 45) hx hb dX7_wayTo_25 (by decide) (fun c => absurd c c_7) (fun _ => ?_)
    refine lv_iload_n hx hb dX7_wayTo_28 rfl (lv_at hl 0 rfl) ?_
    refine lv_if_eq (tgt := 45) hx hb dX7_wayTo_29 (by decide) (fun c_8 => ?_) (fun c_8 => ?_)
    · refine lv_iconst (v := 3) hx hb dX7_wayTo_45 (by decide) ?_
      refine lv_iload_n hx hb dX7_wayTo_46 rfl (lv_at hl 1 rfl) ?_
      refine vp_callSi (cz_run (va_runS (As := [.int x_3]) (rest := [.int 3]) ⟨hx, hb, hml, hown, hts⟩ (c_X7_sign l dC dI cI cB x_3 ) (va_cwS 1 hts gX7_wayTo_X7_sign rfl rfl rfl (by decide +kernel) ⟨Nat.le_of_ble_eq_true rfl, Nat.le_of_ble_eq_true rfl⟩) (cz_pS hP hN) rfl rfl hl.1 rfl (lv_room (Nat.le_of_ble_eq_true rfl)) dX7_wayTo_47 ⟨Nat.le_of_ble_eq_true rfl, Nat.le_of_ble_eq_true rfl⟩)) (fun r_9 hr_9 => ?_)
      refine lv_imul hx hb dX7_wayTo_50 ?_
      refine lv_topi (fun x_10 ex_10 => ?_)
      refine lv_iload_n hx hb dX7_wayTo_51 rfl (lv_at hl 0 rfl) ?_
      refine vp_callSi (cz_run (va_runS (As := [.int x_6]) (rest := [.int x_10]) ⟨hx, hb, hml, hown, hts⟩ (c_X7_sign l dC dI cI cB x_6 ) (va_cwS 1 hts gX7_wayTo_X7_sign rfl rfl rfl (by decide +kernel) ⟨Nat.le_of_ble_eq_true rfl, Nat.le_of_ble_eq_true rfl⟩) (cz_pS hP hN) rfl rfl hl.1 rfl (lv_room (Nat.le_of_ble_eq_true rfl)) dX7_wayTo_52 ⟨Nat.le_of_ble_eq_true rfl, Nat.le_of_ble_eq_true rfl⟩)) (fun r_11 hr_11 => ?_)
      refine lv_iadd hx hb dX7_wayTo_55 ?_
      refine lv_topi (fun x_12 ex_12 => ?_)
      refine lv_istore (lv' := [(4, .int x_12), (3, .int x_6), (2, .int x_3), (0, .int p0), (1, .int p1)]) hx hb dX7_wayTo_56 hl (by decide) rfl (fun ls hl => ?_)
      refine lv_iload hx hb dX7_wayTo_58 (lv_at hl 0 rfl) ?_
      rcases cz_sw_3_4 x_12 with c_13 | c_13 | c_13 | c_13 | c_13 | c_13 | c_13 | c_13 | c_13
      · refine lv_tableIn (off := 48) (tgt := 108) hx hb dX7_wayTo_60 (by rw [c_13]; decide) (by rw [c_13]; decide) (by rw [c_13]; decide) (by decide) ?_
        refine lv_iconst (v := 0) hx hb dX7_wayTo_108 (by decide) ?_
        rw [hQ]; exact W.iret (v := 0) hx hb hr (fun t ht hW => ⟨0, rfl, ⟨(cz_wt_c (c_X7_wayTo_a1 p0 p1 x_1 x_2 x_3 x_4 x_5 x_6 ex_1 ex_2 ex_3 ex_4 ex_5 ex_6) (c_X7_wayTo_a2 p0 p1 x_1 x_2 x_3 x_4 x_5 x_6 ex_1 ex_2 ex_3 ex_4 ex_5 ex_6) (c_X7_wayTo_a3 x_3 x_6 c_7 c_8) (c_X7_wayTo_a4 x_3 x_6 c_7 c_8) (c_X7_wayTo_a5 x_3 x_6 r_9 x_10 r_11 x_12 hr_9 ex_10 hr_11 ex_12) (by rw [c_13]; decide)).symm, Or.inr (cz_line_of h0_ h1_ (by rw [← (c_X7_wayTo_a1 p0 p1 x_1 x_2 x_3 x_4 x_5 x_6 ex_1 ex_2 ex_3 ex_4 ex_5 ex_6), ← (c_X7_wayTo_a2 p0 p1 x_1 x_2 x_3 x_4 x_5 x_6 ex_1 ex_2 ex_3 ex_4 ex_5 ex_6)]; exact (c_X7_wayTo_a3 x_3 x_6 c_7 c_8)) (by rw [← (c_X7_wayTo_a1 p0 p1 x_1 x_2 x_3 x_4 x_5 x_6 ex_1 ex_2 ex_3 ex_4 ex_5 ex_6), ← (c_X7_wayTo_a2 p0 p1 x_1 x_2 x_3 x_4 x_5 x_6 ex_1 ex_2 ex_3 ex_4 ex_5 ex_6)]; exact (c_X7_wayTo_a4 x_3 x_6 c_7 c_8)))⟩, ht⟩) (fun _ h => absurd h List.not_mem_nil) dX7_wayTo_109
      · refine lv_tableIn (off := 50) (tgt := 110) hx hb dX7_wayTo_60 (by rw [c_13]; decide) (by rw [c_13]; decide) (by rw [c_13]; decide) (by decide) ?_
        refine lv_iconst (v := 1) hx hb dX7_wayTo_110 (by decide) ?_
        rw [hQ]; exact W.iret (v := 1) hx hb hr (fun t ht hW => ⟨1, rfl, ⟨(cz_wt_c (c_X7_wayTo_a6 p0 p1 x_1 x_2 x_3 x_4 x_5 x_6 ex_1 ex_2 ex_3 ex_4 ex_5 ex_6) (c_X7_wayTo_a7 p0 p1 x_1 x_2 x_3 x_4 x_5 x_6 ex_1 ex_2 ex_3 ex_4 ex_5 ex_6) (c_X7_wayTo_a8 x_3 x_6 c_7 c_8) (c_X7_wayTo_a9 x_3 x_6 c_7 c_8) (c_X7_wayTo_a10 x_3 x_6 r_9 x_10 r_11 x_12 hr_9 ex_10 hr_11 ex_12) (by rw [c_13]; decide)).symm, Or.inr (cz_line_of h0_ h1_ (by rw [← (c_X7_wayTo_a6 p0 p1 x_1 x_2 x_3 x_4 x_5 x_6 ex_1 ex_2 ex_3 ex_4 ex_5 ex_6), ← (c_X7_wayTo_a7 p0 p1 x_1 x_2 x_3 x_4 x_5 x_6 ex_1 ex_2 ex_3 ex_4 ex_5 ex_6)]; exact (c_X7_wayTo_a8 x_3 x_6 c_7 c_8)) (by rw [← (c_X7_wayTo_a6 p0 p1 x_1 x_2 x_3 x_4 x_5 x_6 ex_1 ex_2 ex_3 ex_4 ex_5 ex_6), ← (c_X7_wayTo_a7 p0 p1 x_1 x_2 x_3 x_4 x_5 x_6 ex_1 ex_2 ex_3 ex_4 ex_5 ex_6)]; exact (c_X7_wayTo_a9 x_3 x_6 c_7 c_8)))⟩, ht⟩) (fun _ h => absurd h List.not_mem_nil) dX7_wayTo_111
      · refine lv_tableIn (off := 60) (tgt := 120) hx hb dX7_wayTo_60 (by rw [c_13]; decide) (by rw [c_13]; decide) (by rw [c_13]; decide) (by decide) ?_
        refine lv_bipush (v := 6) hx hb dX7_wayTo_120 (by decide) ?_
        rw [hQ]; exact W.iret (v := 6) hx hb hr (fun t ht hW => ⟨6, rfl, ⟨(cz_wt_c (c_X7_wayTo_a11 p0 p1 x_1 x_2 x_3 x_4 x_5 x_6 ex_1 ex_2 ex_3 ex_4 ex_5 ex_6) (c_X7_wayTo_a12 p0 p1 x_1 x_2 x_3 x_4 x_5 x_6 ex_1 ex_2 ex_3 ex_4 ex_5 ex_6) (c_X7_wayTo_a13 x_3 x_6 c_7 c_8) (c_X7_wayTo_a14 x_3 x_6 c_7 c_8) (c_X7_wayTo_a15 x_3 x_6 r_9 x_10 r_11 x_12 hr_9 ex_10 hr_11 ex_12) (by rw [c_13]; decide)).symm, Or.inr (cz_line_of h0_ h1_ (by rw [← (c_X7_wayTo_a11 p0 p1 x_1 x_2 x_3 x_4 x_5 x_6 ex_1 ex_2 ex_3 ex_4 ex_5 ex_6), ← (c_X7_wayTo_a12 p0 p1 x_1 x_2 x_3 x_4 x_5 x_6 ex_1 ex_2 ex_3 ex_4 ex_5 ex_6)]; exact (c_X7_wayTo_a13 x_3 x_6 c_7 c_8)) (by rw [← (c_X7_wayTo_a11 p0 p1 x_1 x_2 x_3 x_4 x_5 x_6 ex_1 ex_2 ex_3 ex_4 ex_5 ex_6), ← (c_X7_wayTo_a12 p0 p1 x_1 x_2 x_3 x_4 x_5 x_6 ex_1 ex_2 ex_3 ex_4 ex_5 ex_6)]; exact (c_X7_wayTo_a14 x_3 x_6 c_7 c_8)))⟩, ht⟩) (fun _ h => absurd h List.not_mem_nil) dX7_wayTo_122
      · refine lv_tableIn (off := 63) (tgt := 123) hx hb dX7_wayTo_60 (by rw [c_13]; decide) (by rw [c_13]; decide) (by rw [c_13]; decide) (by decide) ?_
        refine lv_bipush (v := 7) hx hb dX7_wayTo_123 (by decide) ?_
        rw [hQ]; exact W.iret (v := 7) hx hb hr (fun t ht hW => ⟨7, rfl, ⟨(cz_wt_c (c_X7_wayTo_a16 p0 p1 x_1 x_2 x_3 x_4 x_5 x_6 ex_1 ex_2 ex_3 ex_4 ex_5 ex_6) (c_X7_wayTo_a17 p0 p1 x_1 x_2 x_3 x_4 x_5 x_6 ex_1 ex_2 ex_3 ex_4 ex_5 ex_6) (c_X7_wayTo_a18 x_3 x_6 c_7 c_8) (c_X7_wayTo_a19 x_3 x_6 c_7 c_8) (c_X7_wayTo_a20 x_3 x_6 r_9 x_10 r_11 x_12 hr_9 ex_10 hr_11 ex_12) (by rw [c_13]; decide)).symm, Or.inr (cz_line_of h0_ h1_ (by rw [← (c_X7_wayTo_a16 p0 p1 x_1 x_2 x_3 x_4 x_5 x_6 ex_1 ex_2 ex_3 ex_4 ex_5 ex_6), ← (c_X7_wayTo_a17 p0 p1 x_1 x_2 x_3 x_4 x_5 x_6 ex_1 ex_2 ex_3 ex_4 ex_5 ex_6)]; exact (c_X7_wayTo_a18 x_3 x_6 c_7 c_8)) (by rw [← (c_X7_wayTo_a16 p0 p1 x_1 x_2 x_3 x_4 x_5 x_6 ex_1 ex_2 ex_3 ex_4 ex_5 ex_6), ← (c_X7_wayTo_a17 p0 p1 x_1 x_2 x_3 x_4 x_5 x_6 ex_1 ex_2 ex_3 ex_4 ex_5 ex_6)]; exact (c_X7_wayTo_a19 x_3 x_6 c_7 c_8)))⟩, ht⟩) (fun _ h => absurd h List.not_mem_nil) dX7_wayTo_125
      · refine lv_tableIn (off := 52) (tgt := 112) hx hb dX7_wayTo_60 (by rw [c_13]; decide) (by rw [c_13]; decide) (by rw [c_13]; decide) (by decide) ?_
        refine lv_iconst (v := 2) hx hb dX7_wayTo_112 (by decide) ?_
        rw [hQ]; exact W.iret (v := 2) hx hb hr (fun t ht hW => ⟨2, rfl, ⟨(cz_wt_c (c_X7_wayTo_a21 p0 p1 x_1 x_2 x_3 x_4 x_5 x_6 ex_1 ex_2 ex_3 ex_4 ex_5 ex_6) (c_X7_wayTo_a22 p0 p1 x_1 x_2 x_3 x_4 x_5 x_6 ex_1 ex_2 ex_3 ex_4 ex_5 ex_6) (c_X7_wayTo_a23 x_3 x_6 c_7 c_8) (c_X7_wayTo_a24 x_3 x_6 c_7 c_8) (c_X7_wayTo_a25 x_3 x_6 r_9 x_10 r_11 x_12 hr_9 ex_10 hr_11 ex_12) (by rw [c_13]; decide)).symm, Or.inr (cz_line_of h0_ h1_ (by rw [← (c_X7_wayTo_a21 p0 p1 x_1 x_2 x_3 x_4 x_5 x_6 ex_1 ex_2 ex_3 ex_4 ex_5 ex_6), ← (c_X7_wayTo_a22 p0 p1 x_1 x_2 x_3 x_4 x_5 x_6 ex_1 ex_2 ex_3 ex_4 ex_5 ex_6)]; exact (c_X7_wayTo_a23 x_3 x_6 c_7 c_8)) (by rw [← (c_X7_wayTo_a21 p0 p1 x_1 x_2 x_3 x_4 x_5 x_6 ex_1 ex_2 ex_3 ex_4 ex_5 ex_6), ← (c_X7_wayTo_a22 p0 p1 x_1 x_2 x_3 x_4 x_5 x_6 ex_1 ex_2 ex_3 ex_4 ex_5 ex_6)]; exact (c_X7_wayTo_a24 x_3 x_6 c_7 c_8)))⟩, ht⟩) (fun _ h => absurd h List.not_mem_nil) dX7_wayTo_113
      · refine lv_tableIn (off := 58) (tgt := 118) hx hb dX7_wayTo_60 (by rw [c_13]; decide) (by rw [c_13]; decide) (by rw [c_13]; decide) (by decide) ?_
        refine lv_iconst (v := 5) hx hb dX7_wayTo_118 (by decide) ?_
        rw [hQ]; exact W.iret (v := 5) hx hb hr (fun t ht hW => ⟨5, rfl, ⟨(cz_wt_c (c_X7_wayTo_a26 p0 p1 x_1 x_2 x_3 x_4 x_5 x_6 ex_1 ex_2 ex_3 ex_4 ex_5 ex_6) (c_X7_wayTo_a27 p0 p1 x_1 x_2 x_3 x_4 x_5 x_6 ex_1 ex_2 ex_3 ex_4 ex_5 ex_6) (c_X7_wayTo_a28 x_3 x_6 c_7 c_8) (c_X7_wayTo_a29 x_3 x_6 c_7 c_8) (c_X7_wayTo_a30 x_3 x_6 r_9 x_10 r_11 x_12 hr_9 ex_10 hr_11 ex_12) (by rw [c_13]; decide)).symm, Or.inr (cz_line_of h0_ h1_ (by rw [← (c_X7_wayTo_a26 p0 p1 x_1 x_2 x_3 x_4 x_5 x_6 ex_1 ex_2 ex_3 ex_4 ex_5 ex_6), ← (c_X7_wayTo_a27 p0 p1 x_1 x_2 x_3 x_4 x_5 x_6 ex_1 ex_2 ex_3 ex_4 ex_5 ex_6)]; exact (c_X7_wayTo_a28 x_3 x_6 c_7 c_8)) (by rw [← (c_X7_wayTo_a26 p0 p1 x_1 x_2 x_3 x_4 x_5 x_6 ex_1 ex_2 ex_3 ex_4 ex_5 ex_6), ← (c_X7_wayTo_a27 p0 p1 x_1 x_2 x_3 x_4 x_5 x_6 ex_1 ex_2 ex_3 ex_4 ex_5 ex_6)]; exact (c_X7_wayTo_a29 x_3 x_6 c_7 c_8)))⟩, ht⟩) (fun _ h => absurd h List.not_mem_nil) dX7_wayTo_119
      · refine lv_tableIn (off := 56) (tgt := 116) hx hb dX7_wayTo_60 (by rw [c_13]; decide) (by rw [c_13]; decide) (by rw [c_13]; decide) (by decide) ?_
        refine lv_iconst (v := 4) hx hb dX7_wayTo_116 (by decide) ?_
        rw [hQ]; exact W.iret (v := 4) hx hb hr (fun t ht hW => ⟨4, rfl, ⟨(cz_wt_c (c_X7_wayTo_a31 p0 p1 x_1 x_2 x_3 x_4 x_5 x_6 ex_1 ex_2 ex_3 ex_4 ex_5 ex_6) (c_X7_wayTo_a32 p0 p1 x_1 x_2 x_3 x_4 x_5 x_6 ex_1 ex_2 ex_3 ex_4 ex_5 ex_6) (c_X7_wayTo_a33 x_3 x_6 c_7 c_8) (c_X7_wayTo_a34 x_3 x_6 c_7 c_8) (c_X7_wayTo_a35 x_3 x_6 r_9 x_10 r_11 x_12 hr_9 ex_10 hr_11 ex_12) (by rw [c_13]; decide)).symm, Or.inr (cz_line_of h0_ h1_ (by rw [← (c_X7_wayTo_a31 p0 p1 x_1 x_2 x_3 x_4 x_5 x_6 ex_1 ex_2 ex_3 ex_4 ex_5 ex_6), ← (c_X7_wayTo_a32 p0 p1 x_1 x_2 x_3 x_4 x_5 x_6 ex_1 ex_2 ex_3 ex_4 ex_5 ex_6)]; exact (c_X7_wayTo_a33 x_3 x_6 c_7 c_8)) (by rw [← (c_X7_wayTo_a31 p0 p1 x_1 x_2 x_3 x_4 x_5 x_6 ex_1 ex_2 ex_3 ex_4 ex_5 ex_6), ← (c_X7_wayTo_a32 p0 p1 x_1 x_2 x_3 x_4 x_5 x_6 ex_1 ex_2 ex_3 ex_4 ex_5 ex_6)]; exact (c_X7_wayTo_a34 x_3 x_6 c_7 c_8)))⟩, ht⟩) (fun _ h => absurd h List.not_mem_nil) dX7_wayTo_117
      · refine lv_tableIn (off := 54) (tgt := 114) hx hb dX7_wayTo_60 (by rw [c_13]; decide) (by rw [c_13]; decide) (by rw [c_13]; decide) (by decide) ?_
        refine lv_iconst (v := 3) hx hb dX7_wayTo_114 (by decide) ?_
        rw [hQ]; exact W.iret (v := 3) hx hb hr (fun t ht hW => ⟨3, rfl, ⟨(cz_wt_c (c_X7_wayTo_a36 p0 p1 x_1 x_2 x_3 x_4 x_5 x_6 ex_1 ex_2 ex_3 ex_4 ex_5 ex_6) (c_X7_wayTo_a37 p0 p1 x_1 x_2 x_3 x_4 x_5 x_6 ex_1 ex_2 ex_3 ex_4 ex_5 ex_6) (c_X7_wayTo_a38 x_3 x_6 c_7 c_8) (c_X7_wayTo_a39 x_3 x_6 c_7 c_8) (c_X7_wayTo_a40 x_3 x_6 r_9 x_10 r_11 x_12 hr_9 ex_10 hr_11 ex_12) (by rw [c_13]; decide)).symm, Or.inr (cz_line_of h0_ h1_ (by rw [← (c_X7_wayTo_a36 p0 p1 x_1 x_2 x_3 x_4 x_5 x_6 ex_1 ex_2 ex_3 ex_4 ex_5 ex_6), ← (c_X7_wayTo_a37 p0 p1 x_1 x_2 x_3 x_4 x_5 x_6 ex_1 ex_2 ex_3 ex_4 ex_5 ex_6)]; exact (c_X7_wayTo_a38 x_3 x_6 c_7 c_8)) (by rw [← (c_X7_wayTo_a36 p0 p1 x_1 x_2 x_3 x_4 x_5 x_6 ex_1 ex_2 ex_3 ex_4 ex_5 ex_6), ← (c_X7_wayTo_a37 p0 p1 x_1 x_2 x_3 x_4 x_5 x_6 ex_1 ex_2 ex_3 ex_4 ex_5 ex_6)]; exact (c_X7_wayTo_a39 x_3 x_6 c_7 c_8)))⟩, ht⟩) (fun _ h => absurd h List.not_mem_nil) dX7_wayTo_115
      · refine lv_tableOut (tgt := 123) hx hb dX7_wayTo_60 c_13 (by decide) ?_
        refine lv_bipush (v := 7) hx hb dX7_wayTo_123 (by decide) ?_
        rw [hQ]; exact W.iret (v := 7) hx hb hr (fun t ht hW => ⟨7, rfl, ⟨(cz_wt_c (c_X7_wayTo_a41 p0 p1 x_1 x_2 x_3 x_4 x_5 x_6 ex_1 ex_2 ex_3 ex_4 ex_5 ex_6) (c_X7_wayTo_a42 p0 p1 x_1 x_2 x_3 x_4 x_5 x_6 ex_1 ex_2 ex_3 ex_4 ex_5 ex_6) (c_X7_wayTo_a43 x_3 x_6 c_7 c_8) (c_X7_wayTo_a44 x_3 x_6 c_7 c_8) (c_X7_wayTo_a45 x_3 x_6 r_9 x_10 r_11 x_12 hr_9 ex_10 hr_11 ex_12) (cz_wt3_d c_13).symm).symm, Or.inr (cz_line_of h0_ h1_ (by rw [← (c_X7_wayTo_a41 p0 p1 x_1 x_2 x_3 x_4 x_5 x_6 ex_1 ex_2 ex_3 ex_4 ex_5 ex_6), ← (c_X7_wayTo_a42 p0 p1 x_1 x_2 x_3 x_4 x_5 x_6 ex_1 ex_2 ex_3 ex_4 ex_5 ex_6)]; exact (c_X7_wayTo_a43 x_3 x_6 c_7 c_8)) (by rw [← (c_X7_wayTo_a41 p0 p1 x_1 x_2 x_3 x_4 x_5 x_6 ex_1 ex_2 ex_3 ex_4 ex_5 ex_6), ← (c_X7_wayTo_a42 p0 p1 x_1 x_2 x_3 x_4 x_5 x_6 ex_1 ex_2 ex_3 ex_4 ex_5 ex_6)]; exact (c_X7_wayTo_a44 x_3 x_6 c_7 c_8)))⟩, ht⟩) (fun _ h => absurd h List.not_mem_nil) dX7_wayTo_125
    · refine lv_iload_n hx hb dX7_wayTo_32 rfl (lv_at hl 1 rfl) ?_
      refine vp_callSi (cz_run (va_runS (As := [.int x_3]) (rest := []) ⟨hx, hb, hml, hown, hts⟩ (c_X7_sized l dC dI cI cB x_3 ) (va_cwS 1 hts gX7_wayTo_X7_sized rfl rfl rfl (by decide +kernel) ⟨Nat.le_of_ble_eq_true rfl, Nat.le_of_ble_eq_true rfl⟩) (cz_pS hP hN) rfl rfl hl.1 rfl (lv_room (Nat.le_of_ble_eq_true rfl)) dX7_wayTo_33 ⟨Nat.le_of_ble_eq_true rfl, Nat.le_of_ble_eq_true rfl⟩)) (fun r_14 hr_14 => ?_)
      refine lv_iload_n hx hb dX7_wayTo_36 rfl (lv_at hl 0 rfl) ?_
      refine vp_callSi (cz_run (va_runS (As := [.int x_6]) (rest := [.int r_14]) ⟨hx, hb, hml, hown, hts⟩ (c_X7_sized l dC dI cI cB x_6 ) (va_cwS 1 hts gX7_wayTo_X7_sized rfl rfl rfl (by decide +kernel) ⟨Nat.le_of_ble_eq_true rfl, Nat.le_of_ble_eq_true rfl⟩) (cz_pS hP hN) rfl rfl hl.1 rfl (lv_room (Nat.le_of_ble_eq_true rfl)) dX7_wayTo_37 ⟨Nat.le_of_ble_eq_true rfl, Nat.le_of_ble_eq_true rfl⟩)) (fun r_15 hr_15 => ?_)
      refine lv_icmp_eq (tgt := 45) hx hb dX7_wayTo_40 (by decide) (fun c_16 => ?_) (fun c_16 => ?_)
      · refine lv_iconst (v := 3) hx hb dX7_wayTo_45 (by decide) ?_
        refine lv_iload_n hx hb dX7_wayTo_46 rfl (lv_at hl 1 rfl) ?_
        refine vp_callSi (cz_run (va_runS (As := [.int x_3]) (rest := [.int 3]) ⟨hx, hb, hml, hown, hts⟩ (c_X7_sign l dC dI cI cB x_3 ) (va_cwS 1 hts gX7_wayTo_X7_sign rfl rfl rfl (by decide +kernel) ⟨Nat.le_of_ble_eq_true rfl, Nat.le_of_ble_eq_true rfl⟩) (cz_pS hP hN) rfl rfl hl.1 rfl (lv_room (Nat.le_of_ble_eq_true rfl)) dX7_wayTo_47 ⟨Nat.le_of_ble_eq_true rfl, Nat.le_of_ble_eq_true rfl⟩)) (fun r_17 hr_17 => ?_)
        refine lv_imul hx hb dX7_wayTo_50 ?_
        refine lv_topi (fun x_18 ex_18 => ?_)
        refine lv_iload_n hx hb dX7_wayTo_51 rfl (lv_at hl 0 rfl) ?_
        refine vp_callSi (cz_run (va_runS (As := [.int x_6]) (rest := [.int x_18]) ⟨hx, hb, hml, hown, hts⟩ (c_X7_sign l dC dI cI cB x_6 ) (va_cwS 1 hts gX7_wayTo_X7_sign rfl rfl rfl (by decide +kernel) ⟨Nat.le_of_ble_eq_true rfl, Nat.le_of_ble_eq_true rfl⟩) (cz_pS hP hN) rfl rfl hl.1 rfl (lv_room (Nat.le_of_ble_eq_true rfl)) dX7_wayTo_52 ⟨Nat.le_of_ble_eq_true rfl, Nat.le_of_ble_eq_true rfl⟩)) (fun r_19 hr_19 => ?_)
        refine lv_iadd hx hb dX7_wayTo_55 ?_
        refine lv_topi (fun x_20 ex_20 => ?_)
        refine lv_istore (lv' := [(4, .int x_20), (3, .int x_6), (2, .int x_3), (0, .int p0), (1, .int p1)]) hx hb dX7_wayTo_56 hl (by decide) rfl (fun ls hl => ?_)
        refine lv_iload hx hb dX7_wayTo_58 (lv_at hl 0 rfl) ?_
        rcases cz_sw_3_4 x_20 with c_21 | c_21 | c_21 | c_21 | c_21 | c_21 | c_21 | c_21 | c_21
        · refine lv_tableIn (off := 48) (tgt := 108) hx hb dX7_wayTo_60 (by rw [c_21]; decide) (by rw [c_21]; decide) (by rw [c_21]; decide) (by decide) ?_
          refine lv_iconst (v := 0) hx hb dX7_wayTo_108 (by decide) ?_
          rw [hQ]; exact W.iret (v := 0) hx hb hr (fun t ht hW => ⟨0, rfl, ⟨(cz_wt_c (c_X7_wayTo_a46 p0 p1 x_1 x_2 x_3 x_4 x_5 x_6 ex_1 ex_2 ex_3 ex_4 ex_5 ex_6) (c_X7_wayTo_a47 p0 p1 x_1 x_2 x_3 x_4 x_5 x_6 ex_1 ex_2 ex_3 ex_4 ex_5 ex_6) (c_X7_wayTo_a48 x_3 x_6 r_14 r_15 c_7 c_8 hr_14 hr_15 c_16) (c_X7_wayTo_a49 x_3 x_6 r_14 r_15 c_7 c_8 hr_14 hr_15 c_16) (c_X7_wayTo_a50 x_3 x_6 r_14 r_15 r_17 x_18 r_19 x_20 hr_14 hr_15 hr_17 ex_18 hr_19 ex_20) (by rw [c_21]; decide)).symm, Or.inr (cz_line_of h0_ h1_ (by rw [← (c_X7_wayTo_a46 p0 p1 x_1 x_2 x_3 x_4 x_5 x_6 ex_1 ex_2 ex_3 ex_4 ex_5 ex_6), ← (c_X7_wayTo_a47 p0 p1 x_1 x_2 x_3 x_4 x_5 x_6 ex_1 ex_2 ex_3 ex_4 ex_5 ex_6)]; exact (c_X7_wayTo_a48 x_3 x_6 r_14 r_15 c_7 c_8 hr_14 hr_15 c_16)) (by rw [← (c_X7_wayTo_a46 p0 p1 x_1 x_2 x_3 x_4 x_5 x_6 ex_1 ex_2 ex_3 ex_4 ex_5 ex_6), ← (c_X7_wayTo_a47 p0 p1 x_1 x_2 x_3 x_4 x_5 x_6 ex_1 ex_2 ex_3 ex_4 ex_5 ex_6)]; exact (c_X7_wayTo_a49 x_3 x_6 r_14 r_15 c_7 c_8 hr_14 hr_15 c_16)))⟩, ht⟩) (fun _ h => absurd h List.not_mem_nil) dX7_wayTo_109
        · refine lv_tableIn (off := 50) (tgt := 110) hx hb dX7_wayTo_60 (by rw [c_21]; decide) (by rw [c_21]; decide) (by rw [c_21]; decide) (by decide) ?_
          refine lv_iconst (v := 1) hx hb dX7_wayTo_110 (by decide) ?_
          rw [hQ]; exact W.iret (v := 1) hx hb hr (fun t ht hW => ⟨1, rfl, ⟨(cz_wt_c (c_X7_wayTo_a51 p0 p1 x_1 x_2 x_3 x_4 x_5 x_6 ex_1 ex_2 ex_3 ex_4 ex_5 ex_6) (c_X7_wayTo_a52 p0 p1 x_1 x_2 x_3 x_4 x_5 x_6 ex_1 ex_2 ex_3 ex_4 ex_5 ex_6) (c_X7_wayTo_a53 x_3 x_6 r_14 r_15 c_7 c_8 hr_14 hr_15 c_16) (c_X7_wayTo_a54 x_3 x_6 r_14 r_15 c_7 c_8 hr_14 hr_15 c_16) (c_X7_wayTo_a55 x_3 x_6 r_14 r_15 r_17 x_18 r_19 x_20 hr_14 hr_15 hr_17 ex_18 hr_19 ex_20) (by rw [c_21]; decide)).symm, Or.inr (cz_line_of h0_ h1_ (by rw [← (c_X7_wayTo_a51 p0 p1 x_1 x_2 x_3 x_4 x_5 x_6 ex_1 ex_2 ex_3 ex_4 ex_5 ex_6), ← (c_X7_wayTo_a52 p0 p1 x_1 x_2 x_3 x_4 x_5 x_6 ex_1 ex_2 ex_3 ex_4 ex_5 ex_6)]; exact (c_X7_wayTo_a53 x_3 x_6 r_14 r_15 c_7 c_8 hr_14 hr_15 c_16)) (by rw [← (c_X7_wayTo_a51 p0 p1 x_1 x_2 x_3 x_4 x_5 x_6 ex_1 ex_2 ex_3 ex_4 ex_5 ex_6), ← (c_X7_wayTo_a52 p0 p1 x_1 x_2 x_3 x_4 x_5 x_6 ex_1 ex_2 ex_3 ex_4 ex_5 ex_6)]; exact (c_X7_wayTo_a54 x_3 x_6 r_14 r_15 c_7 c_8 hr_14 hr_15 c_16)))⟩, ht⟩) (fun _ h => absurd h List.not_mem_nil) dX7_wayTo_111
        · refine lv_tableIn (off := 60) (tgt := 120) hx hb dX7_wayTo_60 (by rw [c_21]; decide) (by rw [c_21]; decide) (by rw [c_21]; decide) (by decide) ?_
          refine lv_bipush (v := 6) hx hb dX7_wayTo_120 (by decide) ?_
          rw [hQ]; exact W.iret (v := 6) hx hb hr (fun t ht hW => ⟨6, rfl, ⟨(cz_wt_c (c_X7_wayTo_a56 p0 p1 x_1 x_2 x_3 x_4 x_5 x_6 ex_1 ex_2 ex_3 ex_4 ex_5 ex_6) (c_X7_wayTo_a57 p0 p1 x_1 x_2 x_3 x_4 x_5 x_6 ex_1 ex_2 ex_3 ex_4 ex_5 ex_6) (c_X7_wayTo_a58 x_3 x_6 r_14 r_15 c_7 c_8 hr_14 hr_15 c_16) (c_X7_wayTo_a59 x_3 x_6 r_14 r_15 c_7 c_8 hr_14 hr_15 c_16) (c_X7_wayTo_a60 x_3 x_6 r_14 r_15 r_17 x_18 r_19 x_20 hr_14 hr_15 hr_17 ex_18 hr_19 ex_20) (by rw [c_21]; decide)).symm, Or.inr (cz_line_of h0_ h1_ (by rw [← (c_X7_wayTo_a56 p0 p1 x_1 x_2 x_3 x_4 x_5 x_6 ex_1 ex_2 ex_3 ex_4 ex_5 ex_6), ← (c_X7_wayTo_a57 p0 p1 x_1 x_2 x_3 x_4 x_5 x_6 ex_1 ex_2 ex_3 ex_4 ex_5 ex_6)]; exact (c_X7_wayTo_a58 x_3 x_6 r_14 r_15 c_7 c_8 hr_14 hr_15 c_16)) (by rw [← (c_X7_wayTo_a56 p0 p1 x_1 x_2 x_3 x_4 x_5 x_6 ex_1 ex_2 ex_3 ex_4 ex_5 ex_6), ← (c_X7_wayTo_a57 p0 p1 x_1 x_2 x_3 x_4 x_5 x_6 ex_1 ex_2 ex_3 ex_4 ex_5 ex_6)]; exact (c_X7_wayTo_a59 x_3 x_6 r_14 r_15 c_7 c_8 hr_14 hr_15 c_16)))⟩, ht⟩) (fun _ h => absurd h List.not_mem_nil) dX7_wayTo_122
        · refine lv_tableIn (off := 63) (tgt := 123) hx hb dX7_wayTo_60 (by rw [c_21]; decide) (by rw [c_21]; decide) (by rw [c_21]; decide) (by decide) ?_
          refine lv_bipush (v := 7) hx hb dX7_wayTo_123 (by decide) ?_
          rw [hQ]; exact W.iret (v := 7) hx hb hr (fun t ht hW => ⟨7, rfl, ⟨(cz_wt_c (c_X7_wayTo_a61 p0 p1 x_1 x_2 x_3 x_4 x_5 x_6 ex_1 ex_2 ex_3 ex_4 ex_5 ex_6) (c_X7_wayTo_a62 p0 p1 x_1 x_2 x_3 x_4 x_5 x_6 ex_1 ex_2 ex_3 ex_4 ex_5 ex_6) (c_X7_wayTo_a63 x_3 x_6 r_14 r_15 c_7 c_8 hr_14 hr_15 c_16) (c_X7_wayTo_a64 x_3 x_6 r_14 r_15 c_7 c_8 hr_14 hr_15 c_16) (c_X7_wayTo_a65 x_3 x_6 r_14 r_15 r_17 x_18 r_19 x_20 hr_14 hr_15 hr_17 ex_18 hr_19 ex_20) (by rw [c_21]; decide)).symm, Or.inr (cz_line_of h0_ h1_ (by rw [← (c_X7_wayTo_a61 p0 p1 x_1 x_2 x_3 x_4 x_5 x_6 ex_1 ex_2 ex_3 ex_4 ex_5 ex_6), ← (c_X7_wayTo_a62 p0 p1 x_1 x_2 x_3 x_4 x_5 x_6 ex_1 ex_2 ex_3 ex_4 ex_5 ex_6)]; exact (c_X7_wayTo_a63 x_3 x_6 r_14 r_15 c_7 c_8 hr_14 hr_15 c_16)) (by rw [← (c_X7_wayTo_a61 p0 p1 x_1 x_2 x_3 x_4 x_5 x_6 ex_1 ex_2 ex_3 ex_4 ex_5 ex_6), ← (c_X7_wayTo_a62 p0 p1 x_1 x_2 x_3 x_4 x_5 x_6 ex_1 ex_2 ex_3 ex_4 ex_5 ex_6)]; exact (c_X7_wayTo_a64 x_3 x_6 r_14 r_15 c_7 c_8 hr_14 hr_15 c_16)))⟩, ht⟩) (fun _ h => absurd h List.not_mem_nil) dX7_wayTo_125
        · refine lv_tableIn (off := 52) (tgt := 112) hx hb dX7_wayTo_60 (by rw [c_21]; decide) (by rw [c_21]; decide) (by rw [c_21]; decide) (by decide) ?_
          refine lv_iconst (v := 2) hx hb dX7_wayTo_112 (by decide) ?_
          rw [hQ]; exact W.iret (v := 2) hx hb hr (fun t ht hW => ⟨2, rfl, ⟨(cz_wt_c (c_X7_wayTo_a66 p0 p1 x_1 x_2 x_3 x_4 x_5 x_6 ex_1 ex_2 ex_3 ex_4 ex_5 ex_6) (c_X7_wayTo_a67 p0 p1 x_1 x_2 x_3 x_4 x_5 x_6 ex_1 ex_2 ex_3 ex_4 ex_5 ex_6) (c_X7_wayTo_a68 x_3 x_6 r_14 r_15 c_7 c_8 hr_14 hr_15 c_16) (c_X7_wayTo_a69 x_3 x_6 r_14 r_15 c_7 c_8 hr_14 hr_15 c_16) (c_X7_wayTo_a70 x_3 x_6 r_14 r_15 r_17 x_18 r_19 x_20 hr_14 hr_15 hr_17 ex_18 hr_19 ex_20) (by rw [c_21]; decide)).symm, Or.inr (cz_line_of h0_ h1_ (by rw [← (c_X7_wayTo_a66 p0 p1 x_1 x_2 x_3 x_4 x_5 x_6 ex_1 ex_2 ex_3 ex_4 ex_5 ex_6), ← (c_X7_wayTo_a67 p0 p1 x_1 x_2 x_3 x_4 x_5 x_6 ex_1 ex_2 ex_3 ex_4 ex_5 ex_6)]; exact (c_X7_wayTo_a68 x_3 x_6 r_14 r_15 c_7 c_8 hr_14 hr_15 c_16)) (by rw [← (c_X7_wayTo_a66 p0 p1 x_1 x_2 x_3 x_4 x_5 x_6 ex_1 ex_2 ex_3 ex_4 ex_5 ex_6), ← (c_X7_wayTo_a67 p0 p1 x_1 x_2 x_3 x_4 x_5 x_6 ex_1 ex_2 ex_3 ex_4 ex_5 ex_6)]; exact (c_X7_wayTo_a69 x_3 x_6 r_14 r_15 c_7 c_8 hr_14 hr_15 c_16)))⟩, ht⟩) (fun _ h => absurd h List.not_mem_nil) dX7_wayTo_113
        · refine lv_tableIn (off := 58) (tgt := 118) hx hb dX7_wayTo_60 (by rw [c_21]; decide) (by rw [c_21]; decide) (by rw [c_21]; decide) (by decide) ?_
          refine lv_iconst (v := 5) hx hb dX7_wayTo_118 (by decide) ?_
          rw [hQ]; exact W.iret (v := 5) hx hb hr (fun t ht hW => ⟨5, rfl, ⟨(cz_wt_c (c_X7_wayTo_a71 p0 p1 x_1 x_2 x_3 x_4 x_5 x_6 ex_1 ex_2 ex_3 ex_4 ex_5 ex_6) (c_X7_wayTo_a72 p0 p1 x_1 x_2 x_3 x_4 x_5 x_6 ex_1 ex_2 ex_3 ex_4 ex_5 ex_6) (c_X7_wayTo_a73 x_3 x_6 r_14 r_15 c_7 c_8 hr_14 hr_15 c_16) (c_X7_wayTo_a74 x_3 x_6 r_14 r_15 c_7 c_8 hr_14 hr_15 c_16) (c_X7_wayTo_a75 x_3 x_6 r_14 r_15 r_17 x_18 r_19 x_20 hr_14 hr_15 hr_17 ex_18 hr_19 ex_20) (by rw [c_21]; decide)).symm, Or.inr (cz_line_of h0_ h1_ (by rw [← (c_X7_wayTo_a71 p0 p1 x_1 x_2 x_3 x_4 x_5 x_6 ex_1 ex_2 ex_3 ex_4 ex_5 ex_6), ← (c_X7_wayTo_a72 p0 p1 x_1 x_2 x_3 x_4 x_5 x_6 ex_1 ex_2 ex_3 ex_4 ex_5 ex_6)]; exact (c_X7_wayTo_a73 x_3 x_6 r_14 r_15 c_7 c_8 hr_14 hr_15 c_16)) (by rw [← (c_X7_wayTo_a71 p0 p1 x_1 x_2 x_3 x_4 x_5 x_6 ex_1 ex_2 ex_3 ex_4 ex_5 ex_6), ← (c_X7_wayTo_a72 p0 p1 x_1 x_2 x_3 x_4 x_5 x_6 ex_1 ex_2 ex_3 ex_4 ex_5 ex_6)]; exact (c_X7_wayTo_a74 x_3 x_6 r_14 r_15 c_7 c_8 hr_14 hr_15 c_16)))⟩, ht⟩) (fun _ h => absurd h List.not_mem_nil) dX7_wayTo_119
        · refine lv_tableIn (off := 56) (tgt := 116) hx hb dX7_wayTo_60 (by rw [c_21]; decide) (by rw [c_21]; decide) (by rw [c_21]; decide) (by decide) ?_
          refine lv_iconst (v := 4) hx hb dX7_wayTo_116 (by decide) ?_
          rw [hQ]; exact W.iret (v := 4) hx hb hr (fun t ht hW => ⟨4, rfl, ⟨(cz_wt_c (c_X7_wayTo_a76 p0 p1 x_1 x_2 x_3 x_4 x_5 x_6 ex_1 ex_2 ex_3 ex_4 ex_5 ex_6) (c_X7_wayTo_a77 p0 p1 x_1 x_2 x_3 x_4 x_5 x_6 ex_1 ex_2 ex_3 ex_4 ex_5 ex_6) (c_X7_wayTo_a78 x_3 x_6 r_14 r_15 c_7 c_8 hr_14 hr_15 c_16) (c_X7_wayTo_a79 x_3 x_6 r_14 r_15 c_7 c_8 hr_14 hr_15 c_16) (c_X7_wayTo_a80 x_3 x_6 r_14 r_15 r_17 x_18 r_19 x_20 hr_14 hr_15 hr_17 ex_18 hr_19 ex_20) (by rw [c_21]; decide)).symm, Or.inr (cz_line_of h0_ h1_ (by rw [← (c_X7_wayTo_a76 p0 p1 x_1 x_2 x_3 x_4 x_5 x_6 ex_1 ex_2 ex_3 ex_4 ex_5 ex_6), ← (c_X7_wayTo_a77 p0 p1 x_1 x_2 x_3 x_4 x_5 x_6 ex_1 ex_2 ex_3 ex_4 ex_5 ex_6)]; exact (c_X7_wayTo_a78 x_3 x_6 r_14 r_15 c_7 c_8 hr_14 hr_15 c_16)) (by rw [← (c_X7_wayTo_a76 p0 p1 x_1 x_2 x_3 x_4 x_5 x_6 ex_1 ex_2 ex_3 ex_4 ex_5 ex_6), ← (c_X7_wayTo_a77 p0 p1 x_1 x_2 x_3 x_4 x_5 x_6 ex_1 ex_2 ex_3 ex_4 ex_5 ex_6)]; exact (c_X7_wayTo_a79 x_3 x_6 r_14 r_15 c_7 c_8 hr_14 hr_15 c_16)))⟩, ht⟩) (fun _ h => absurd h List.not_mem_nil) dX7_wayTo_117
        · refine lv_tableIn (off := 54) (tgt := 114) hx hb dX7_wayTo_60 (by rw [c_21]; decide) (by rw [c_21]; decide) (by rw [c_21]; decide) (by decide) ?_
          refine lv_iconst (v := 3) hx hb dX7_wayTo_114 (by decide) ?_
          rw [hQ]; exact W.iret (v := 3) hx hb hr (fun t ht hW => ⟨3, rfl, ⟨(cz_wt_c (c_X7_wayTo_a81 p0 p1 x_1 x_2 x_3 x_4 x_5 x_6 ex_1 ex_2 ex_3 ex_4 ex_5 ex_6) (c_X7_wayTo_a82 p0 p1 x_1 x_2 x_3 x_4 x_5 x_6 ex_1 ex_2 ex_3 ex_4 ex_5 ex_6) (c_X7_wayTo_a83 x_3 x_6 r_14 r_15 c_7 c_8 hr_14 hr_15 c_16) (c_X7_wayTo_a84 x_3 x_6 r_14 r_15 c_7 c_8 hr_14 hr_15 c_16) (c_X7_wayTo_a85 x_3 x_6 r_14 r_15 r_17 x_18 r_19 x_20 hr_14 hr_15 hr_17 ex_18 hr_19 ex_20) (by rw [c_21]; decide)).symm, Or.inr (cz_line_of h0_ h1_ (by rw [← (c_X7_wayTo_a81 p0 p1 x_1 x_2 x_3 x_4 x_5 x_6 ex_1 ex_2 ex_3 ex_4 ex_5 ex_6), ← (c_X7_wayTo_a82 p0 p1 x_1 x_2 x_3 x_4 x_5 x_6 ex_1 ex_2 ex_3 ex_4 ex_5 ex_6)]; exact (c_X7_wayTo_a83 x_3 x_6 r_14 r_15 c_7 c_8 hr_14 hr_15 c_16)) (by rw [← (c_X7_wayTo_a81 p0 p1 x_1 x_2 x_3 x_4 x_5 x_6 ex_1 ex_2 ex_3 ex_4 ex_5 ex_6), ← (c_X7_wayTo_a82 p0 p1 x_1 x_2 x_3 x_4 x_5 x_6 ex_1 ex_2 ex_3 ex_4 ex_5 ex_6)]; exact (c_X7_wayTo_a84 x_3 x_6 r_14 r_15 c_7 c_8 hr_14 hr_15 c_16)))⟩, ht⟩) (fun _ h => absurd h List.not_mem_nil) dX7_wayTo_115
        · refine lv_tableOut (tgt := 123) hx hb dX7_wayTo_60 c_21 (by decide) ?_
          refine lv_bipush (v := 7) hx hb dX7_wayTo_123 (by decide) ?_
          rw [hQ]; exact W.iret (v := 7) hx hb hr (fun t ht hW => ⟨7, rfl, ⟨(cz_wt_c (c_X7_wayTo_a86 p0 p1 x_1 x_2 x_3 x_4 x_5 x_6 ex_1 ex_2 ex_3 ex_4 ex_5 ex_6) (c_X7_wayTo_a87 p0 p1 x_1 x_2 x_3 x_4 x_5 x_6 ex_1 ex_2 ex_3 ex_4 ex_5 ex_6) (c_X7_wayTo_a88 x_3 x_6 r_14 r_15 c_7 c_8 hr_14 hr_15 c_16) (c_X7_wayTo_a89 x_3 x_6 r_14 r_15 c_7 c_8 hr_14 hr_15 c_16) (c_X7_wayTo_a90 x_3 x_6 r_14 r_15 r_17 x_18 r_19 x_20 hr_14 hr_15 hr_17 ex_18 hr_19 ex_20) (cz_wt3_d c_21).symm).symm, Or.inr (cz_line_of h0_ h1_ (by rw [← (c_X7_wayTo_a86 p0 p1 x_1 x_2 x_3 x_4 x_5 x_6 ex_1 ex_2 ex_3 ex_4 ex_5 ex_6), ← (c_X7_wayTo_a87 p0 p1 x_1 x_2 x_3 x_4 x_5 x_6 ex_1 ex_2 ex_3 ex_4 ex_5 ex_6)]; exact (c_X7_wayTo_a88 x_3 x_6 r_14 r_15 c_7 c_8 hr_14 hr_15 c_16)) (by rw [← (c_X7_wayTo_a86 p0 p1 x_1 x_2 x_3 x_4 x_5 x_6 ex_1 ex_2 ex_3 ex_4 ex_5 ex_6), ← (c_X7_wayTo_a87 p0 p1 x_1 x_2 x_3 x_4 x_5 x_6 ex_1 ex_2 ex_3 ex_4 ex_5 ex_6)]; exact (c_X7_wayTo_a89 x_3 x_6 r_14 r_15 c_7 c_8 hr_14 hr_15 c_16)))⟩, ht⟩) (fun _ h => absurd h List.not_mem_nil) dX7_wayTo_125
      · refine lv_iconst (v := (-1)) hx hb dX7_wayTo_43 (by decide) ?_
        rw [hQ]; exact W.iret (v := (-1)) hx hb hr (fun t ht hW => ⟨(-1), rfl, ⟨(cz_wt_n2 (c_X7_wayTo_a91 p0 p1 x_1 x_2 x_3 x_4 x_5 x_6 ex_1 ex_2 ex_3 ex_4 ex_5 ex_6) (c_X7_wayTo_a92 p0 p1 x_1 x_2 x_3 x_4 x_5 x_6 ex_1 ex_2 ex_3 ex_4 ex_5 ex_6) c_7 c_8 (c_X7_wayTo_a93 x_3 x_6 r_14 r_15 c_7 c_8 hr_14 hr_15 c_16)).symm, Or.inl rfl⟩, ht⟩) (fun _ h => absurd h List.not_mem_nil) dX7_wayTo_44
  · refine lv_iload_n hx hb dX7_wayTo_20 rfl (lv_at hl 0 rfl) ?_
    refine lv_if_eq (tgt := 43) hx hb dX7_wayTo_21 (by decide) (fun c_22 => ?_) (fun c_22 => ?_)
    · refine lv_iconst (v := (-1)) hx hb dX7_wayTo_43 (by decide) ?_
      rw [hQ]; exact W.iret (v := (-1)) hx hb hr (fun t ht hW => ⟨(-1), rfl, ⟨(cz_wt_n1 (c_X7_wayTo_a94 p0 p1 x_1 x_2 x_3 x_4 x_5 x_6 ex_1 ex_2 ex_3 ex_4 ex_5 ex_6) (c_X7_wayTo_a95 p0 p1 x_1 x_2 x_3 x_4 x_5 x_6 ex_1 ex_2 ex_3 ex_4 ex_5 ex_6) c_7 c_22).symm, Or.inl rfl⟩, ht⟩) (fun _ h => absurd h List.not_mem_nil) dX7_wayTo_44
    · refine lv_iload_n hx hb dX7_wayTo_24 rfl (lv_at hl 1 rfl) ?_
      refine lv_if_eq (tgt := 45) hx hb dX7_wayTo_25 (by decide) (fun _ => ?_) (fun c => absurd c_7 c)
      refine lv_iconst (v := 3) hx hb dX7_wayTo_45 (by decide) ?_
      refine lv_iload_n hx hb dX7_wayTo_46 rfl (lv_at hl 1 rfl) ?_
      refine vp_callSi (cz_run (va_runS (As := [.int x_3]) (rest := [.int 3]) ⟨hx, hb, hml, hown, hts⟩ (c_X7_sign l dC dI cI cB x_3 ) (va_cwS 1 hts gX7_wayTo_X7_sign rfl rfl rfl (by decide +kernel) ⟨Nat.le_of_ble_eq_true rfl, Nat.le_of_ble_eq_true rfl⟩) (cz_pS hP hN) rfl rfl hl.1 rfl (lv_room (Nat.le_of_ble_eq_true rfl)) dX7_wayTo_47 ⟨Nat.le_of_ble_eq_true rfl, Nat.le_of_ble_eq_true rfl⟩)) (fun r_23 hr_23 => ?_)
      refine lv_imul hx hb dX7_wayTo_50 ?_
      refine lv_topi (fun x_24 ex_24 => ?_)
      refine lv_iload_n hx hb dX7_wayTo_51 rfl (lv_at hl 0 rfl) ?_
      refine vp_callSi (cz_run (va_runS (As := [.int x_6]) (rest := [.int x_24]) ⟨hx, hb, hml, hown, hts⟩ (c_X7_sign l dC dI cI cB x_6 ) (va_cwS 1 hts gX7_wayTo_X7_sign rfl rfl rfl (by decide +kernel) ⟨Nat.le_of_ble_eq_true rfl, Nat.le_of_ble_eq_true rfl⟩) (cz_pS hP hN) rfl rfl hl.1 rfl (lv_room (Nat.le_of_ble_eq_true rfl)) dX7_wayTo_52 ⟨Nat.le_of_ble_eq_true rfl, Nat.le_of_ble_eq_true rfl⟩)) (fun r_25 hr_25 => ?_)
      refine lv_iadd hx hb dX7_wayTo_55 ?_
      refine lv_topi (fun x_26 ex_26 => ?_)
      refine lv_istore (lv' := [(4, .int x_26), (3, .int x_6), (2, .int x_3), (0, .int p0), (1, .int p1)]) hx hb dX7_wayTo_56 hl (by decide) rfl (fun ls hl => ?_)
      refine lv_iload hx hb dX7_wayTo_58 (lv_at hl 0 rfl) ?_
      rcases cz_sw_3_4 x_26 with c_27 | c_27 | c_27 | c_27 | c_27 | c_27 | c_27 | c_27 | c_27
      · refine lv_tableIn (off := 48) (tgt := 108) hx hb dX7_wayTo_60 (by rw [c_27]; decide) (by rw [c_27]; decide) (by rw [c_27]; decide) (by decide) ?_
        refine lv_iconst (v := 0) hx hb dX7_wayTo_108 (by decide) ?_
        rw [hQ]; exact W.iret (v := 0) hx hb hr (fun t ht hW => ⟨0, rfl, ⟨(cz_wt_c (c_X7_wayTo_a96 p0 p1 x_1 x_2 x_3 x_4 x_5 x_6 ex_1 ex_2 ex_3 ex_4 ex_5 ex_6) (c_X7_wayTo_a97 p0 p1 x_1 x_2 x_3 x_4 x_5 x_6 ex_1 ex_2 ex_3 ex_4 ex_5 ex_6) (c_X7_wayTo_a98 x_3 x_6 c_7 c_22) (c_X7_wayTo_a99 x_3 x_6 c_7 c_22) (c_X7_wayTo_a100 x_3 x_6 r_23 x_24 r_25 x_26 hr_23 ex_24 hr_25 ex_26) (by rw [c_27]; decide)).symm, Or.inr (cz_line_of h0_ h1_ (by rw [← (c_X7_wayTo_a96 p0 p1 x_1 x_2 x_3 x_4 x_5 x_6 ex_1 ex_2 ex_3 ex_4 ex_5 ex_6), ← (c_X7_wayTo_a97 p0 p1 x_1 x_2 x_3 x_4 x_5 x_6 ex_1 ex_2 ex_3 ex_4 ex_5 ex_6)]; exact (c_X7_wayTo_a98 x_3 x_6 c_7 c_22)) (by rw [← (c_X7_wayTo_a96 p0 p1 x_1 x_2 x_3 x_4 x_5 x_6 ex_1 ex_2 ex_3 ex_4 ex_5 ex_6), ← (c_X7_wayTo_a97 p0 p1 x_1 x_2 x_3 x_4 x_5 x_6 ex_1 ex_2 ex_3 ex_4 ex_5 ex_6)]; exact (c_X7_wayTo_a99 x_3 x_6 c_7 c_22)))⟩, ht⟩) (fun _ h => absurd h List.not_mem_nil) dX7_wayTo_109
      · refine lv_tableIn (off := 50) (tgt := 110) hx hb dX7_wayTo_60 (by rw [c_27]; decide) (by rw [c_27]; decide) (by rw [c_27]; decide) (by decide) ?_
        refine lv_iconst (v := 1) hx hb dX7_wayTo_110 (by decide) ?_
        rw [hQ]; exact W.iret (v := 1) hx hb hr (fun t ht hW => ⟨1, rfl, ⟨(cz_wt_c (c_X7_wayTo_a101 p0 p1 x_1 x_2 x_3 x_4 x_5 x_6 ex_1 ex_2 ex_3 ex_4 ex_5 ex_6) (c_X7_wayTo_a102 p0 p1 x_1 x_2 x_3 x_4 x_5 x_6 ex_1 ex_2 ex_3 ex_4 ex_5 ex_6) (c_X7_wayTo_a103 x_3 x_6 c_7 c_22) (c_X7_wayTo_a104 x_3 x_6 c_7 c_22) (c_X7_wayTo_a105 x_3 x_6 r_23 x_24 r_25 x_26 hr_23 ex_24 hr_25 ex_26) (by rw [c_27]; decide)).symm, Or.inr (cz_line_of h0_ h1_ (by rw [← (c_X7_wayTo_a101 p0 p1 x_1 x_2 x_3 x_4 x_5 x_6 ex_1 ex_2 ex_3 ex_4 ex_5 ex_6), ← (c_X7_wayTo_a102 p0 p1 x_1 x_2 x_3 x_4 x_5 x_6 ex_1 ex_2 ex_3 ex_4 ex_5 ex_6)]; exact (c_X7_wayTo_a103 x_3 x_6 c_7 c_22)) (by rw [← (c_X7_wayTo_a101 p0 p1 x_1 x_2 x_3 x_4 x_5 x_6 ex_1 ex_2 ex_3 ex_4 ex_5 ex_6), ← (c_X7_wayTo_a102 p0 p1 x_1 x_2 x_3 x_4 x_5 x_6 ex_1 ex_2 ex_3 ex_4 ex_5 ex_6)]; exact (c_X7_wayTo_a104 x_3 x_6 c_7 c_22)))⟩, ht⟩) (fun _ h => absurd h List.not_mem_nil) dX7_wayTo_111
      · refine lv_tableIn (off := 60) (tgt := 120) hx hb dX7_wayTo_60 (by rw [c_27]; decide) (by rw [c_27]; decide) (by rw [c_27]; decide) (by decide) ?_
        refine lv_bipush (v := 6) hx hb dX7_wayTo_120 (by decide) ?_
        rw [hQ]; exact W.iret (v := 6) hx hb hr (fun t ht hW => ⟨6, rfl, ⟨(cz_wt_c (c_X7_wayTo_a106 p0 p1 x_1 x_2 x_3 x_4 x_5 x_6 ex_1 ex_2 ex_3 ex_4 ex_5 ex_6) (c_X7_wayTo_a107 p0 p1 x_1 x_2 x_3 x_4 x_5 x_6 ex_1 ex_2 ex_3 ex_4 ex_5 ex_6) (c_X7_wayTo_a108 x_3 x_6 c_7 c_22) (c_X7_wayTo_a109 x_3 x_6 c_7 c_22) (c_X7_wayTo_a110 x_3 x_6 r_23 x_24 r_25 x_26 hr_23 ex_24 hr_25 ex_26) (by rw [c_27]; decide)).symm, Or.inr (cz_line_of h0_ h1_ (by rw [← (c_X7_wayTo_a106 p0 p1 x_1 x_2 x_3 x_4 x_5 x_6 ex_1 ex_2 ex_3 ex_4 ex_5 ex_6), ← (c_X7_wayTo_a107 p0 p1 x_1 x_2 x_3 x_4 x_5 x_6 ex_1 ex_2 ex_3 ex_4 ex_5 ex_6)]; exact (c_X7_wayTo_a108 x_3 x_6 c_7 c_22)) (by rw [← (c_X7_wayTo_a106 p0 p1 x_1 x_2 x_3 x_4 x_5 x_6 ex_1 ex_2 ex_3 ex_4 ex_5 ex_6), ← (c_X7_wayTo_a107 p0 p1 x_1 x_2 x_3 x_4 x_5 x_6 ex_1 ex_2 ex_3 ex_4 ex_5 ex_6)]; exact (c_X7_wayTo_a109 x_3 x_6 c_7 c_22)))⟩, ht⟩) (fun _ h => absurd h List.not_mem_nil) dX7_wayTo_122
      · refine lv_tableIn (off := 63) (tgt := 123) hx hb dX7_wayTo_60 (by rw [c_27]; decide) (by rw [c_27]; decide) (by rw [c_27]; decide) (by decide) ?_
        refine lv_bipush (v := 7) hx hb dX7_wayTo_123 (by decide) ?_
        rw [hQ]; exact W.iret (v := 7) hx hb hr (fun t ht hW => ⟨7, rfl, ⟨(cz_wt_c (c_X7_wayTo_a111 p0 p1 x_1 x_2 x_3 x_4 x_5 x_6 ex_1 ex_2 ex_3 ex_4 ex_5 ex_6) (c_X7_wayTo_a112 p0 p1 x_1 x_2 x_3 x_4 x_5 x_6 ex_1 ex_2 ex_3 ex_4 ex_5 ex_6) (c_X7_wayTo_a113 x_3 x_6 c_7 c_22) (c_X7_wayTo_a114 x_3 x_6 c_7 c_22) (c_X7_wayTo_a115 x_3 x_6 r_23 x_24 r_25 x_26 hr_23 ex_24 hr_25 ex_26) (by rw [c_27]; decide)).symm, Or.inr (cz_line_of h0_ h1_ (by rw [← (c_X7_wayTo_a111 p0 p1 x_1 x_2 x_3 x_4 x_5 x_6 ex_1 ex_2 ex_3 ex_4 ex_5 ex_6), ← (c_X7_wayTo_a112 p0 p1 x_1 x_2 x_3 x_4 x_5 x_6 ex_1 ex_2 ex_3 ex_4 ex_5 ex_6)]; exact (c_X7_wayTo_a113 x_3 x_6 c_7 c_22)) (by rw [← (c_X7_wayTo_a111 p0 p1 x_1 x_2 x_3 x_4 x_5 x_6 ex_1 ex_2 ex_3 ex_4 ex_5 ex_6), ← (c_X7_wayTo_a112 p0 p1 x_1 x_2 x_3 x_4 x_5 x_6 ex_1 ex_2 ex_3 ex_4 ex_5 ex_6)]; exact (c_X7_wayTo_a114 x_3 x_6 c_7 c_22)))⟩, ht⟩) (fun _ h => absurd h List.not_mem_nil) dX7_wayTo_125
      · refine lv_tableIn (off := 52) (tgt := 112) hx hb dX7_wayTo_60 (by rw [c_27]; decide) (by rw [c_27]; decide) (by rw [c_27]; decide) (by decide) ?_
        refine lv_iconst (v := 2) hx hb dX7_wayTo_112 (by decide) ?_
        rw [hQ]; exact W.iret (v := 2) hx hb hr (fun t ht hW => ⟨2, rfl, ⟨(cz_wt_c (c_X7_wayTo_a116 p0 p1 x_1 x_2 x_3 x_4 x_5 x_6 ex_1 ex_2 ex_3 ex_4 ex_5 ex_6) (c_X7_wayTo_a117 p0 p1 x_1 x_2 x_3 x_4 x_5 x_6 ex_1 ex_2 ex_3 ex_4 ex_5 ex_6) (c_X7_wayTo_a118 x_3 x_6 c_7 c_22) (c_X7_wayTo_a119 x_3 x_6 c_7 c_22) (c_X7_wayTo_a120 x_3 x_6 r_23 x_24 r_25 x_26 hr_23 ex_24 hr_25 ex_26) (by rw [c_27]; decide)).symm, Or.inr (cz_line_of h0_ h1_ (by rw [← (c_X7_wayTo_a116 p0 p1 x_1 x_2 x_3 x_4 x_5 x_6 ex_1 ex_2 ex_3 ex_4 ex_5 ex_6), ← (c_X7_wayTo_a117 p0 p1 x_1 x_2 x_3 x_4 x_5 x_6 ex_1 ex_2 ex_3 ex_4 ex_5 ex_6)]; exact (c_X7_wayTo_a118 x_3 x_6 c_7 c_22)) (by rw [← (c_X7_wayTo_a116 p0 p1 x_1 x_2 x_3 x_4 x_5 x_6 ex_1 ex_2 ex_3 ex_4 ex_5 ex_6), ← (c_X7_wayTo_a117 p0 p1 x_1 x_2 x_3 x_4 x_5 x_6 ex_1 ex_2 ex_3 ex_4 ex_5 ex_6)]; exact (c_X7_wayTo_a119 x_3 x_6 c_7 c_22)))⟩, ht⟩) (fun _ h => absurd h List.not_mem_nil) dX7_wayTo_113
      · refine lv_tableIn (off := 58) (tgt := 118) hx hb dX7_wayTo_60 (by rw [c_27]; decide) (by rw [c_27]; decide) (by rw [c_27]; decide) (by decide) ?_
        refine lv_iconst (v := 5) hx hb dX7_wayTo_118 (by decide) ?_
        rw [hQ]; exact W.iret (v := 5) hx hb hr (fun t ht hW => ⟨5, rfl, ⟨(cz_wt_c (c_X7_wayTo_a121 p0 p1 x_1 x_2 x_3 x_4 x_5 x_6 ex_1 ex_2 ex_3 ex_4 ex_5 ex_6) (c_X7_wayTo_a122 p0 p1 x_1 x_2 x_3 x_4 x_5 x_6 ex_1 ex_2 ex_3 ex_4 ex_5 ex_6) (c_X7_wayTo_a123 x_3 x_6 c_7 c_22) (c_X7_wayTo_a124 x_3 x_6 c_7 c_22) (c_X7_wayTo_a125 x_3 x_6 r_23 x_24 r_25 x_26 hr_23 ex_24 hr_25 ex_26) (by rw [c_27]; decide)).symm, Or.inr (cz_line_of h0_ h1_ (by rw [← (c_X7_wayTo_a121 p0 p1 x_1 x_2 x_3 x_4 x_5 x_6 ex_1 ex_2 ex_3 ex_4 ex_5 ex_6), ← (c_X7_wayTo_a122 p0 p1 x_1 x_2 x_3 x_4 x_5 x_6 ex_1 ex_2 ex_3 ex_4 ex_5 ex_6)]; exact (c_X7_wayTo_a123 x_3 x_6 c_7 c_22)) (by rw [← (c_X7_wayTo_a121 p0 p1 x_1 x_2 x_3 x_4 x_5 x_6 ex_1 ex_2 ex_3 ex_4 ex_5 ex_6), ← (c_X7_wayTo_a122 p0 p1 x_1 x_2 x_3 x_4 x_5 x_6 ex_1 ex_2 ex_3 ex_4 ex_5 ex_6)]; exact (c_X7_wayTo_a124 x_3 x_6 c_7 c_22)))⟩, ht⟩) (fun _ h => absurd h List.not_mem_nil) dX7_wayTo_119
      · refine lv_tableIn (off := 56) (tgt := 116) hx hb dX7_wayTo_60 (by rw [c_27]; decide) (by rw [c_27]; decide) (by rw [c_27]; decide) (by decide) ?_
        refine lv_iconst (v := 4) hx hb dX7_wayTo_116 (by decide) ?_
        rw [hQ]; exact W.iret (v := 4) hx hb hr (fun t ht hW => ⟨4, rfl, ⟨(cz_wt_c (c_X7_wayTo_a126 p0 p1 x_1 x_2 x_3 x_4 x_5 x_6 ex_1 ex_2 ex_3 ex_4 ex_5 ex_6) (c_X7_wayTo_a127 p0 p1 x_1 x_2 x_3 x_4 x_5 x_6 ex_1 ex_2 ex_3 ex_4 ex_5 ex_6) (c_X7_wayTo_a128 x_3 x_6 c_7 c_22) (c_X7_wayTo_a129 x_3 x_6 c_7 c_22) (c_X7_wayTo_a130 x_3 x_6 r_23 x_24 r_25 x_26 hr_23 ex_24 hr_25 ex_26) (by rw [c_27]; decide)).symm, Or.inr (cz_line_of h0_ h1_ (by rw [← (c_X7_wayTo_a126 p0 p1 x_1 x_2 x_3 x_4 x_5 x_6 ex_1 ex_2 ex_3 ex_4 ex_5 ex_6), ← (c_X7_wayTo_a127 p0 p1 x_1 x_2 x_3 x_4 x_5 x_6 ex_1 ex_2 ex_3 ex_4 ex_5 ex_6)]; exact (c_X7_wayTo_a128 x_3 x_6 c_7 c_22)) (by rw [← (c_X7_wayTo_a126 p0 p1 x_1 x_2 x_3 x_4 x_5 x_6 ex_1 ex_2 ex_3 ex_4 ex_5 ex_6), ← (c_X7_wayTo_a127 p0 p1 x_1 x_2 x_3 x_4 x_5 x_6 ex_1 ex_2 ex_3 ex_4 ex_5 ex_6)]; exact (c_X7_wayTo_a129 x_3 x_6 c_7 c_22)))⟩, ht⟩) (fun _ h => absurd h List.not_mem_nil) dX7_wayTo_117
      · refine lv_tableIn (off := 54) (tgt := 114) hx hb dX7_wayTo_60 (by rw [c_27]; decide) (by rw [c_27]; decide) (by rw [c_27]; decide) (by decide) ?_
        refine lv_iconst (v := 3) hx hb dX7_wayTo_114 (by decide) ?_
        rw [hQ]; exact W.iret (v := 3) hx hb hr (fun t ht hW => ⟨3, rfl, ⟨(cz_wt_c (c_X7_wayTo_a131 p0 p1 x_1 x_2 x_3 x_4 x_5 x_6 ex_1 ex_2 ex_3 ex_4 ex_5 ex_6) (c_X7_wayTo_a132 p0 p1 x_1 x_2 x_3 x_4 x_5 x_6 ex_1 ex_2 ex_3 ex_4 ex_5 ex_6) (c_X7_wayTo_a133 x_3 x_6 c_7 c_22) (c_X7_wayTo_a134 x_3 x_6 c_7 c_22) (c_X7_wayTo_a135 x_3 x_6 r_23 x_24 r_25 x_26 hr_23 ex_24 hr_25 ex_26) (by rw [c_27]; decide)).symm, Or.inr (cz_line_of h0_ h1_ (by rw [← (c_X7_wayTo_a131 p0 p1 x_1 x_2 x_3 x_4 x_5 x_6 ex_1 ex_2 ex_3 ex_4 ex_5 ex_6), ← (c_X7_wayTo_a132 p0 p1 x_1 x_2 x_3 x_4 x_5 x_6 ex_1 ex_2 ex_3 ex_4 ex_5 ex_6)]; exact (c_X7_wayTo_a133 x_3 x_6 c_7 c_22)) (by rw [← (c_X7_wayTo_a131 p0 p1 x_1 x_2 x_3 x_4 x_5 x_6 ex_1 ex_2 ex_3 ex_4 ex_5 ex_6), ← (c_X7_wayTo_a132 p0 p1 x_1 x_2 x_3 x_4 x_5 x_6 ex_1 ex_2 ex_3 ex_4 ex_5 ex_6)]; exact (c_X7_wayTo_a134 x_3 x_6 c_7 c_22)))⟩, ht⟩) (fun _ h => absurd h List.not_mem_nil) dX7_wayTo_115
      · refine lv_tableOut (tgt := 123) hx hb dX7_wayTo_60 c_27 (by decide) ?_
        refine lv_bipush (v := 7) hx hb dX7_wayTo_123 (by decide) ?_
        rw [hQ]; exact W.iret (v := 7) hx hb hr (fun t ht hW => ⟨7, rfl, ⟨(cz_wt_c (c_X7_wayTo_a136 p0 p1 x_1 x_2 x_3 x_4 x_5 x_6 ex_1 ex_2 ex_3 ex_4 ex_5 ex_6) (c_X7_wayTo_a137 p0 p1 x_1 x_2 x_3 x_4 x_5 x_6 ex_1 ex_2 ex_3 ex_4 ex_5 ex_6) (c_X7_wayTo_a138 x_3 x_6 c_7 c_22) (c_X7_wayTo_a139 x_3 x_6 c_7 c_22) (c_X7_wayTo_a140 x_3 x_6 r_23 x_24 r_25 x_26 hr_23 ex_24 hr_25 ex_26) (cz_wt3_d c_27).symm).symm, Or.inr (cz_line_of h0_ h1_ (by rw [← (c_X7_wayTo_a136 p0 p1 x_1 x_2 x_3 x_4 x_5 x_6 ex_1 ex_2 ex_3 ex_4 ex_5 ex_6), ← (c_X7_wayTo_a137 p0 p1 x_1 x_2 x_3 x_4 x_5 x_6 ex_1 ex_2 ex_3 ex_4 ex_5 ex_6)]; exact (c_X7_wayTo_a138 x_3 x_6 c_7 c_22)) (by rw [← (c_X7_wayTo_a136 p0 p1 x_1 x_2 x_3 x_4 x_5 x_6 ex_1 ex_2 ex_3 ex_4 ex_5 ex_6), ← (c_X7_wayTo_a137 p0 p1 x_1 x_2 x_3 x_4 x_5 x_6 ex_1 ex_2 ex_3 ex_4 ex_5 ex_6)]; exact (c_X7_wayTo_a139 x_3 x_6 c_7 c_22)))⟩, ht⟩) (fun _ h => absurd h List.not_mem_nil) dX7_wayTo_125

theorem c_X7_far_a1 (p0 : Int32) (p1 : Int32) (x_1 : Int32) (x_2 : Int32) (x_3 : Int32) (r_4 : Int32) (x_5 : Int32) (x_6 : Int32) (x_7 : Int32) (r_8 : Int32) (ex_1 : x_1 = p1 / 5) (ex_2 : x_2 = p0 / 5) (ex_3 : x_3 = x_1 - x_2) (hr_4 : r_4 = cz_abs x_3) (ex_5 : x_5 = p1 - p1 / 5 * 5) (ex_6 : x_6 = p0 - p0 / 5 * 5) (ex_7 : x_7 = x_5 - x_6) (hr_8 : r_8 = cz_abs x_7) (c_9 : r_4 ≤ r_8) : (r_8 : Int32) = cz_far p0 p1 := by first | (subst_vars; rfl) | assumption | ((try subst_vars) <;> (try simp only [cz_far, cz_dn, cz_rg]) <;> (repeat' split) <;> (first | rfl | contradiction | ((try simp only [cz_in, cz_du, cz_lt, cz_le, cz_eq, cz_l] at *) <;> (first | omega | (simp_all; done))))) | ((try subst_vars); simp only [cz_far, cz_dn, cz_rg, cz_in, *, and_self, and_true, true_and, if_true, if_false])
theorem c_X7_far_a2 (p0 : Int32) (p1 : Int32) (x_1 : Int32) (x_2 : Int32) (x_3 : Int32) (r_4 : Int32) (x_5 : Int32) (x_6 : Int32) (x_7 : Int32) (r_8 : Int32) (ex_1 : x_1 = p1 / 5) (ex_2 : x_2 = p0 / 5) (ex_3 : x_3 = x_1 - x_2) (hr_4 : r_4 = cz_abs x_3) (ex_5 : x_5 = p1 - p1 / 5 * 5) (ex_6 : x_6 = p0 - p0 / 5 * 5) (ex_7 : x_7 = x_5 - x_6) (hr_8 : r_8 = cz_abs x_7) (c_9 : ¬ r_4 ≤ r_8) : (r_4 : Int32) = cz_far p0 p1 := by first | (subst_vars; rfl) | assumption | ((try subst_vars) <;> (try simp only [cz_far, cz_dn, cz_rg]) <;> (repeat' split) <;> (first | rfl | contradiction | ((try simp only [cz_in, cz_du, cz_lt, cz_le, cz_eq, cz_l] at *) <;> (first | omega | (simp_all; done))))) | ((try subst_vars); simp only [cz_far, cz_dn, cz_rg, cz_in, *, and_self, and_true, true_and, if_true, if_false])
set_option maxHeartbeats 4000000 in
set_option maxRecDepth 100000 in
theorem c_X7_far (l : Launch) (dC : Nat → ClassId) (dI : Nat → Nat → Nat) (cI cB : ClassId) (p0 : Int32) (p1 : Int32) : Met l yX7_far wsX7_far ({ frames := 1, cells := 0, slots := 0, locals := 20 }) (cz_Pp dC dI cI cB [.int p0, .int p1] []) (vp_Si (fun r : Int32 => r = cz_far p0 p1)) 0 0 (fun _ => False) := by
  refine cz_of (cc := cX7_far) (maxL := 4) (ret := (some .int)) (by decide) rfl ?_
  intro p e s m args below meth c s₁ Q B hml hv hQ
  obtain ⟨rfl, hP, hN⟩ := hv
  have hx := B.exec
  have hb := B.bytes
  have hr := B.returns
  have hts := atoms_spec (ws := wsX7_far) B.pre
  have hown : s.vm.findClass RX7 = some m.cls := findClass_of_methodNamed B.named
  have hlocks := B.notSynchronized
  have hK := hN.1
  have hl := lv_entry ([.int p0, .int p1]) (n := 4) (Nat.le_of_ble_eq_true rfl)
  rw [lg_entry_eq]
  generalize (lg_sl ([.int p0, .int p1]) ++ List.replicate (4 - (lg_sl ([.int p0, .int p1])).length) Slot.unset).toArray = ls at hl ⊢
  have hl : lv_has ls 4 [(0, .int p0), (1, .int p1)] := hl
  refine lv_iload_n hx hb dX7_far_0 rfl (lv_at hl 1 rfl) ?_
  refine lv_iconst (v := 5) hx hb dX7_far_1 (by decide) ?_
  refine lv_idiv hx hb dX7_far_2 (by decide) ?_
  refine lv_topi (fun x_1 ex_1 => ?_)
  refine lv_iload_n hx hb dX7_far_3 rfl (lv_at hl 0 rfl) ?_
  refine lv_iconst (v := 5) hx hb dX7_far_4 (by decide) ?_
  refine lv_idiv hx hb dX7_far_5 (by decide) ?_
  refine lv_topi (fun x_2 ex_2 => ?_)
  refine lv_isub hx hb dX7_far_6 ?_
  refine lv_topi (fun x_3 ex_3 => ?_)
  refine vp_callSi (cz_run (va_runS (As := [.int x_3]) (rest := []) ⟨hx, hb, hml, hown, hts⟩ (c_X7_sized l dC dI cI cB x_3 ) (va_cwS 1 hts gX7_far_X7_sized rfl rfl rfl (by decide +kernel) ⟨Nat.le_of_ble_eq_true rfl, Nat.le_of_ble_eq_true rfl⟩) (cz_pS hP hN) rfl rfl hl.1 rfl (lv_room (Nat.le_of_ble_eq_true rfl)) dX7_far_7 ⟨Nat.le_of_ble_eq_true rfl, Nat.le_of_ble_eq_true rfl⟩)) (fun r_4 hr_4 => ?_)
  refine lv_istore_n (lv' := [(2, .int r_4), (0, .int p0), (1, .int p1)]) hx hb dX7_far_10 rfl hl (by decide) rfl (fun ls hl => ?_)
  refine lv_iload_n hx hb dX7_far_11 rfl (lv_at hl 2 rfl) ?_
  refine lv_iconst (v := 5) hx hb dX7_far_12 (by decide) ?_
  refine lv_irem hx hb dX7_far_13 (by decide) ?_
  refine lv_topi (fun x_5 ex_5 => ?_)
  refine lv_iload_n hx hb dX7_far_14 rfl (lv_at hl 1 rfl) ?_
  refine lv_iconst (v := 5) hx hb dX7_far_15 (by decide) ?_
  refine lv_irem hx hb dX7_far_16 (by decide) ?_
  refine lv_topi (fun x_6 ex_6 => ?_)
  refine lv_isub hx hb dX7_far_17 ?_
  refine lv_topi (fun x_7 ex_7 => ?_)
  refine vp_callSi (cz_run (va_runS (As := [.int x_7]) (rest := []) ⟨hx, hb, hml, hown, hts⟩ (c_X7_sized l dC dI cI cB x_7 ) (va_cwS 1 hts gX7_far_X7_sized rfl rfl rfl (by decide +kernel) ⟨Nat.le_of_ble_eq_true rfl, Nat.le_of_ble_eq_true rfl⟩) (cz_pS hP hN) rfl rfl hl.1 rfl (lv_room (Nat.le_of_ble_eq_true rfl)) dX7_far_18 ⟨Nat.le_of_ble_eq_true rfl, Nat.le_of_ble_eq_true rfl⟩)) (fun r_8 hr_8 => ?_)
  refine lv_istore_n (lv' := [(3, .int r_8), (2, .int r_4), (0, .int p0), (1, .int p1)]) hx hb dX7_far_21 rfl hl (by decide) rfl (fun ls hl => ?_)
  refine lv_iload_n hx hb dX7_far_22 rfl (lv_at hl 1 rfl) ?_
  refine lv_iload_n hx hb dX7_far_23 rfl (lv_at hl 0 rfl) ?_
  refine lv_icmp_le (tgt := 31) hx hb dX7_far_24 (by decide) (fun c_9 => ?_) (fun c_9 => ?_)
  · refine lv_iload_n hx hb dX7_far_31 rfl (lv_at hl 0 rfl) ?_
    rw [hQ]; exact W.iret (v := r_8) hx hb hr (fun t ht hW => ⟨r_8, rfl, (c_X7_far_a1 p0 p1 x_1 x_2 x_3 r_4 x_5 x_6 x_7 r_8 ex_1 ex_2 ex_3 hr_4 ex_5 ex_6 ex_7 hr_8 c_9), ht⟩) (fun _ h => absurd h List.not_mem_nil) dX7_far_32
  · refine lv_iload_n hx hb dX7_far_27 rfl (lv_at hl 1 rfl) ?_
    refine lv_goto (tgt := 32) hx hb dX7_far_28 (by decide) ?_
    rw [hQ]; exact W.iret (v := r_4) hx hb hr (fun t ht hW => ⟨r_4, rfl, (c_X7_far_a2 p0 p1 x_1 x_2 x_3 r_4 x_5 x_6 x_7 r_8 ex_1 ex_2 ex_3 hr_4 ex_5 ex_6 ex_7 hr_8 c_9), ht⟩) (fun _ h => absurd h List.not_mem_nil) dX7_far_32

set_option maxHeartbeats 4000000 in
set_option maxRecDepth 100000 in
theorem c_X7_isCourtier (l : Launch) (dC : Nat → ClassId) (dI : Nat → Nat → Nat) (cI cB : ClassId) (h0 : Nat) (p0 : Int32) (ih : Int32) (hn : Int32) (fl : Int32) (da : Int32) (ds : Int32) (ac : Int32) (kc : Nat) (m1 : Nat) (m2 : Nat) (m3 : Nat) (m4 : Nat) (m5 : Nat) (pl : Nat) (pg : Nat) (fa : Int32) (nf : Int32) (m6 : Nat) (m7 : Nat) (m8 : Nat) (sd : Int64) (ik : Int32) (kh : Int32) (km : Nat) (ka : Int32) (ks : Int32) (kac : Int32) (m9 : Nat) (m10 : Nat) (m11 : Nat) (m12 : Nat) (hv : Int64) (hkc : kc ≤ 6) : Met l yX7_isCourtier wsX7_isCourtier ({ frames := 1, cells := 0, slots := 0, locals := 22 }) (cz_Pp dC dI cI cB [.ref h0, .int p0] [(h0, .inr (7, [.int ih, .int hn, .int fl, .int da, .int ds, .int ac, .int (nI kc), .ref m1, .ref m2, .ref m3, .ref m4, .ref m5, .int (nI pl), .ref pg, .int fa, .int nf, .ref m6, .ref m7, .ref m8, .long sd, .int ik, .int kh, .int (nI km), .int ka, .int ks, .int kac, .ref m9, .ref m10, .ref m11, .ref m12, .long hv]))]) (vp_Si (fun r : Int32 => (r = 0 ∧ ¬ cz_cr kc p0) ∨ (r = 1 ∧ ∃ j : Nat, j < kc ∧ p0 = nI j))) 0 0 (fun _ => False) := by
  refine cz_of (cc := cX7_isCourtier) (maxL := 2) (ret := (some .boolean)) (by decide) rfl ?_
  intro p e s m args below meth c s₁ Q B hml hv hQ
  obtain ⟨rfl, hP, hN⟩ := hv
  have hx := B.exec
  have hb := B.bytes
  have hr := B.returns
  have hts := atoms_spec (ws := wsX7_isCourtier) B.pre
  have hown : s.vm.findClass RX7 = some m.cls := findClass_of_methodNamed B.named
  have hlocks := B.notSynchronized
  have hK := hN.1
  have hiX7 : ∀ w ∈ wsX70, w ∈ wsX7_isCourtier := (fun _ h => List.mem_cons_of_mem _ (List.mem_append_right _ h))
  have hl := lv_entry ([.ref h0, .int p0]) (n := 2) (Nat.le_of_ble_eq_true rfl)
  rw [lg_entry_eq]
  generalize (lg_sl ([.ref h0, .int p0]) ++ List.replicate (2 - (lg_sl ([.ref h0, .int p0])).length) Slot.unset).toArray = ls at hl ⊢
  have hl : lv_has ls 2 [(0, .ref h0), (1, .int p0)] := hl
  refine lv_iload_n hx hb dX7_isCourtier_0 rfl (lv_at hl 1 rfl) ?_
  refine lv_iconst (v := 0) hx hb dX7_isCourtier_1 (by decide) ?_
  refine lv_aload_n hx hb dX7_isCourtier_2 rfl (lv_at hl 0 rfl) ?_
  refine va_get (D := (dC, dI)) (ci := 7) (v := .int (nI kc)) (C := RX7) (T := TX7) (N := 31) hx hb hts hiX7 hown hK hP 0 rfl rfl 6 (by decide) (hts (.fieldLink RX7 86 "LeftProfileModel" "courtiers" "I") (List.mem_of_getElem? (i := 1) rfl)) (fun _ h9 => h9) rfl dX7_isCourtier_3 ?_
  refine lv_iconst (v := 1) hx hb dX7_isCourtier_6 (by decide) ?_
  refine lv_isub hx hb dX7_isCourtier_7 ?_
  refine lv_topi (fun x_1 ex_1 => ?_)
  refine vp_callSi (cz_run (va_runS (As := [.int p0, .int 0, .int x_1]) (rest := []) ⟨hx, hb, hml, hown, hts⟩ (c_X7_within l dC dI cI cB p0 0 x_1 ) (va_cwS 3 hts gX7_isCourtier_X7_within rfl rfl rfl (by decide +kernel) ⟨Nat.le_of_ble_eq_true rfl, Nat.le_of_ble_eq_true rfl⟩) (cz_pS (hP.sub (ws' := []) [] rfl) hN) rfl rfl hl.1 rfl (lv_room (Nat.le_of_ble_eq_true rfl)) dX7_isCourtier_8 ⟨Nat.le_of_ble_eq_true rfl, Nat.le_of_ble_eq_true rfl⟩)) (fun r_2 hr_2 => ?_)
  rcases hr_2 with ⟨rfl, hr_2⟩ | ⟨rfl, hr_2⟩
  · rw [hQ]; exact W.zret (v := 0) hx hb hr (by decide) (fun t ht hW => ⟨0, rfl, (Or.inl ⟨rfl, (cz_crI hkc (by rw [← ex_1]; exact hr_2))⟩), ht⟩) (fun _ h => absurd h List.not_mem_nil) dX7_isCourtier_11
  · rw [hQ]; exact W.zret (v := 1) hx hb hr (by decide) (fun t ht hW => ⟨1, rfl, (Or.inr (⟨rfl, cz_exI (by omega) (by rw [← ex_1]; exact hr_2)⟩)), ht⟩) (fun _ h => absurd h List.not_mem_nil) dX7_isCourtier_11

theorem c_X7_whoOn_a1 (p0 : Int32) (da : Int32) (kc : Nat) (g2 : Nat → Int32) (i17 : Nat) (y2 : Int32) (n17 : Nat) (hkc : kc ≤ 6) (c_1 : ¬ da = p0) (hi17 : i17 + (n17 + 1) = kc) (hm : y2 = cz_wo da p0 g2 i17) (c_4 : ¬ (g2 i17) = p0) : y2 = cz_wo da p0 g2 (i17 + 1) := by (try subst_vars); simp only [cz_wo]; split <;> first | rfl | contradiction
theorem c_X7_whoOn_a2 (p0 : Int32) (da : Int32) (kc : Nat) (g2 : Nat → Int32) (i17 : Nat) (y2 : Int32) (n17 : Nat) (hkc : kc ≤ 6) (c_1 : ¬ da = p0) (hi17 : i17 + (n17 + 1) = kc) (hm : y2 = cz_wo da p0 g2 i17) (c_4 : (g2 i17) = p0) : (nI i17) = cz_wo da p0 g2 (i17 + 1) := by (try subst_vars); simp only [cz_wo]; split <;> first | rfl | contradiction
theorem c_X7_whoOn_a3 (p0 : Int32) (da : Int32) (kc : Nat) (g2 : Nat → Int32) (hkc : kc ≤ 6) (c_1 : ¬ da = p0) : (-1) = cz_wo da p0 g2 0 := by simp only [cz_wo]; split <;> first | rfl | contradiction
theorem c_X7_whoOn_a4 (p0 : Int32) (da : Int32) (kc : Nat) (g2 : Nat → Int32) (i17 : Nat) (y2 : Int32) (n17 : Nat) (hkc : kc ≤ 6) (c_1 : da = p0) (hi17 : i17 + (n17 + 1) = kc) (hm : y2 = cz_wo da p0 g2 i17) (c_7 : ¬ (g2 i17) = p0) : y2 = cz_wo da p0 g2 (i17 + 1) := by (try subst_vars); simp only [cz_wo]; split <;> first | rfl | contradiction
theorem c_X7_whoOn_a5 (p0 : Int32) (da : Int32) (kc : Nat) (g2 : Nat → Int32) (i17 : Nat) (y2 : Int32) (n17 : Nat) (hkc : kc ≤ 6) (c_1 : da = p0) (hi17 : i17 + (n17 + 1) = kc) (hm : y2 = cz_wo da p0 g2 i17) (c_7 : (g2 i17) = p0) : (nI i17) = cz_wo da p0 g2 (i17 + 1) := by (try subst_vars); simp only [cz_wo]; split <;> first | rfl | contradiction
theorem c_X7_whoOn_a6 (p0 : Int32) (da : Int32) (kc : Nat) (g2 : Nat → Int32) (hkc : kc ≤ 6) (c_1 : da = p0) : 9 = cz_wo da p0 g2 0 := by simp only [cz_wo]; split <;> first | rfl | contradiction
set_option maxHeartbeats 4000000 in
set_option maxRecDepth 100000 in
theorem c_X7_whoOn (l : Launch) (dC : Nat → ClassId) (dI : Nat → Nat → Nat) (cI cB : ClassId) (h0 : Nat) (p0 : Int32) (ih : Int32) (hn : Int32) (fl : Int32) (da : Int32) (ds : Int32) (ac : Int32) (kc : Nat) (m1 : Nat) (m2 : Nat) (m3 : Nat) (m4 : Nat) (m5 : Nat) (pl : Nat) (pg : Nat) (fa : Int32) (nf : Int32) (m6 : Nat) (m7 : Nat) (m8 : Nat) (sd : Int64) (ik : Int32) (kh : Int32) (km : Nat) (ka : Int32) (ks : Int32) (kac : Int32) (m9 : Nat) (m10 : Nat) (m11 : Nat) (m12 : Nat) (hv : Int64) (g2 : Nat → Int32) (hkc : kc ≤ 6) : Met l yX7_whoOn wsX7_whoOn ({ frames := 0, cells := 0, slots := 0, locals := 0 }) (cz_Pp dC dI cI cB [.ref h0, .int p0] [(h0, .inr (7, [.int ih, .int hn, .int fl, .int da, .int ds, .int ac, .int (nI kc), .ref m1, .ref m2, .ref m3, .ref m4, .ref m5, .int (nI pl), .ref pg, .int fa, .int nf, .ref m6, .ref m7, .ref m8, .long sd, .int ik, .int kh, .int (nI km), .int ka, .int ks, .int kac, .ref m9, .ref m10, .ref m11, .ref m12, .long hv])), (m2, .inl (cI, 6, .inl g2))]) (vp_Si (fun r : Int32 => r = cz_wo da p0 g2 kc)) 0 0 (fun _ => False) := by
  refine cz_of (cc := cX7_whoOn) (maxL := 4) (ret := (some .int)) (by decide) rfl ?_
  intro p e s m args below meth c s₁ Q B hml hv hQ
  obtain ⟨rfl, hP, hN⟩ := hv
  have hx := B.exec
  have hb := B.bytes
  have hr := B.returns
  have hts := atoms_spec (ws := wsX7_whoOn) B.pre
  have hown : s.vm.findClass RX7 = some m.cls := findClass_of_methodNamed B.named
  have hlocks := B.notSynchronized
  have hK := hN.1
  have hiX7 : ∀ w ∈ wsX70, w ∈ wsX7_whoOn := (fun _ h => List.mem_cons_of_mem _ (List.mem_append_right _ h))
  have hl := lv_entry ([.ref h0, .int p0]) (n := 4) (Nat.le_of_ble_eq_true rfl)
  rw [lg_entry_eq]
  generalize (lg_sl ([.ref h0, .int p0]) ++ List.replicate (4 - (lg_sl ([.ref h0, .int p0])).length) Slot.unset).toArray = ls at hl ⊢
  have hl : lv_has ls 4 [(0, .ref h0), (1, .int p0)] := hl
  refine lv_aload_n hx hb dX7_whoOn_0 rfl (lv_at hl 0 rfl) ?_
  refine va_get (D := (dC, dI)) (ci := 7) (v := .int da) (C := RX7) (T := TX7) (N := 31) hx hb hts hiX7 hown hK hP 0 rfl rfl 3 (by decide) (hts (.fieldLink RX7 7 "LeftProfileModel" "dukeAt" "I") (List.mem_of_getElem? (i := 1) rfl)) (fun _ h9 => h9) rfl dX7_whoOn_1 ?_
  refine lv_iload_n hx hb dX7_whoOn_4 rfl (lv_at hl 1 rfl) ?_
  refine lv_icmp_ne (tgt := 13) hx hb dX7_whoOn_5 (by decide) (fun c_1 => ?_) (fun c_1 => ?_)
  · refine lv_iconst (v := (-1)) hx hb dX7_whoOn_13 (by decide) ?_
    refine lv_istore_n (lv' := [(2, .int (-1)), (0, .ref h0), (1, .int p0)]) hx hb dX7_whoOn_14 rfl hl (by decide) rfl (fun ls hl => ?_)
    refine lv_iconst (v := 0) hx hb dX7_whoOn_15 (by decide) ?_
    refine lv_istore_n (lv' := [(3, .int 0), (2, .int (-1)), (0, .ref h0), (1, .int p0)]) hx hb dX7_whoOn_16 rfl hl (by decide) rfl (fun ls hl => ?_)
    have lp17 : ∀ (n17 : Nat) (i17 : Nat) (y2 : Int32) (ls : Array Slot), i17 + n17 = kc → y2 = cz_wo da p0 g2 i17 → lv_has ls 4 [(0, .ref h0), (1, .int p0), (2, .int y2), (3, .int (nI i17))] → W p l e ({ frames := 0, cells := 0, slots := 0, locals := 0 } : Room) s m #[Value.ref h0, Value.int p0] below meth c s.heap [] 0 0 Q (F0 m 17 ls []) := by
      intro n17
      induction n17 with
      | zero =>
        intro i17 y2 ls hi17 hm hl
        obtain rfl : kc = i17 := by omega
        refine lv_iload_n hx hb dX7_whoOn_17 rfl (lv_at hl 3 rfl) ?_
        refine lv_aload_n hx hb dX7_whoOn_18 rfl (lv_at hl 0 rfl) ?_
        refine va_get (D := (dC, dI)) (ci := 7) (v := .int (nI kc)) (C := RX7) (T := TX7) (N := 31) hx hb hts hiX7 hown hK hP 0 rfl rfl 6 (by decide) (hts (.fieldLink RX7 86 "LeftProfileModel" "courtiers" "I") (List.mem_of_getElem? (i := 2) rfl)) (fun _ h9 => h9) rfl dX7_whoOn_19 ?_
        refine lv_icmp_ge (tgt := 47) hx hb dX7_whoOn_22 (by decide) (fun c_2 => ?_) (fun c_2 => ?_)
        · refine lv_iload_n hx hb dX7_whoOn_47 rfl (lv_at hl 2 rfl) ?_
          rw [hQ]; exact W.iret (v := y2) hx hb hr (fun t ht hW => ⟨y2, rfl, hm, ht⟩) (fun _ h => absurd h List.not_mem_nil) dX7_whoOn_48
        · exact absurd (show nI kc ≤ nI kc from nI_le (a := kc) (b := kc) (by omega) (by omega)) c_2
      | succ n17 ih17 =>
        intro i17 y2 ls hi17 hm hl
        refine lv_iload_n hx hb dX7_whoOn_17 rfl (lv_at hl 3 rfl) ?_
        refine lv_aload_n hx hb dX7_whoOn_18 rfl (lv_at hl 0 rfl) ?_
        refine va_get (D := (dC, dI)) (ci := 7) (v := .int (nI kc)) (C := RX7) (T := TX7) (N := 31) hx hb hts hiX7 hown hK hP 0 rfl rfl 6 (by decide) (hts (.fieldLink RX7 86 "LeftProfileModel" "courtiers" "I") (List.mem_of_getElem? (i := 2) rfl)) (fun _ h9 => h9) rfl dX7_whoOn_19 ?_
        refine lv_icmp_ge (tgt := 47) hx hb dX7_whoOn_22 (by decide) (fun c_3 => ?_) (fun c_3 => ?_)
        · exact absurd c_3 (show ¬ nI kc ≤ nI i17 from nI_ge (a := i17) (b := kc) (by omega) (by omega))
        · refine lv_aload_n hx hb dX7_whoOn_25 rfl (lv_at hl 0 rfl) ?_
          refine va_get (D := (dC, dI)) (ci := 7) (v := .ref m2) (C := RX7) (T := TX7) (N := 31) hx hb hts hiX7 hown hK hP 0 rfl rfl 8 (by decide) (hts (.fieldLink RX7 20 "LeftProfileModel" "placeOf" "[I") (List.mem_of_getElem? (i := 3) rfl)) (fun _ h9 => h9) rfl dX7_whoOn_26 ?_
          refine lv_iload_n hx hb dX7_whoOn_29 rfl (lv_at hl 3 rfl) ?_
          refine va_iald hx hb hK hP 1 0 rfl rfl (vp_in_nI (n := i17) (by omega) (by omega)) dX7_whoOn_30 ?_
          refine cz_i (y := (g2 i17)) (congrArg g2 (nI_clamp (n := i17) (by omega))) ?_
          refine lv_iload_n hx hb dX7_whoOn_31 rfl (lv_at hl 1 rfl) ?_
          refine lv_icmp_ne (tgt := 39) hx hb dX7_whoOn_32 (by decide) (fun c_4 => ?_) (fun c_4 => ?_)
          · refine lv_iload_n hx hb dX7_whoOn_39 rfl (lv_at hl 2 rfl) ?_
            refine lv_istore_n (lv' := [(2, .int y2), (0, .ref h0), (1, .int p0), (3, .int (nI i17))]) hx hb dX7_whoOn_40 rfl hl (by decide) rfl (fun ls hl => ?_)
            refine lv_iinc (v := (nI (i17 + 1))) (lv' := [(3, .int (nI (i17 + 1))), (2, .int y2), (0, .ref h0), (1, .int p0)]) hx hb dX7_whoOn_41 hl (k := 3) rfl (nI_add i17 1) (by decide) rfl (fun ls hl => ?_)
            refine lv_goto (tgt := 17) hx hb dX7_whoOn_44 (by decide) ?_
            exact ih17 (i17 + 1) y2 ls (by omega) (c_X7_whoOn_a1 p0 da kc g2 i17 y2 n17 hkc c_1 hi17 hm c_4) (lv_sub hl [2, 3, 1, 0] rfl)
          · refine lv_iload_n hx hb dX7_whoOn_35 rfl (lv_at hl 3 rfl) ?_
            refine lv_goto (tgt := 40) hx hb dX7_whoOn_36 (by decide) ?_
            refine lv_istore_n (lv' := [(2, .int (nI i17)), (0, .ref h0), (1, .int p0), (3, .int (nI i17))]) hx hb dX7_whoOn_40 rfl hl (by decide) rfl (fun ls hl => ?_)
            refine lv_iinc (v := (nI (i17 + 1))) (lv' := [(3, .int (nI (i17 + 1))), (2, .int (nI i17)), (0, .ref h0), (1, .int p0)]) hx hb dX7_whoOn_41 hl (k := 3) rfl (nI_add i17 1) (by decide) rfl (fun ls hl => ?_)
            refine lv_goto (tgt := 17) hx hb dX7_whoOn_44 (by decide) ?_
            exact ih17 (i17 + 1) (nI i17) ls (by omega) (c_X7_whoOn_a2 p0 da kc g2 i17 y2 n17 hkc c_1 hi17 hm c_4) (lv_sub hl [2, 3, 1, 0] rfl)
    exact lp17 kc 0 (-1) ls (by omega) (c_X7_whoOn_a3 p0 da kc g2 hkc c_1) (lv_sub hl [2, 3, 1, 0] rfl)
  · refine lv_bipush (v := 9) hx hb dX7_whoOn_8 (by decide) ?_
    refine lv_goto (tgt := 14) hx hb dX7_whoOn_10 (by decide) ?_
    refine lv_istore_n (lv' := [(2, .int 9), (0, .ref h0), (1, .int p0)]) hx hb dX7_whoOn_14 rfl hl (by decide) rfl (fun ls hl => ?_)
    refine lv_iconst (v := 0) hx hb dX7_whoOn_15 (by decide) ?_
    refine lv_istore_n (lv' := [(3, .int 0), (2, .int 9), (0, .ref h0), (1, .int p0)]) hx hb dX7_whoOn_16 rfl hl (by decide) rfl (fun ls hl => ?_)
    have lp17 : ∀ (n17 : Nat) (i17 : Nat) (y2 : Int32) (ls : Array Slot), i17 + n17 = kc → y2 = cz_wo da p0 g2 i17 → lv_has ls 4 [(0, .ref h0), (1, .int p0), (2, .int y2), (3, .int (nI i17))] → W p l e ({ frames := 0, cells := 0, slots := 0, locals := 0 } : Room) s m #[Value.ref h0, Value.int p0] below meth c s.heap [] 0 0 Q (F0 m 17 ls []) := by
      intro n17
      induction n17 with
      | zero =>
        intro i17 y2 ls hi17 hm hl
        obtain rfl : kc = i17 := by omega
        refine lv_iload_n hx hb dX7_whoOn_17 rfl (lv_at hl 3 rfl) ?_
        refine lv_aload_n hx hb dX7_whoOn_18 rfl (lv_at hl 0 rfl) ?_
        refine va_get (D := (dC, dI)) (ci := 7) (v := .int (nI kc)) (C := RX7) (T := TX7) (N := 31) hx hb hts hiX7 hown hK hP 0 rfl rfl 6 (by decide) (hts (.fieldLink RX7 86 "LeftProfileModel" "courtiers" "I") (List.mem_of_getElem? (i := 2) rfl)) (fun _ h9 => h9) rfl dX7_whoOn_19 ?_
        refine lv_icmp_ge (tgt := 47) hx hb dX7_whoOn_22 (by decide) (fun c_5 => ?_) (fun c_5 => ?_)
        · refine lv_iload_n hx hb dX7_whoOn_47 rfl (lv_at hl 2 rfl) ?_
          rw [hQ]; exact W.iret (v := y2) hx hb hr (fun t ht hW => ⟨y2, rfl, hm, ht⟩) (fun _ h => absurd h List.not_mem_nil) dX7_whoOn_48
        · exact absurd (show nI kc ≤ nI kc from nI_le (a := kc) (b := kc) (by omega) (by omega)) c_5
      | succ n17 ih17 =>
        intro i17 y2 ls hi17 hm hl
        refine lv_iload_n hx hb dX7_whoOn_17 rfl (lv_at hl 3 rfl) ?_
        refine lv_aload_n hx hb dX7_whoOn_18 rfl (lv_at hl 0 rfl) ?_
        refine va_get (D := (dC, dI)) (ci := 7) (v := .int (nI kc)) (C := RX7) (T := TX7) (N := 31) hx hb hts hiX7 hown hK hP 0 rfl rfl 6 (by decide) (hts (.fieldLink RX7 86 "LeftProfileModel" "courtiers" "I") (List.mem_of_getElem? (i := 2) rfl)) (fun _ h9 => h9) rfl dX7_whoOn_19 ?_
        refine lv_icmp_ge (tgt := 47) hx hb dX7_whoOn_22 (by decide) (fun c_6 => ?_) (fun c_6 => ?_)
        · exact absurd c_6 (show ¬ nI kc ≤ nI i17 from nI_ge (a := i17) (b := kc) (by omega) (by omega))
        · refine lv_aload_n hx hb dX7_whoOn_25 rfl (lv_at hl 0 rfl) ?_
          refine va_get (D := (dC, dI)) (ci := 7) (v := .ref m2) (C := RX7) (T := TX7) (N := 31) hx hb hts hiX7 hown hK hP 0 rfl rfl 8 (by decide) (hts (.fieldLink RX7 20 "LeftProfileModel" "placeOf" "[I") (List.mem_of_getElem? (i := 3) rfl)) (fun _ h9 => h9) rfl dX7_whoOn_26 ?_
          refine lv_iload_n hx hb dX7_whoOn_29 rfl (lv_at hl 3 rfl) ?_
          refine va_iald hx hb hK hP 1 0 rfl rfl (vp_in_nI (n := i17) (by omega) (by omega)) dX7_whoOn_30 ?_
          refine cz_i (y := (g2 i17)) (congrArg g2 (nI_clamp (n := i17) (by omega))) ?_
          refine lv_iload_n hx hb dX7_whoOn_31 rfl (lv_at hl 1 rfl) ?_
          refine lv_icmp_ne (tgt := 39) hx hb dX7_whoOn_32 (by decide) (fun c_7 => ?_) (fun c_7 => ?_)
          · refine lv_iload_n hx hb dX7_whoOn_39 rfl (lv_at hl 2 rfl) ?_
            refine lv_istore_n (lv' := [(2, .int y2), (0, .ref h0), (1, .int p0), (3, .int (nI i17))]) hx hb dX7_whoOn_40 rfl hl (by decide) rfl (fun ls hl => ?_)
            refine lv_iinc (v := (nI (i17 + 1))) (lv' := [(3, .int (nI (i17 + 1))), (2, .int y2), (0, .ref h0), (1, .int p0)]) hx hb dX7_whoOn_41 hl (k := 3) rfl (nI_add i17 1) (by decide) rfl (fun ls hl => ?_)
            refine lv_goto (tgt := 17) hx hb dX7_whoOn_44 (by decide) ?_
            exact ih17 (i17 + 1) y2 ls (by omega) (c_X7_whoOn_a4 p0 da kc g2 i17 y2 n17 hkc c_1 hi17 hm c_7) (lv_sub hl [2, 3, 1, 0] rfl)
          · refine lv_iload_n hx hb dX7_whoOn_35 rfl (lv_at hl 3 rfl) ?_
            refine lv_goto (tgt := 40) hx hb dX7_whoOn_36 (by decide) ?_
            refine lv_istore_n (lv' := [(2, .int (nI i17)), (0, .ref h0), (1, .int p0), (3, .int (nI i17))]) hx hb dX7_whoOn_40 rfl hl (by decide) rfl (fun ls hl => ?_)
            refine lv_iinc (v := (nI (i17 + 1))) (lv' := [(3, .int (nI (i17 + 1))), (2, .int (nI i17)), (0, .ref h0), (1, .int p0)]) hx hb dX7_whoOn_41 hl (k := 3) rfl (nI_add i17 1) (by decide) rfl (fun ls hl => ?_)
            refine lv_goto (tgt := 17) hx hb dX7_whoOn_44 (by decide) ?_
            exact ih17 (i17 + 1) (nI i17) ls (by omega) (c_X7_whoOn_a5 p0 da kc g2 i17 y2 n17 hkc c_1 hi17 hm c_7) (lv_sub hl [2, 3, 1, 0] rfl)
    exact lp17 kc 0 9 ls (by omega) (c_X7_whoOn_a6 p0 da kc g2 hkc c_1) (lv_sub hl [2, 3, 1, 0] rfl)

theorem c_X7_onNow_a1 (p0 : Int32) (fl : Int32) (da : Int32) (kc : Nat) (g2 : Nat → Int32) (hkc : kc ≤ 6) (hr_1 : ¬ cz_hs fl p0) : ((-2) : Int32) = (if cz_hs fl p0 then cz_wo da p0 g2 kc else -2) := by first | (subst_vars; rfl) | assumption | ((try subst_vars) <;> (repeat' split) <;> (first | rfl | contradiction | ((try simp only [cz_in, cz_du, cz_lt, cz_le, cz_eq, cz_l] at *) <;> (first | omega | (simp_all; done))))) | ((try subst_vars); simp only [cz_in, *, and_self, and_true, true_and, if_true, if_false])
theorem c_X7_onNow_a2 (p0 : Int32) (fl : Int32) (da : Int32) (kc : Nat) (g2 : Nat → Int32) (r_2 : Int32) (hkc : kc ≤ 6) (hr_1 : cz_hs fl p0) (hr_2 : r_2 = cz_wo da p0 g2 kc) : (r_2 : Int32) = (if cz_hs fl p0 then cz_wo da p0 g2 kc else -2) := by first | (subst_vars; rfl) | assumption | ((try subst_vars) <;> (repeat' split) <;> (first | rfl | contradiction | ((try simp only [cz_in, cz_du, cz_lt, cz_le, cz_eq, cz_l] at *) <;> (first | omega | (simp_all; done))))) | ((try subst_vars); simp only [cz_in, *, and_self, and_true, true_and, if_true, if_false])
set_option maxHeartbeats 4000000 in
set_option maxRecDepth 100000 in
theorem c_X7_onNow (l : Launch) (dC : Nat → ClassId) (dI : Nat → Nat → Nat) (cI cB : ClassId) (h0 : Nat) (p0 : Int32) (ih : Int32) (hn : Int32) (fl : Int32) (da : Int32) (ds : Int32) (ac : Int32) (kc : Nat) (m1 : Nat) (m2 : Nat) (m3 : Nat) (m4 : Nat) (m5 : Nat) (pl : Nat) (pg : Nat) (fa : Int32) (nf : Int32) (m6 : Nat) (m7 : Nat) (m8 : Nat) (sd : Int64) (ik : Int32) (kh : Int32) (km : Nat) (ka : Int32) (ks : Int32) (kac : Int32) (m9 : Nat) (m10 : Nat) (m11 : Nat) (m12 : Nat) (hv : Int64) (g2 : Nat → Int32) (hkc : kc ≤ 6) : Met l yX7_onNow wsX7_onNow ({ frames := 1, cells := 0, slots := 0, locals := 23 }) (cz_Pp dC dI cI cB [.ref h0, .int p0] [(h0, .inr (7, [.int ih, .int hn, .int fl, .int da, .int ds, .int ac, .int (nI kc), .ref m1, .ref m2, .ref m3, .ref m4, .ref m5, .int (nI pl), .ref pg, .int fa, .int nf, .ref m6, .ref m7, .ref m8, .long sd, .int ik, .int kh, .int (nI km), .int ka, .int ks, .int kac, .ref m9, .ref m10, .ref m11, .ref m12, .long hv])), (m2, .inl (cI, 6, .inl g2))]) (vp_Si (fun r : Int32 => r = (if cz_hs fl p0 then cz_wo da p0 g2 kc else -2))) 0 0 (fun _ => False) := by
  refine cz_of (cc := cX7_onNow) (maxL := 2) (ret := (some .int)) (by decide) rfl ?_
  intro p e s m args below meth c s₁ Q B hml hv hQ
  obtain ⟨rfl, hP, hN⟩ := hv
  have hx := B.exec
  have hb := B.bytes
  have hr := B.returns
  have hts := atoms_spec (ws := wsX7_onNow) B.pre
  have hown : s.vm.findClass RX7 = some m.cls := findClass_of_methodNamed B.named
  have hlocks := B.notSynchronized
  have hK := hN.1
  have hiX7 : ∀ w ∈ wsX70, w ∈ wsX7_onNow := (fun _ h => List.mem_cons_of_mem _ (List.mem_append_right _ h))
  have hl := lv_entry ([.ref h0, .int p0]) (n := 2) (Nat.le_of_ble_eq_true rfl)
  rw [lg_entry_eq]
  generalize (lg_sl ([.ref h0, .int p0]) ++ List.replicate (2 - (lg_sl ([.ref h0, .int p0])).length) Slot.unset).toArray = ls at hl ⊢
  have hl : lv_has ls 2 [(0, .ref h0), (1, .int p0)] := hl
  refine lv_aload_n hx hb dX7_onNow_0 rfl (lv_at hl 0 rfl) ?_
  refine va_get (D := (dC, dI)) (ci := 7) (v := .int fl) (C := RX7) (T := TX7) (N := 31) hx hb hts hiX7 hown hK hP 0 rfl rfl 2 (by decide) (hts (.fieldLink RX7 73 "LeftProfileModel" "floor" "I") (List.mem_of_getElem? (i := 1) rfl)) (fun _ h9 => h9) rfl dX7_onNow_1 ?_
  refine lv_iload_n hx hb dX7_onNow_4 rfl (lv_at hl 1 rfl) ?_
  refine vp_callSi (cz_run (va_runS (As := [.int fl, .int p0]) (rest := []) ⟨hx, hb, hml, hown, hts⟩ (c_X7_has l dC dI cI cB fl p0 ) (va_cwS 2 hts gX7_onNow_X7_has rfl rfl rfl (by decide +kernel) ⟨Nat.le_of_ble_eq_true rfl, Nat.le_of_ble_eq_true rfl⟩) (cz_pS (hP.sub (ws' := []) [] rfl) hN) rfl rfl hl.1 rfl (lv_room (Nat.le_of_ble_eq_true rfl)) dX7_onNow_5 ⟨Nat.le_of_ble_eq_true rfl, Nat.le_of_ble_eq_true rfl⟩)) (fun r_1 hr_1 => ?_)
  rcases hr_1 with ⟨rfl, hr_1⟩ | ⟨rfl, hr_1⟩
  · refine lv_if_eq (tgt := 19) hx hb dX7_onNow_8 (by decide) (fun _ => ?_) (fun c => absurd (by decide) c)
    refine lv_bipush (v := (-2)) hx hb dX7_onNow_19 (by decide) ?_
    rw [hQ]; exact W.iret (v := (-2)) hx hb hr (fun t ht hW => ⟨(-2), rfl, (c_X7_onNow_a1 p0 fl da kc g2 hkc hr_1), ht⟩) (fun _ h => absurd h List.not_mem_nil) dX7_onNow_21
  · refine lv_if_eq (tgt := 19) hx hb dX7_onNow_8 (by decide) (fun c => absurd c (by decide)) (fun _ => ?_)
    refine lv_aload_n hx hb dX7_onNow_11 rfl (lv_at hl 0 rfl) ?_
    refine lv_iload_n hx hb dX7_onNow_12 rfl (lv_at hl 1 rfl) ?_
    refine vp_callSi (cz_run (va_runV (As := [.int p0]) (rest := []) ⟨hx, hb, hml, hown, hts⟩ (c_X7_whoOn l dC dI cI cB h0 p0 ih hn fl da ds ac kc m1 m2 m3 m4 m5 pl pg fa nf m6 m7 m8 sd ik kh km ka ks kac m9 m10 m11 m12 hv g2 hkc) (cwV 1 hts gX7_onNow_X7_whoOn rfl rfl rfl (by decide +kernel) ⟨Nat.le_of_ble_eq_true rfl, Nat.le_of_ble_eq_true rfl⟩) (cz_pV hP hN (va_recv hK hP (ci := 7) (q0 := 0) rfl rfl)) rfl rfl hl.1 rfl (lv_room (Nat.le_of_ble_eq_true rfl)) dX7_onNow_13 ⟨Nat.le_of_ble_eq_true rfl, Nat.le_of_ble_eq_true rfl⟩)) (fun r_2 hr_2 => ?_)
    refine lv_goto (tgt := 21) hx hb dX7_onNow_16 (by decide) ?_
    rw [hQ]; exact W.iret (v := r_2) hx hb hr (fun t ht hW => ⟨r_2, rfl, (c_X7_onNow_a2 p0 fl da kc g2 r_2 hkc hr_1 hr_2), ht⟩) (fun _ h => absurd h List.not_mem_nil) dX7_onNow_21

theorem c_X7_isEmpty_a1 (p0 : Int32) (fl : Int32) (da : Int32) (kc : Nat) (g2 : Nat → Int32) (hkc : kc ≤ 6) (hr_1 : ¬ cz_hs fl p0) : ¬ cz_em fl da p0 g2 kc := by first | (subst_vars; rfl) | assumption | ((try subst_vars) <;> (try simp only [cz_em]) <;> (repeat' split) <;> (first | rfl | contradiction | ((try simp only [cz_in, cz_du, cz_lt, cz_le, cz_eq, cz_l] at *) <;> (first | omega | (simp_all; done))))) | ((try subst_vars); simp only [cz_em, cz_in, *, and_self, and_true, true_and, if_true, if_false])
theorem c_X7_isEmpty_a2 (p0 : Int32) (fl : Int32) (da : Int32) (kc : Nat) (g2 : Nat → Int32) (r_2 : Int32) (hkc : kc ≤ 6) (hr_1 : cz_hs fl p0) (hr_2 : r_2 = cz_wo da p0 g2 kc) (c_3 : ¬ r_2 = (-1)) : ¬ cz_em fl da p0 g2 kc := by first | (subst_vars; rfl) | assumption | ((try subst_vars) <;> (try simp only [cz_em]) <;> (repeat' split) <;> (first | rfl | contradiction | ((try simp only [cz_in, cz_du, cz_lt, cz_le, cz_eq, cz_l] at *) <;> (first | omega | (simp_all; done))))) | ((try subst_vars); simp only [cz_em, cz_in, *, and_self, and_true, true_and, if_true, if_false])
theorem c_X7_isEmpty_a3 (p0 : Int32) (fl : Int32) (da : Int32) (kc : Nat) (g2 : Nat → Int32) (r_2 : Int32) (hkc : kc ≤ 6) (hr_1 : cz_hs fl p0) (hr_2 : r_2 = cz_wo da p0 g2 kc) (c_3 : r_2 = (-1)) : cz_em fl da p0 g2 kc := by first | (subst_vars; rfl) | assumption | ((try subst_vars) <;> (try simp only [cz_em]) <;> (repeat' split) <;> (first | rfl | contradiction | ((try simp only [cz_in, cz_du, cz_lt, cz_le, cz_eq, cz_l] at *) <;> (first | omega | (simp_all; done))))) | ((try subst_vars); simp only [cz_em, cz_in, *, and_self, and_true, true_and, if_true, if_false])
set_option maxHeartbeats 4000000 in
set_option maxRecDepth 100000 in
theorem c_X7_isEmpty (l : Launch) (dC : Nat → ClassId) (dI : Nat → Nat → Nat) (cI cB : ClassId) (h0 : Nat) (p0 : Int32) (ih : Int32) (hn : Int32) (fl : Int32) (da : Int32) (ds : Int32) (ac : Int32) (kc : Nat) (m1 : Nat) (m2 : Nat) (m3 : Nat) (m4 : Nat) (m5 : Nat) (pl : Nat) (pg : Nat) (fa : Int32) (nf : Int32) (m6 : Nat) (m7 : Nat) (m8 : Nat) (sd : Int64) (ik : Int32) (kh : Int32) (km : Nat) (ka : Int32) (ks : Int32) (kac : Int32) (m9 : Nat) (m10 : Nat) (m11 : Nat) (m12 : Nat) (hv : Int64) (g2 : Nat → Int32) (hkc : kc ≤ 6) : Met l yX7_isEmpty wsX7_isEmpty ({ frames := 1, cells := 0, slots := 0, locals := 23 }) (cz_Pp dC dI cI cB [.ref h0, .int p0] [(h0, .inr (7, [.int ih, .int hn, .int fl, .int da, .int ds, .int ac, .int (nI kc), .ref m1, .ref m2, .ref m3, .ref m4, .ref m5, .int (nI pl), .ref pg, .int fa, .int nf, .ref m6, .ref m7, .ref m8, .long sd, .int ik, .int kh, .int (nI km), .int ka, .int ks, .int kac, .ref m9, .ref m10, .ref m11, .ref m12, .long hv])), (m2, .inl (cI, 6, .inl g2))]) (vp_Si (fun r : Int32 => (r = 0 ∧ ¬ cz_em fl da p0 g2 kc) ∨ (r = 1 ∧ cz_em fl da p0 g2 kc))) 0 0 (fun _ => False) := by
  refine cz_of (cc := cX7_isEmpty) (maxL := 2) (ret := (some .boolean)) (by decide) rfl ?_
  intro p e s m args below meth c s₁ Q B hml hv hQ
  obtain ⟨rfl, hP, hN⟩ := hv
  have hx := B.exec
  have hb := B.bytes
  have hr := B.returns
  have hts := atoms_spec (ws := wsX7_isEmpty) B.pre
  have hown : s.vm.findClass RX7 = some m.cls := findClass_of_methodNamed B.named
  have hlocks := B.notSynchronized
  have hK := hN.1
  have hiX7 : ∀ w ∈ wsX70, w ∈ wsX7_isEmpty := (fun _ h => List.mem_cons_of_mem _ (List.mem_append_right _ h))
  have hl := lv_entry ([.ref h0, .int p0]) (n := 2) (Nat.le_of_ble_eq_true rfl)
  rw [lg_entry_eq]
  generalize (lg_sl ([.ref h0, .int p0]) ++ List.replicate (2 - (lg_sl ([.ref h0, .int p0])).length) Slot.unset).toArray = ls at hl ⊢
  have hl : lv_has ls 2 [(0, .ref h0), (1, .int p0)] := hl
  refine lv_aload_n hx hb dX7_isEmpty_0 rfl (lv_at hl 0 rfl) ?_
  refine va_get (D := (dC, dI)) (ci := 7) (v := .int fl) (C := RX7) (T := TX7) (N := 31) hx hb hts hiX7 hown hK hP 0 rfl rfl 2 (by decide) (hts (.fieldLink RX7 73 "LeftProfileModel" "floor" "I") (List.mem_of_getElem? (i := 1) rfl)) (fun _ h9 => h9) rfl dX7_isEmpty_1 ?_
  refine lv_iload_n hx hb dX7_isEmpty_4 rfl (lv_at hl 1 rfl) ?_
  refine vp_callSi (cz_run (va_runS (As := [.int fl, .int p0]) (rest := []) ⟨hx, hb, hml, hown, hts⟩ (c_X7_has l dC dI cI cB fl p0 ) (va_cwS 2 hts gX7_isEmpty_X7_has rfl rfl rfl (by decide +kernel) ⟨Nat.le_of_ble_eq_true rfl, Nat.le_of_ble_eq_true rfl⟩) (cz_pS (hP.sub (ws' := []) [] rfl) hN) rfl rfl hl.1 rfl (lv_room (Nat.le_of_ble_eq_true rfl)) dX7_isEmpty_5 ⟨Nat.le_of_ble_eq_true rfl, Nat.le_of_ble_eq_true rfl⟩)) (fun r_1 hr_1 => ?_)
  rcases hr_1 with ⟨rfl, hr_1⟩ | ⟨rfl, hr_1⟩
  · refine lv_if_eq (tgt := 24) hx hb dX7_isEmpty_8 (by decide) (fun _ => ?_) (fun c => absurd (by decide) c)
    refine lv_iconst (v := 0) hx hb dX7_isEmpty_24 (by decide) ?_
    rw [hQ]; exact W.zret (v := 0) hx hb hr (by decide) (fun t ht hW => ⟨0, rfl, (Or.inl ⟨rfl, (c_X7_isEmpty_a1 p0 fl da kc g2 hkc hr_1)⟩), ht⟩) (fun _ h => absurd h List.not_mem_nil) dX7_isEmpty_25
  · refine lv_if_eq (tgt := 24) hx hb dX7_isEmpty_8 (by decide) (fun c => absurd c (by decide)) (fun _ => ?_)
    refine lv_aload_n hx hb dX7_isEmpty_11 rfl (lv_at hl 0 rfl) ?_
    refine lv_iload_n hx hb dX7_isEmpty_12 rfl (lv_at hl 1 rfl) ?_
    refine vp_callSi (cz_run (va_runV (As := [.int p0]) (rest := []) ⟨hx, hb, hml, hown, hts⟩ (c_X7_whoOn l dC dI cI cB h0 p0 ih hn fl da ds ac kc m1 m2 m3 m4 m5 pl pg fa nf m6 m7 m8 sd ik kh km ka ks kac m9 m10 m11 m12 hv g2 hkc) (cwV 1 hts gX7_isEmpty_X7_whoOn rfl rfl rfl (by decide +kernel) ⟨Nat.le_of_ble_eq_true rfl, Nat.le_of_ble_eq_true rfl⟩) (cz_pV hP hN (va_recv hK hP (ci := 7) (q0 := 0) rfl rfl)) rfl rfl hl.1 rfl (lv_room (Nat.le_of_ble_eq_true rfl)) dX7_isEmpty_13 ⟨Nat.le_of_ble_eq_true rfl, Nat.le_of_ble_eq_true rfl⟩)) (fun r_2 hr_2 => ?_)
    refine lv_iconst (v := (-1)) hx hb dX7_isEmpty_16 (by decide) ?_
    refine lv_icmp_ne (tgt := 24) hx hb dX7_isEmpty_17 (by decide) (fun c_3 => ?_) (fun c_3 => ?_)
    · refine lv_iconst (v := 0) hx hb dX7_isEmpty_24 (by decide) ?_
      rw [hQ]; exact W.zret (v := 0) hx hb hr (by decide) (fun t ht hW => ⟨0, rfl, (Or.inl ⟨rfl, (c_X7_isEmpty_a2 p0 fl da kc g2 r_2 hkc hr_1 hr_2 c_3)⟩), ht⟩) (fun _ h => absurd h List.not_mem_nil) dX7_isEmpty_25
    · refine lv_iconst (v := 1) hx hb dX7_isEmpty_20 (by decide) ?_
      refine lv_goto (tgt := 25) hx hb dX7_isEmpty_21 (by decide) ?_
      rw [hQ]; exact W.zret (v := 1) hx hb hr (by decide) (fun t ht hW => ⟨1, rfl, (Or.inr (⟨rfl, (c_X7_isEmpty_a3 p0 fl da kc g2 r_2 hkc hr_1 hr_2 c_3)⟩)), ht⟩) (fun _ h => absurd h List.not_mem_nil) dX7_isEmpty_25

theorem c_X7_isClear_a1 (p0 : Int32) (p1 : Int32) (p2 : Int32) (fl : Int32) (da : Int32) (kc : Nat) (g2 : Nat → Int32) (x_1 : Int32) (x_2 : Int32) (x_3 : Int32) (r_4 : Int32) (x_5 : Int32) (x_6 : Int32) (x_7 : Int32) (x_8 : Int32) (r_9 : Int32) (x_10 : Int32) (x_11 : Int32) (yb : Int32) (ya : Int32) (n34 : Nat) (x_15 : Int32) (hkc : kc ≤ 6) (hline : cz_line p0 p1) (ex_1 : x_1 = p1 / 5) (ex_2 : x_2 = p0 / 5) (ex_3 : x_3 = x_1 - x_2) (hr_4 : r_4 = cz_sgn x_3) (ex_5 : x_5 = 5 * r_4) (ex_6 : x_6 = p1 - p1 / 5 * 5) (ex_7 : x_7 = p0 - p0 / 5 * 5) (ex_8 : x_8 = x_6 - x_7) (hr_9 : r_9 = cz_sgn x_8) (ex_10 : x_10 = x_5 + r_9) (ex_11 : x_11 = p0 + x_10) (hi34 : ya + nI (n34 + 1) * x_10 = p1 ∧ (∀ m : Nat, (n34 + 1) ≤ m → cz_clr fl da g2 kc p2 x_10 p1 m ya yb = cz_cl fl da g2 kc p2 p0 p1)) (h01 : yb = 0 ∨ yb = 1) (c_13 : ¬ ya = p1) (c_14 : yb = 0) (ex_15 : x_15 = ya + x_10) : (0 : Int32) = if ¬ yb = 0 ∧ cz_hs fl ya ∧ (p2 = 0 ∨ cz_wo da ya g2 kc = -1) then 1 else 0 := by (try subst_vars); first | (simp only [*, not_true_eq_false, not_false_eq_true, and_true, true_and, and_false, false_and, or_true, true_or, or_false, false_or, and_self, or_self, if_true, if_false, ite_true, ite_false]; done) | (split <;> (first | rfl | contradiction | ((try simp only [cz_in, cz_du, cz_lt, cz_le, cz_eq, cz_l] at *) <;> (first | omega | (simp_all; done)))))
theorem c_X7_isClear_a2 (p0 : Int32) (p1 : Int32) (p2 : Int32) (fl : Int32) (da : Int32) (kc : Nat) (g2 : Nat → Int32) (x_1 : Int32) (x_2 : Int32) (x_3 : Int32) (r_4 : Int32) (x_5 : Int32) (x_6 : Int32) (x_7 : Int32) (x_8 : Int32) (r_9 : Int32) (x_10 : Int32) (x_11 : Int32) (yb : Int32) (ya : Int32) (n34 : Nat) (x_17 : Int32) (hkc : kc ≤ 6) (hline : cz_line p0 p1) (ex_1 : x_1 = p1 / 5) (ex_2 : x_2 = p0 / 5) (ex_3 : x_3 = x_1 - x_2) (hr_4 : r_4 = cz_sgn x_3) (ex_5 : x_5 = 5 * r_4) (ex_6 : x_6 = p1 - p1 / 5 * 5) (ex_7 : x_7 = p0 - p0 / 5 * 5) (ex_8 : x_8 = x_6 - x_7) (hr_9 : r_9 = cz_sgn x_8) (ex_10 : x_10 = x_5 + r_9) (ex_11 : x_11 = p0 + x_10) (hi34 : ya + nI (n34 + 1) * x_10 = p1 ∧ (∀ m : Nat, (n34 + 1) ≤ m → cz_clr fl da g2 kc p2 x_10 p1 m ya yb = cz_cl fl da g2 kc p2 p0 p1)) (h01 : yb = 0 ∨ yb = 1) (c_13 : ¬ ya = p1) (c_14 : ¬ yb = 0) (hr_16 : ¬ cz_hs fl ya) (ex_17 : x_17 = ya + x_10) : (0 : Int32) = if ¬ yb = 0 ∧ cz_hs fl ya ∧ (p2 = 0 ∨ cz_wo da ya g2 kc = -1) then 1 else 0 := by (try subst_vars); first | (simp only [*, not_true_eq_false, not_false_eq_true, and_true, true_and, and_false, false_and, or_true, true_or, or_false, false_or, and_self, or_self, if_true, if_false, ite_true, ite_false]; done) | (split <;> (first | rfl | contradiction | ((try simp only [cz_in, cz_du, cz_lt, cz_le, cz_eq, cz_l] at *) <;> (first | omega | (simp_all; done)))))
theorem c_X7_isClear_a3 (p0 : Int32) (p1 : Int32) (p2 : Int32) (fl : Int32) (da : Int32) (kc : Nat) (g2 : Nat → Int32) (x_1 : Int32) (x_2 : Int32) (x_3 : Int32) (r_4 : Int32) (x_5 : Int32) (x_6 : Int32) (x_7 : Int32) (x_8 : Int32) (r_9 : Int32) (x_10 : Int32) (x_11 : Int32) (yb : Int32) (ya : Int32) (n34 : Nat) (x_19 : Int32) (hkc : kc ≤ 6) (hline : cz_line p0 p1) (ex_1 : x_1 = p1 / 5) (ex_2 : x_2 = p0 / 5) (ex_3 : x_3 = x_1 - x_2) (hr_4 : r_4 = cz_sgn x_3) (ex_5 : x_5 = 5 * r_4) (ex_6 : x_6 = p1 - p1 / 5 * 5) (ex_7 : x_7 = p0 - p0 / 5 * 5) (ex_8 : x_8 = x_6 - x_7) (hr_9 : r_9 = cz_sgn x_8) (ex_10 : x_10 = x_5 + r_9) (ex_11 : x_11 = p0 + x_10) (hi34 : ya + nI (n34 + 1) * x_10 = p1 ∧ (∀ m : Nat, (n34 + 1) ≤ m → cz_clr fl da g2 kc p2 x_10 p1 m ya yb = cz_cl fl da g2 kc p2 p0 p1)) (h01 : yb = 0 ∨ yb = 1) (c_13 : ¬ ya = p1) (c_14 : ¬ yb = 0) (hr_16 : cz_hs fl ya) (c_18 : p2 = 0) (ex_19 : x_19 = ya + x_10) : (1 : Int32) = if ¬ yb = 0 ∧ cz_hs fl ya ∧ (p2 = 0 ∨ cz_wo da ya g2 kc = -1) then 1 else 0 := by (try subst_vars); first | (simp only [*, not_true_eq_false, not_false_eq_true, and_true, true_and, and_false, false_and, or_true, true_or, or_false, false_or, and_self, or_self, if_true, if_false, ite_true, ite_false]; done) | (split <;> (first | rfl | contradiction | ((try simp only [cz_in, cz_du, cz_lt, cz_le, cz_eq, cz_l] at *) <;> (first | omega | (simp_all; done)))))
theorem c_X7_isClear_a4 (p0 : Int32) (p1 : Int32) (p2 : Int32) (fl : Int32) (da : Int32) (kc : Nat) (g2 : Nat → Int32) (x_1 : Int32) (x_2 : Int32) (x_3 : Int32) (r_4 : Int32) (x_5 : Int32) (x_6 : Int32) (x_7 : Int32) (x_8 : Int32) (r_9 : Int32) (x_10 : Int32) (x_11 : Int32) (yb : Int32) (ya : Int32) (n34 : Nat) (r_20 : Int32) (x_22 : Int32) (hkc : kc ≤ 6) (hline : cz_line p0 p1) (ex_1 : x_1 = p1 / 5) (ex_2 : x_2 = p0 / 5) (ex_3 : x_3 = x_1 - x_2) (hr_4 : r_4 = cz_sgn x_3) (ex_5 : x_5 = 5 * r_4) (ex_6 : x_6 = p1 - p1 / 5 * 5) (ex_7 : x_7 = p0 - p0 / 5 * 5) (ex_8 : x_8 = x_6 - x_7) (hr_9 : r_9 = cz_sgn x_8) (ex_10 : x_10 = x_5 + r_9) (ex_11 : x_11 = p0 + x_10) (hi34 : ya + nI (n34 + 1) * x_10 = p1 ∧ (∀ m : Nat, (n34 + 1) ≤ m → cz_clr fl da g2 kc p2 x_10 p1 m ya yb = cz_cl fl da g2 kc p2 p0 p1)) (h01 : yb = 0 ∨ yb = 1) (c_13 : ¬ ya = p1) (c_14 : ¬ yb = 0) (hr_16 : cz_hs fl ya) (c_18 : ¬ p2 = 0) (hr_20 : r_20 = cz_wo da ya g2 kc) (c_21 : ¬ r_20 = (-1)) (ex_22 : x_22 = ya + x_10) : (0 : Int32) = if ¬ yb = 0 ∧ cz_hs fl ya ∧ (p2 = 0 ∨ cz_wo da ya g2 kc = -1) then 1 else 0 := by (try subst_vars); first | (simp only [*, not_true_eq_false, not_false_eq_true, and_true, true_and, and_false, false_and, or_true, true_or, or_false, false_or, and_self, or_self, if_true, if_false, ite_true, ite_false]; done) | (split <;> (first | rfl | contradiction | ((try simp only [cz_in, cz_du, cz_lt, cz_le, cz_eq, cz_l] at *) <;> (first | omega | (simp_all; done)))))
theorem c_X7_isClear_a5 (p0 : Int32) (p1 : Int32) (p2 : Int32) (fl : Int32) (da : Int32) (kc : Nat) (g2 : Nat → Int32) (x_1 : Int32) (x_2 : Int32) (x_3 : Int32) (r_4 : Int32) (x_5 : Int32) (x_6 : Int32) (x_7 : Int32) (x_8 : Int32) (r_9 : Int32) (x_10 : Int32) (x_11 : Int32) (yb : Int32) (ya : Int32) (n34 : Nat) (r_20 : Int32) (x_23 : Int32) (hkc : kc ≤ 6) (hline : cz_line p0 p1) (ex_1 : x_1 = p1 / 5) (ex_2 : x_2 = p0 / 5) (ex_3 : x_3 = x_1 - x_2) (hr_4 : r_4 = cz_sgn x_3) (ex_5 : x_5 = 5 * r_4) (ex_6 : x_6 = p1 - p1 / 5 * 5) (ex_7 : x_7 = p0 - p0 / 5 * 5) (ex_8 : x_8 = x_6 - x_7) (hr_9 : r_9 = cz_sgn x_8) (ex_10 : x_10 = x_5 + r_9) (ex_11 : x_11 = p0 + x_10) (hi34 : ya + nI (n34 + 1) * x_10 = p1 ∧ (∀ m : Nat, (n34 + 1) ≤ m → cz_clr fl da g2 kc p2 x_10 p1 m ya yb = cz_cl fl da g2 kc p2 p0 p1)) (h01 : yb = 0 ∨ yb = 1) (c_13 : ¬ ya = p1) (c_14 : ¬ yb = 0) (hr_16 : cz_hs fl ya) (c_18 : ¬ p2 = 0) (hr_20 : r_20 = cz_wo da ya g2 kc) (c_21 : r_20 = (-1)) (ex_23 : x_23 = ya + x_10) : (1 : Int32) = if ¬ yb = 0 ∧ cz_hs fl ya ∧ (p2 = 0 ∨ cz_wo da ya g2 kc = -1) then 1 else 0 := by (try subst_vars); first | (simp only [*, not_true_eq_false, not_false_eq_true, and_true, true_and, and_false, false_and, or_true, true_or, or_false, false_or, and_self, or_self, if_true, if_false, ite_true, ite_false]; done) | (split <;> (first | rfl | contradiction | ((try simp only [cz_in, cz_du, cz_lt, cz_le, cz_eq, cz_l] at *) <;> (first | omega | (simp_all; done)))))
theorem c_X7_isClear_a6 (p0 : Int32) (p1 : Int32) (kc : Nat) (x_1 : Int32) (x_2 : Int32) (x_3 : Int32) (r_4 : Int32) (x_5 : Int32) (x_6 : Int32) (x_7 : Int32) (x_8 : Int32) (r_9 : Int32) (x_10 : Int32) (x_11 : Int32) (nL : Nat) (hkc : kc ≤ 6) (hline : cz_line p0 p1) (ex_1 : x_1 = p1 / 5) (ex_2 : x_2 = p0 / 5) (ex_3 : x_3 = x_1 - x_2) (hr_4 : r_4 = cz_sgn x_3) (ex_5 : x_5 = 5 * r_4) (ex_6 : x_6 = p1 - p1 / 5 * 5) (ex_7 : x_7 = p0 - p0 / 5 * 5) (ex_8 : x_8 = x_6 - x_7) (hr_9 : r_9 = cz_sgn x_8) (ex_10 : x_10 = x_5 + r_9) (ex_11 : x_11 = p0 + x_10) (hn3 : nL ≤ 3) (hnL : p0 + cz_step p0 p1 + nI nL * cz_step p0 p1 = p1) : x_11 + nI nL * x_10 = p1 := by subst_vars; exact hnL
theorem c_X7_isClear_a7 (p0 : Int32) (p1 : Int32) (p2 : Int32) (fl : Int32) (da : Int32) (kc : Nat) (g2 : Nat → Int32) (x_1 : Int32) (x_2 : Int32) (x_3 : Int32) (r_4 : Int32) (x_5 : Int32) (x_6 : Int32) (x_7 : Int32) (x_8 : Int32) (r_9 : Int32) (x_10 : Int32) (x_11 : Int32) (nL : Nat) (hkc : kc ≤ 6) (hline : cz_line p0 p1) (ex_1 : x_1 = p1 / 5) (ex_2 : x_2 = p0 / 5) (ex_3 : x_3 = x_1 - x_2) (hr_4 : r_4 = cz_sgn x_3) (ex_5 : x_5 = 5 * r_4) (ex_6 : x_6 = p1 - p1 / 5 * 5) (ex_7 : x_7 = p0 - p0 / 5 * 5) (ex_8 : x_8 = x_6 - x_7) (hr_9 : r_9 = cz_sgn x_8) (ex_10 : x_10 = x_5 + r_9) (ex_11 : x_11 = p0 + x_10) (hn3 : nL ≤ 3) (hnL : p0 + cz_step p0 p1 + nI nL * cz_step p0 p1 = p1) : ∀ m : Nat, nL ≤ m → cz_clr fl da g2 kc p2 x_10 p1 m x_11 1 = cz_cl fl da g2 kc p2 p0 p1 := by subst_vars; exact cz_clr_i hn3 hnL
set_option maxHeartbeats 4000000 in
set_option maxRecDepth 100000 in
theorem c_X7_isClear (l : Launch) (dC : Nat → ClassId) (dI : Nat → Nat → Nat) (cI cB : ClassId) (h0 : Nat) (p0 : Int32) (p1 : Int32) (p2 : Int32) (ih : Int32) (hn : Int32) (fl : Int32) (da : Int32) (ds : Int32) (ac : Int32) (kc : Nat) (m1 : Nat) (m2 : Nat) (m3 : Nat) (m4 : Nat) (m5 : Nat) (pl : Nat) (pg : Nat) (fa : Int32) (nf : Int32) (m6 : Nat) (m7 : Nat) (m8 : Nat) (sd : Int64) (ik : Int32) (kh : Int32) (km : Nat) (ka : Int32) (ks : Int32) (kac : Int32) (m9 : Nat) (m10 : Nat) (m11 : Nat) (m12 : Nat) (hv : Int64) (g2 : Nat → Int32) (hkc : kc ≤ 6) (hline : cz_line p0 p1) : Met l yX7_isClear wsX7_isClear ({ frames := 1, cells := 0, slots := 0, locals := 23 }) (cz_Pp dC dI cI cB [.ref h0, .int p0, .int p1, .int p2] [(h0, .inr (7, [.int ih, .int hn, .int fl, .int da, .int ds, .int ac, .int (nI kc), .ref m1, .ref m2, .ref m3, .ref m4, .ref m5, .int (nI pl), .ref pg, .int fa, .int nf, .ref m6, .ref m7, .ref m8, .long sd, .int ik, .int kh, .int (nI km), .int ka, .int ks, .int kac, .ref m9, .ref m10, .ref m11, .ref m12, .long hv])), (m2, .inl (cI, 6, .inl g2))]) (vp_Si (fun r : Int32 => r = cz_cl fl da g2 kc p2 p0 p1)) 0 0 (fun _ => False) := by
  refine cz_of (cc := cX7_isClear) (maxL := 7) (ret := (some .boolean)) (by decide) rfl ?_
  intro p e s m args below meth c s₁ Q B hml hv hQ
  obtain ⟨rfl, hP, hN⟩ := hv
  have hx := B.exec
  have hb := B.bytes
  have hr := B.returns
  have hts := atoms_spec (ws := wsX7_isClear) B.pre
  have hown : s.vm.findClass RX7 = some m.cls := findClass_of_methodNamed B.named
  have hlocks := B.notSynchronized
  have hK := hN.1
  have hiX7 : ∀ w ∈ wsX70, w ∈ wsX7_isClear := (fun _ h => List.mem_cons_of_mem _ (List.mem_append_right _ h))
  have hl := lv_entry ([.ref h0, .int p0, .int p1, .int p2]) (n := 7) (Nat.le_of_ble_eq_true rfl)
  rw [lg_entry_eq]
  generalize (lg_sl ([.ref h0, .int p0, .int p1, .int p2]) ++ List.replicate (7 - (lg_sl ([.ref h0, .int p0, .int p1, .int p2])).length) Slot.unset).toArray = ls at hl ⊢
  have hl : lv_has ls 7 [(0, .ref h0), (1, .int p0), (2, .int p1), (3, .int p2)] := hl
  refine lv_iconst (v := 5) hx hb dX7_isClear_0 (by decide) ?_
  refine lv_iload_n hx hb dX7_isClear_1 rfl (lv_at hl 2 rfl) ?_
  refine lv_iconst (v := 5) hx hb dX7_isClear_2 (by decide) ?_
  refine lv_idiv hx hb dX7_isClear_3 (by decide) ?_
  refine lv_topi (fun x_1 ex_1 => ?_)
  refine lv_iload_n hx hb dX7_isClear_4 rfl (lv_at hl 1 rfl) ?_
  refine lv_iconst (v := 5) hx hb dX7_isClear_5 (by decide) ?_
  refine lv_idiv hx hb dX7_isClear_6 (by decide) ?_
  refine lv_topi (fun x_2 ex_2 => ?_)
  refine lv_isub hx hb dX7_isClear_7 ?_
  refine lv_topi (fun x_3 ex_3 => ?_)
  refine vp_callSi (cz_run (va_runS (As := [.int x_3]) (rest := [.int 5]) ⟨hx, hb, hml, hown, hts⟩ (c_X7_sign l dC dI cI cB x_3 ) (va_cwS 1 hts gX7_isClear_X7_sign rfl rfl rfl (by decide +kernel) ⟨Nat.le_of_ble_eq_true rfl, Nat.le_of_ble_eq_true rfl⟩) (cz_pS (hP.sub (ws' := []) [] rfl) hN) rfl rfl hl.1 rfl (lv_room (Nat.le_of_ble_eq_true rfl)) dX7_isClear_8 ⟨Nat.le_of_ble_eq_true rfl, Nat.le_of_ble_eq_true rfl⟩)) (fun r_4 hr_4 => ?_)
  refine lv_imul hx hb dX7_isClear_11 ?_
  refine lv_topi (fun x_5 ex_5 => ?_)
  refine lv_iload_n hx hb dX7_isClear_12 rfl (lv_at hl 2 rfl) ?_
  refine lv_iconst (v := 5) hx hb dX7_isClear_13 (by decide) ?_
  refine lv_irem hx hb dX7_isClear_14 (by decide) ?_
  refine lv_topi (fun x_6 ex_6 => ?_)
  refine lv_iload_n hx hb dX7_isClear_15 rfl (lv_at hl 1 rfl) ?_
  refine lv_iconst (v := 5) hx hb dX7_isClear_16 (by decide) ?_
  refine lv_irem hx hb dX7_isClear_17 (by decide) ?_
  refine lv_topi (fun x_7 ex_7 => ?_)
  refine lv_isub hx hb dX7_isClear_18 ?_
  refine lv_topi (fun x_8 ex_8 => ?_)
  refine vp_callSi (cz_run (va_runS (As := [.int x_8]) (rest := [.int x_5]) ⟨hx, hb, hml, hown, hts⟩ (c_X7_sign l dC dI cI cB x_8 ) (va_cwS 1 hts gX7_isClear_X7_sign rfl rfl rfl (by decide +kernel) ⟨Nat.le_of_ble_eq_true rfl, Nat.le_of_ble_eq_true rfl⟩) (cz_pS (hP.sub (ws' := []) [] rfl) hN) rfl rfl hl.1 rfl (lv_room (Nat.le_of_ble_eq_true rfl)) dX7_isClear_19 ⟨Nat.le_of_ble_eq_true rfl, Nat.le_of_ble_eq_true rfl⟩)) (fun r_9 hr_9 => ?_)
  refine lv_iadd hx hb dX7_isClear_22 ?_
  refine lv_topi (fun x_10 ex_10 => ?_)
  refine lv_istore (lv' := [(4, .int x_10), (0, .ref h0), (1, .int p0), (2, .int p1), (3, .int p2)]) hx hb dX7_isClear_23 hl (by decide) rfl (fun ls hl => ?_)
  refine lv_iconst (v := 1) hx hb dX7_isClear_25 (by decide) ?_
  refine lv_istore (lv' := [(5, .int 1), (4, .int x_10), (0, .ref h0), (1, .int p0), (2, .int p1), (3, .int p2)]) hx hb dX7_isClear_26 hl (by decide) rfl (fun ls hl => ?_)
  refine lv_iload_n hx hb dX7_isClear_28 rfl (lv_at hl 3 rfl) ?_
  refine lv_iload hx hb dX7_isClear_29 (lv_at hl 1 rfl) ?_
  refine lv_iadd hx hb dX7_isClear_31 ?_
  refine lv_topi (fun x_11 ex_11 => ?_)
  refine lv_istore (lv' := [(6, .int x_11), (5, .int 1), (4, .int x_10), (0, .ref h0), (1, .int p0), (2, .int p1), (3, .int p2)]) hx hb dX7_isClear_32 hl (by decide) rfl (fun ls hl => ?_)
  obtain ⟨nL, hn3, hnL⟩ := id hline
  have hex88 : ∀ (yb : Int32) (ya : Int32) (ls : Array Slot), yb = 0 ∨ yb = 1 → yb = cz_cl fl da g2 kc p2 p0 p1 → lv_has ls 7 [(5, .int yb)] → W p l e ({ frames := 1, cells := 0, slots := 0, locals := 23 } : Room) s m #[Value.ref h0, Value.int p0, Value.int p1, Value.int p2] below meth c s.heap [] 0 0 Q (F0 m 88 ls []) := by
    intro yb ya ls h01 hres hl
    refine lv_iload hx hb dX7_isClear_88 (lv_at hl 0 rfl) ?_
    rw [hQ]; exact W.zret (v := yb) hx hb hr (cz_nar h01) (fun t ht hW => ⟨yb, rfl, hres, ht⟩) (fun _ h => absurd h List.not_mem_nil) dX7_isClear_90
  have lp34 : ∀ (n34 : Nat) (yb : Int32) (ya : Int32) (ls : Array Slot), ya + nI n34 * x_10 = p1 ∧ (∀ m : Nat, n34 ≤ m → cz_clr fl da g2 kc p2 x_10 p1 m ya yb = cz_cl fl da g2 kc p2 p0 p1) → yb = 0 ∨ yb = 1 → lv_has ls 7 [(0, .ref h0), (1, .int p0), (2, .int p1), (3, .int p2), (4, .int x_10), (5, .int yb), (6, .int ya)] → W p l e ({ frames := 1, cells := 0, slots := 0, locals := 23 } : Room) s m #[Value.ref h0, Value.int p0, Value.int p1, Value.int p2] below meth c s.heap [] 0 0 Q (F0 m 34 ls []) := by
    intro n34
    induction n34 with
    | zero =>
      intro yb ya ls hi34 h01 hl
      refine lv_iload hx hb dX7_isClear_34 (lv_at hl 6 rfl) ?_
      refine lv_iload_n hx hb dX7_isClear_36 rfl (lv_at hl 2 rfl) ?_
      refine lv_icmp_eq (tgt := 88) hx hb dX7_isClear_37 (by decide) (fun c_12 => ?_) (fun c_12 => ?_)
      · exact hex88 yb ya ls h01 (cz_clr_e hi34.2 c_12) (lv_sub hl [5] rfl)
      · exact absurd (cz_mz hi34.1) c_12
    | succ n34 ih34 =>
      intro yb ya ls hi34 h01 hl
      refine lv_iload hx hb dX7_isClear_34 (lv_at hl 6 rfl) ?_
      refine lv_iload_n hx hb dX7_isClear_36 rfl (lv_at hl 2 rfl) ?_
      refine lv_icmp_eq (tgt := 88) hx hb dX7_isClear_37 (by decide) (fun c_13 => ?_) (fun c_13 => ?_)
      · exact hex88 yb ya ls h01 (cz_clr_e hi34.2 c_13) (lv_sub hl [5] rfl)
      · refine lv_iload hx hb dX7_isClear_40 (lv_at hl 5 rfl) ?_
        refine lv_if_eq (tgt := 75) hx hb dX7_isClear_42 (by decide) (fun c_14 => ?_) (fun c_14 => ?_)
        · refine lv_iconst (v := 0) hx hb dX7_isClear_75 (by decide) ?_
          refine lv_istore (lv' := [(5, .int 0), (0, .ref h0), (1, .int p0), (2, .int p1), (3, .int p2), (4, .int x_10), (6, .int ya)]) hx hb dX7_isClear_76 hl (by decide) rfl (fun ls hl => ?_)
          refine lv_iload hx hb dX7_isClear_78 (lv_at hl 6 rfl) ?_
          refine lv_iload hx hb dX7_isClear_80 (lv_at hl 5 rfl) ?_
          refine lv_iadd hx hb dX7_isClear_82 ?_
          refine lv_topi (fun x_15 ex_15 => ?_)
          refine lv_istore (lv' := [(6, .int x_15), (5, .int 0), (0, .ref h0), (1, .int p0), (2, .int p1), (3, .int p2), (4, .int x_10)]) hx hb dX7_isClear_83 hl (by decide) rfl (fun ls hl => ?_)
          refine lv_goto (tgt := 34) hx hb dX7_isClear_85 (by decide) ?_
          exact ih34 0 x_15 ls ⟨cz_ms hi34.1 ex_15, cz_clr_b hi34.2 c_13 (c_X7_isClear_a1 p0 p1 p2 fl da kc g2 x_1 x_2 x_3 r_4 x_5 x_6 x_7 x_8 r_9 x_10 x_11 yb ya n34 x_15 hkc hline ex_1 ex_2 ex_3 hr_4 ex_5 ex_6 ex_7 ex_8 hr_9 ex_10 ex_11 hi34 h01 c_13 c_14 ex_15) ex_15⟩ (Or.inl rfl) (lv_sub hl [2, 3, 4, 5, 6, 1, 0] rfl)
        · refine lv_aload_n hx hb dX7_isClear_45 rfl (lv_at hl 0 rfl) ?_
          refine va_get (D := (dC, dI)) (ci := 7) (v := .int fl) (C := RX7) (T := TX7) (N := 31) hx hb hts hiX7 hown hK hP 0 rfl rfl 2 (by decide) (hts (.fieldLink RX7 73 "LeftProfileModel" "floor" "I") (List.mem_of_getElem? (i := 1) rfl)) (fun _ h9 => h9) rfl dX7_isClear_46 ?_
          refine lv_iload hx hb dX7_isClear_49 (lv_at hl 6 rfl) ?_
          refine vp_callSi (cz_run (va_runS (As := [.int fl, .int ya]) (rest := []) ⟨hx, hb, hml, hown, hts⟩ (c_X7_has l dC dI cI cB fl ya ) (va_cwS 2 hts gX7_isClear_X7_has rfl rfl rfl (by decide +kernel) ⟨Nat.le_of_ble_eq_true rfl, Nat.le_of_ble_eq_true rfl⟩) (cz_pS (hP.sub (ws' := []) [] rfl) hN) rfl rfl hl.1 rfl (lv_room (Nat.le_of_ble_eq_true rfl)) dX7_isClear_51 ⟨Nat.le_of_ble_eq_true rfl, Nat.le_of_ble_eq_true rfl⟩)) (fun r_16 hr_16 => ?_)
          rcases hr_16 with ⟨rfl, hr_16⟩ | ⟨rfl, hr_16⟩
          · refine lv_if_eq (tgt := 75) hx hb dX7_isClear_54 (by decide) (fun _ => ?_) (fun c => absurd (by decide) c)
            refine lv_iconst (v := 0) hx hb dX7_isClear_75 (by decide) ?_
            refine lv_istore (lv' := [(5, .int 0), (0, .ref h0), (1, .int p0), (2, .int p1), (3, .int p2), (4, .int x_10), (6, .int ya)]) hx hb dX7_isClear_76 hl (by decide) rfl (fun ls hl => ?_)
            refine lv_iload hx hb dX7_isClear_78 (lv_at hl 6 rfl) ?_
            refine lv_iload hx hb dX7_isClear_80 (lv_at hl 5 rfl) ?_
            refine lv_iadd hx hb dX7_isClear_82 ?_
            refine lv_topi (fun x_17 ex_17 => ?_)
            refine lv_istore (lv' := [(6, .int x_17), (5, .int 0), (0, .ref h0), (1, .int p0), (2, .int p1), (3, .int p2), (4, .int x_10)]) hx hb dX7_isClear_83 hl (by decide) rfl (fun ls hl => ?_)
            refine lv_goto (tgt := 34) hx hb dX7_isClear_85 (by decide) ?_
            exact ih34 0 x_17 ls ⟨cz_ms hi34.1 ex_17, cz_clr_b hi34.2 c_13 (c_X7_isClear_a2 p0 p1 p2 fl da kc g2 x_1 x_2 x_3 r_4 x_5 x_6 x_7 x_8 r_9 x_10 x_11 yb ya n34 x_17 hkc hline ex_1 ex_2 ex_3 hr_4 ex_5 ex_6 ex_7 ex_8 hr_9 ex_10 ex_11 hi34 h01 c_13 c_14 hr_16 ex_17) ex_17⟩ (Or.inl rfl) (lv_sub hl [2, 3, 4, 5, 6, 1, 0] rfl)
          · refine lv_if_eq (tgt := 75) hx hb dX7_isClear_54 (by decide) (fun c => absurd c (by decide)) (fun _ => ?_)
            refine lv_iload_n hx hb dX7_isClear_57 rfl (lv_at hl 3 rfl) ?_
            refine lv_if_eq (tgt := 71) hx hb dX7_isClear_58 (by decide) (fun c_18 => ?_) (fun c_18 => ?_)
            · refine lv_iconst (v := 1) hx hb dX7_isClear_71 (by decide) ?_
              refine lv_goto (tgt := 76) hx hb dX7_isClear_72 (by decide) ?_
              refine lv_istore (lv' := [(5, .int 1), (0, .ref h0), (1, .int p0), (2, .int p1), (3, .int p2), (4, .int x_10), (6, .int ya)]) hx hb dX7_isClear_76 hl (by decide) rfl (fun ls hl => ?_)
              refine lv_iload hx hb dX7_isClear_78 (lv_at hl 6 rfl) ?_
              refine lv_iload hx hb dX7_isClear_80 (lv_at hl 5 rfl) ?_
              refine lv_iadd hx hb dX7_isClear_82 ?_
              refine lv_topi (fun x_19 ex_19 => ?_)
              refine lv_istore (lv' := [(6, .int x_19), (5, .int 1), (0, .ref h0), (1, .int p0), (2, .int p1), (3, .int p2), (4, .int x_10)]) hx hb dX7_isClear_83 hl (by decide) rfl (fun ls hl => ?_)
              refine lv_goto (tgt := 34) hx hb dX7_isClear_85 (by decide) ?_
              exact ih34 1 x_19 ls ⟨cz_ms hi34.1 ex_19, cz_clr_b hi34.2 c_13 (c_X7_isClear_a3 p0 p1 p2 fl da kc g2 x_1 x_2 x_3 r_4 x_5 x_6 x_7 x_8 r_9 x_10 x_11 yb ya n34 x_19 hkc hline ex_1 ex_2 ex_3 hr_4 ex_5 ex_6 ex_7 ex_8 hr_9 ex_10 ex_11 hi34 h01 c_13 c_14 hr_16 c_18 ex_19) ex_19⟩ (Or.inr rfl) (lv_sub hl [2, 3, 4, 5, 6, 1, 0] rfl)
            · refine lv_aload_n hx hb dX7_isClear_61 rfl (lv_at hl 0 rfl) ?_
              refine lv_iload hx hb dX7_isClear_62 (lv_at hl 6 rfl) ?_
              refine vp_callSi (cz_run (va_runV (As := [.int ya]) (rest := []) ⟨hx, hb, hml, hown, hts⟩ (c_X7_whoOn l dC dI cI cB h0 ya ih hn fl da ds ac kc m1 m2 m3 m4 m5 pl pg fa nf m6 m7 m8 sd ik kh km ka ks kac m9 m10 m11 m12 hv g2 hkc) (cwV 1 hts gX7_isClear_X7_whoOn rfl rfl rfl (by decide +kernel) ⟨Nat.le_of_ble_eq_true rfl, Nat.le_of_ble_eq_true rfl⟩) (cz_pV hP hN (va_recv hK hP (ci := 7) (q0 := 0) rfl rfl)) rfl rfl hl.1 rfl (lv_room (Nat.le_of_ble_eq_true rfl)) dX7_isClear_64 ⟨Nat.le_of_ble_eq_true rfl, Nat.le_of_ble_eq_true rfl⟩)) (fun r_20 hr_20 => ?_)
              refine lv_iconst (v := (-1)) hx hb dX7_isClear_67 (by decide) ?_
              refine lv_icmp_ne (tgt := 75) hx hb dX7_isClear_68 (by decide) (fun c_21 => ?_) (fun c_21 => ?_)
              · refine lv_iconst (v := 0) hx hb dX7_isClear_75 (by decide) ?_
                refine lv_istore (lv' := [(5, .int 0), (0, .ref h0), (1, .int p0), (2, .int p1), (3, .int p2), (4, .int x_10), (6, .int ya)]) hx hb dX7_isClear_76 hl (by decide) rfl (fun ls hl => ?_)
                refine lv_iload hx hb dX7_isClear_78 (lv_at hl 6 rfl) ?_
                refine lv_iload hx hb dX7_isClear_80 (lv_at hl 5 rfl) ?_
                refine lv_iadd hx hb dX7_isClear_82 ?_
                refine lv_topi (fun x_22 ex_22 => ?_)
                refine lv_istore (lv' := [(6, .int x_22), (5, .int 0), (0, .ref h0), (1, .int p0), (2, .int p1), (3, .int p2), (4, .int x_10)]) hx hb dX7_isClear_83 hl (by decide) rfl (fun ls hl => ?_)
                refine lv_goto (tgt := 34) hx hb dX7_isClear_85 (by decide) ?_
                exact ih34 0 x_22 ls ⟨cz_ms hi34.1 ex_22, cz_clr_b hi34.2 c_13 (c_X7_isClear_a4 p0 p1 p2 fl da kc g2 x_1 x_2 x_3 r_4 x_5 x_6 x_7 x_8 r_9 x_10 x_11 yb ya n34 r_20 x_22 hkc hline ex_1 ex_2 ex_3 hr_4 ex_5 ex_6 ex_7 ex_8 hr_9 ex_10 ex_11 hi34 h01 c_13 c_14 hr_16 c_18 hr_20 c_21 ex_22) ex_22⟩ (Or.inl rfl) (lv_sub hl [2, 3, 4, 5, 6, 1, 0] rfl)
              · refine lv_iconst (v := 1) hx hb dX7_isClear_71 (by decide) ?_
                refine lv_goto (tgt := 76) hx hb dX7_isClear_72 (by decide) ?_
                refine lv_istore (lv' := [(5, .int 1), (0, .ref h0), (1, .int p0), (2, .int p1), (3, .int p2), (4, .int x_10), (6, .int ya)]) hx hb dX7_isClear_76 hl (by decide) rfl (fun ls hl => ?_)
                refine lv_iload hx hb dX7_isClear_78 (lv_at hl 6 rfl) ?_
                refine lv_iload hx hb dX7_isClear_80 (lv_at hl 5 rfl) ?_
                refine lv_iadd hx hb dX7_isClear_82 ?_
                refine lv_topi (fun x_23 ex_23 => ?_)
                refine lv_istore (lv' := [(6, .int x_23), (5, .int 1), (0, .ref h0), (1, .int p0), (2, .int p1), (3, .int p2), (4, .int x_10)]) hx hb dX7_isClear_83 hl (by decide) rfl (fun ls hl => ?_)
                refine lv_goto (tgt := 34) hx hb dX7_isClear_85 (by decide) ?_
                exact ih34 1 x_23 ls ⟨cz_ms hi34.1 ex_23, cz_clr_b hi34.2 c_13 (c_X7_isClear_a5 p0 p1 p2 fl da kc g2 x_1 x_2 x_3 r_4 x_5 x_6 x_7 x_8 r_9 x_10 x_11 yb ya n34 r_20 x_23 hkc hline ex_1 ex_2 ex_3 hr_4 ex_5 ex_6 ex_7 ex_8 hr_9 ex_10 ex_11 hi34 h01 c_13 c_14 hr_16 c_18 hr_20 c_21 ex_23) ex_23⟩ (Or.inr rfl) (lv_sub hl [2, 3, 4, 5, 6, 1, 0] rfl)
  exact lp34 nL 1 x_11 ls ⟨(c_X7_isClear_a6 p0 p1 kc x_1 x_2 x_3 r_4 x_5 x_6 x_7 x_8 r_9 x_10 x_11 nL hkc hline ex_1 ex_2 ex_3 hr_4 ex_5 ex_6 ex_7 ex_8 hr_9 ex_10 ex_11 hn3 hnL), (c_X7_isClear_a7 p0 p1 p2 fl da kc g2 x_1 x_2 x_3 r_4 x_5 x_6 x_7 x_8 r_9 x_10 x_11 nL hkc hline ex_1 ex_2 ex_3 hr_4 ex_5 ex_6 ex_7 ex_8 hr_9 ex_10 ex_11 hn3 hnL)⟩ (Or.inr rfl) (lv_sub hl [3, 4, 5, 6, 2, 1, 0] rfl)

theorem c_X7_seesNow_a1 (i0 : Nat) (da : Int32) (ds : Int32) (kc : Nat) (g2 : Nat → Int32) (hkc : kc ≤ 6) (hpl : cz_pl g2) (hdu : cz_du da ds) (hi6 : i0 < 6) (c_1 : ¬ da = (-1)) : cz_in 0 da 19 := by first | (subst_vars; rfl) | assumption | ((try subst_vars) <;> (repeat' split) <;> (first | rfl | contradiction | ((try simp only [cz_in, cz_du, cz_lt, cz_le, cz_eq, cz_l] at *) <;> (first | omega | (simp_all; done))))) | ((try subst_vars); simp only [cz_in, *, and_self, and_true, true_and, if_true, if_false])
theorem c_X7_seesNow_a2 (ds : Int32) (r_2 : Int32) (x_8 : Int32) (x_9 : Int32) (x_10 : Int32) (x_11 : Int32) (ex_8 : x_8 = 2 * ds) (ex_9 : x_9 = r_2 - x_8) (ex_10 : x_10 = x_9 + 8) (ex_11 : x_11 = x_10 - x_10 / 8 * 8) : x_11 = cz_tn r_2 ds := by subst_vars; rfl
theorem c_X7_seesNow_a3 (i0 : Nat) (g1 : Nat → Int32) (x_11 : Int32) (c_12 : ¬ x_11 = 0) (c_13 : ¬ x_11 = 4) (c_14 : 4 ≤ x_11) : (1 : Int32) = cz_sw1 (g1 i0) x_11 := by (try subst_vars); (try simp only [cz_sw1]); (repeat' split) <;> (first | rfl | contradiction | ((try simp only [cz_in, cz_du, cz_lt, cz_le, cz_eq, cz_l] at *) <;> (first | omega | (simp_all; done))))
theorem c_X7_seesNow_a4 (ds : Int32) (r_2 : Int32) (x_8 : Int32) (x_9 : Int32) (x_10 : Int32) (x_11 : Int32) (ex_8 : x_8 = 2 * ds) (ex_9 : x_9 = r_2 - x_8) (ex_10 : x_10 = x_9 + 8) (ex_11 : x_11 = x_10 - x_10 / 8 * 8) : x_11 = cz_tn r_2 ds := by subst_vars; rfl
theorem c_X7_seesNow_a5 (i0 : Nat) (g1 : Nat → Int32) (x_11 : Int32) (c_12 : ¬ x_11 = 0) (c_13 : ¬ x_11 = 4) (c_14 : ¬ 4 ≤ x_11) : (2 : Int32) = cz_sw1 (g1 i0) x_11 := by (try subst_vars); (try simp only [cz_sw1]); (repeat' split) <;> (first | rfl | contradiction | ((try simp only [cz_in, cz_du, cz_lt, cz_le, cz_eq, cz_l] at *) <;> (first | omega | (simp_all; done))))
theorem c_X7_seesNow_a6 (ds : Int32) (r_2 : Int32) (x_8 : Int32) (x_9 : Int32) (x_10 : Int32) (x_11 : Int32) (ex_8 : x_8 = 2 * ds) (ex_9 : x_9 = r_2 - x_8) (ex_10 : x_10 = x_9 + 8) (ex_11 : x_11 = x_10 - x_10 / 8 * 8) : x_11 = cz_tn r_2 ds := by subst_vars; rfl
theorem c_X7_seesNow_a7 (i0 : Nat) (g1 : Nat → Int32) (x_11 : Int32) (c_12 : ¬ x_11 = 0) (c_13 : x_11 = 4) : (4 : Int32) = cz_sw1 (g1 i0) x_11 := by (try subst_vars); (try simp only [cz_sw1]); (repeat' split) <;> (first | rfl | contradiction | ((try simp only [cz_in, cz_du, cz_lt, cz_le, cz_eq, cz_l] at *) <;> (first | omega | (simp_all; done))))
theorem c_X7_seesNow_a8 (ds : Int32) (r_2 : Int32) (x_8 : Int32) (x_9 : Int32) (x_10 : Int32) (x_11 : Int32) (ex_8 : x_8 = 2 * ds) (ex_9 : x_9 = r_2 - x_8) (ex_10 : x_10 = x_9 + 8) (ex_11 : x_11 = x_10 - x_10 / 8 * 8) : x_11 = cz_tn r_2 ds := by subst_vars; rfl
theorem c_X7_seesNow_a9 (i0 : Nat) (g1 : Nat → Int32) (x_11 : Int32) (c_12 : x_11 = 0) (c_15 : ¬ (g1 i0) = 1) : (3 : Int32) = cz_sw1 (g1 i0) x_11 := by (try subst_vars); (try simp only [cz_sw1]); (repeat' split) <;> (first | rfl | contradiction | ((try simp only [cz_in, cz_du, cz_lt, cz_le, cz_eq, cz_l] at *) <;> (first | omega | (simp_all; done))))
theorem c_X7_seesNow_a10 (ds : Int32) (r_2 : Int32) (x_8 : Int32) (x_9 : Int32) (x_10 : Int32) (x_11 : Int32) (ex_8 : x_8 = 2 * ds) (ex_9 : x_9 = r_2 - x_8) (ex_10 : x_10 = x_9 + 8) (ex_11 : x_11 = x_10 - x_10 / 8 * 8) : x_11 = cz_tn r_2 ds := by subst_vars; rfl
theorem c_X7_seesNow_a11 (i0 : Nat) (g1 : Nat → Int32) (x_11 : Int32) (c_12 : x_11 = 0) (c_15 : (g1 i0) = 1) : (0 : Int32) = cz_sw1 (g1 i0) x_11 := by (try subst_vars); (try simp only [cz_sw1]); (repeat' split) <;> (first | rfl | contradiction | ((try simp only [cz_in, cz_du, cz_lt, cz_le, cz_eq, cz_l] at *) <;> (first | omega | (simp_all; done))))
theorem c_X7_seesNow_a12 (ds : Int32) (r_2 : Int32) (x_19 : Int32) (x_20 : Int32) (x_21 : Int32) (x_22 : Int32) (ex_19 : x_19 = 2 * ds) (ex_20 : x_20 = r_2 - x_19) (ex_21 : x_21 = x_20 + 8) (ex_22 : x_22 = x_21 - x_21 / 8 * 8) : x_22 = cz_tn r_2 ds := by subst_vars; rfl
theorem c_X7_seesNow_a13 (i0 : Nat) (g1 : Nat → Int32) (x_22 : Int32) (c_23 : ¬ x_22 = 0) (c_24 : ¬ x_22 = 4) (c_25 : 4 ≤ x_22) : (1 : Int32) = cz_sw1 (g1 i0) x_22 := by (try subst_vars); (try simp only [cz_sw1]); (repeat' split) <;> (first | rfl | contradiction | ((try simp only [cz_in, cz_du, cz_lt, cz_le, cz_eq, cz_l] at *) <;> (first | omega | (simp_all; done))))
theorem c_X7_seesNow_a14 (ds : Int32) (r_2 : Int32) (x_19 : Int32) (x_20 : Int32) (x_21 : Int32) (x_22 : Int32) (ex_19 : x_19 = 2 * ds) (ex_20 : x_20 = r_2 - x_19) (ex_21 : x_21 = x_20 + 8) (ex_22 : x_22 = x_21 - x_21 / 8 * 8) : x_22 = cz_tn r_2 ds := by subst_vars; rfl
theorem c_X7_seesNow_a15 (i0 : Nat) (g1 : Nat → Int32) (x_22 : Int32) (c_23 : ¬ x_22 = 0) (c_24 : ¬ x_22 = 4) (c_25 : ¬ 4 ≤ x_22) : (2 : Int32) = cz_sw1 (g1 i0) x_22 := by (try subst_vars); (try simp only [cz_sw1]); (repeat' split) <;> (first | rfl | contradiction | ((try simp only [cz_in, cz_du, cz_lt, cz_le, cz_eq, cz_l] at *) <;> (first | omega | (simp_all; done))))
theorem c_X7_seesNow_a16 (ds : Int32) (r_2 : Int32) (x_19 : Int32) (x_20 : Int32) (x_21 : Int32) (x_22 : Int32) (ex_19 : x_19 = 2 * ds) (ex_20 : x_20 = r_2 - x_19) (ex_21 : x_21 = x_20 + 8) (ex_22 : x_22 = x_21 - x_21 / 8 * 8) : x_22 = cz_tn r_2 ds := by subst_vars; rfl
theorem c_X7_seesNow_a17 (i0 : Nat) (g1 : Nat → Int32) (x_22 : Int32) (c_23 : ¬ x_22 = 0) (c_24 : x_22 = 4) : (4 : Int32) = cz_sw1 (g1 i0) x_22 := by (try subst_vars); (try simp only [cz_sw1]); (repeat' split) <;> (first | rfl | contradiction | ((try simp only [cz_in, cz_du, cz_lt, cz_le, cz_eq, cz_l] at *) <;> (first | omega | (simp_all; done))))
theorem c_X7_seesNow_a18 (ds : Int32) (r_2 : Int32) (x_19 : Int32) (x_20 : Int32) (x_21 : Int32) (x_22 : Int32) (ex_19 : x_19 = 2 * ds) (ex_20 : x_20 = r_2 - x_19) (ex_21 : x_21 = x_20 + 8) (ex_22 : x_22 = x_21 - x_21 / 8 * 8) : x_22 = cz_tn r_2 ds := by subst_vars; rfl
theorem c_X7_seesNow_a19 (i0 : Nat) (g1 : Nat → Int32) (x_22 : Int32) (c_23 : x_22 = 0) (c_26 : ¬ (g1 i0) = 1) : (3 : Int32) = cz_sw1 (g1 i0) x_22 := by (try subst_vars); (try simp only [cz_sw1]); (repeat' split) <;> (first | rfl | contradiction | ((try simp only [cz_in, cz_du, cz_lt, cz_le, cz_eq, cz_l] at *) <;> (first | omega | (simp_all; done))))
theorem c_X7_seesNow_a20 (ds : Int32) (r_2 : Int32) (x_19 : Int32) (x_20 : Int32) (x_21 : Int32) (x_22 : Int32) (ex_19 : x_19 = 2 * ds) (ex_20 : x_20 = r_2 - x_19) (ex_21 : x_21 = x_20 + 8) (ex_22 : x_22 = x_21 - x_21 / 8 * 8) : x_22 = cz_tn r_2 ds := by subst_vars; rfl
theorem c_X7_seesNow_a21 (i0 : Nat) (g1 : Nat → Int32) (x_22 : Int32) (c_23 : x_22 = 0) (c_26 : (g1 i0) = 1) : (0 : Int32) = cz_sw1 (g1 i0) x_22 := by (try subst_vars); (try simp only [cz_sw1]); (repeat' split) <;> (first | rfl | contradiction | ((try simp only [cz_in, cz_du, cz_lt, cz_le, cz_eq, cz_l] at *) <;> (first | omega | (simp_all; done))))
theorem c_X7_seesNow_a22 (ds : Int32) (r_2 : Int32) (x_29 : Int32) (x_30 : Int32) (x_31 : Int32) (x_32 : Int32) (ex_29 : x_29 = 2 * ds) (ex_30 : x_30 = r_2 - x_29) (ex_31 : x_31 = x_30 + 8) (ex_32 : x_32 = x_31 - x_31 / 8 * 8) : x_32 = cz_tn r_2 ds := by subst_vars; rfl
theorem c_X7_seesNow_a23 (i0 : Nat) (g1 : Nat → Int32) (x_32 : Int32) (c_33 : ¬ x_32 = 0) (c_34 : ¬ x_32 = 4) (c_35 : 4 ≤ x_32) : (1 : Int32) = cz_sw1 (g1 i0) x_32 := by (try subst_vars); (try simp only [cz_sw1]); (repeat' split) <;> (first | rfl | contradiction | ((try simp only [cz_in, cz_du, cz_lt, cz_le, cz_eq, cz_l] at *) <;> (first | omega | (simp_all; done))))
theorem c_X7_seesNow_a24 (ds : Int32) (r_2 : Int32) (x_29 : Int32) (x_30 : Int32) (x_31 : Int32) (x_32 : Int32) (ex_29 : x_29 = 2 * ds) (ex_30 : x_30 = r_2 - x_29) (ex_31 : x_31 = x_30 + 8) (ex_32 : x_32 = x_31 - x_31 / 8 * 8) : x_32 = cz_tn r_2 ds := by subst_vars; rfl
theorem c_X7_seesNow_a25 (i0 : Nat) (g1 : Nat → Int32) (x_32 : Int32) (c_33 : ¬ x_32 = 0) (c_34 : ¬ x_32 = 4) (c_35 : ¬ 4 ≤ x_32) : (2 : Int32) = cz_sw1 (g1 i0) x_32 := by (try subst_vars); (try simp only [cz_sw1]); (repeat' split) <;> (first | rfl | contradiction | ((try simp only [cz_in, cz_du, cz_lt, cz_le, cz_eq, cz_l] at *) <;> (first | omega | (simp_all; done))))
theorem c_X7_seesNow_a26 (ds : Int32) (r_2 : Int32) (x_29 : Int32) (x_30 : Int32) (x_31 : Int32) (x_32 : Int32) (ex_29 : x_29 = 2 * ds) (ex_30 : x_30 = r_2 - x_29) (ex_31 : x_31 = x_30 + 8) (ex_32 : x_32 = x_31 - x_31 / 8 * 8) : x_32 = cz_tn r_2 ds := by subst_vars; rfl
theorem c_X7_seesNow_a27 (i0 : Nat) (g1 : Nat → Int32) (x_32 : Int32) (c_33 : ¬ x_32 = 0) (c_34 : x_32 = 4) : (4 : Int32) = cz_sw1 (g1 i0) x_32 := by (try subst_vars); (try simp only [cz_sw1]); (repeat' split) <;> (first | rfl | contradiction | ((try simp only [cz_in, cz_du, cz_lt, cz_le, cz_eq, cz_l] at *) <;> (first | omega | (simp_all; done))))
theorem c_X7_seesNow_a28 (ds : Int32) (r_2 : Int32) (x_29 : Int32) (x_30 : Int32) (x_31 : Int32) (x_32 : Int32) (ex_29 : x_29 = 2 * ds) (ex_30 : x_30 = r_2 - x_29) (ex_31 : x_31 = x_30 + 8) (ex_32 : x_32 = x_31 - x_31 / 8 * 8) : x_32 = cz_tn r_2 ds := by subst_vars; rfl
theorem c_X7_seesNow_a29 (i0 : Nat) (g1 : Nat → Int32) (x_32 : Int32) (c_33 : x_32 = 0) (c_36 : ¬ (g1 i0) = 1) : (3 : Int32) = cz_sw1 (g1 i0) x_32 := by (try subst_vars); (try simp only [cz_sw1]); (repeat' split) <;> (first | rfl | contradiction | ((try simp only [cz_in, cz_du, cz_lt, cz_le, cz_eq, cz_l] at *) <;> (first | omega | (simp_all; done))))
theorem c_X7_seesNow_a30 (ds : Int32) (r_2 : Int32) (x_29 : Int32) (x_30 : Int32) (x_31 : Int32) (x_32 : Int32) (ex_29 : x_29 = 2 * ds) (ex_30 : x_30 = r_2 - x_29) (ex_31 : x_31 = x_30 + 8) (ex_32 : x_32 = x_31 - x_31 / 8 * 8) : x_32 = cz_tn r_2 ds := by subst_vars; rfl
theorem c_X7_seesNow_a31 (i0 : Nat) (g1 : Nat → Int32) (x_32 : Int32) (c_33 : x_32 = 0) (c_36 : (g1 i0) = 1) : (0 : Int32) = cz_sw1 (g1 i0) x_32 := by (try subst_vars); (try simp only [cz_sw1]); (repeat' split) <;> (first | rfl | contradiction | ((try simp only [cz_in, cz_du, cz_lt, cz_le, cz_eq, cz_l] at *) <;> (first | omega | (simp_all; done))))
theorem c_X7_seesNow_a32 (ds : Int32) (r_2 : Int32) (x_42 : Int32) (x_43 : Int32) (x_44 : Int32) (x_45 : Int32) (ex_42 : x_42 = 2 * ds) (ex_43 : x_43 = r_2 - x_42) (ex_44 : x_44 = x_43 + 8) (ex_45 : x_45 = x_44 - x_44 / 8 * 8) : x_45 = cz_tn r_2 ds := by subst_vars; rfl
theorem c_X7_seesNow_a33 (i0 : Nat) (g1 : Nat → Int32) (x_45 : Int32) (c_46 : ¬ x_45 = 0) (c_47 : ¬ x_45 = 4) (c_48 : 4 ≤ x_45) : (1 : Int32) = cz_sw1 (g1 i0) x_45 := by (try subst_vars); (try simp only [cz_sw1]); (repeat' split) <;> (first | rfl | contradiction | ((try simp only [cz_in, cz_du, cz_lt, cz_le, cz_eq, cz_l] at *) <;> (first | omega | (simp_all; done))))
theorem c_X7_seesNow_a34 (ds : Int32) (r_2 : Int32) (x_42 : Int32) (x_43 : Int32) (x_44 : Int32) (x_45 : Int32) (ex_42 : x_42 = 2 * ds) (ex_43 : x_43 = r_2 - x_42) (ex_44 : x_44 = x_43 + 8) (ex_45 : x_45 = x_44 - x_44 / 8 * 8) : x_45 = cz_tn r_2 ds := by subst_vars; rfl
theorem c_X7_seesNow_a35 (i0 : Nat) (g1 : Nat → Int32) (x_45 : Int32) (c_46 : ¬ x_45 = 0) (c_47 : ¬ x_45 = 4) (c_48 : ¬ 4 ≤ x_45) : (2 : Int32) = cz_sw1 (g1 i0) x_45 := by (try subst_vars); (try simp only [cz_sw1]); (repeat' split) <;> (first | rfl | contradiction | ((try simp only [cz_in, cz_du, cz_lt, cz_le, cz_eq, cz_l] at *) <;> (first | omega | (simp_all; done))))
theorem c_X7_seesNow_a36 (ds : Int32) (r_2 : Int32) (x_42 : Int32) (x_43 : Int32) (x_44 : Int32) (x_45 : Int32) (ex_42 : x_42 = 2 * ds) (ex_43 : x_43 = r_2 - x_42) (ex_44 : x_44 = x_43 + 8) (ex_45 : x_45 = x_44 - x_44 / 8 * 8) : x_45 = cz_tn r_2 ds := by subst_vars; rfl
theorem c_X7_seesNow_a37 (i0 : Nat) (g1 : Nat → Int32) (x_45 : Int32) (c_46 : ¬ x_45 = 0) (c_47 : x_45 = 4) : (4 : Int32) = cz_sw1 (g1 i0) x_45 := by (try subst_vars); (try simp only [cz_sw1]); (repeat' split) <;> (first | rfl | contradiction | ((try simp only [cz_in, cz_du, cz_lt, cz_le, cz_eq, cz_l] at *) <;> (first | omega | (simp_all; done))))
theorem c_X7_seesNow_a38 (ds : Int32) (r_2 : Int32) (x_42 : Int32) (x_43 : Int32) (x_44 : Int32) (x_45 : Int32) (ex_42 : x_42 = 2 * ds) (ex_43 : x_43 = r_2 - x_42) (ex_44 : x_44 = x_43 + 8) (ex_45 : x_45 = x_44 - x_44 / 8 * 8) : x_45 = cz_tn r_2 ds := by subst_vars; rfl
theorem c_X7_seesNow_a39 (i0 : Nat) (g1 : Nat → Int32) (x_45 : Int32) (c_46 : x_45 = 0) (c_49 : ¬ (g1 i0) = 1) : (3 : Int32) = cz_sw1 (g1 i0) x_45 := by (try subst_vars); (try simp only [cz_sw1]); (repeat' split) <;> (first | rfl | contradiction | ((try simp only [cz_in, cz_du, cz_lt, cz_le, cz_eq, cz_l] at *) <;> (first | omega | (simp_all; done))))
theorem c_X7_seesNow_a40 (ds : Int32) (r_2 : Int32) (x_42 : Int32) (x_43 : Int32) (x_44 : Int32) (x_45 : Int32) (ex_42 : x_42 = 2 * ds) (ex_43 : x_43 = r_2 - x_42) (ex_44 : x_44 = x_43 + 8) (ex_45 : x_45 = x_44 - x_44 / 8 * 8) : x_45 = cz_tn r_2 ds := by subst_vars; rfl
theorem c_X7_seesNow_a41 (i0 : Nat) (g1 : Nat → Int32) (x_45 : Int32) (c_46 : x_45 = 0) (c_49 : (g1 i0) = 1) : (0 : Int32) = cz_sw1 (g1 i0) x_45 := by (try subst_vars); (try simp only [cz_sw1]); (repeat' split) <;> (first | rfl | contradiction | ((try simp only [cz_in, cz_du, cz_lt, cz_le, cz_eq, cz_l] at *) <;> (first | omega | (simp_all; done))))
theorem c_X7_seesNow_a42 (ds : Int32) (r_2 : Int32) (x_53 : Int32) (x_54 : Int32) (x_55 : Int32) (x_56 : Int32) (ex_53 : x_53 = 2 * ds) (ex_54 : x_54 = r_2 - x_53) (ex_55 : x_55 = x_54 + 8) (ex_56 : x_56 = x_55 - x_55 / 8 * 8) : x_56 = cz_tn r_2 ds := by subst_vars; rfl
theorem c_X7_seesNow_a43 (i0 : Nat) (g1 : Nat → Int32) (x_56 : Int32) (c_57 : ¬ x_56 = 0) (c_58 : ¬ x_56 = 4) (c_59 : 4 ≤ x_56) : (1 : Int32) = cz_sw1 (g1 i0) x_56 := by (try subst_vars); (try simp only [cz_sw1]); (repeat' split) <;> (first | rfl | contradiction | ((try simp only [cz_in, cz_du, cz_lt, cz_le, cz_eq, cz_l] at *) <;> (first | omega | (simp_all; done))))
theorem c_X7_seesNow_a44 (ds : Int32) (r_2 : Int32) (x_53 : Int32) (x_54 : Int32) (x_55 : Int32) (x_56 : Int32) (ex_53 : x_53 = 2 * ds) (ex_54 : x_54 = r_2 - x_53) (ex_55 : x_55 = x_54 + 8) (ex_56 : x_56 = x_55 - x_55 / 8 * 8) : x_56 = cz_tn r_2 ds := by subst_vars; rfl
theorem c_X7_seesNow_a45 (i0 : Nat) (g1 : Nat → Int32) (x_56 : Int32) (c_57 : ¬ x_56 = 0) (c_58 : ¬ x_56 = 4) (c_59 : ¬ 4 ≤ x_56) : (2 : Int32) = cz_sw1 (g1 i0) x_56 := by (try subst_vars); (try simp only [cz_sw1]); (repeat' split) <;> (first | rfl | contradiction | ((try simp only [cz_in, cz_du, cz_lt, cz_le, cz_eq, cz_l] at *) <;> (first | omega | (simp_all; done))))
theorem c_X7_seesNow_a46 (ds : Int32) (r_2 : Int32) (x_53 : Int32) (x_54 : Int32) (x_55 : Int32) (x_56 : Int32) (ex_53 : x_53 = 2 * ds) (ex_54 : x_54 = r_2 - x_53) (ex_55 : x_55 = x_54 + 8) (ex_56 : x_56 = x_55 - x_55 / 8 * 8) : x_56 = cz_tn r_2 ds := by subst_vars; rfl
theorem c_X7_seesNow_a47 (i0 : Nat) (g1 : Nat → Int32) (x_56 : Int32) (c_57 : ¬ x_56 = 0) (c_58 : x_56 = 4) : (4 : Int32) = cz_sw1 (g1 i0) x_56 := by (try subst_vars); (try simp only [cz_sw1]); (repeat' split) <;> (first | rfl | contradiction | ((try simp only [cz_in, cz_du, cz_lt, cz_le, cz_eq, cz_l] at *) <;> (first | omega | (simp_all; done))))
theorem c_X7_seesNow_a48 (ds : Int32) (r_2 : Int32) (x_53 : Int32) (x_54 : Int32) (x_55 : Int32) (x_56 : Int32) (ex_53 : x_53 = 2 * ds) (ex_54 : x_54 = r_2 - x_53) (ex_55 : x_55 = x_54 + 8) (ex_56 : x_56 = x_55 - x_55 / 8 * 8) : x_56 = cz_tn r_2 ds := by subst_vars; rfl
theorem c_X7_seesNow_a49 (i0 : Nat) (g1 : Nat → Int32) (x_56 : Int32) (c_57 : x_56 = 0) (c_60 : ¬ (g1 i0) = 1) : (3 : Int32) = cz_sw1 (g1 i0) x_56 := by (try subst_vars); (try simp only [cz_sw1]); (repeat' split) <;> (first | rfl | contradiction | ((try simp only [cz_in, cz_du, cz_lt, cz_le, cz_eq, cz_l] at *) <;> (first | omega | (simp_all; done))))
theorem c_X7_seesNow_a50 (ds : Int32) (r_2 : Int32) (x_53 : Int32) (x_54 : Int32) (x_55 : Int32) (x_56 : Int32) (ex_53 : x_53 = 2 * ds) (ex_54 : x_54 = r_2 - x_53) (ex_55 : x_55 = x_54 + 8) (ex_56 : x_56 = x_55 - x_55 / 8 * 8) : x_56 = cz_tn r_2 ds := by subst_vars; rfl
theorem c_X7_seesNow_a51 (i0 : Nat) (g1 : Nat → Int32) (x_56 : Int32) (c_57 : x_56 = 0) (c_60 : (g1 i0) = 1) : (0 : Int32) = cz_sw1 (g1 i0) x_56 := by (try subst_vars); (try simp only [cz_sw1]); (repeat' split) <;> (first | rfl | contradiction | ((try simp only [cz_in, cz_du, cz_lt, cz_le, cz_eq, cz_l] at *) <;> (first | omega | (simp_all; done))))
theorem c_X7_seesNow_a52 (ds : Int32) (r_2 : Int32) (x_63 : Int32) (x_64 : Int32) (x_65 : Int32) (x_66 : Int32) (ex_63 : x_63 = 2 * ds) (ex_64 : x_64 = r_2 - x_63) (ex_65 : x_65 = x_64 + 8) (ex_66 : x_66 = x_65 - x_65 / 8 * 8) : x_66 = cz_tn r_2 ds := by subst_vars; rfl
theorem c_X7_seesNow_a53 (i0 : Nat) (g1 : Nat → Int32) (x_66 : Int32) (c_67 : ¬ x_66 = 0) (c_68 : ¬ x_66 = 4) (c_69 : 4 ≤ x_66) : (1 : Int32) = cz_sw1 (g1 i0) x_66 := by (try subst_vars); (try simp only [cz_sw1]); (repeat' split) <;> (first | rfl | contradiction | ((try simp only [cz_in, cz_du, cz_lt, cz_le, cz_eq, cz_l] at *) <;> (first | omega | (simp_all; done))))
theorem c_X7_seesNow_a54 (ds : Int32) (r_2 : Int32) (x_63 : Int32) (x_64 : Int32) (x_65 : Int32) (x_66 : Int32) (ex_63 : x_63 = 2 * ds) (ex_64 : x_64 = r_2 - x_63) (ex_65 : x_65 = x_64 + 8) (ex_66 : x_66 = x_65 - x_65 / 8 * 8) : x_66 = cz_tn r_2 ds := by subst_vars; rfl
theorem c_X7_seesNow_a55 (i0 : Nat) (g1 : Nat → Int32) (x_66 : Int32) (c_67 : ¬ x_66 = 0) (c_68 : ¬ x_66 = 4) (c_69 : ¬ 4 ≤ x_66) : (2 : Int32) = cz_sw1 (g1 i0) x_66 := by (try subst_vars); (try simp only [cz_sw1]); (repeat' split) <;> (first | rfl | contradiction | ((try simp only [cz_in, cz_du, cz_lt, cz_le, cz_eq, cz_l] at *) <;> (first | omega | (simp_all; done))))
theorem c_X7_seesNow_a56 (ds : Int32) (r_2 : Int32) (x_63 : Int32) (x_64 : Int32) (x_65 : Int32) (x_66 : Int32) (ex_63 : x_63 = 2 * ds) (ex_64 : x_64 = r_2 - x_63) (ex_65 : x_65 = x_64 + 8) (ex_66 : x_66 = x_65 - x_65 / 8 * 8) : x_66 = cz_tn r_2 ds := by subst_vars; rfl
theorem c_X7_seesNow_a57 (i0 : Nat) (g1 : Nat → Int32) (x_66 : Int32) (c_67 : ¬ x_66 = 0) (c_68 : x_66 = 4) : (4 : Int32) = cz_sw1 (g1 i0) x_66 := by (try subst_vars); (try simp only [cz_sw1]); (repeat' split) <;> (first | rfl | contradiction | ((try simp only [cz_in, cz_du, cz_lt, cz_le, cz_eq, cz_l] at *) <;> (first | omega | (simp_all; done))))
theorem c_X7_seesNow_a58 (ds : Int32) (r_2 : Int32) (x_63 : Int32) (x_64 : Int32) (x_65 : Int32) (x_66 : Int32) (ex_63 : x_63 = 2 * ds) (ex_64 : x_64 = r_2 - x_63) (ex_65 : x_65 = x_64 + 8) (ex_66 : x_66 = x_65 - x_65 / 8 * 8) : x_66 = cz_tn r_2 ds := by subst_vars; rfl
theorem c_X7_seesNow_a59 (i0 : Nat) (g1 : Nat → Int32) (x_66 : Int32) (c_67 : x_66 = 0) (c_70 : ¬ (g1 i0) = 1) : (3 : Int32) = cz_sw1 (g1 i0) x_66 := by (try subst_vars); (try simp only [cz_sw1]); (repeat' split) <;> (first | rfl | contradiction | ((try simp only [cz_in, cz_du, cz_lt, cz_le, cz_eq, cz_l] at *) <;> (first | omega | (simp_all; done))))
theorem c_X7_seesNow_a60 (ds : Int32) (r_2 : Int32) (x_63 : Int32) (x_64 : Int32) (x_65 : Int32) (x_66 : Int32) (ex_63 : x_63 = 2 * ds) (ex_64 : x_64 = r_2 - x_63) (ex_65 : x_65 = x_64 + 8) (ex_66 : x_66 = x_65 - x_65 / 8 * 8) : x_66 = cz_tn r_2 ds := by subst_vars; rfl
theorem c_X7_seesNow_a61 (i0 : Nat) (g1 : Nat → Int32) (x_66 : Int32) (c_67 : x_66 = 0) (c_70 : (g1 i0) = 1) : (0 : Int32) = cz_sw1 (g1 i0) x_66 := by (try subst_vars); (try simp only [cz_sw1]); (repeat' split) <;> (first | rfl | contradiction | ((try simp only [cz_in, cz_du, cz_lt, cz_le, cz_eq, cz_l] at *) <;> (first | omega | (simp_all; done))))
set_option maxHeartbeats 4000000 in
set_option maxRecDepth 100000 in
theorem c_X7_seesNow (l : Launch) (dC : Nat → ClassId) (dI : Nat → Nat → Nat) (cI cB : ClassId) (h0 : Nat) (i0 : Nat) (ih : Int32) (hn : Int32) (fl : Int32) (da : Int32) (ds : Int32) (ac : Int32) (kc : Nat) (m1 : Nat) (m2 : Nat) (m3 : Nat) (m4 : Nat) (m5 : Nat) (pl : Nat) (pg : Nat) (fa : Int32) (nf : Int32) (m6 : Nat) (m7 : Nat) (m8 : Nat) (sd : Int64) (ik : Int32) (kh : Int32) (km : Nat) (ka : Int32) (ks : Int32) (kac : Int32) (m9 : Nat) (m10 : Nat) (m11 : Nat) (m12 : Nat) (hv : Int64) (g1 : Nat → Int32) (g2 : Nat → Int32) (hkc : kc ≤ 6) (hpl : cz_pl g2) (hdu : cz_du da ds) (hi6 : i0 < 6) : Met l yX7_seesNow wsX7_seesNow ({ frames := 2, cells := 0, slots := 0, locals := 49 }) (cz_Pp dC dI cI cB [.ref h0, .int (nI i0)] [(h0, .inr (7, [.int ih, .int hn, .int fl, .int da, .int ds, .int ac, .int (nI kc), .ref m1, .ref m2, .ref m3, .ref m4, .ref m5, .int (nI pl), .ref pg, .int fa, .int nf, .ref m6, .ref m7, .ref m8, .long sd, .int ik, .int kh, .int (nI km), .int ka, .int ks, .int kac, .ref m9, .ref m10, .ref m11, .ref m12, .long hv])), (m1, .inl (cI, 6, .inl g1)), (m2, .inl (cI, 6, .inl g2))]) (vp_Si (fun r : Int32 => r = cz_sw (g1 i0) (g2 i0) da ds fl g2 kc)) 0 0 (fun _ => False) := by
  refine cz_of (cc := cX7_seesNow) (maxL := 4) (ret := (some .int)) (by decide) rfl ?_
  intro p e s m args below meth c s₁ Q B hml hv hQ
  obtain ⟨rfl, hP, hN⟩ := hv
  have hx := B.exec
  have hb := B.bytes
  have hr := B.returns
  have hts := atoms_spec (ws := wsX7_seesNow) B.pre
  have hown : s.vm.findClass RX7 = some m.cls := findClass_of_methodNamed B.named
  have hlocks := B.notSynchronized
  have hK := hN.1
  have hiX7 : ∀ w ∈ wsX70, w ∈ wsX7_seesNow := (fun _ h => List.mem_cons_of_mem _ (List.mem_append_right _ h))
  have hl := lv_entry ([.ref h0, .int (nI i0)]) (n := 4) (Nat.le_of_ble_eq_true rfl)
  rw [lg_entry_eq]
  generalize (lg_sl ([.ref h0, .int (nI i0)]) ++ List.replicate (4 - (lg_sl ([.ref h0, .int (nI i0)])).length) Slot.unset).toArray = ls at hl ⊢
  have hl : lv_has ls 4 [(0, .ref h0), (1, .int (nI i0))] := hl
  refine lv_aload_n hx hb dX7_seesNow_0 rfl (lv_at hl 0 rfl) ?_
  refine va_get (D := (dC, dI)) (ci := 7) (v := .int da) (C := RX7) (T := TX7) (N := 31) hx hb hts hiX7 hown hK hP 0 rfl rfl 3 (by decide) (hts (.fieldLink RX7 7 "LeftProfileModel" "dukeAt" "I") (List.mem_of_getElem? (i := 1) rfl)) (fun _ h9 => h9) rfl dX7_seesNow_1 ?_
  refine lv_iconst (v := (-1)) hx hb dX7_seesNow_4 (by decide) ?_
  refine lv_icmp_ne (tgt := 12) hx hb dX7_seesNow_5 (by decide) (fun c_1 => ?_) (fun c_1 => ?_)
  · refine lv_aload_n hx hb dX7_seesNow_12 rfl (lv_at hl 0 rfl) ?_
    refine va_get (D := (dC, dI)) (ci := 7) (v := .int da) (C := RX7) (T := TX7) (N := 31) hx hb hts hiX7 hown hK hP 0 rfl rfl 3 (by decide) (hts (.fieldLink RX7 7 "LeftProfileModel" "dukeAt" "I") (List.mem_of_getElem? (i := 1) rfl)) (fun _ h9 => h9) rfl dX7_seesNow_13 ?_
    refine lv_aload_n hx hb dX7_seesNow_16 rfl (lv_at hl 0 rfl) ?_
    refine va_get (D := (dC, dI)) (ci := 7) (v := .ref m2) (C := RX7) (T := TX7) (N := 31) hx hb hts hiX7 hown hK hP 0 rfl rfl 8 (by decide) (hts (.fieldLink RX7 20 "LeftProfileModel" "placeOf" "[I") (List.mem_of_getElem? (i := 2) rfl)) (fun _ h9 => h9) rfl dX7_seesNow_17 ?_
    refine lv_iload_n hx hb dX7_seesNow_20 rfl (lv_at hl 1 rfl) ?_
    refine va_iald hx hb hK hP 2 0 rfl rfl (vp_in_nI (n := i0) (by omega) (by omega)) dX7_seesNow_21 ?_
    refine cz_i (y := (g2 i0)) (congrArg g2 (nI_clamp (n := i0) (by omega))) ?_
    refine vp_callSi (cz_run (va_runS (As := [.int da, .int (g2 i0)]) (rest := []) ⟨hx, hb, hml, hown, hts⟩ (c_X7_wayTo l dC dI cI cB da (g2 i0) (c_X7_seesNow_a1 i0 da ds kc g2 hkc hpl hdu hi6 c_1) (hpl i0 (by omega))) (va_cwS 2 hts gX7_seesNow_X7_wayTo rfl rfl rfl (by decide +kernel) ⟨Nat.le_of_ble_eq_true rfl, Nat.le_of_ble_eq_true rfl⟩) (cz_pS (hP.sub (ws' := []) [] rfl) hN) rfl rfl hl.1 rfl (lv_room (Nat.le_of_ble_eq_true rfl)) dX7_seesNow_22 ⟨Nat.le_of_ble_eq_true rfl, Nat.le_of_ble_eq_true rfl⟩)) (fun r_2 hr_2 => ?_)
    obtain ⟨hr_2, hr_2b⟩ := hr_2
    refine lv_istore_n (lv' := [(2, .int r_2), (0, .ref h0), (1, .int (nI i0))]) hx hb dX7_seesNow_25 rfl hl (by decide) rfl (fun ls hl => ?_)
    refine lv_iload_n hx hb dX7_seesNow_26 rfl (lv_at hl 0 rfl) ?_
    refine lv_iconst (v := (-1)) hx hb dX7_seesNow_27 (by decide) ?_
    refine lv_icmp_eq (tgt := 58) hx hb dX7_seesNow_28 (by decide) (fun c_3 => ?_) (fun c_3 => ?_)
    · refine lv_iconst (v := 0) hx hb dX7_seesNow_58 (by decide) ?_
      rw [hQ]; exact W.iret (v := 0) hx hb hr (fun t ht hW => ⟨0, rfl, (cz_sw_b c_1 hr_2 c_3), ht⟩) (fun _ h => absurd h List.not_mem_nil) dX7_seesNow_59
    · refine lv_aload_n hx hb dX7_seesNow_31 rfl (lv_at hl 1 rfl) ?_
      refine va_get (D := (dC, dI)) (ci := 7) (v := .ref m1) (C := RX7) (T := TX7) (N := 31) hx hb hts hiX7 hown hK hP 0 rfl rfl 7 (by decide) (hts (.fieldLink RX7 16 "LeftProfileModel" "kindOf" "[I") (List.mem_of_getElem? (i := 3) rfl)) (fun _ h9 => h9) rfl dX7_seesNow_32 ?_
      refine lv_iload_n hx hb dX7_seesNow_35 rfl (lv_at hl 2 rfl) ?_
      refine va_iald hx hb hK hP 1 0 rfl rfl (vp_in_nI (n := i0) (by omega) (by omega)) dX7_seesNow_36 ?_
      refine cz_i (y := (g1 i0)) (congrArg g1 (nI_clamp (n := i0) (by omega))) ?_
      refine lv_iconst (v := 2) hx hb dX7_seesNow_37 (by decide) ?_
      refine lv_icmp_ne (tgt := 60) hx hb dX7_seesNow_38 (by decide) (fun c_4 => ?_) (fun c_4 => ?_)
      · refine lv_aload_n hx hb dX7_seesNow_60 rfl (lv_at hl 1 rfl) ?_
        refine lv_aload_n hx hb dX7_seesNow_61 rfl (lv_at hl 1 rfl) ?_
        refine va_get (D := (dC, dI)) (ci := 7) (v := .int da) (C := RX7) (T := TX7) (N := 31) hx hb hts hiX7 hown hK hP 0 rfl rfl 3 (by decide) (hts (.fieldLink RX7 7 "LeftProfileModel" "dukeAt" "I") (List.mem_of_getElem? (i := 1) rfl)) (fun _ h9 => h9) rfl dX7_seesNow_62 ?_
        refine lv_aload_n hx hb dX7_seesNow_65 rfl (lv_at hl 1 rfl) ?_
        refine va_get (D := (dC, dI)) (ci := 7) (v := .ref m2) (C := RX7) (T := TX7) (N := 31) hx hb hts hiX7 hown hK hP 0 rfl rfl 8 (by decide) (hts (.fieldLink RX7 20 "LeftProfileModel" "placeOf" "[I") (List.mem_of_getElem? (i := 2) rfl)) (fun _ h9 => h9) rfl dX7_seesNow_66 ?_
        refine lv_iload_n hx hb dX7_seesNow_69 rfl (lv_at hl 2 rfl) ?_
        refine va_iald hx hb hK hP 2 0 rfl rfl (vp_in_nI (n := i0) (by omega) (by omega)) dX7_seesNow_70 ?_
        refine cz_i (y := (g2 i0)) (congrArg g2 (nI_clamp (n := i0) (by omega))) ?_
        refine lv_aload_n hx hb dX7_seesNow_71 rfl (lv_at hl 1 rfl) ?_
        refine va_get (D := (dC, dI)) (ci := 7) (v := .ref m1) (C := RX7) (T := TX7) (N := 31) hx hb hts hiX7 hown hK hP 0 rfl rfl 7 (by decide) (hts (.fieldLink RX7 16 "LeftProfileModel" "kindOf" "[I") (List.mem_of_getElem? (i := 3) rfl)) (fun _ h9 => h9) rfl dX7_seesNow_72 ?_
        refine lv_iload_n hx hb dX7_seesNow_75 rfl (lv_at hl 2 rfl) ?_
        refine va_iald hx hb hK hP 1 0 rfl rfl (vp_in_nI (n := i0) (by omega) (by omega)) dX7_seesNow_76 ?_
        refine cz_i (y := (g1 i0)) (congrArg g1 (nI_clamp (n := i0) (by omega))) ?_
        refine lv_iconst (v := 3) hx hb dX7_seesNow_77 (by decide) ?_
        refine lv_icmp_eq (tgt := 95) hx hb dX7_seesNow_78 (by decide) (fun c_5 => ?_) (fun c_5 => ?_)
        · refine lv_iconst (v := 0) hx hb dX7_seesNow_95 (by decide) ?_
          refine vp_callSi (cz_run (va_runV (As := [.int da, .int (g2 i0), .int 0]) (rest := []) ⟨hx, hb, hml, hown, hts⟩ (c_X7_isClear l dC dI cI cB h0 da (g2 i0) 0 ih hn fl da ds ac kc m1 m2 m3 m4 m5 pl pg fa nf m6 m7 m8 sd ik kh km ka ks kac m9 m10 m11 m12 hv g2 hkc (hr_2b.resolve_left c_3)) (cwV 3 hts gX7_seesNow_X7_isClear rfl rfl rfl (by decide +kernel) ⟨Nat.le_of_ble_eq_true rfl, Nat.le_of_ble_eq_true rfl⟩) (cz_pV (hP.sub (ws' := [(h0, .inr (7, [.int ih, .int hn, .int fl, .int da, .int ds, .int ac, .int (nI kc), .ref m1, .ref m2, .ref m3, .ref m4, .ref m5, .int (nI pl), .ref pg, .int fa, .int nf, .ref m6, .ref m7, .ref m8, .long sd, .int ik, .int kh, .int (nI km), .int ka, .int ks, .int kac, .ref m9, .ref m10, .ref m11, .ref m12, .long hv])), (m2, .inl (cI, 6, .inl g2))]) [0, 2] rfl) hN (va_recv hK (hP.sub (ws' := [(h0, .inr (7, [.int ih, .int hn, .int fl, .int da, .int ds, .int ac, .int (nI kc), .ref m1, .ref m2, .ref m3, .ref m4, .ref m5, .int (nI pl), .ref pg, .int fa, .int nf, .ref m6, .ref m7, .ref m8, .long sd, .int ik, .int kh, .int (nI km), .int ka, .int ks, .int kac, .ref m9, .ref m10, .ref m11, .ref m12, .long hv])), (m2, .inl (cI, 6, .inl g2))]) [0, 2] rfl) (ci := 7) (q0 := 0) rfl rfl)) rfl rfl hl.1 rfl (lv_room (Nat.le_of_ble_eq_true rfl)) dX7_seesNow_96 ⟨Nat.le_of_ble_eq_true rfl, Nat.le_of_ble_eq_true rfl⟩)) (fun r_6 hr_6 => ?_)
          refine lv_if_ne (tgt := 104) hx hb dX7_seesNow_99 (by decide) (fun c_7 => ?_) (fun c_7 => ?_)
          · refine lv_iload_n hx hb dX7_seesNow_104 rfl (lv_at hl 0 rfl) ?_
            refine lv_iconst (v := 2) hx hb dX7_seesNow_105 (by decide) ?_
            refine lv_aload_n hx hb dX7_seesNow_106 rfl (lv_at hl 1 rfl) ?_
            refine va_get (D := (dC, dI)) (ci := 7) (v := .int ds) (C := RX7) (T := TX7) (N := 31) hx hb hts hiX7 hown hK hP 0 rfl rfl 4 (by decide) (hts (.fieldLink RX7 13 "LeftProfileModel" "dukeSide" "I") (List.mem_of_getElem? (i := 4) rfl)) (fun _ h9 => h9) rfl dX7_seesNow_107 ?_
            refine lv_imul hx hb dX7_seesNow_110 ?_
            refine lv_topi (fun x_8 ex_8 => ?_)
            refine lv_isub hx hb dX7_seesNow_111 ?_
            refine lv_topi (fun x_9 ex_9 => ?_)
            refine lv_bipush (v := 8) hx hb dX7_seesNow_112 (by decide) ?_
            refine lv_iadd hx hb dX7_seesNow_114 ?_
            refine lv_topi (fun x_10 ex_10 => ?_)
            refine lv_bipush (v := 8) hx hb dX7_seesNow_115 (by decide) ?_
            refine lv_irem hx hb dX7_seesNow_117 (by decide) ?_
            refine lv_topi (fun x_11 ex_11 => ?_)
            refine lv_istore_n (lv' := [(3, .int x_11), (2, .int r_2), (0, .ref h0), (1, .int (nI i0))]) hx hb dX7_seesNow_118 rfl hl (by decide) rfl (fun ls hl => ?_)
            refine lv_iload_n hx hb dX7_seesNow_119 rfl (lv_at hl 0 rfl) ?_
            refine lv_if_ne (tgt := 139) hx hb dX7_seesNow_120 (by decide) (fun c_12 => ?_) (fun c_12 => ?_)
            · refine lv_iload_n hx hb dX7_seesNow_139 rfl (lv_at hl 0 rfl) ?_
              refine lv_iconst (v := 4) hx hb dX7_seesNow_140 (by decide) ?_
              refine lv_icmp_ne (tgt := 148) hx hb dX7_seesNow_141 (by decide) (fun c_13 => ?_) (fun c_13 => ?_)
              · refine lv_iload_n hx hb dX7_seesNow_148 rfl (lv_at hl 0 rfl) ?_
                refine lv_iconst (v := 4) hx hb dX7_seesNow_149 (by decide) ?_
                refine lv_icmp_ge (tgt := 157) hx hb dX7_seesNow_150 (by decide) (fun c_14 => ?_) (fun c_14 => ?_)
                · refine lv_iconst (v := 1) hx hb dX7_seesNow_157 (by decide) ?_
                  rw [hQ]; exact W.iret (v := 1) hx hb hr (fun t ht hW => ⟨1, rfl, (cz_sw_e c_1 hr_2 c_3 (fun h => c_4 h.1) (cz_pe3 c_5) hr_6 c_7 (c_X7_seesNow_a2 ds r_2 x_8 x_9 x_10 x_11 ex_8 ex_9 ex_10 ex_11) (c_X7_seesNow_a3 i0 g1 x_11 c_12 c_13 c_14)), ht⟩) (fun _ h => absurd h List.not_mem_nil) dX7_seesNow_158
                · refine lv_iconst (v := 2) hx hb dX7_seesNow_153 (by decide) ?_
                  refine lv_goto (tgt := 158) hx hb dX7_seesNow_154 (by decide) ?_
                  rw [hQ]; exact W.iret (v := 2) hx hb hr (fun t ht hW => ⟨2, rfl, (cz_sw_e c_1 hr_2 c_3 (fun h => c_4 h.1) (cz_pe3 c_5) hr_6 c_7 (c_X7_seesNow_a4 ds r_2 x_8 x_9 x_10 x_11 ex_8 ex_9 ex_10 ex_11) (c_X7_seesNow_a5 i0 g1 x_11 c_12 c_13 c_14)), ht⟩) (fun _ h => absurd h List.not_mem_nil) dX7_seesNow_158
              · refine lv_iconst (v := 4) hx hb dX7_seesNow_144 (by decide) ?_
                refine lv_goto (tgt := 158) hx hb dX7_seesNow_145 (by decide) ?_
                rw [hQ]; exact W.iret (v := 4) hx hb hr (fun t ht hW => ⟨4, rfl, (cz_sw_e c_1 hr_2 c_3 (fun h => c_4 h.1) (cz_pe3 c_5) hr_6 c_7 (c_X7_seesNow_a6 ds r_2 x_8 x_9 x_10 x_11 ex_8 ex_9 ex_10 ex_11) (c_X7_seesNow_a7 i0 g1 x_11 c_12 c_13)), ht⟩) (fun _ h => absurd h List.not_mem_nil) dX7_seesNow_158
            · refine lv_aload_n hx hb dX7_seesNow_123 rfl (lv_at hl 2 rfl) ?_
              refine va_get (D := (dC, dI)) (ci := 7) (v := .ref m1) (C := RX7) (T := TX7) (N := 31) hx hb hts hiX7 hown hK hP 0 rfl rfl 7 (by decide) (hts (.fieldLink RX7 16 "LeftProfileModel" "kindOf" "[I") (List.mem_of_getElem? (i := 3) rfl)) (fun _ h9 => h9) rfl dX7_seesNow_124 ?_
              refine lv_iload_n hx hb dX7_seesNow_127 rfl (lv_at hl 3 rfl) ?_
              refine va_iald hx hb hK hP 1 0 rfl rfl (vp_in_nI (n := i0) (by omega) (by omega)) dX7_seesNow_128 ?_
              refine cz_i (y := (g1 i0)) (congrArg g1 (nI_clamp (n := i0) (by omega))) ?_
              refine lv_iconst (v := 1) hx hb dX7_seesNow_129 (by decide) ?_
              refine lv_icmp_ne (tgt := 137) hx hb dX7_seesNow_130 (by decide) (fun c_15 => ?_) (fun c_15 => ?_)
              · refine lv_iconst (v := 3) hx hb dX7_seesNow_137 (by decide) ?_
                rw [hQ]; exact W.iret (v := 3) hx hb hr (fun t ht hW => ⟨3, rfl, (cz_sw_e c_1 hr_2 c_3 (fun h => c_4 h.1) (cz_pe3 c_5) hr_6 c_7 (c_X7_seesNow_a8 ds r_2 x_8 x_9 x_10 x_11 ex_8 ex_9 ex_10 ex_11) (c_X7_seesNow_a9 i0 g1 x_11 c_12 c_15)), ht⟩) (fun _ h => absurd h List.not_mem_nil) dX7_seesNow_138
              · refine lv_iconst (v := 0) hx hb dX7_seesNow_133 (by decide) ?_
                refine lv_goto (tgt := 138) hx hb dX7_seesNow_134 (by decide) ?_
                rw [hQ]; exact W.iret (v := 0) hx hb hr (fun t ht hW => ⟨0, rfl, (cz_sw_e c_1 hr_2 c_3 (fun h => c_4 h.1) (cz_pe3 c_5) hr_6 c_7 (c_X7_seesNow_a10 ds r_2 x_8 x_9 x_10 x_11 ex_8 ex_9 ex_10 ex_11) (c_X7_seesNow_a11 i0 g1 x_11 c_12 c_15)), ht⟩) (fun _ h => absurd h List.not_mem_nil) dX7_seesNow_138
          · refine lv_iconst (v := 0) hx hb dX7_seesNow_102 (by decide) ?_
            rw [hQ]; exact W.iret (v := 0) hx hb hr (fun t ht hW => ⟨0, rfl, (cz_sw_d c_1 hr_2 c_3 (fun h => c_4 h.1) (cz_pe3 c_5) hr_6 c_7), ht⟩) (fun _ h => absurd h List.not_mem_nil) dX7_seesNow_103
        · refine lv_aload_n hx hb dX7_seesNow_81 rfl (lv_at hl 1 rfl) ?_
          refine va_get (D := (dC, dI)) (ci := 7) (v := .ref m1) (C := RX7) (T := TX7) (N := 31) hx hb hts hiX7 hown hK hP 0 rfl rfl 7 (by decide) (hts (.fieldLink RX7 16 "LeftProfileModel" "kindOf" "[I") (List.mem_of_getElem? (i := 3) rfl)) (fun _ h9 => h9) rfl dX7_seesNow_82 ?_
          refine lv_iload_n hx hb dX7_seesNow_85 rfl (lv_at hl 2 rfl) ?_
          refine va_iald hx hb hK hP 1 0 rfl rfl (vp_in_nI (n := i0) (by omega) (by omega)) dX7_seesNow_86 ?_
          refine cz_i (y := (g1 i0)) (congrArg g1 (nI_clamp (n := i0) (by omega))) ?_
          refine lv_iconst (v := 4) hx hb dX7_seesNow_87 (by decide) ?_
          refine lv_icmp_eq (tgt := 95) hx hb dX7_seesNow_88 (by decide) (fun c_16 => ?_) (fun c_16 => ?_)
          · refine lv_iconst (v := 0) hx hb dX7_seesNow_95 (by decide) ?_
            refine vp_callSi (cz_run (va_runV (As := [.int da, .int (g2 i0), .int 0]) (rest := []) ⟨hx, hb, hml, hown, hts⟩ (c_X7_isClear l dC dI cI cB h0 da (g2 i0) 0 ih hn fl da ds ac kc m1 m2 m3 m4 m5 pl pg fa nf m6 m7 m8 sd ik kh km ka ks kac m9 m10 m11 m12 hv g2 hkc (hr_2b.resolve_left c_3)) (cwV 3 hts gX7_seesNow_X7_isClear rfl rfl rfl (by decide +kernel) ⟨Nat.le_of_ble_eq_true rfl, Nat.le_of_ble_eq_true rfl⟩) (cz_pV (hP.sub (ws' := [(h0, .inr (7, [.int ih, .int hn, .int fl, .int da, .int ds, .int ac, .int (nI kc), .ref m1, .ref m2, .ref m3, .ref m4, .ref m5, .int (nI pl), .ref pg, .int fa, .int nf, .ref m6, .ref m7, .ref m8, .long sd, .int ik, .int kh, .int (nI km), .int ka, .int ks, .int kac, .ref m9, .ref m10, .ref m11, .ref m12, .long hv])), (m2, .inl (cI, 6, .inl g2))]) [0, 2] rfl) hN (va_recv hK (hP.sub (ws' := [(h0, .inr (7, [.int ih, .int hn, .int fl, .int da, .int ds, .int ac, .int (nI kc), .ref m1, .ref m2, .ref m3, .ref m4, .ref m5, .int (nI pl), .ref pg, .int fa, .int nf, .ref m6, .ref m7, .ref m8, .long sd, .int ik, .int kh, .int (nI km), .int ka, .int ks, .int kac, .ref m9, .ref m10, .ref m11, .ref m12, .long hv])), (m2, .inl (cI, 6, .inl g2))]) [0, 2] rfl) (ci := 7) (q0 := 0) rfl rfl)) rfl rfl hl.1 rfl (lv_room (Nat.le_of_ble_eq_true rfl)) dX7_seesNow_96 ⟨Nat.le_of_ble_eq_true rfl, Nat.le_of_ble_eq_true rfl⟩)) (fun r_17 hr_17 => ?_)
            refine lv_if_ne (tgt := 104) hx hb dX7_seesNow_99 (by decide) (fun c_18 => ?_) (fun c_18 => ?_)
            · refine lv_iload_n hx hb dX7_seesNow_104 rfl (lv_at hl 0 rfl) ?_
              refine lv_iconst (v := 2) hx hb dX7_seesNow_105 (by decide) ?_
              refine lv_aload_n hx hb dX7_seesNow_106 rfl (lv_at hl 1 rfl) ?_
              refine va_get (D := (dC, dI)) (ci := 7) (v := .int ds) (C := RX7) (T := TX7) (N := 31) hx hb hts hiX7 hown hK hP 0 rfl rfl 4 (by decide) (hts (.fieldLink RX7 13 "LeftProfileModel" "dukeSide" "I") (List.mem_of_getElem? (i := 4) rfl)) (fun _ h9 => h9) rfl dX7_seesNow_107 ?_
              refine lv_imul hx hb dX7_seesNow_110 ?_
              refine lv_topi (fun x_19 ex_19 => ?_)
              refine lv_isub hx hb dX7_seesNow_111 ?_
              refine lv_topi (fun x_20 ex_20 => ?_)
              refine lv_bipush (v := 8) hx hb dX7_seesNow_112 (by decide) ?_
              refine lv_iadd hx hb dX7_seesNow_114 ?_
              refine lv_topi (fun x_21 ex_21 => ?_)
              refine lv_bipush (v := 8) hx hb dX7_seesNow_115 (by decide) ?_
              refine lv_irem hx hb dX7_seesNow_117 (by decide) ?_
              refine lv_topi (fun x_22 ex_22 => ?_)
              refine lv_istore_n (lv' := [(3, .int x_22), (2, .int r_2), (0, .ref h0), (1, .int (nI i0))]) hx hb dX7_seesNow_118 rfl hl (by decide) rfl (fun ls hl => ?_)
              refine lv_iload_n hx hb dX7_seesNow_119 rfl (lv_at hl 0 rfl) ?_
              refine lv_if_ne (tgt := 139) hx hb dX7_seesNow_120 (by decide) (fun c_23 => ?_) (fun c_23 => ?_)
              · refine lv_iload_n hx hb dX7_seesNow_139 rfl (lv_at hl 0 rfl) ?_
                refine lv_iconst (v := 4) hx hb dX7_seesNow_140 (by decide) ?_
                refine lv_icmp_ne (tgt := 148) hx hb dX7_seesNow_141 (by decide) (fun c_24 => ?_) (fun c_24 => ?_)
                · refine lv_iload_n hx hb dX7_seesNow_148 rfl (lv_at hl 0 rfl) ?_
                  refine lv_iconst (v := 4) hx hb dX7_seesNow_149 (by decide) ?_
                  refine lv_icmp_ge (tgt := 157) hx hb dX7_seesNow_150 (by decide) (fun c_25 => ?_) (fun c_25 => ?_)
                  · refine lv_iconst (v := 1) hx hb dX7_seesNow_157 (by decide) ?_
                    rw [hQ]; exact W.iret (v := 1) hx hb hr (fun t ht hW => ⟨1, rfl, (cz_sw_e c_1 hr_2 c_3 (fun h => c_4 h.1) (cz_pe4 c_16) hr_17 c_18 (c_X7_seesNow_a12 ds r_2 x_19 x_20 x_21 x_22 ex_19 ex_20 ex_21 ex_22) (c_X7_seesNow_a13 i0 g1 x_22 c_23 c_24 c_25)), ht⟩) (fun _ h => absurd h List.not_mem_nil) dX7_seesNow_158
                  · refine lv_iconst (v := 2) hx hb dX7_seesNow_153 (by decide) ?_
                    refine lv_goto (tgt := 158) hx hb dX7_seesNow_154 (by decide) ?_
                    rw [hQ]; exact W.iret (v := 2) hx hb hr (fun t ht hW => ⟨2, rfl, (cz_sw_e c_1 hr_2 c_3 (fun h => c_4 h.1) (cz_pe4 c_16) hr_17 c_18 (c_X7_seesNow_a14 ds r_2 x_19 x_20 x_21 x_22 ex_19 ex_20 ex_21 ex_22) (c_X7_seesNow_a15 i0 g1 x_22 c_23 c_24 c_25)), ht⟩) (fun _ h => absurd h List.not_mem_nil) dX7_seesNow_158
                · refine lv_iconst (v := 4) hx hb dX7_seesNow_144 (by decide) ?_
                  refine lv_goto (tgt := 158) hx hb dX7_seesNow_145 (by decide) ?_
                  rw [hQ]; exact W.iret (v := 4) hx hb hr (fun t ht hW => ⟨4, rfl, (cz_sw_e c_1 hr_2 c_3 (fun h => c_4 h.1) (cz_pe4 c_16) hr_17 c_18 (c_X7_seesNow_a16 ds r_2 x_19 x_20 x_21 x_22 ex_19 ex_20 ex_21 ex_22) (c_X7_seesNow_a17 i0 g1 x_22 c_23 c_24)), ht⟩) (fun _ h => absurd h List.not_mem_nil) dX7_seesNow_158
              · refine lv_aload_n hx hb dX7_seesNow_123 rfl (lv_at hl 2 rfl) ?_
                refine va_get (D := (dC, dI)) (ci := 7) (v := .ref m1) (C := RX7) (T := TX7) (N := 31) hx hb hts hiX7 hown hK hP 0 rfl rfl 7 (by decide) (hts (.fieldLink RX7 16 "LeftProfileModel" "kindOf" "[I") (List.mem_of_getElem? (i := 3) rfl)) (fun _ h9 => h9) rfl dX7_seesNow_124 ?_
                refine lv_iload_n hx hb dX7_seesNow_127 rfl (lv_at hl 3 rfl) ?_
                refine va_iald hx hb hK hP 1 0 rfl rfl (vp_in_nI (n := i0) (by omega) (by omega)) dX7_seesNow_128 ?_
                refine cz_i (y := (g1 i0)) (congrArg g1 (nI_clamp (n := i0) (by omega))) ?_
                refine lv_iconst (v := 1) hx hb dX7_seesNow_129 (by decide) ?_
                refine lv_icmp_ne (tgt := 137) hx hb dX7_seesNow_130 (by decide) (fun c_26 => ?_) (fun c_26 => ?_)
                · refine lv_iconst (v := 3) hx hb dX7_seesNow_137 (by decide) ?_
                  rw [hQ]; exact W.iret (v := 3) hx hb hr (fun t ht hW => ⟨3, rfl, (cz_sw_e c_1 hr_2 c_3 (fun h => c_4 h.1) (cz_pe4 c_16) hr_17 c_18 (c_X7_seesNow_a18 ds r_2 x_19 x_20 x_21 x_22 ex_19 ex_20 ex_21 ex_22) (c_X7_seesNow_a19 i0 g1 x_22 c_23 c_26)), ht⟩) (fun _ h => absurd h List.not_mem_nil) dX7_seesNow_138
                · refine lv_iconst (v := 0) hx hb dX7_seesNow_133 (by decide) ?_
                  refine lv_goto (tgt := 138) hx hb dX7_seesNow_134 (by decide) ?_
                  rw [hQ]; exact W.iret (v := 0) hx hb hr (fun t ht hW => ⟨0, rfl, (cz_sw_e c_1 hr_2 c_3 (fun h => c_4 h.1) (cz_pe4 c_16) hr_17 c_18 (c_X7_seesNow_a20 ds r_2 x_19 x_20 x_21 x_22 ex_19 ex_20 ex_21 ex_22) (c_X7_seesNow_a21 i0 g1 x_22 c_23 c_26)), ht⟩) (fun _ h => absurd h List.not_mem_nil) dX7_seesNow_138
            · refine lv_iconst (v := 0) hx hb dX7_seesNow_102 (by decide) ?_
              rw [hQ]; exact W.iret (v := 0) hx hb hr (fun t ht hW => ⟨0, rfl, (cz_sw_d c_1 hr_2 c_3 (fun h => c_4 h.1) (cz_pe4 c_16) hr_17 c_18), ht⟩) (fun _ h => absurd h List.not_mem_nil) dX7_seesNow_103
          · refine lv_iconst (v := 1) hx hb dX7_seesNow_91 (by decide) ?_
            refine lv_goto (tgt := 96) hx hb dX7_seesNow_92 (by decide) ?_
            refine vp_callSi (cz_run (va_runV (As := [.int da, .int (g2 i0), .int 1]) (rest := []) ⟨hx, hb, hml, hown, hts⟩ (c_X7_isClear l dC dI cI cB h0 da (g2 i0) 1 ih hn fl da ds ac kc m1 m2 m3 m4 m5 pl pg fa nf m6 m7 m8 sd ik kh km ka ks kac m9 m10 m11 m12 hv g2 hkc (hr_2b.resolve_left c_3)) (cwV 3 hts gX7_seesNow_X7_isClear rfl rfl rfl (by decide +kernel) ⟨Nat.le_of_ble_eq_true rfl, Nat.le_of_ble_eq_true rfl⟩) (cz_pV (hP.sub (ws' := [(h0, .inr (7, [.int ih, .int hn, .int fl, .int da, .int ds, .int ac, .int (nI kc), .ref m1, .ref m2, .ref m3, .ref m4, .ref m5, .int (nI pl), .ref pg, .int fa, .int nf, .ref m6, .ref m7, .ref m8, .long sd, .int ik, .int kh, .int (nI km), .int ka, .int ks, .int kac, .ref m9, .ref m10, .ref m11, .ref m12, .long hv])), (m2, .inl (cI, 6, .inl g2))]) [0, 2] rfl) hN (va_recv hK (hP.sub (ws' := [(h0, .inr (7, [.int ih, .int hn, .int fl, .int da, .int ds, .int ac, .int (nI kc), .ref m1, .ref m2, .ref m3, .ref m4, .ref m5, .int (nI pl), .ref pg, .int fa, .int nf, .ref m6, .ref m7, .ref m8, .long sd, .int ik, .int kh, .int (nI km), .int ka, .int ks, .int kac, .ref m9, .ref m10, .ref m11, .ref m12, .long hv])), (m2, .inl (cI, 6, .inl g2))]) [0, 2] rfl) (ci := 7) (q0 := 0) rfl rfl)) rfl rfl hl.1 rfl (lv_room (Nat.le_of_ble_eq_true rfl)) dX7_seesNow_96 ⟨Nat.le_of_ble_eq_true rfl, Nat.le_of_ble_eq_true rfl⟩)) (fun r_27 hr_27 => ?_)
            refine lv_if_ne (tgt := 104) hx hb dX7_seesNow_99 (by decide) (fun c_28 => ?_) (fun c_28 => ?_)
            · refine lv_iload_n hx hb dX7_seesNow_104 rfl (lv_at hl 0 rfl) ?_
              refine lv_iconst (v := 2) hx hb dX7_seesNow_105 (by decide) ?_
              refine lv_aload_n hx hb dX7_seesNow_106 rfl (lv_at hl 1 rfl) ?_
              refine va_get (D := (dC, dI)) (ci := 7) (v := .int ds) (C := RX7) (T := TX7) (N := 31) hx hb hts hiX7 hown hK hP 0 rfl rfl 4 (by decide) (hts (.fieldLink RX7 13 "LeftProfileModel" "dukeSide" "I") (List.mem_of_getElem? (i := 4) rfl)) (fun _ h9 => h9) rfl dX7_seesNow_107 ?_
              refine lv_imul hx hb dX7_seesNow_110 ?_
              refine lv_topi (fun x_29 ex_29 => ?_)
              refine lv_isub hx hb dX7_seesNow_111 ?_
              refine lv_topi (fun x_30 ex_30 => ?_)
              refine lv_bipush (v := 8) hx hb dX7_seesNow_112 (by decide) ?_
              refine lv_iadd hx hb dX7_seesNow_114 ?_
              refine lv_topi (fun x_31 ex_31 => ?_)
              refine lv_bipush (v := 8) hx hb dX7_seesNow_115 (by decide) ?_
              refine lv_irem hx hb dX7_seesNow_117 (by decide) ?_
              refine lv_topi (fun x_32 ex_32 => ?_)
              refine lv_istore_n (lv' := [(3, .int x_32), (2, .int r_2), (0, .ref h0), (1, .int (nI i0))]) hx hb dX7_seesNow_118 rfl hl (by decide) rfl (fun ls hl => ?_)
              refine lv_iload_n hx hb dX7_seesNow_119 rfl (lv_at hl 0 rfl) ?_
              refine lv_if_ne (tgt := 139) hx hb dX7_seesNow_120 (by decide) (fun c_33 => ?_) (fun c_33 => ?_)
              · refine lv_iload_n hx hb dX7_seesNow_139 rfl (lv_at hl 0 rfl) ?_
                refine lv_iconst (v := 4) hx hb dX7_seesNow_140 (by decide) ?_
                refine lv_icmp_ne (tgt := 148) hx hb dX7_seesNow_141 (by decide) (fun c_34 => ?_) (fun c_34 => ?_)
                · refine lv_iload_n hx hb dX7_seesNow_148 rfl (lv_at hl 0 rfl) ?_
                  refine lv_iconst (v := 4) hx hb dX7_seesNow_149 (by decide) ?_
                  refine lv_icmp_ge (tgt := 157) hx hb dX7_seesNow_150 (by decide) (fun c_35 => ?_) (fun c_35 => ?_)
                  · refine lv_iconst (v := 1) hx hb dX7_seesNow_157 (by decide) ?_
                    rw [hQ]; exact W.iret (v := 1) hx hb hr (fun t ht hW => ⟨1, rfl, (cz_sw_e c_1 hr_2 c_3 (fun h => c_4 h.1) (cz_pe1 c_5 c_16) hr_27 c_28 (c_X7_seesNow_a22 ds r_2 x_29 x_30 x_31 x_32 ex_29 ex_30 ex_31 ex_32) (c_X7_seesNow_a23 i0 g1 x_32 c_33 c_34 c_35)), ht⟩) (fun _ h => absurd h List.not_mem_nil) dX7_seesNow_158
                  · refine lv_iconst (v := 2) hx hb dX7_seesNow_153 (by decide) ?_
                    refine lv_goto (tgt := 158) hx hb dX7_seesNow_154 (by decide) ?_
                    rw [hQ]; exact W.iret (v := 2) hx hb hr (fun t ht hW => ⟨2, rfl, (cz_sw_e c_1 hr_2 c_3 (fun h => c_4 h.1) (cz_pe1 c_5 c_16) hr_27 c_28 (c_X7_seesNow_a24 ds r_2 x_29 x_30 x_31 x_32 ex_29 ex_30 ex_31 ex_32) (c_X7_seesNow_a25 i0 g1 x_32 c_33 c_34 c_35)), ht⟩) (fun _ h => absurd h List.not_mem_nil) dX7_seesNow_158
                · refine lv_iconst (v := 4) hx hb dX7_seesNow_144 (by decide) ?_
                  refine lv_goto (tgt := 158) hx hb dX7_seesNow_145 (by decide) ?_
                  rw [hQ]; exact W.iret (v := 4) hx hb hr (fun t ht hW => ⟨4, rfl, (cz_sw_e c_1 hr_2 c_3 (fun h => c_4 h.1) (cz_pe1 c_5 c_16) hr_27 c_28 (c_X7_seesNow_a26 ds r_2 x_29 x_30 x_31 x_32 ex_29 ex_30 ex_31 ex_32) (c_X7_seesNow_a27 i0 g1 x_32 c_33 c_34)), ht⟩) (fun _ h => absurd h List.not_mem_nil) dX7_seesNow_158
              · refine lv_aload_n hx hb dX7_seesNow_123 rfl (lv_at hl 2 rfl) ?_
                refine va_get (D := (dC, dI)) (ci := 7) (v := .ref m1) (C := RX7) (T := TX7) (N := 31) hx hb hts hiX7 hown hK hP 0 rfl rfl 7 (by decide) (hts (.fieldLink RX7 16 "LeftProfileModel" "kindOf" "[I") (List.mem_of_getElem? (i := 3) rfl)) (fun _ h9 => h9) rfl dX7_seesNow_124 ?_
                refine lv_iload_n hx hb dX7_seesNow_127 rfl (lv_at hl 3 rfl) ?_
                refine va_iald hx hb hK hP 1 0 rfl rfl (vp_in_nI (n := i0) (by omega) (by omega)) dX7_seesNow_128 ?_
                refine cz_i (y := (g1 i0)) (congrArg g1 (nI_clamp (n := i0) (by omega))) ?_
                refine lv_iconst (v := 1) hx hb dX7_seesNow_129 (by decide) ?_
                refine lv_icmp_ne (tgt := 137) hx hb dX7_seesNow_130 (by decide) (fun c_36 => ?_) (fun c_36 => ?_)
                · refine lv_iconst (v := 3) hx hb dX7_seesNow_137 (by decide) ?_
                  rw [hQ]; exact W.iret (v := 3) hx hb hr (fun t ht hW => ⟨3, rfl, (cz_sw_e c_1 hr_2 c_3 (fun h => c_4 h.1) (cz_pe1 c_5 c_16) hr_27 c_28 (c_X7_seesNow_a28 ds r_2 x_29 x_30 x_31 x_32 ex_29 ex_30 ex_31 ex_32) (c_X7_seesNow_a29 i0 g1 x_32 c_33 c_36)), ht⟩) (fun _ h => absurd h List.not_mem_nil) dX7_seesNow_138
                · refine lv_iconst (v := 0) hx hb dX7_seesNow_133 (by decide) ?_
                  refine lv_goto (tgt := 138) hx hb dX7_seesNow_134 (by decide) ?_
                  rw [hQ]; exact W.iret (v := 0) hx hb hr (fun t ht hW => ⟨0, rfl, (cz_sw_e c_1 hr_2 c_3 (fun h => c_4 h.1) (cz_pe1 c_5 c_16) hr_27 c_28 (c_X7_seesNow_a30 ds r_2 x_29 x_30 x_31 x_32 ex_29 ex_30 ex_31 ex_32) (c_X7_seesNow_a31 i0 g1 x_32 c_33 c_36)), ht⟩) (fun _ h => absurd h List.not_mem_nil) dX7_seesNow_138
            · refine lv_iconst (v := 0) hx hb dX7_seesNow_102 (by decide) ?_
              rw [hQ]; exact W.iret (v := 0) hx hb hr (fun t ht hW => ⟨0, rfl, (cz_sw_d c_1 hr_2 c_3 (fun h => c_4 h.1) (cz_pe1 c_5 c_16) hr_27 c_28), ht⟩) (fun _ h => absurd h List.not_mem_nil) dX7_seesNow_103
      · refine lv_aload_n hx hb dX7_seesNow_41 rfl (lv_at hl 1 rfl) ?_
        refine va_get (D := (dC, dI)) (ci := 7) (v := .int da) (C := RX7) (T := TX7) (N := 31) hx hb hts hiX7 hown hK hP 0 rfl rfl 3 (by decide) (hts (.fieldLink RX7 7 "LeftProfileModel" "dukeAt" "I") (List.mem_of_getElem? (i := 1) rfl)) (fun _ h9 => h9) rfl dX7_seesNow_42 ?_
        refine lv_aload_n hx hb dX7_seesNow_45 rfl (lv_at hl 1 rfl) ?_
        refine va_get (D := (dC, dI)) (ci := 7) (v := .ref m2) (C := RX7) (T := TX7) (N := 31) hx hb hts hiX7 hown hK hP 0 rfl rfl 8 (by decide) (hts (.fieldLink RX7 20 "LeftProfileModel" "placeOf" "[I") (List.mem_of_getElem? (i := 2) rfl)) (fun _ h9 => h9) rfl dX7_seesNow_46 ?_
        refine lv_iload_n hx hb dX7_seesNow_49 rfl (lv_at hl 2 rfl) ?_
        refine va_iald hx hb hK hP 2 0 rfl rfl (vp_in_nI (n := i0) (by omega) (by omega)) dX7_seesNow_50 ?_
        refine cz_i (y := (g2 i0)) (congrArg g2 (nI_clamp (n := i0) (by omega))) ?_
        refine vp_callSi (cz_run (va_runS (As := [.int da, .int (g2 i0)]) (rest := []) ⟨hx, hb, hml, hown, hts⟩ (c_X7_far l dC dI cI cB da (g2 i0) ) (va_cwS 2 hts gX7_seesNow_X7_far rfl rfl rfl (by decide +kernel) ⟨Nat.le_of_ble_eq_true rfl, Nat.le_of_ble_eq_true rfl⟩) (cz_pS (hP.sub (ws' := []) [] rfl) hN) rfl rfl hl.1 rfl (lv_room (Nat.le_of_ble_eq_true rfl)) dX7_seesNow_51 ⟨Nat.le_of_ble_eq_true rfl, Nat.le_of_ble_eq_true rfl⟩)) (fun r_37 hr_37 => ?_)
        refine lv_iconst (v := 2) hx hb dX7_seesNow_54 (by decide) ?_
        refine lv_icmp_le (tgt := 60) hx hb dX7_seesNow_55 (by decide) (fun c_38 => ?_) (fun c_38 => ?_)
        · refine lv_aload_n hx hb dX7_seesNow_60 rfl (lv_at hl 1 rfl) ?_
          refine lv_aload_n hx hb dX7_seesNow_61 rfl (lv_at hl 1 rfl) ?_
          refine va_get (D := (dC, dI)) (ci := 7) (v := .int da) (C := RX7) (T := TX7) (N := 31) hx hb hts hiX7 hown hK hP 0 rfl rfl 3 (by decide) (hts (.fieldLink RX7 7 "LeftProfileModel" "dukeAt" "I") (List.mem_of_getElem? (i := 1) rfl)) (fun _ h9 => h9) rfl dX7_seesNow_62 ?_
          refine lv_aload_n hx hb dX7_seesNow_65 rfl (lv_at hl 1 rfl) ?_
          refine va_get (D := (dC, dI)) (ci := 7) (v := .ref m2) (C := RX7) (T := TX7) (N := 31) hx hb hts hiX7 hown hK hP 0 rfl rfl 8 (by decide) (hts (.fieldLink RX7 20 "LeftProfileModel" "placeOf" "[I") (List.mem_of_getElem? (i := 2) rfl)) (fun _ h9 => h9) rfl dX7_seesNow_66 ?_
          refine lv_iload_n hx hb dX7_seesNow_69 rfl (lv_at hl 2 rfl) ?_
          refine va_iald hx hb hK hP 2 0 rfl rfl (vp_in_nI (n := i0) (by omega) (by omega)) dX7_seesNow_70 ?_
          refine cz_i (y := (g2 i0)) (congrArg g2 (nI_clamp (n := i0) (by omega))) ?_
          refine lv_aload_n hx hb dX7_seesNow_71 rfl (lv_at hl 1 rfl) ?_
          refine va_get (D := (dC, dI)) (ci := 7) (v := .ref m1) (C := RX7) (T := TX7) (N := 31) hx hb hts hiX7 hown hK hP 0 rfl rfl 7 (by decide) (hts (.fieldLink RX7 16 "LeftProfileModel" "kindOf" "[I") (List.mem_of_getElem? (i := 3) rfl)) (fun _ h9 => h9) rfl dX7_seesNow_72 ?_
          refine lv_iload_n hx hb dX7_seesNow_75 rfl (lv_at hl 2 rfl) ?_
          refine va_iald hx hb hK hP 1 0 rfl rfl (vp_in_nI (n := i0) (by omega) (by omega)) dX7_seesNow_76 ?_
          refine cz_i (y := (g1 i0)) (congrArg g1 (nI_clamp (n := i0) (by omega))) ?_
          refine lv_iconst (v := 3) hx hb dX7_seesNow_77 (by decide) ?_
          refine lv_icmp_eq (tgt := 95) hx hb dX7_seesNow_78 (by decide) (fun c_39 => ?_) (fun c_39 => ?_)
          · refine lv_iconst (v := 0) hx hb dX7_seesNow_95 (by decide) ?_
            refine vp_callSi (cz_run (va_runV (As := [.int da, .int (g2 i0), .int 0]) (rest := []) ⟨hx, hb, hml, hown, hts⟩ (c_X7_isClear l dC dI cI cB h0 da (g2 i0) 0 ih hn fl da ds ac kc m1 m2 m3 m4 m5 pl pg fa nf m6 m7 m8 sd ik kh km ka ks kac m9 m10 m11 m12 hv g2 hkc (hr_2b.resolve_left c_3)) (cwV 3 hts gX7_seesNow_X7_isClear rfl rfl rfl (by decide +kernel) ⟨Nat.le_of_ble_eq_true rfl, Nat.le_of_ble_eq_true rfl⟩) (cz_pV (hP.sub (ws' := [(h0, .inr (7, [.int ih, .int hn, .int fl, .int da, .int ds, .int ac, .int (nI kc), .ref m1, .ref m2, .ref m3, .ref m4, .ref m5, .int (nI pl), .ref pg, .int fa, .int nf, .ref m6, .ref m7, .ref m8, .long sd, .int ik, .int kh, .int (nI km), .int ka, .int ks, .int kac, .ref m9, .ref m10, .ref m11, .ref m12, .long hv])), (m2, .inl (cI, 6, .inl g2))]) [0, 2] rfl) hN (va_recv hK (hP.sub (ws' := [(h0, .inr (7, [.int ih, .int hn, .int fl, .int da, .int ds, .int ac, .int (nI kc), .ref m1, .ref m2, .ref m3, .ref m4, .ref m5, .int (nI pl), .ref pg, .int fa, .int nf, .ref m6, .ref m7, .ref m8, .long sd, .int ik, .int kh, .int (nI km), .int ka, .int ks, .int kac, .ref m9, .ref m10, .ref m11, .ref m12, .long hv])), (m2, .inl (cI, 6, .inl g2))]) [0, 2] rfl) (ci := 7) (q0 := 0) rfl rfl)) rfl rfl hl.1 rfl (lv_room (Nat.le_of_ble_eq_true rfl)) dX7_seesNow_96 ⟨Nat.le_of_ble_eq_true rfl, Nat.le_of_ble_eq_true rfl⟩)) (fun r_40 hr_40 => ?_)
            refine lv_if_ne (tgt := 104) hx hb dX7_seesNow_99 (by decide) (fun c_41 => ?_) (fun c_41 => ?_)
            · refine lv_iload_n hx hb dX7_seesNow_104 rfl (lv_at hl 0 rfl) ?_
              refine lv_iconst (v := 2) hx hb dX7_seesNow_105 (by decide) ?_
              refine lv_aload_n hx hb dX7_seesNow_106 rfl (lv_at hl 1 rfl) ?_
              refine va_get (D := (dC, dI)) (ci := 7) (v := .int ds) (C := RX7) (T := TX7) (N := 31) hx hb hts hiX7 hown hK hP 0 rfl rfl 4 (by decide) (hts (.fieldLink RX7 13 "LeftProfileModel" "dukeSide" "I") (List.mem_of_getElem? (i := 4) rfl)) (fun _ h9 => h9) rfl dX7_seesNow_107 ?_
              refine lv_imul hx hb dX7_seesNow_110 ?_
              refine lv_topi (fun x_42 ex_42 => ?_)
              refine lv_isub hx hb dX7_seesNow_111 ?_
              refine lv_topi (fun x_43 ex_43 => ?_)
              refine lv_bipush (v := 8) hx hb dX7_seesNow_112 (by decide) ?_
              refine lv_iadd hx hb dX7_seesNow_114 ?_
              refine lv_topi (fun x_44 ex_44 => ?_)
              refine lv_bipush (v := 8) hx hb dX7_seesNow_115 (by decide) ?_
              refine lv_irem hx hb dX7_seesNow_117 (by decide) ?_
              refine lv_topi (fun x_45 ex_45 => ?_)
              refine lv_istore_n (lv' := [(3, .int x_45), (2, .int r_2), (0, .ref h0), (1, .int (nI i0))]) hx hb dX7_seesNow_118 rfl hl (by decide) rfl (fun ls hl => ?_)
              refine lv_iload_n hx hb dX7_seesNow_119 rfl (lv_at hl 0 rfl) ?_
              refine lv_if_ne (tgt := 139) hx hb dX7_seesNow_120 (by decide) (fun c_46 => ?_) (fun c_46 => ?_)
              · refine lv_iload_n hx hb dX7_seesNow_139 rfl (lv_at hl 0 rfl) ?_
                refine lv_iconst (v := 4) hx hb dX7_seesNow_140 (by decide) ?_
                refine lv_icmp_ne (tgt := 148) hx hb dX7_seesNow_141 (by decide) (fun c_47 => ?_) (fun c_47 => ?_)
                · refine lv_iload_n hx hb dX7_seesNow_148 rfl (lv_at hl 0 rfl) ?_
                  refine lv_iconst (v := 4) hx hb dX7_seesNow_149 (by decide) ?_
                  refine lv_icmp_ge (tgt := 157) hx hb dX7_seesNow_150 (by decide) (fun c_48 => ?_) (fun c_48 => ?_)
                  · refine lv_iconst (v := 1) hx hb dX7_seesNow_157 (by decide) ?_
                    rw [hQ]; exact W.iret (v := 1) hx hb hr (fun t ht hW => ⟨1, rfl, (cz_sw_e c_1 hr_2 c_3 (fun h => cz_nlt c_38 hr_37 h.2) (cz_pe3 c_39) hr_40 c_41 (c_X7_seesNow_a32 ds r_2 x_42 x_43 x_44 x_45 ex_42 ex_43 ex_44 ex_45) (c_X7_seesNow_a33 i0 g1 x_45 c_46 c_47 c_48)), ht⟩) (fun _ h => absurd h List.not_mem_nil) dX7_seesNow_158
                  · refine lv_iconst (v := 2) hx hb dX7_seesNow_153 (by decide) ?_
                    refine lv_goto (tgt := 158) hx hb dX7_seesNow_154 (by decide) ?_
                    rw [hQ]; exact W.iret (v := 2) hx hb hr (fun t ht hW => ⟨2, rfl, (cz_sw_e c_1 hr_2 c_3 (fun h => cz_nlt c_38 hr_37 h.2) (cz_pe3 c_39) hr_40 c_41 (c_X7_seesNow_a34 ds r_2 x_42 x_43 x_44 x_45 ex_42 ex_43 ex_44 ex_45) (c_X7_seesNow_a35 i0 g1 x_45 c_46 c_47 c_48)), ht⟩) (fun _ h => absurd h List.not_mem_nil) dX7_seesNow_158
                · refine lv_iconst (v := 4) hx hb dX7_seesNow_144 (by decide) ?_
                  refine lv_goto (tgt := 158) hx hb dX7_seesNow_145 (by decide) ?_
                  rw [hQ]; exact W.iret (v := 4) hx hb hr (fun t ht hW => ⟨4, rfl, (cz_sw_e c_1 hr_2 c_3 (fun h => cz_nlt c_38 hr_37 h.2) (cz_pe3 c_39) hr_40 c_41 (c_X7_seesNow_a36 ds r_2 x_42 x_43 x_44 x_45 ex_42 ex_43 ex_44 ex_45) (c_X7_seesNow_a37 i0 g1 x_45 c_46 c_47)), ht⟩) (fun _ h => absurd h List.not_mem_nil) dX7_seesNow_158
              · refine lv_aload_n hx hb dX7_seesNow_123 rfl (lv_at hl 2 rfl) ?_
                refine va_get (D := (dC, dI)) (ci := 7) (v := .ref m1) (C := RX7) (T := TX7) (N := 31) hx hb hts hiX7 hown hK hP 0 rfl rfl 7 (by decide) (hts (.fieldLink RX7 16 "LeftProfileModel" "kindOf" "[I") (List.mem_of_getElem? (i := 3) rfl)) (fun _ h9 => h9) rfl dX7_seesNow_124 ?_
                refine lv_iload_n hx hb dX7_seesNow_127 rfl (lv_at hl 3 rfl) ?_
                refine va_iald hx hb hK hP 1 0 rfl rfl (vp_in_nI (n := i0) (by omega) (by omega)) dX7_seesNow_128 ?_
                refine cz_i (y := (g1 i0)) (congrArg g1 (nI_clamp (n := i0) (by omega))) ?_
                refine lv_iconst (v := 1) hx hb dX7_seesNow_129 (by decide) ?_
                refine lv_icmp_ne (tgt := 137) hx hb dX7_seesNow_130 (by decide) (fun c_49 => ?_) (fun c_49 => ?_)
                · refine lv_iconst (v := 3) hx hb dX7_seesNow_137 (by decide) ?_
                  rw [hQ]; exact W.iret (v := 3) hx hb hr (fun t ht hW => ⟨3, rfl, (cz_sw_e c_1 hr_2 c_3 (fun h => cz_nlt c_38 hr_37 h.2) (cz_pe3 c_39) hr_40 c_41 (c_X7_seesNow_a38 ds r_2 x_42 x_43 x_44 x_45 ex_42 ex_43 ex_44 ex_45) (c_X7_seesNow_a39 i0 g1 x_45 c_46 c_49)), ht⟩) (fun _ h => absurd h List.not_mem_nil) dX7_seesNow_138
                · refine lv_iconst (v := 0) hx hb dX7_seesNow_133 (by decide) ?_
                  refine lv_goto (tgt := 138) hx hb dX7_seesNow_134 (by decide) ?_
                  rw [hQ]; exact W.iret (v := 0) hx hb hr (fun t ht hW => ⟨0, rfl, (cz_sw_e c_1 hr_2 c_3 (fun h => cz_nlt c_38 hr_37 h.2) (cz_pe3 c_39) hr_40 c_41 (c_X7_seesNow_a40 ds r_2 x_42 x_43 x_44 x_45 ex_42 ex_43 ex_44 ex_45) (c_X7_seesNow_a41 i0 g1 x_45 c_46 c_49)), ht⟩) (fun _ h => absurd h List.not_mem_nil) dX7_seesNow_138
            · refine lv_iconst (v := 0) hx hb dX7_seesNow_102 (by decide) ?_
              rw [hQ]; exact W.iret (v := 0) hx hb hr (fun t ht hW => ⟨0, rfl, (cz_sw_d c_1 hr_2 c_3 (fun h => cz_nlt c_38 hr_37 h.2) (cz_pe3 c_39) hr_40 c_41), ht⟩) (fun _ h => absurd h List.not_mem_nil) dX7_seesNow_103
          · refine lv_aload_n hx hb dX7_seesNow_81 rfl (lv_at hl 1 rfl) ?_
            refine va_get (D := (dC, dI)) (ci := 7) (v := .ref m1) (C := RX7) (T := TX7) (N := 31) hx hb hts hiX7 hown hK hP 0 rfl rfl 7 (by decide) (hts (.fieldLink RX7 16 "LeftProfileModel" "kindOf" "[I") (List.mem_of_getElem? (i := 3) rfl)) (fun _ h9 => h9) rfl dX7_seesNow_82 ?_
            refine lv_iload_n hx hb dX7_seesNow_85 rfl (lv_at hl 2 rfl) ?_
            refine va_iald hx hb hK hP 1 0 rfl rfl (vp_in_nI (n := i0) (by omega) (by omega)) dX7_seesNow_86 ?_
            refine cz_i (y := (g1 i0)) (congrArg g1 (nI_clamp (n := i0) (by omega))) ?_
            refine lv_iconst (v := 4) hx hb dX7_seesNow_87 (by decide) ?_
            refine lv_icmp_eq (tgt := 95) hx hb dX7_seesNow_88 (by decide) (fun c_50 => ?_) (fun c_50 => ?_)
            · refine lv_iconst (v := 0) hx hb dX7_seesNow_95 (by decide) ?_
              refine vp_callSi (cz_run (va_runV (As := [.int da, .int (g2 i0), .int 0]) (rest := []) ⟨hx, hb, hml, hown, hts⟩ (c_X7_isClear l dC dI cI cB h0 da (g2 i0) 0 ih hn fl da ds ac kc m1 m2 m3 m4 m5 pl pg fa nf m6 m7 m8 sd ik kh km ka ks kac m9 m10 m11 m12 hv g2 hkc (hr_2b.resolve_left c_3)) (cwV 3 hts gX7_seesNow_X7_isClear rfl rfl rfl (by decide +kernel) ⟨Nat.le_of_ble_eq_true rfl, Nat.le_of_ble_eq_true rfl⟩) (cz_pV (hP.sub (ws' := [(h0, .inr (7, [.int ih, .int hn, .int fl, .int da, .int ds, .int ac, .int (nI kc), .ref m1, .ref m2, .ref m3, .ref m4, .ref m5, .int (nI pl), .ref pg, .int fa, .int nf, .ref m6, .ref m7, .ref m8, .long sd, .int ik, .int kh, .int (nI km), .int ka, .int ks, .int kac, .ref m9, .ref m10, .ref m11, .ref m12, .long hv])), (m2, .inl (cI, 6, .inl g2))]) [0, 2] rfl) hN (va_recv hK (hP.sub (ws' := [(h0, .inr (7, [.int ih, .int hn, .int fl, .int da, .int ds, .int ac, .int (nI kc), .ref m1, .ref m2, .ref m3, .ref m4, .ref m5, .int (nI pl), .ref pg, .int fa, .int nf, .ref m6, .ref m7, .ref m8, .long sd, .int ik, .int kh, .int (nI km), .int ka, .int ks, .int kac, .ref m9, .ref m10, .ref m11, .ref m12, .long hv])), (m2, .inl (cI, 6, .inl g2))]) [0, 2] rfl) (ci := 7) (q0 := 0) rfl rfl)) rfl rfl hl.1 rfl (lv_room (Nat.le_of_ble_eq_true rfl)) dX7_seesNow_96 ⟨Nat.le_of_ble_eq_true rfl, Nat.le_of_ble_eq_true rfl⟩)) (fun r_51 hr_51 => ?_)
              refine lv_if_ne (tgt := 104) hx hb dX7_seesNow_99 (by decide) (fun c_52 => ?_) (fun c_52 => ?_)
              · refine lv_iload_n hx hb dX7_seesNow_104 rfl (lv_at hl 0 rfl) ?_
                refine lv_iconst (v := 2) hx hb dX7_seesNow_105 (by decide) ?_
                refine lv_aload_n hx hb dX7_seesNow_106 rfl (lv_at hl 1 rfl) ?_
                refine va_get (D := (dC, dI)) (ci := 7) (v := .int ds) (C := RX7) (T := TX7) (N := 31) hx hb hts hiX7 hown hK hP 0 rfl rfl 4 (by decide) (hts (.fieldLink RX7 13 "LeftProfileModel" "dukeSide" "I") (List.mem_of_getElem? (i := 4) rfl)) (fun _ h9 => h9) rfl dX7_seesNow_107 ?_
                refine lv_imul hx hb dX7_seesNow_110 ?_
                refine lv_topi (fun x_53 ex_53 => ?_)
                refine lv_isub hx hb dX7_seesNow_111 ?_
                refine lv_topi (fun x_54 ex_54 => ?_)
                refine lv_bipush (v := 8) hx hb dX7_seesNow_112 (by decide) ?_
                refine lv_iadd hx hb dX7_seesNow_114 ?_
                refine lv_topi (fun x_55 ex_55 => ?_)
                refine lv_bipush (v := 8) hx hb dX7_seesNow_115 (by decide) ?_
                refine lv_irem hx hb dX7_seesNow_117 (by decide) ?_
                refine lv_topi (fun x_56 ex_56 => ?_)
                refine lv_istore_n (lv' := [(3, .int x_56), (2, .int r_2), (0, .ref h0), (1, .int (nI i0))]) hx hb dX7_seesNow_118 rfl hl (by decide) rfl (fun ls hl => ?_)
                refine lv_iload_n hx hb dX7_seesNow_119 rfl (lv_at hl 0 rfl) ?_
                refine lv_if_ne (tgt := 139) hx hb dX7_seesNow_120 (by decide) (fun c_57 => ?_) (fun c_57 => ?_)
                · refine lv_iload_n hx hb dX7_seesNow_139 rfl (lv_at hl 0 rfl) ?_
                  refine lv_iconst (v := 4) hx hb dX7_seesNow_140 (by decide) ?_
                  refine lv_icmp_ne (tgt := 148) hx hb dX7_seesNow_141 (by decide) (fun c_58 => ?_) (fun c_58 => ?_)
                  · refine lv_iload_n hx hb dX7_seesNow_148 rfl (lv_at hl 0 rfl) ?_
                    refine lv_iconst (v := 4) hx hb dX7_seesNow_149 (by decide) ?_
                    refine lv_icmp_ge (tgt := 157) hx hb dX7_seesNow_150 (by decide) (fun c_59 => ?_) (fun c_59 => ?_)
                    · refine lv_iconst (v := 1) hx hb dX7_seesNow_157 (by decide) ?_
                      rw [hQ]; exact W.iret (v := 1) hx hb hr (fun t ht hW => ⟨1, rfl, (cz_sw_e c_1 hr_2 c_3 (fun h => cz_nlt c_38 hr_37 h.2) (cz_pe4 c_50) hr_51 c_52 (c_X7_seesNow_a42 ds r_2 x_53 x_54 x_55 x_56 ex_53 ex_54 ex_55 ex_56) (c_X7_seesNow_a43 i0 g1 x_56 c_57 c_58 c_59)), ht⟩) (fun _ h => absurd h List.not_mem_nil) dX7_seesNow_158
                    · refine lv_iconst (v := 2) hx hb dX7_seesNow_153 (by decide) ?_
                      refine lv_goto (tgt := 158) hx hb dX7_seesNow_154 (by decide) ?_
                      rw [hQ]; exact W.iret (v := 2) hx hb hr (fun t ht hW => ⟨2, rfl, (cz_sw_e c_1 hr_2 c_3 (fun h => cz_nlt c_38 hr_37 h.2) (cz_pe4 c_50) hr_51 c_52 (c_X7_seesNow_a44 ds r_2 x_53 x_54 x_55 x_56 ex_53 ex_54 ex_55 ex_56) (c_X7_seesNow_a45 i0 g1 x_56 c_57 c_58 c_59)), ht⟩) (fun _ h => absurd h List.not_mem_nil) dX7_seesNow_158
                  · refine lv_iconst (v := 4) hx hb dX7_seesNow_144 (by decide) ?_
                    refine lv_goto (tgt := 158) hx hb dX7_seesNow_145 (by decide) ?_
                    rw [hQ]; exact W.iret (v := 4) hx hb hr (fun t ht hW => ⟨4, rfl, (cz_sw_e c_1 hr_2 c_3 (fun h => cz_nlt c_38 hr_37 h.2) (cz_pe4 c_50) hr_51 c_52 (c_X7_seesNow_a46 ds r_2 x_53 x_54 x_55 x_56 ex_53 ex_54 ex_55 ex_56) (c_X7_seesNow_a47 i0 g1 x_56 c_57 c_58)), ht⟩) (fun _ h => absurd h List.not_mem_nil) dX7_seesNow_158
                · refine lv_aload_n hx hb dX7_seesNow_123 rfl (lv_at hl 2 rfl) ?_
                  refine va_get (D := (dC, dI)) (ci := 7) (v := .ref m1) (C := RX7) (T := TX7) (N := 31) hx hb hts hiX7 hown hK hP 0 rfl rfl 7 (by decide) (hts (.fieldLink RX7 16 "LeftProfileModel" "kindOf" "[I") (List.mem_of_getElem? (i := 3) rfl)) (fun _ h9 => h9) rfl dX7_seesNow_124 ?_
                  refine lv_iload_n hx hb dX7_seesNow_127 rfl (lv_at hl 3 rfl) ?_
                  refine va_iald hx hb hK hP 1 0 rfl rfl (vp_in_nI (n := i0) (by omega) (by omega)) dX7_seesNow_128 ?_
                  refine cz_i (y := (g1 i0)) (congrArg g1 (nI_clamp (n := i0) (by omega))) ?_
                  refine lv_iconst (v := 1) hx hb dX7_seesNow_129 (by decide) ?_
                  refine lv_icmp_ne (tgt := 137) hx hb dX7_seesNow_130 (by decide) (fun c_60 => ?_) (fun c_60 => ?_)
                  · refine lv_iconst (v := 3) hx hb dX7_seesNow_137 (by decide) ?_
                    rw [hQ]; exact W.iret (v := 3) hx hb hr (fun t ht hW => ⟨3, rfl, (cz_sw_e c_1 hr_2 c_3 (fun h => cz_nlt c_38 hr_37 h.2) (cz_pe4 c_50) hr_51 c_52 (c_X7_seesNow_a48 ds r_2 x_53 x_54 x_55 x_56 ex_53 ex_54 ex_55 ex_56) (c_X7_seesNow_a49 i0 g1 x_56 c_57 c_60)), ht⟩) (fun _ h => absurd h List.not_mem_nil) dX7_seesNow_138
                  · refine lv_iconst (v := 0) hx hb dX7_seesNow_133 (by decide) ?_
                    refine lv_goto (tgt := 138) hx hb dX7_seesNow_134 (by decide) ?_
                    rw [hQ]; exact W.iret (v := 0) hx hb hr (fun t ht hW => ⟨0, rfl, (cz_sw_e c_1 hr_2 c_3 (fun h => cz_nlt c_38 hr_37 h.2) (cz_pe4 c_50) hr_51 c_52 (c_X7_seesNow_a50 ds r_2 x_53 x_54 x_55 x_56 ex_53 ex_54 ex_55 ex_56) (c_X7_seesNow_a51 i0 g1 x_56 c_57 c_60)), ht⟩) (fun _ h => absurd h List.not_mem_nil) dX7_seesNow_138
              · refine lv_iconst (v := 0) hx hb dX7_seesNow_102 (by decide) ?_
                rw [hQ]; exact W.iret (v := 0) hx hb hr (fun t ht hW => ⟨0, rfl, (cz_sw_d c_1 hr_2 c_3 (fun h => cz_nlt c_38 hr_37 h.2) (cz_pe4 c_50) hr_51 c_52), ht⟩) (fun _ h => absurd h List.not_mem_nil) dX7_seesNow_103
            · refine lv_iconst (v := 1) hx hb dX7_seesNow_91 (by decide) ?_
              refine lv_goto (tgt := 96) hx hb dX7_seesNow_92 (by decide) ?_
              refine vp_callSi (cz_run (va_runV (As := [.int da, .int (g2 i0), .int 1]) (rest := []) ⟨hx, hb, hml, hown, hts⟩ (c_X7_isClear l dC dI cI cB h0 da (g2 i0) 1 ih hn fl da ds ac kc m1 m2 m3 m4 m5 pl pg fa nf m6 m7 m8 sd ik kh km ka ks kac m9 m10 m11 m12 hv g2 hkc (hr_2b.resolve_left c_3)) (cwV 3 hts gX7_seesNow_X7_isClear rfl rfl rfl (by decide +kernel) ⟨Nat.le_of_ble_eq_true rfl, Nat.le_of_ble_eq_true rfl⟩) (cz_pV (hP.sub (ws' := [(h0, .inr (7, [.int ih, .int hn, .int fl, .int da, .int ds, .int ac, .int (nI kc), .ref m1, .ref m2, .ref m3, .ref m4, .ref m5, .int (nI pl), .ref pg, .int fa, .int nf, .ref m6, .ref m7, .ref m8, .long sd, .int ik, .int kh, .int (nI km), .int ka, .int ks, .int kac, .ref m9, .ref m10, .ref m11, .ref m12, .long hv])), (m2, .inl (cI, 6, .inl g2))]) [0, 2] rfl) hN (va_recv hK (hP.sub (ws' := [(h0, .inr (7, [.int ih, .int hn, .int fl, .int da, .int ds, .int ac, .int (nI kc), .ref m1, .ref m2, .ref m3, .ref m4, .ref m5, .int (nI pl), .ref pg, .int fa, .int nf, .ref m6, .ref m7, .ref m8, .long sd, .int ik, .int kh, .int (nI km), .int ka, .int ks, .int kac, .ref m9, .ref m10, .ref m11, .ref m12, .long hv])), (m2, .inl (cI, 6, .inl g2))]) [0, 2] rfl) (ci := 7) (q0 := 0) rfl rfl)) rfl rfl hl.1 rfl (lv_room (Nat.le_of_ble_eq_true rfl)) dX7_seesNow_96 ⟨Nat.le_of_ble_eq_true rfl, Nat.le_of_ble_eq_true rfl⟩)) (fun r_61 hr_61 => ?_)
              refine lv_if_ne (tgt := 104) hx hb dX7_seesNow_99 (by decide) (fun c_62 => ?_) (fun c_62 => ?_)
              · refine lv_iload_n hx hb dX7_seesNow_104 rfl (lv_at hl 0 rfl) ?_
                refine lv_iconst (v := 2) hx hb dX7_seesNow_105 (by decide) ?_
                refine lv_aload_n hx hb dX7_seesNow_106 rfl (lv_at hl 1 rfl) ?_
                refine va_get (D := (dC, dI)) (ci := 7) (v := .int ds) (C := RX7) (T := TX7) (N := 31) hx hb hts hiX7 hown hK hP 0 rfl rfl 4 (by decide) (hts (.fieldLink RX7 13 "LeftProfileModel" "dukeSide" "I") (List.mem_of_getElem? (i := 4) rfl)) (fun _ h9 => h9) rfl dX7_seesNow_107 ?_
                refine lv_imul hx hb dX7_seesNow_110 ?_
                refine lv_topi (fun x_63 ex_63 => ?_)
                refine lv_isub hx hb dX7_seesNow_111 ?_
                refine lv_topi (fun x_64 ex_64 => ?_)
                refine lv_bipush (v := 8) hx hb dX7_seesNow_112 (by decide) ?_
                refine lv_iadd hx hb dX7_seesNow_114 ?_
                refine lv_topi (fun x_65 ex_65 => ?_)
                refine lv_bipush (v := 8) hx hb dX7_seesNow_115 (by decide) ?_
                refine lv_irem hx hb dX7_seesNow_117 (by decide) ?_
                refine lv_topi (fun x_66 ex_66 => ?_)
                refine lv_istore_n (lv' := [(3, .int x_66), (2, .int r_2), (0, .ref h0), (1, .int (nI i0))]) hx hb dX7_seesNow_118 rfl hl (by decide) rfl (fun ls hl => ?_)
                refine lv_iload_n hx hb dX7_seesNow_119 rfl (lv_at hl 0 rfl) ?_
                refine lv_if_ne (tgt := 139) hx hb dX7_seesNow_120 (by decide) (fun c_67 => ?_) (fun c_67 => ?_)
                · refine lv_iload_n hx hb dX7_seesNow_139 rfl (lv_at hl 0 rfl) ?_
                  refine lv_iconst (v := 4) hx hb dX7_seesNow_140 (by decide) ?_
                  refine lv_icmp_ne (tgt := 148) hx hb dX7_seesNow_141 (by decide) (fun c_68 => ?_) (fun c_68 => ?_)
                  · refine lv_iload_n hx hb dX7_seesNow_148 rfl (lv_at hl 0 rfl) ?_
                    refine lv_iconst (v := 4) hx hb dX7_seesNow_149 (by decide) ?_
                    refine lv_icmp_ge (tgt := 157) hx hb dX7_seesNow_150 (by decide) (fun c_69 => ?_) (fun c_69 => ?_)
                    · refine lv_iconst (v := 1) hx hb dX7_seesNow_157 (by decide) ?_
                      rw [hQ]; exact W.iret (v := 1) hx hb hr (fun t ht hW => ⟨1, rfl, (cz_sw_e c_1 hr_2 c_3 (fun h => cz_nlt c_38 hr_37 h.2) (cz_pe1 c_39 c_50) hr_61 c_62 (c_X7_seesNow_a52 ds r_2 x_63 x_64 x_65 x_66 ex_63 ex_64 ex_65 ex_66) (c_X7_seesNow_a53 i0 g1 x_66 c_67 c_68 c_69)), ht⟩) (fun _ h => absurd h List.not_mem_nil) dX7_seesNow_158
                    · refine lv_iconst (v := 2) hx hb dX7_seesNow_153 (by decide) ?_
                      refine lv_goto (tgt := 158) hx hb dX7_seesNow_154 (by decide) ?_
                      rw [hQ]; exact W.iret (v := 2) hx hb hr (fun t ht hW => ⟨2, rfl, (cz_sw_e c_1 hr_2 c_3 (fun h => cz_nlt c_38 hr_37 h.2) (cz_pe1 c_39 c_50) hr_61 c_62 (c_X7_seesNow_a54 ds r_2 x_63 x_64 x_65 x_66 ex_63 ex_64 ex_65 ex_66) (c_X7_seesNow_a55 i0 g1 x_66 c_67 c_68 c_69)), ht⟩) (fun _ h => absurd h List.not_mem_nil) dX7_seesNow_158
                  · refine lv_iconst (v := 4) hx hb dX7_seesNow_144 (by decide) ?_
                    refine lv_goto (tgt := 158) hx hb dX7_seesNow_145 (by decide) ?_
                    rw [hQ]; exact W.iret (v := 4) hx hb hr (fun t ht hW => ⟨4, rfl, (cz_sw_e c_1 hr_2 c_3 (fun h => cz_nlt c_38 hr_37 h.2) (cz_pe1 c_39 c_50) hr_61 c_62 (c_X7_seesNow_a56 ds r_2 x_63 x_64 x_65 x_66 ex_63 ex_64 ex_65 ex_66) (c_X7_seesNow_a57 i0 g1 x_66 c_67 c_68)), ht⟩) (fun _ h => absurd h List.not_mem_nil) dX7_seesNow_158
                · refine lv_aload_n hx hb dX7_seesNow_123 rfl (lv_at hl 2 rfl) ?_
                  refine va_get (D := (dC, dI)) (ci := 7) (v := .ref m1) (C := RX7) (T := TX7) (N := 31) hx hb hts hiX7 hown hK hP 0 rfl rfl 7 (by decide) (hts (.fieldLink RX7 16 "LeftProfileModel" "kindOf" "[I") (List.mem_of_getElem? (i := 3) rfl)) (fun _ h9 => h9) rfl dX7_seesNow_124 ?_
                  refine lv_iload_n hx hb dX7_seesNow_127 rfl (lv_at hl 3 rfl) ?_
                  refine va_iald hx hb hK hP 1 0 rfl rfl (vp_in_nI (n := i0) (by omega) (by omega)) dX7_seesNow_128 ?_
                  refine cz_i (y := (g1 i0)) (congrArg g1 (nI_clamp (n := i0) (by omega))) ?_
                  refine lv_iconst (v := 1) hx hb dX7_seesNow_129 (by decide) ?_
                  refine lv_icmp_ne (tgt := 137) hx hb dX7_seesNow_130 (by decide) (fun c_70 => ?_) (fun c_70 => ?_)
                  · refine lv_iconst (v := 3) hx hb dX7_seesNow_137 (by decide) ?_
                    rw [hQ]; exact W.iret (v := 3) hx hb hr (fun t ht hW => ⟨3, rfl, (cz_sw_e c_1 hr_2 c_3 (fun h => cz_nlt c_38 hr_37 h.2) (cz_pe1 c_39 c_50) hr_61 c_62 (c_X7_seesNow_a58 ds r_2 x_63 x_64 x_65 x_66 ex_63 ex_64 ex_65 ex_66) (c_X7_seesNow_a59 i0 g1 x_66 c_67 c_70)), ht⟩) (fun _ h => absurd h List.not_mem_nil) dX7_seesNow_138
                  · refine lv_iconst (v := 0) hx hb dX7_seesNow_133 (by decide) ?_
                    refine lv_goto (tgt := 138) hx hb dX7_seesNow_134 (by decide) ?_
                    rw [hQ]; exact W.iret (v := 0) hx hb hr (fun t ht hW => ⟨0, rfl, (cz_sw_e c_1 hr_2 c_3 (fun h => cz_nlt c_38 hr_37 h.2) (cz_pe1 c_39 c_50) hr_61 c_62 (c_X7_seesNow_a60 ds r_2 x_63 x_64 x_65 x_66 ex_63 ex_64 ex_65 ex_66) (c_X7_seesNow_a61 i0 g1 x_66 c_67 c_70)), ht⟩) (fun _ h => absurd h List.not_mem_nil) dX7_seesNow_138
              · refine lv_iconst (v := 0) hx hb dX7_seesNow_102 (by decide) ?_
                rw [hQ]; exact W.iret (v := 0) hx hb hr (fun t ht hW => ⟨0, rfl, (cz_sw_d c_1 hr_2 c_3 (fun h => cz_nlt c_38 hr_37 h.2) (cz_pe1 c_39 c_50) hr_61 c_62), ht⟩) (fun _ h => absurd h List.not_mem_nil) dX7_seesNow_103
        · refine lv_iconst (v := 0) hx hb dX7_seesNow_58 (by decide) ?_
          rw [hQ]; exact W.iret (v := 0) hx hb hr (fun t ht hW => ⟨0, rfl, (cz_sw_c c_1 hr_2 c_3 c_4 hr_37 c_38), ht⟩) (fun _ h => absurd h List.not_mem_nil) dX7_seesNow_59
  · refine lv_iconst (v := (-1)) hx hb dX7_seesNow_8 (by decide) ?_
    refine lv_goto (tgt := 25) hx hb dX7_seesNow_9 (by decide) ?_
    refine lv_istore_n (lv' := [(2, .int (-1)), (0, .ref h0), (1, .int (nI i0))]) hx hb dX7_seesNow_25 rfl hl (by decide) rfl (fun ls hl => ?_)
    refine lv_iload_n hx hb dX7_seesNow_26 rfl (lv_at hl 0 rfl) ?_
    refine lv_iconst (v := (-1)) hx hb dX7_seesNow_27 (by decide) ?_
    refine lv_icmp_eq (tgt := 58) hx hb dX7_seesNow_28 (by decide) (fun _ => ?_) (fun c => absurd (by decide) c)
    refine lv_iconst (v := 0) hx hb dX7_seesNow_58 (by decide) ?_
    rw [hQ]; exact W.iret (v := 0) hx hb hr (fun t ht hW => ⟨0, rfl, (cz_sw_a c_1), ht⟩) (fun _ h => absurd h List.not_mem_nil) dX7_seesNow_59

theorem c_X7_isGuilty_a1 (i0 : Nat) (fl : Int32) (da : Int32) (ds : Int32) (kc : Nat) (g1 : Nat → Int32) (g2 : Nat → Int32) (r_1 : Int32) (hkc : kc ≤ 6) (hpl : cz_pl g2) (hdu : cz_du da ds) (hi6 : i0 < 6) (hr_1 : r_1 = cz_sw (g1 i0) (g2 i0) da ds fl g2 kc) (c_2 : r_1 = 2) (c_3 : (g1 i0) = 4) : ¬ cz_mg (g1 i0) (g2 i0) da ds fl g2 kc := by first | (subst_vars; rfl) | assumption | ((try subst_vars) <;> (try simp only [cz_mg]) <;> (repeat' split) <;> (first | rfl | contradiction | ((try simp only [cz_in, cz_du, cz_lt, cz_le, cz_eq, cz_l] at *) <;> (first | omega | (simp_all; done))))) | ((try subst_vars); simp only [cz_mg, cz_in, *, and_self, and_true, true_and, if_true, if_false])
theorem c_X7_isGuilty_a2 (i0 : Nat) (fl : Int32) (da : Int32) (ds : Int32) (kc : Nat) (g1 : Nat → Int32) (g2 : Nat → Int32) (r_1 : Int32) (hkc : kc ≤ 6) (hpl : cz_pl g2) (hdu : cz_du da ds) (hi6 : i0 < 6) (hr_1 : r_1 = cz_sw (g1 i0) (g2 i0) da ds fl g2 kc) (c_2 : r_1 = 2) (c_3 : ¬ (g1 i0) = 4) : cz_mg (g1 i0) (g2 i0) da ds fl g2 kc := by first | (subst_vars; rfl) | assumption | ((try subst_vars) <;> (try simp only [cz_mg]) <;> (repeat' split) <;> (first | rfl | contradiction | ((try simp only [cz_in, cz_du, cz_lt, cz_le, cz_eq, cz_l] at *) <;> (first | omega | (simp_all; done))))) | ((try subst_vars); simp only [cz_mg, cz_in, *, and_self, and_true, true_and, if_true, if_false])
theorem c_X7_isGuilty_a3 (i0 : Nat) (fl : Int32) (da : Int32) (ds : Int32) (kc : Nat) (g1 : Nat → Int32) (g2 : Nat → Int32) (r_1 : Int32) (hkc : kc ≤ 6) (hpl : cz_pl g2) (hdu : cz_du da ds) (hi6 : i0 < 6) (hr_1 : r_1 = cz_sw (g1 i0) (g2 i0) da ds fl g2 kc) (c_2 : ¬ r_1 = 2) (c_4 : ¬ r_1 = 3) : ¬ cz_mg (g1 i0) (g2 i0) da ds fl g2 kc := by first | (subst_vars; rfl) | assumption | ((try subst_vars) <;> (try simp only [cz_mg]) <;> (repeat' split) <;> (first | rfl | contradiction | ((try simp only [cz_in, cz_du, cz_lt, cz_le, cz_eq, cz_l] at *) <;> (first | omega | (simp_all; done))))) | ((try subst_vars); simp only [cz_mg, cz_in, *, and_self, and_true, true_and, if_true, if_false])
theorem c_X7_isGuilty_a4 (i0 : Nat) (fl : Int32) (da : Int32) (ds : Int32) (kc : Nat) (g1 : Nat → Int32) (g2 : Nat → Int32) (r_1 : Int32) (hkc : kc ≤ 6) (hpl : cz_pl g2) (hdu : cz_du da ds) (hi6 : i0 < 6) (hr_1 : r_1 = cz_sw (g1 i0) (g2 i0) da ds fl g2 kc) (c_2 : ¬ r_1 = 2) (c_4 : r_1 = 3) (c_5 : (g1 i0) = 4) : ¬ cz_mg (g1 i0) (g2 i0) da ds fl g2 kc := by first | (subst_vars; rfl) | assumption | ((try subst_vars) <;> (try simp only [cz_mg]) <;> (repeat' split) <;> (first | rfl | contradiction | ((try simp only [cz_in, cz_du, cz_lt, cz_le, cz_eq, cz_l] at *) <;> (first | omega | (simp_all; done))))) | ((try subst_vars); simp only [cz_mg, cz_in, *, and_self, and_true, true_and, if_true, if_false])
theorem c_X7_isGuilty_a5 (i0 : Nat) (fl : Int32) (da : Int32) (ds : Int32) (kc : Nat) (g1 : Nat → Int32) (g2 : Nat → Int32) (r_1 : Int32) (hkc : kc ≤ 6) (hpl : cz_pl g2) (hdu : cz_du da ds) (hi6 : i0 < 6) (hr_1 : r_1 = cz_sw (g1 i0) (g2 i0) da ds fl g2 kc) (c_2 : ¬ r_1 = 2) (c_4 : r_1 = 3) (c_5 : ¬ (g1 i0) = 4) : cz_mg (g1 i0) (g2 i0) da ds fl g2 kc := by first | (subst_vars; rfl) | assumption | ((try subst_vars) <;> (try simp only [cz_mg]) <;> (repeat' split) <;> (first | rfl | contradiction | ((try simp only [cz_in, cz_du, cz_lt, cz_le, cz_eq, cz_l] at *) <;> (first | omega | (simp_all; done))))) | ((try subst_vars); simp only [cz_mg, cz_in, *, and_self, and_true, true_and, if_true, if_false])
set_option maxHeartbeats 4000000 in
set_option maxRecDepth 100000 in
theorem c_X7_isGuilty (l : Launch) (dC : Nat → ClassId) (dI : Nat → Nat → Nat) (cI cB : ClassId) (h0 : Nat) (i0 : Nat) (ih : Int32) (hn : Int32) (fl : Int32) (da : Int32) (ds : Int32) (ac : Int32) (kc : Nat) (m1 : Nat) (m2 : Nat) (m3 : Nat) (m4 : Nat) (m5 : Nat) (pl : Nat) (pg : Nat) (fa : Int32) (nf : Int32) (m6 : Nat) (m7 : Nat) (m8 : Nat) (sd : Int64) (ik : Int32) (kh : Int32) (km : Nat) (ka : Int32) (ks : Int32) (kac : Int32) (m9 : Nat) (m10 : Nat) (m11 : Nat) (m12 : Nat) (hv : Int64) (g1 : Nat → Int32) (g2 : Nat → Int32) (hkc : kc ≤ 6) (hpl : cz_pl g2) (hdu : cz_du da ds) (hi6 : i0 < 6) : Met l yX7_isGuilty wsX7_isGuilty ({ frames := 3, cells := 0, slots := 0, locals := 72 }) (cz_Pp dC dI cI cB [.ref h0, .int (nI i0)] [(h0, .inr (7, [.int ih, .int hn, .int fl, .int da, .int ds, .int ac, .int (nI kc), .ref m1, .ref m2, .ref m3, .ref m4, .ref m5, .int (nI pl), .ref pg, .int fa, .int nf, .ref m6, .ref m7, .ref m8, .long sd, .int ik, .int kh, .int (nI km), .int ka, .int ks, .int kac, .ref m9, .ref m10, .ref m11, .ref m12, .long hv])), (m1, .inl (cI, 6, .inl g1)), (m2, .inl (cI, 6, .inl g2))]) (vp_Si (fun r : Int32 => (r = 0 ∧ ¬ cz_mg (g1 i0) (g2 i0) da ds fl g2 kc) ∨ (r = 1 ∧ cz_mg (g1 i0) (g2 i0) da ds fl g2 kc))) 0 0 (fun _ => False) := by
  refine cz_of (cc := cX7_isGuilty) (maxL := 3) (ret := (some .boolean)) (by decide) rfl ?_
  intro p e s m args below meth c s₁ Q B hml hv hQ
  obtain ⟨rfl, hP, hN⟩ := hv
  have hx := B.exec
  have hb := B.bytes
  have hr := B.returns
  have hts := atoms_spec (ws := wsX7_isGuilty) B.pre
  have hown : s.vm.findClass RX7 = some m.cls := findClass_of_methodNamed B.named
  have hlocks := B.notSynchronized
  have hK := hN.1
  have hiX7 : ∀ w ∈ wsX70, w ∈ wsX7_isGuilty := (fun _ h => List.mem_cons_of_mem _ (List.mem_append_right _ h))
  have hl := lv_entry ([.ref h0, .int (nI i0)]) (n := 3) (Nat.le_of_ble_eq_true rfl)
  rw [lg_entry_eq]
  generalize (lg_sl ([.ref h0, .int (nI i0)]) ++ List.replicate (3 - (lg_sl ([.ref h0, .int (nI i0)])).length) Slot.unset).toArray = ls at hl ⊢
  have hl : lv_has ls 3 [(0, .ref h0), (1, .int (nI i0))] := hl
  refine lv_aload_n hx hb dX7_isGuilty_0 rfl (lv_at hl 0 rfl) ?_
  refine lv_iload_n hx hb dX7_isGuilty_1 rfl (lv_at hl 1 rfl) ?_
  refine vp_callSi (cz_run (va_runV (As := [.int (nI i0)]) (rest := []) ⟨hx, hb, hml, hown, hts⟩ (c_X7_seesNow l dC dI cI cB h0 i0 ih hn fl da ds ac kc m1 m2 m3 m4 m5 pl pg fa nf m6 m7 m8 sd ik kh km ka ks kac m9 m10 m11 m12 hv g1 g2 hkc hpl hdu hi6) (cwV 1 hts gX7_isGuilty_X7_seesNow rfl rfl rfl (by decide +kernel) ⟨Nat.le_of_ble_eq_true rfl, Nat.le_of_ble_eq_true rfl⟩) (cz_pV hP hN (va_recv hK hP (ci := 7) (q0 := 0) rfl rfl)) rfl rfl hl.1 rfl (lv_room (Nat.le_of_ble_eq_true rfl)) dX7_isGuilty_2 ⟨Nat.le_of_ble_eq_true rfl, Nat.le_of_ble_eq_true rfl⟩)) (fun r_1 hr_1 => ?_)
  refine lv_istore_n (lv' := [(2, .int r_1), (0, .ref h0), (1, .int (nI i0))]) hx hb dX7_isGuilty_5 rfl hl (by decide) rfl (fun ls hl => ?_)
  refine lv_iload_n hx hb dX7_isGuilty_6 rfl (lv_at hl 0 rfl) ?_
  refine lv_iconst (v := 2) hx hb dX7_isGuilty_7 (by decide) ?_
  refine lv_icmp_eq (tgt := 16) hx hb dX7_isGuilty_8 (by decide) (fun c_2 => ?_) (fun c_2 => ?_)
  · refine lv_aload_n hx hb dX7_isGuilty_16 rfl (lv_at hl 1 rfl) ?_
    refine va_get (D := (dC, dI)) (ci := 7) (v := .ref m1) (C := RX7) (T := TX7) (N := 31) hx hb hts hiX7 hown hK hP 0 rfl rfl 7 (by decide) (hts (.fieldLink RX7 16 "LeftProfileModel" "kindOf" "[I") (List.mem_of_getElem? (i := 1) rfl)) (fun _ h9 => h9) rfl dX7_isGuilty_17 ?_
    refine lv_iload_n hx hb dX7_isGuilty_20 rfl (lv_at hl 2 rfl) ?_
    refine va_iald hx hb hK hP 1 0 rfl rfl (vp_in_nI (n := i0) (by omega) (by omega)) dX7_isGuilty_21 ?_
    refine cz_i (y := (g1 i0)) (congrArg g1 (nI_clamp (n := i0) (by omega))) ?_
    refine lv_iconst (v := 4) hx hb dX7_isGuilty_22 (by decide) ?_
    refine lv_icmp_eq (tgt := 30) hx hb dX7_isGuilty_23 (by decide) (fun c_3 => ?_) (fun c_3 => ?_)
    · refine lv_iconst (v := 0) hx hb dX7_isGuilty_30 (by decide) ?_
      rw [hQ]; exact W.zret (v := 0) hx hb hr (by decide) (fun t ht hW => ⟨0, rfl, (Or.inl ⟨rfl, (c_X7_isGuilty_a1 i0 fl da ds kc g1 g2 r_1 hkc hpl hdu hi6 hr_1 c_2 c_3)⟩), ht⟩) (fun _ h => absurd h List.not_mem_nil) dX7_isGuilty_31
    · refine lv_iconst (v := 1) hx hb dX7_isGuilty_26 (by decide) ?_
      refine lv_goto (tgt := 31) hx hb dX7_isGuilty_27 (by decide) ?_
      rw [hQ]; exact W.zret (v := 1) hx hb hr (by decide) (fun t ht hW => ⟨1, rfl, (Or.inr (⟨rfl, (c_X7_isGuilty_a2 i0 fl da ds kc g1 g2 r_1 hkc hpl hdu hi6 hr_1 c_2 c_3)⟩)), ht⟩) (fun _ h => absurd h List.not_mem_nil) dX7_isGuilty_31
  · refine lv_iload_n hx hb dX7_isGuilty_11 rfl (lv_at hl 0 rfl) ?_
    refine lv_iconst (v := 3) hx hb dX7_isGuilty_12 (by decide) ?_
    refine lv_icmp_ne (tgt := 30) hx hb dX7_isGuilty_13 (by decide) (fun c_4 => ?_) (fun c_4 => ?_)
    · refine lv_iconst (v := 0) hx hb dX7_isGuilty_30 (by decide) ?_
      rw [hQ]; exact W.zret (v := 0) hx hb hr (by decide) (fun t ht hW => ⟨0, rfl, (Or.inl ⟨rfl, (c_X7_isGuilty_a3 i0 fl da ds kc g1 g2 r_1 hkc hpl hdu hi6 hr_1 c_2 c_4)⟩), ht⟩) (fun _ h => absurd h List.not_mem_nil) dX7_isGuilty_31
    · refine lv_aload_n hx hb dX7_isGuilty_16 rfl (lv_at hl 1 rfl) ?_
      refine va_get (D := (dC, dI)) (ci := 7) (v := .ref m1) (C := RX7) (T := TX7) (N := 31) hx hb hts hiX7 hown hK hP 0 rfl rfl 7 (by decide) (hts (.fieldLink RX7 16 "LeftProfileModel" "kindOf" "[I") (List.mem_of_getElem? (i := 1) rfl)) (fun _ h9 => h9) rfl dX7_isGuilty_17 ?_
      refine lv_iload_n hx hb dX7_isGuilty_20 rfl (lv_at hl 2 rfl) ?_
      refine va_iald hx hb hK hP 1 0 rfl rfl (vp_in_nI (n := i0) (by omega) (by omega)) dX7_isGuilty_21 ?_
      refine cz_i (y := (g1 i0)) (congrArg g1 (nI_clamp (n := i0) (by omega))) ?_
      refine lv_iconst (v := 4) hx hb dX7_isGuilty_22 (by decide) ?_
      refine lv_icmp_eq (tgt := 30) hx hb dX7_isGuilty_23 (by decide) (fun c_5 => ?_) (fun c_5 => ?_)
      · refine lv_iconst (v := 0) hx hb dX7_isGuilty_30 (by decide) ?_
        rw [hQ]; exact W.zret (v := 0) hx hb hr (by decide) (fun t ht hW => ⟨0, rfl, (Or.inl ⟨rfl, (c_X7_isGuilty_a4 i0 fl da ds kc g1 g2 r_1 hkc hpl hdu hi6 hr_1 c_2 c_4 c_5)⟩), ht⟩) (fun _ h => absurd h List.not_mem_nil) dX7_isGuilty_31
      · refine lv_iconst (v := 1) hx hb dX7_isGuilty_26 (by decide) ?_
        refine lv_goto (tgt := 31) hx hb dX7_isGuilty_27 (by decide) ?_
        rw [hQ]; exact W.zret (v := 1) hx hb hr (by decide) (fun t ht hW => ⟨1, rfl, (Or.inr (⟨rfl, (c_X7_isGuilty_a5 i0 fl da ds kc g1 g2 r_1 hkc hpl hdu hi6 hr_1 c_2 c_4 c_5)⟩)), ht⟩) (fun _ h => absurd h List.not_mem_nil) dX7_isGuilty_31

theorem c_X7_guiltySet_a1 (fl : Int32) (da : Int32) (ds : Int32) (kc : Nat) (g1 : Nat → Int32) (g2 : Nat → Int32) (i4 : Nat) (y1 : Int32) (n4 : Nat) (x_4 : Int32) (hkc : kc ≤ 6) (hpl : cz_pl g2) (hdu : cz_du da ds) (hi4 : i4 + (n4 + 1) = kc) (hm : y1 = cz_mq da ds fl g1 g2 kc i4) (hr_3 : ¬ cz_mg (g1 i4) (g2 i4) da ds fl g2 kc) (ex_4 : x_4 = y1 ||| 0) : x_4 = cz_mq da ds fl g1 g2 kc (i4 + 1) := by (try subst_vars); simp only [cz_mq]; split <;> first | rfl | contradiction
theorem c_X7_guiltySet_a2 (fl : Int32) (da : Int32) (ds : Int32) (kc : Nat) (g1 : Nat → Int32) (g2 : Nat → Int32) (i4 : Nat) (y1 : Int32) (n4 : Nat) (x_5 : Int32) (x_6 : Int32) (hkc : kc ≤ 6) (hpl : cz_pl g2) (hdu : cz_du da ds) (hi4 : i4 + (n4 + 1) = kc) (hm : y1 = cz_mq da ds fl g1 g2 kc i4) (hr_3 : cz_mg (g1 i4) (g2 i4) da ds fl g2 kc) (ex_5 : x_5 = 1 <<< ((nI i4) &&& 31)) (ex_6 : x_6 = y1 ||| x_5) : x_6 = cz_mq da ds fl g1 g2 kc (i4 + 1) := by (try subst_vars); simp only [cz_mq]; split <;> first | rfl | contradiction
set_option maxHeartbeats 4000000 in
set_option maxRecDepth 100000 in
theorem c_X7_guiltySet (l : Launch) (dC : Nat → ClassId) (dI : Nat → Nat → Nat) (cI cB : ClassId) (h0 : Nat) (ih : Int32) (hn : Int32) (fl : Int32) (da : Int32) (ds : Int32) (ac : Int32) (kc : Nat) (m1 : Nat) (m2 : Nat) (m3 : Nat) (m4 : Nat) (m5 : Nat) (pl : Nat) (pg : Nat) (fa : Int32) (nf : Int32) (m6 : Nat) (m7 : Nat) (m8 : Nat) (sd : Int64) (ik : Int32) (kh : Int32) (km : Nat) (ka : Int32) (ks : Int32) (kac : Int32) (m9 : Nat) (m10 : Nat) (m11 : Nat) (m12 : Nat) (hv : Int64) (g1 : Nat → Int32) (g2 : Nat → Int32) (hkc : kc ≤ 6) (hpl : cz_pl g2) (hdu : cz_du da ds) : Met l yX7_guiltySet wsX7_guiltySet ({ frames := 4, cells := 0, slots := 0, locals := 94 }) (cz_Pp dC dI cI cB [.ref h0] [(h0, .inr (7, [.int ih, .int hn, .int fl, .int da, .int ds, .int ac, .int (nI kc), .ref m1, .ref m2, .ref m3, .ref m4, .ref m5, .int (nI pl), .ref pg, .int fa, .int nf, .ref m6, .ref m7, .ref m8, .long sd, .int ik, .int kh, .int (nI km), .int ka, .int ks, .int kac, .ref m9, .ref m10, .ref m11, .ref m12, .long hv])), (m1, .inl (cI, 6, .inl g1)), (m2, .inl (cI, 6, .inl g2))]) (vp_Si (fun r : Int32 => r = cz_mq da ds fl g1 g2 kc kc)) 0 0 (fun _ => False) := by
  refine cz_of (cc := cX7_guiltySet) (maxL := 3) (ret := (some .int)) (by decide) rfl ?_
  intro p e s m args below meth c s₁ Q B hml hv hQ
  obtain ⟨rfl, hP, hN⟩ := hv
  have hx := B.exec
  have hb := B.bytes
  have hr := B.returns
  have hts := atoms_spec (ws := wsX7_guiltySet) B.pre
  have hown : s.vm.findClass RX7 = some m.cls := findClass_of_methodNamed B.named
  have hlocks := B.notSynchronized
  have hK := hN.1
  have hiX7 : ∀ w ∈ wsX70, w ∈ wsX7_guiltySet := (fun _ h => List.mem_cons_of_mem _ (List.mem_append_right _ h))
  have hl := lv_entry ([.ref h0]) (n := 3) (Nat.le_of_ble_eq_true rfl)
  rw [lg_entry_eq]
  generalize (lg_sl ([.ref h0]) ++ List.replicate (3 - (lg_sl ([.ref h0])).length) Slot.unset).toArray = ls at hl ⊢
  have hl : lv_has ls 3 [(0, .ref h0)] := hl
  refine lv_iconst (v := 0) hx hb dX7_guiltySet_0 (by decide) ?_
  refine lv_istore_n (lv' := [(1, .int 0), (0, .ref h0)]) hx hb dX7_guiltySet_1 rfl hl (by decide) rfl (fun ls hl => ?_)
  refine lv_iconst (v := 0) hx hb dX7_guiltySet_2 (by decide) ?_
  refine lv_istore_n (lv' := [(2, .int 0), (1, .int 0), (0, .ref h0)]) hx hb dX7_guiltySet_3 rfl hl (by decide) rfl (fun ls hl => ?_)
  have lp4 : ∀ (n4 : Nat) (i4 : Nat) (y1 : Int32) (ls : Array Slot), i4 + n4 = kc → y1 = cz_mq da ds fl g1 g2 kc i4 → lv_has ls 3 [(0, .ref h0), (1, .int y1), (2, .int (nI i4))] → W p l e ({ frames := 4, cells := 0, slots := 0, locals := 94 } : Room) s m #[Value.ref h0] below meth c s.heap [] 0 0 Q (F0 m 4 ls []) := by
    intro n4
    induction n4 with
    | zero =>
      intro i4 y1 ls hi4 hm hl
      obtain rfl : kc = i4 := by omega
      refine lv_iload_n hx hb dX7_guiltySet_4 rfl (lv_at hl 2 rfl) ?_
      refine lv_aload_n hx hb dX7_guiltySet_5 rfl (lv_at hl 0 rfl) ?_
      refine va_get (D := (dC, dI)) (ci := 7) (v := .int (nI kc)) (C := RX7) (T := TX7) (N := 31) hx hb hts hiX7 hown hK hP 0 rfl rfl 6 (by decide) (hts (.fieldLink RX7 86 "LeftProfileModel" "courtiers" "I") (List.mem_of_getElem? (i := 1) rfl)) (fun _ h9 => h9) rfl dX7_guiltySet_6 ?_
      refine lv_icmp_ge (tgt := 36) hx hb dX7_guiltySet_9 (by decide) (fun c_1 => ?_) (fun c_1 => ?_)
      · refine lv_iload_n hx hb dX7_guiltySet_36 rfl (lv_at hl 1 rfl) ?_
        rw [hQ]; exact W.iret (v := y1) hx hb hr (fun t ht hW => ⟨y1, rfl, hm, ht⟩) (fun _ h => absurd h List.not_mem_nil) dX7_guiltySet_37
      · exact absurd (show nI kc ≤ nI kc from nI_le (a := kc) (b := kc) (by omega) (by omega)) c_1
    | succ n4 ih4 =>
      intro i4 y1 ls hi4 hm hl
      refine lv_iload_n hx hb dX7_guiltySet_4 rfl (lv_at hl 2 rfl) ?_
      refine lv_aload_n hx hb dX7_guiltySet_5 rfl (lv_at hl 0 rfl) ?_
      refine va_get (D := (dC, dI)) (ci := 7) (v := .int (nI kc)) (C := RX7) (T := TX7) (N := 31) hx hb hts hiX7 hown hK hP 0 rfl rfl 6 (by decide) (hts (.fieldLink RX7 86 "LeftProfileModel" "courtiers" "I") (List.mem_of_getElem? (i := 1) rfl)) (fun _ h9 => h9) rfl dX7_guiltySet_6 ?_
      refine lv_icmp_ge (tgt := 36) hx hb dX7_guiltySet_9 (by decide) (fun c_2 => ?_) (fun c_2 => ?_)
      · exact absurd c_2 (show ¬ nI kc ≤ nI i4 from nI_ge (a := i4) (b := kc) (by omega) (by omega))
      · refine lv_iload_n hx hb dX7_guiltySet_12 rfl (lv_at hl 1 rfl) ?_
        refine lv_aload_n hx hb dX7_guiltySet_13 rfl (lv_at hl 0 rfl) ?_
        refine lv_iload_n hx hb dX7_guiltySet_14 rfl (lv_at hl 2 rfl) ?_
        refine vp_callSi (cz_run (va_runV (As := [.int (nI i4)]) (rest := [.int y1]) ⟨hx, hb, hml, hown, hts⟩ (c_X7_isGuilty l dC dI cI cB h0 i4 ih hn fl da ds ac kc m1 m2 m3 m4 m5 pl pg fa nf m6 m7 m8 sd ik kh km ka ks kac m9 m10 m11 m12 hv g1 g2 hkc hpl hdu (by omega)) (cwV 1 hts gX7_guiltySet_X7_isGuilty rfl rfl rfl (by decide +kernel) ⟨Nat.le_of_ble_eq_true rfl, Nat.le_of_ble_eq_true rfl⟩) (cz_pV hP hN (va_recv hK hP (ci := 7) (q0 := 0) rfl rfl)) rfl rfl hl.1 rfl (lv_room (Nat.le_of_ble_eq_true rfl)) dX7_guiltySet_15 ⟨Nat.le_of_ble_eq_true rfl, Nat.le_of_ble_eq_true rfl⟩)) (fun r_3 hr_3 => ?_)
        rcases hr_3 with ⟨rfl, hr_3⟩ | ⟨rfl, hr_3⟩
        · refine lv_if_eq (tgt := 27) hx hb dX7_guiltySet_18 (by decide) (fun _ => ?_) (fun c => absurd (by decide) c)
          refine lv_iconst (v := 0) hx hb dX7_guiltySet_27 (by decide) ?_
          refine lv_ior hx hb dX7_guiltySet_28 ?_
          refine lv_topi (fun x_4 ex_4 => ?_)
          refine lv_istore_n (lv' := [(1, .int x_4), (0, .ref h0), (2, .int (nI i4))]) hx hb dX7_guiltySet_29 rfl hl (by decide) rfl (fun ls hl => ?_)
          refine lv_iinc (v := (nI (i4 + 1))) (lv' := [(2, .int (nI (i4 + 1))), (1, .int x_4), (0, .ref h0)]) hx hb dX7_guiltySet_30 hl (k := 2) rfl (nI_add i4 1) (by decide) rfl (fun ls hl => ?_)
          refine lv_goto (tgt := 4) hx hb dX7_guiltySet_33 (by decide) ?_
          exact ih4 (i4 + 1) x_4 ls (by omega) (c_X7_guiltySet_a1 fl da ds kc g1 g2 i4 y1 n4 x_4 hkc hpl hdu hi4 hm hr_3 ex_4) (lv_sub hl [2, 1, 0] rfl)
        · refine lv_if_eq (tgt := 27) hx hb dX7_guiltySet_18 (by decide) (fun c => absurd c (by decide)) (fun _ => ?_)
          refine lv_iconst (v := 1) hx hb dX7_guiltySet_21 (by decide) ?_
          refine lv_iload_n hx hb dX7_guiltySet_22 rfl (lv_at hl 2 rfl) ?_
          refine lv_ishl hx hb dX7_guiltySet_23 ?_
          refine lv_topi (fun x_5 ex_5 => ?_)
          refine lv_goto (tgt := 28) hx hb dX7_guiltySet_24 (by decide) ?_
          refine lv_ior hx hb dX7_guiltySet_28 ?_
          refine lv_topi (fun x_6 ex_6 => ?_)
          refine lv_istore_n (lv' := [(1, .int x_6), (0, .ref h0), (2, .int (nI i4))]) hx hb dX7_guiltySet_29 rfl hl (by decide) rfl (fun ls hl => ?_)
          refine lv_iinc (v := (nI (i4 + 1))) (lv' := [(2, .int (nI (i4 + 1))), (1, .int x_6), (0, .ref h0)]) hx hb dX7_guiltySet_30 hl (k := 2) rfl (nI_add i4 1) (by decide) rfl (fun ls hl => ?_)
          refine lv_goto (tgt := 4) hx hb dX7_guiltySet_33 (by decide) ?_
          exact ih4 (i4 + 1) x_6 ls (by omega) (c_X7_guiltySet_a2 fl da ds kc g1 g2 i4 y1 n4 x_5 x_6 hkc hpl hdu hi4 hm hr_3 ex_5 ex_6) (lv_sub hl [2, 1, 0] rfl)
  exact lp4 kc 0 0 ls (by omega) rfl (lv_sub hl [2, 1, 0] rfl)

theorem c_X7_courtierNow_a1 (i0 : Nat) (p1 : Int32) (fl : Int32) (da : Int32) (ds : Int32) (kc : Nat) (g1 : Nat → Int32) (g2 : Nat → Int32) (g3 : Nat → Int32) (g4 : Nat → Int32) (hkc : kc ≤ 6) (hpl : cz_pl g2) (hdu : cz_du da ds) (hi6 : i0 < 6) (c_1 : p1 = 0) : ((g1 i0) : Int32) = cz_cnM (nI i0) p1 da ds fl g1 g2 g3 g4 kc := by have q1 := nI_clamp (n := i0) (by omega); (try subst_vars); simp only [cz_cnM, q1]; (repeat' split) <;> (first | rfl | contradiction | ((try simp only [cz_in, cz_du, cz_lt, cz_le, cz_eq, cz_l] at *) <;> (first | omega | (simp_all; done))))
theorem c_X7_courtierNow_a2 (i0 : Nat) (p1 : Int32) (fl : Int32) (da : Int32) (ds : Int32) (kc : Nat) (g1 : Nat → Int32) (g2 : Nat → Int32) (g3 : Nat → Int32) (g4 : Nat → Int32) (hkc : kc ≤ 6) (hpl : cz_pl g2) (hdu : cz_du da ds) (hi6 : i0 < 6) (c_1 : p1 = 1) : ((g2 i0) : Int32) = cz_cnM (nI i0) p1 da ds fl g1 g2 g3 g4 kc := by have q1 := nI_clamp (n := i0) (by omega); (try subst_vars); simp only [cz_cnM, q1]; (repeat' split) <;> (first | rfl | contradiction | ((try simp only [cz_in, cz_du, cz_lt, cz_le, cz_eq, cz_l] at *) <;> (first | omega | (simp_all; done))))
theorem c_X7_courtierNow_a3 (i0 : Nat) (p1 : Int32) (fl : Int32) (da : Int32) (ds : Int32) (kc : Nat) (g1 : Nat → Int32) (g2 : Nat → Int32) (g3 : Nat → Int32) (g4 : Nat → Int32) (r_2 : Int32) (hkc : kc ≤ 6) (hpl : cz_pl g2) (hdu : cz_du da ds) (hi6 : i0 < 6) (c_1 : p1 = 2) (hr_2 : r_2 = cz_sw (g1 i0) (g2 i0) da ds fl g2 kc) : (r_2 : Int32) = cz_cnM (nI i0) p1 da ds fl g1 g2 g3 g4 kc := by have q1 := nI_clamp (n := i0) (by omega); (try subst_vars); simp only [cz_cnM, q1]; (repeat' split) <;> (first | rfl | contradiction | ((try simp only [cz_in, cz_du, cz_lt, cz_le, cz_eq, cz_l] at *) <;> (first | omega | (simp_all; done))))
theorem c_X7_courtierNow_a4 (i0 : Nat) (p1 : Int32) (fl : Int32) (da : Int32) (ds : Int32) (kc : Nat) (g1 : Nat → Int32) (g2 : Nat → Int32) (g3 : Nat → Int32) (g4 : Nat → Int32) (hkc : kc ≤ 6) (hpl : cz_pl g2) (hdu : cz_du da ds) (hi6 : i0 < 6) (c_1 : p1 = 3) (hr_3 : ¬ cz_mg (g1 i0) (g2 i0) da ds fl g2 kc) : (0 : Int32) = cz_cnM (nI i0) p1 da ds fl g1 g2 g3 g4 kc := by have q1 := nI_clamp (n := i0) (by omega); (try subst_vars); simp only [cz_cnM, q1]; (repeat' split) <;> (first | rfl | contradiction | ((try simp only [cz_in, cz_du, cz_lt, cz_le, cz_eq, cz_l] at *) <;> (first | omega | (simp_all; done))))
theorem c_X7_courtierNow_a5 (i0 : Nat) (p1 : Int32) (fl : Int32) (da : Int32) (ds : Int32) (kc : Nat) (g1 : Nat → Int32) (g2 : Nat → Int32) (g3 : Nat → Int32) (g4 : Nat → Int32) (hkc : kc ≤ 6) (hpl : cz_pl g2) (hdu : cz_du da ds) (hi6 : i0 < 6) (c_1 : p1 = 3) (hr_3 : cz_mg (g1 i0) (g2 i0) da ds fl g2 kc) : (1 : Int32) = cz_cnM (nI i0) p1 da ds fl g1 g2 g3 g4 kc := by have q1 := nI_clamp (n := i0) (by omega); (try subst_vars); simp only [cz_cnM, q1]; (repeat' split) <;> (first | rfl | contradiction | ((try simp only [cz_in, cz_du, cz_lt, cz_le, cz_eq, cz_l] at *) <;> (first | omega | (simp_all; done))))
theorem c_X7_courtierNow_a6 (i0 : Nat) (p1 : Int32) (fl : Int32) (da : Int32) (ds : Int32) (kc : Nat) (g1 : Nat → Int32) (g2 : Nat → Int32) (g3 : Nat → Int32) (g4 : Nat → Int32) (hkc : kc ≤ 6) (hpl : cz_pl g2) (hdu : cz_du da ds) (hi6 : i0 < 6) (c_1 : p1 = 4) : ((g3 i0) : Int32) = cz_cnM (nI i0) p1 da ds fl g1 g2 g3 g4 kc := by have q1 := nI_clamp (n := i0) (by omega); (try subst_vars); simp only [cz_cnM, q1]; (repeat' split) <;> (first | rfl | contradiction | ((try simp only [cz_in, cz_du, cz_lt, cz_le, cz_eq, cz_l] at *) <;> (first | omega | (simp_all; done))))
theorem c_X7_courtierNow_a7 (i0 : Nat) (p1 : Int32) (fl : Int32) (da : Int32) (ds : Int32) (kc : Nat) (g1 : Nat → Int32) (g2 : Nat → Int32) (g3 : Nat → Int32) (g4 : Nat → Int32) (hkc : kc ≤ 6) (hpl : cz_pl g2) (hdu : cz_du da ds) (hi6 : i0 < 6) (c_1 : p1.toInt < 0 ∨ 4 < p1.toInt) : ((g4 i0) : Int32) = cz_cnM (nI i0) p1 da ds fl g1 g2 g3 g4 kc := by have q1 := nI_clamp (n := i0) (by omega); (try subst_vars); simp only [cz_cnM, q1]; (repeat' split) <;> (first | rfl | contradiction | ((try simp only [cz_in, cz_du, cz_lt, cz_le, cz_eq, cz_l] at *) <;> (first | omega | (simp_all; done))))
set_option maxHeartbeats 4000000 in
set_option maxRecDepth 100000 in
theorem c_X7_courtierNow (l : Launch) (dC : Nat → ClassId) (dI : Nat → Nat → Nat) (cI cB : ClassId) (h0 : Nat) (i0 : Nat) (p1 : Int32) (ih : Int32) (hn : Int32) (fl : Int32) (da : Int32) (ds : Int32) (ac : Int32) (kc : Nat) (m1 : Nat) (m2 : Nat) (m3 : Nat) (m4 : Nat) (m5 : Nat) (pl : Nat) (pg : Nat) (fa : Int32) (nf : Int32) (m6 : Nat) (m7 : Nat) (m8 : Nat) (sd : Int64) (ik : Int32) (kh : Int32) (km : Nat) (ka : Int32) (ks : Int32) (kac : Int32) (m9 : Nat) (m10 : Nat) (m11 : Nat) (m12 : Nat) (hv : Int64) (g1 : Nat → Int32) (g2 : Nat → Int32) (g3 : Nat → Int32) (g4 : Nat → Int32) (hkc : kc ≤ 6) (hpl : cz_pl g2) (hdu : cz_du da ds) (hi6 : i0 < 6) : Met l yX7_courtierNow wsX7_courtierNow ({ frames := 4, cells := 0, slots := 0, locals := 94 }) (cz_Pp dC dI cI cB [.ref h0, .int (nI i0), .int p1] [(h0, .inr (7, [.int ih, .int hn, .int fl, .int da, .int ds, .int ac, .int (nI kc), .ref m1, .ref m2, .ref m3, .ref m4, .ref m5, .int (nI pl), .ref pg, .int fa, .int nf, .ref m6, .ref m7, .ref m8, .long sd, .int ik, .int kh, .int (nI km), .int ka, .int ks, .int kac, .ref m9, .ref m10, .ref m11, .ref m12, .long hv])), (m1, .inl (cI, 6, .inl g1)), (m2, .inl (cI, 6, .inl g2)), (m3, .inl (cI, 6, .inl g3)), (m4, .inl (cI, 6, .inl g4))]) (vp_Si (fun r : Int32 => r = cz_cnM (nI i0) p1 da ds fl g1 g2 g3 g4 kc)) 0 0 (fun _ => False) := by
  refine cz_of (cc := cX7_courtierNow) (maxL := 3) (ret := (some .int)) (by decide) rfl ?_
  intro p e s m args below meth c s₁ Q B hml hv hQ
  obtain ⟨rfl, hP, hN⟩ := hv
  have hx := B.exec
  have hb := B.bytes
  have hr := B.returns
  have hts := atoms_spec (ws := wsX7_courtierNow) B.pre
  have hown : s.vm.findClass RX7 = some m.cls := findClass_of_methodNamed B.named
  have hlocks := B.notSynchronized
  have hK := hN.1
  have hiX7 : ∀ w ∈ wsX70, w ∈ wsX7_courtierNow := (fun _ h => List.mem_cons_of_mem _ (List.mem_append_right _ h))
  have hl := lv_entry ([.ref h0, .int (nI i0), .int p1]) (n := 3) (Nat.le_of_ble_eq_true rfl)
  rw [lg_entry_eq]
  generalize (lg_sl ([.ref h0, .int (nI i0), .int p1]) ++ List.replicate (3 - (lg_sl ([.ref h0, .int (nI i0), .int p1])).length) Slot.unset).toArray = ls at hl ⊢
  have hl : lv_has ls 3 [(0, .ref h0), (1, .int (nI i0)), (2, .int p1)] := hl
  refine lv_iload_n hx hb dX7_courtierNow_0 rfl (lv_at hl 2 rfl) ?_
  rcases cz_sw_0_4 p1 with c_1 | c_1 | c_1 | c_1 | c_1 | c_1
  · refine lv_tableIn (off := 35) (tgt := 36) hx hb dX7_courtierNow_1 (by rw [c_1]; decide) (by rw [c_1]; decide) (by rw [c_1]; decide) (by decide) ?_
    refine lv_aload_n hx hb dX7_courtierNow_36 rfl (lv_at hl 0 rfl) ?_
    refine va_get (D := (dC, dI)) (ci := 7) (v := .ref m1) (C := RX7) (T := TX7) (N := 31) hx hb hts hiX7 hown hK hP 0 rfl rfl 7 (by decide) (hts (.fieldLink RX7 16 "LeftProfileModel" "kindOf" "[I") (List.mem_of_getElem? (i := 1) rfl)) (fun _ h9 => h9) rfl dX7_courtierNow_37 ?_
    refine lv_iload_n hx hb dX7_courtierNow_40 rfl (lv_at hl 1 rfl) ?_
    refine va_iald hx hb hK hP 1 0 rfl rfl (vp_in_nI (n := i0) (by omega) (by omega)) dX7_courtierNow_41 ?_
    refine cz_i (y := (g1 i0)) (congrArg g1 (nI_clamp (n := i0) (by omega))) ?_
    rw [hQ]; exact W.iret (v := (g1 i0)) hx hb hr (fun t ht hW => ⟨(g1 i0), rfl, (c_X7_courtierNow_a1 i0 p1 fl da ds kc g1 g2 g3 g4 hkc hpl hdu hi6 c_1), ht⟩) (fun _ h => absurd h List.not_mem_nil) dX7_courtierNow_42
  · refine lv_tableIn (off := 42) (tgt := 43) hx hb dX7_courtierNow_1 (by rw [c_1]; decide) (by rw [c_1]; decide) (by rw [c_1]; decide) (by decide) ?_
    refine lv_aload_n hx hb dX7_courtierNow_43 rfl (lv_at hl 0 rfl) ?_
    refine va_get (D := (dC, dI)) (ci := 7) (v := .ref m2) (C := RX7) (T := TX7) (N := 31) hx hb hts hiX7 hown hK hP 0 rfl rfl 8 (by decide) (hts (.fieldLink RX7 20 "LeftProfileModel" "placeOf" "[I") (List.mem_of_getElem? (i := 2) rfl)) (fun _ h9 => h9) rfl dX7_courtierNow_44 ?_
    refine lv_iload_n hx hb dX7_courtierNow_47 rfl (lv_at hl 1 rfl) ?_
    refine va_iald hx hb hK hP 2 0 rfl rfl (vp_in_nI (n := i0) (by omega) (by omega)) dX7_courtierNow_48 ?_
    refine cz_i (y := (g2 i0)) (congrArg g2 (nI_clamp (n := i0) (by omega))) ?_
    rw [hQ]; exact W.iret (v := (g2 i0)) hx hb hr (fun t ht hW => ⟨(g2 i0), rfl, (c_X7_courtierNow_a2 i0 p1 fl da ds kc g1 g2 g3 g4 hkc hpl hdu hi6 c_1), ht⟩) (fun _ h => absurd h List.not_mem_nil) dX7_courtierNow_49
  · refine lv_tableIn (off := 49) (tgt := 50) hx hb dX7_courtierNow_1 (by rw [c_1]; decide) (by rw [c_1]; decide) (by rw [c_1]; decide) (by decide) ?_
    refine lv_aload_n hx hb dX7_courtierNow_50 rfl (lv_at hl 0 rfl) ?_
    refine lv_iload_n hx hb dX7_courtierNow_51 rfl (lv_at hl 1 rfl) ?_
    refine vp_callSi (cz_run (va_runV (As := [.int (nI i0)]) (rest := []) ⟨hx, hb, hml, hown, hts⟩ (c_X7_seesNow l dC dI cI cB h0 i0 ih hn fl da ds ac kc m1 m2 m3 m4 m5 pl pg fa nf m6 m7 m8 sd ik kh km ka ks kac m9 m10 m11 m12 hv g1 g2 hkc hpl hdu hi6) (cwV 1 hts gX7_courtierNow_X7_seesNow rfl rfl rfl (by decide +kernel) ⟨Nat.le_of_ble_eq_true rfl, Nat.le_of_ble_eq_true rfl⟩) (cz_pV (hP.sub (ws' := [(h0, .inr (7, [.int ih, .int hn, .int fl, .int da, .int ds, .int ac, .int (nI kc), .ref m1, .ref m2, .ref m3, .ref m4, .ref m5, .int (nI pl), .ref pg, .int fa, .int nf, .ref m6, .ref m7, .ref m8, .long sd, .int ik, .int kh, .int (nI km), .int ka, .int ks, .int kac, .ref m9, .ref m10, .ref m11, .ref m12, .long hv])), (m1, .inl (cI, 6, .inl g1)), (m2, .inl (cI, 6, .inl g2))]) [0, 1, 2] rfl) hN (va_recv hK (hP.sub (ws' := [(h0, .inr (7, [.int ih, .int hn, .int fl, .int da, .int ds, .int ac, .int (nI kc), .ref m1, .ref m2, .ref m3, .ref m4, .ref m5, .int (nI pl), .ref pg, .int fa, .int nf, .ref m6, .ref m7, .ref m8, .long sd, .int ik, .int kh, .int (nI km), .int ka, .int ks, .int kac, .ref m9, .ref m10, .ref m11, .ref m12, .long hv])), (m1, .inl (cI, 6, .inl g1)), (m2, .inl (cI, 6, .inl g2))]) [0, 1, 2] rfl) (ci := 7) (q0 := 0) rfl rfl)) rfl rfl hl.1 rfl (lv_room (Nat.le_of_ble_eq_true rfl)) dX7_courtierNow_52 ⟨Nat.le_of_ble_eq_true rfl, Nat.le_of_ble_eq_true rfl⟩)) (fun r_2 hr_2 => ?_)
    rw [hQ]; exact W.iret (v := r_2) hx hb hr (fun t ht hW => ⟨r_2, rfl, (c_X7_courtierNow_a3 i0 p1 fl da ds kc g1 g2 g3 g4 r_2 hkc hpl hdu hi6 c_1 hr_2), ht⟩) (fun _ h => absurd h List.not_mem_nil) dX7_courtierNow_55
  · refine lv_tableIn (off := 55) (tgt := 56) hx hb dX7_courtierNow_1 (by rw [c_1]; decide) (by rw [c_1]; decide) (by rw [c_1]; decide) (by decide) ?_
    refine lv_aload_n hx hb dX7_courtierNow_56 rfl (lv_at hl 0 rfl) ?_
    refine lv_iload_n hx hb dX7_courtierNow_57 rfl (lv_at hl 1 rfl) ?_
    refine vp_callSi (cz_run (va_runV (As := [.int (nI i0)]) (rest := []) ⟨hx, hb, hml, hown, hts⟩ (c_X7_isGuilty l dC dI cI cB h0 i0 ih hn fl da ds ac kc m1 m2 m3 m4 m5 pl pg fa nf m6 m7 m8 sd ik kh km ka ks kac m9 m10 m11 m12 hv g1 g2 hkc hpl hdu hi6) (cwV 1 hts gX7_courtierNow_X7_isGuilty rfl rfl rfl (by decide +kernel) ⟨Nat.le_of_ble_eq_true rfl, Nat.le_of_ble_eq_true rfl⟩) (cz_pV (hP.sub (ws' := [(h0, .inr (7, [.int ih, .int hn, .int fl, .int da, .int ds, .int ac, .int (nI kc), .ref m1, .ref m2, .ref m3, .ref m4, .ref m5, .int (nI pl), .ref pg, .int fa, .int nf, .ref m6, .ref m7, .ref m8, .long sd, .int ik, .int kh, .int (nI km), .int ka, .int ks, .int kac, .ref m9, .ref m10, .ref m11, .ref m12, .long hv])), (m1, .inl (cI, 6, .inl g1)), (m2, .inl (cI, 6, .inl g2))]) [0, 1, 2] rfl) hN (va_recv hK (hP.sub (ws' := [(h0, .inr (7, [.int ih, .int hn, .int fl, .int da, .int ds, .int ac, .int (nI kc), .ref m1, .ref m2, .ref m3, .ref m4, .ref m5, .int (nI pl), .ref pg, .int fa, .int nf, .ref m6, .ref m7, .ref m8, .long sd, .int ik, .int kh, .int (nI km), .int ka, .int ks, .int kac, .ref m9, .ref m10, .ref m11, .ref m12, .long hv])), (m1, .inl (cI, 6, .inl g1)), (m2, .inl (cI, 6, .inl g2))]) [0, 1, 2] rfl) (ci := 7) (q0 := 0) rfl rfl)) rfl rfl hl.1 rfl (lv_room (Nat.le_of_ble_eq_true rfl)) dX7_courtierNow_58 ⟨Nat.le_of_ble_eq_true rfl, Nat.le_of_ble_eq_true rfl⟩)) (fun r_3 hr_3 => ?_)
    rcases hr_3 with ⟨rfl, hr_3⟩ | ⟨rfl, hr_3⟩
    · refine lv_if_eq (tgt := 68) hx hb dX7_courtierNow_61 (by decide) (fun _ => ?_) (fun c => absurd (by decide) c)
      refine lv_iconst (v := 0) hx hb dX7_courtierNow_68 (by decide) ?_
      rw [hQ]; exact W.iret (v := 0) hx hb hr (fun t ht hW => ⟨0, rfl, (c_X7_courtierNow_a4 i0 p1 fl da ds kc g1 g2 g3 g4 hkc hpl hdu hi6 c_1 hr_3), ht⟩) (fun _ h => absurd h List.not_mem_nil) dX7_courtierNow_69
    · refine lv_if_eq (tgt := 68) hx hb dX7_courtierNow_61 (by decide) (fun c => absurd c (by decide)) (fun _ => ?_)
      refine lv_iconst (v := 1) hx hb dX7_courtierNow_64 (by decide) ?_
      refine lv_goto (tgt := 69) hx hb dX7_courtierNow_65 (by decide) ?_
      rw [hQ]; exact W.iret (v := 1) hx hb hr (fun t ht hW => ⟨1, rfl, (c_X7_courtierNow_a5 i0 p1 fl da ds kc g1 g2 g3 g4 hkc hpl hdu hi6 c_1 hr_3), ht⟩) (fun _ h => absurd h List.not_mem_nil) dX7_courtierNow_69
  · refine lv_tableIn (off := 69) (tgt := 70) hx hb dX7_courtierNow_1 (by rw [c_1]; decide) (by rw [c_1]; decide) (by rw [c_1]; decide) (by decide) ?_
    refine lv_aload_n hx hb dX7_courtierNow_70 rfl (lv_at hl 0 rfl) ?_
    refine va_get (D := (dC, dI)) (ci := 7) (v := .ref m3) (C := RX7) (T := TX7) (N := 31) hx hb hts hiX7 hown hK hP 0 rfl rfl 9 (by decide) (hts (.fieldLink RX7 23 "LeftProfileModel" "sawLeft" "[I") (List.mem_of_getElem? (i := 3) rfl)) (fun _ h9 => h9) rfl dX7_courtierNow_71 ?_
    refine lv_iload_n hx hb dX7_courtierNow_74 rfl (lv_at hl 1 rfl) ?_
    refine va_iald hx hb hK hP 3 0 rfl rfl (vp_in_nI (n := i0) (by omega) (by omega)) dX7_courtierNow_75 ?_
    refine cz_i (y := (g3 i0)) (congrArg g3 (nI_clamp (n := i0) (by omega))) ?_
    rw [hQ]; exact W.iret (v := (g3 i0)) hx hb hr (fun t ht hW => ⟨(g3 i0), rfl, (c_X7_courtierNow_a6 i0 p1 fl da ds kc g1 g2 g3 g4 hkc hpl hdu hi6 c_1), ht⟩) (fun _ h => absurd h List.not_mem_nil) dX7_courtierNow_76
  · refine lv_tableOut (tgt := 77) hx hb dX7_courtierNow_1 c_1 (by decide) ?_
    refine lv_aload_n hx hb dX7_courtierNow_77 rfl (lv_at hl 0 rfl) ?_
    refine va_get (D := (dC, dI)) (ci := 7) (v := .ref m4) (C := RX7) (T := TX7) (N := 31) hx hb hts hiX7 hown hK hP 0 rfl rfl 10 (by decide) (hts (.fieldLink RX7 26 "LeftProfileModel" "sawRight" "[I") (List.mem_of_getElem? (i := 4) rfl)) (fun _ h9 => h9) rfl dX7_courtierNow_78 ?_
    refine lv_iload_n hx hb dX7_courtierNow_81 rfl (lv_at hl 1 rfl) ?_
    refine va_iald hx hb hK hP 4 0 rfl rfl (vp_in_nI (n := i0) (by omega) (by omega)) dX7_courtierNow_82 ?_
    refine cz_i (y := (g4 i0)) (congrArg g4 (nI_clamp (n := i0) (by omega))) ?_
    rw [hQ]; exact W.iret (v := (g4 i0)) hx hb hr (fun t ht hW => ⟨(g4 i0), rfl, (c_X7_courtierNow_a7 i0 p1 fl da ds kc g1 g2 g3 g4 hkc hpl hdu hi6 c_1), ht⟩) (fun _ h => absurd h List.not_mem_nil) dX7_courtierNow_83

set_option maxHeartbeats 4000000 in
set_option maxRecDepth 100000 in
theorem c_X7_toldMany (l : Launch) (dC : Nat → ClassId) (dI : Nat → Nat → Nat) (cI cB : ClassId) (h0 : Nat) (ih : Int32) (hn : Int32) (fl : Int32) (da : Int32) (ds : Int32) (ac : Int32) (kc : Nat) (m1 : Nat) (m2 : Nat) (m3 : Nat) (m4 : Nat) (m5 : Nat) (pl : Nat) (pg : Nat) (fa : Int32) (nf : Int32) (m6 : Nat) (m7 : Nat) (m8 : Nat) (sd : Int64) (ik : Int32) (kh : Int32) (km : Nat) (ka : Int32) (ks : Int32) (kac : Int32) (m9 : Nat) (m10 : Nat) (m11 : Nat) (m12 : Nat) (hv : Int64) (g5 : Nat → Int32) (hkc : kc ≤ 6) : Met l yX7_toldMany wsX7_toldMany ({ frames := 0, cells := 0, slots := 0, locals := 0 }) (cz_Pp dC dI cI cB [.ref h0] [(h0, .inr (7, [.int ih, .int hn, .int fl, .int da, .int ds, .int ac, .int (nI kc), .ref m1, .ref m2, .ref m3, .ref m4, .ref m5, .int (nI pl), .ref pg, .int fa, .int nf, .ref m6, .ref m7, .ref m8, .long sd, .int ik, .int kh, .int (nI km), .int ka, .int ks, .int kac, .ref m9, .ref m10, .ref m11, .ref m12, .long hv])), (m5, .inl (cI, 6, .inl g5))]) (vp_Si (fun r : Int32 => True)) 0 0 (fun _ => False) := by
  refine cz_of (cc := cX7_toldMany) (maxL := 3) (ret := (some .int)) (by decide) rfl ?_
  intro p e s m args below meth c s₁ Q B hml hv hQ
  obtain ⟨rfl, hP, hN⟩ := hv
  have hx := B.exec
  have hb := B.bytes
  have hr := B.returns
  have hts := atoms_spec (ws := wsX7_toldMany) B.pre
  have hown : s.vm.findClass RX7 = some m.cls := findClass_of_methodNamed B.named
  have hlocks := B.notSynchronized
  have hK := hN.1
  have hiX7 : ∀ w ∈ wsX70, w ∈ wsX7_toldMany := (fun _ h => List.mem_cons_of_mem _ (List.mem_append_right _ h))
  have hl := lv_entry ([.ref h0]) (n := 3) (Nat.le_of_ble_eq_true rfl)
  rw [lg_entry_eq]
  generalize (lg_sl ([.ref h0]) ++ List.replicate (3 - (lg_sl ([.ref h0])).length) Slot.unset).toArray = ls at hl ⊢
  have hl : lv_has ls 3 [(0, .ref h0)] := hl
  refine lv_iconst (v := 0) hx hb dX7_toldMany_0 (by decide) ?_
  refine lv_istore_n (lv' := [(1, .int 0), (0, .ref h0)]) hx hb dX7_toldMany_1 rfl hl (by decide) rfl (fun ls hl => ?_)
  refine lv_iconst (v := 0) hx hb dX7_toldMany_2 (by decide) ?_
  refine lv_istore_n (lv' := [(2, .int 0), (1, .int 0), (0, .ref h0)]) hx hb dX7_toldMany_3 rfl hl (by decide) rfl (fun ls hl => ?_)
  have lp4 : ∀ (n4 : Nat) (i4 : Nat) (y1 : Int32) (ls : Array Slot), i4 + n4 = kc → lv_has ls 3 [(0, .ref h0), (1, .int y1), (2, .int (nI i4))] → W p l e ({ frames := 0, cells := 0, slots := 0, locals := 0 } : Room) s m #[Value.ref h0] below meth c s.heap [] 0 0 Q (F0 m 4 ls []) := by
    intro n4
    induction n4 with
    | zero =>
      intro i4 y1 ls hi4  hl
      obtain rfl : kc = i4 := by omega
      refine lv_iload_n hx hb dX7_toldMany_4 rfl (lv_at hl 2 rfl) ?_
      refine lv_aload_n hx hb dX7_toldMany_5 rfl (lv_at hl 0 rfl) ?_
      refine va_get (D := (dC, dI)) (ci := 7) (v := .int (nI kc)) (C := RX7) (T := TX7) (N := 31) hx hb hts hiX7 hown hK hP 0 rfl rfl 6 (by decide) (hts (.fieldLink RX7 86 "LeftProfileModel" "courtiers" "I") (List.mem_of_getElem? (i := 1) rfl)) (fun _ h9 => h9) rfl dX7_toldMany_6 ?_
      refine lv_icmp_ge (tgt := 36) hx hb dX7_toldMany_9 (by decide) (fun c_1 => ?_) (fun c_1 => ?_)
      · refine lv_iload_n hx hb dX7_toldMany_36 rfl (lv_at hl 1 rfl) ?_
        rw [hQ]; exact W.iret (v := y1) hx hb hr (fun t ht hW => ⟨y1, rfl, trivial, ht⟩) (fun _ h => absurd h List.not_mem_nil) dX7_toldMany_37
      · exact absurd (show nI kc ≤ nI kc from nI_le (a := kc) (b := kc) (by omega) (by omega)) c_1
    | succ n4 ih4 =>
      intro i4 y1 ls hi4  hl
      refine lv_iload_n hx hb dX7_toldMany_4 rfl (lv_at hl 2 rfl) ?_
      refine lv_aload_n hx hb dX7_toldMany_5 rfl (lv_at hl 0 rfl) ?_
      refine va_get (D := (dC, dI)) (ci := 7) (v := .int (nI kc)) (C := RX7) (T := TX7) (N := 31) hx hb hts hiX7 hown hK hP 0 rfl rfl 6 (by decide) (hts (.fieldLink RX7 86 "LeftProfileModel" "courtiers" "I") (List.mem_of_getElem? (i := 1) rfl)) (fun _ h9 => h9) rfl dX7_toldMany_6 ?_
      refine lv_icmp_ge (tgt := 36) hx hb dX7_toldMany_9 (by decide) (fun c_2 => ?_) (fun c_2 => ?_)
      · exact absurd c_2 (show ¬ nI kc ≤ nI i4 from nI_ge (a := i4) (b := kc) (by omega) (by omega))
      · refine lv_iload_n hx hb dX7_toldMany_12 rfl (lv_at hl 1 rfl) ?_
        refine lv_aload_n hx hb dX7_toldMany_13 rfl (lv_at hl 0 rfl) ?_
        refine va_get (D := (dC, dI)) (ci := 7) (v := .ref m5) (C := RX7) (T := TX7) (N := 31) hx hb hts hiX7 hown hK hP 0 rfl rfl 11 (by decide) (hts (.fieldLink RX7 29 "LeftProfileModel" "toldOf" "[I") (List.mem_of_getElem? (i := 2) rfl)) (fun _ h9 => h9) rfl dX7_toldMany_14 ?_
        refine lv_iload_n hx hb dX7_toldMany_17 rfl (lv_at hl 2 rfl) ?_
        refine va_iald hx hb hK hP 1 0 rfl rfl (vp_in_nI (n := i4) (by omega) (by omega)) dX7_toldMany_18 ?_
        refine cz_i (y := (g5 i4)) (congrArg g5 (nI_clamp (n := i4) (by omega))) ?_
        refine lv_iconst (v := (-1)) hx hb dX7_toldMany_19 (by decide) ?_
        refine lv_icmp_ne (tgt := 27) hx hb dX7_toldMany_20 (by decide) (fun c_3 => ?_) (fun c_3 => ?_)
        · refine lv_iconst (v := 1) hx hb dX7_toldMany_27 (by decide) ?_
          refine lv_iadd hx hb dX7_toldMany_28 ?_
          refine lv_topi (fun x_4 ex_4 => ?_)
          refine lv_istore_n (lv' := [(1, .int x_4), (0, .ref h0), (2, .int (nI i4))]) hx hb dX7_toldMany_29 rfl hl (by decide) rfl (fun ls hl => ?_)
          refine lv_iinc (v := (nI (i4 + 1))) (lv' := [(2, .int (nI (i4 + 1))), (1, .int x_4), (0, .ref h0)]) hx hb dX7_toldMany_30 hl (k := 2) rfl (nI_add i4 1) (by decide) rfl (fun ls hl => ?_)
          refine lv_goto (tgt := 4) hx hb dX7_toldMany_33 (by decide) ?_
          exact ih4 (i4 + 1) x_4 ls (by omega)  (lv_sub hl [2, 1, 0] rfl)
        · refine lv_iconst (v := 0) hx hb dX7_toldMany_23 (by decide) ?_
          refine lv_goto (tgt := 28) hx hb dX7_toldMany_24 (by decide) ?_
          refine lv_iadd hx hb dX7_toldMany_28 ?_
          refine lv_topi (fun x_5 ex_5 => ?_)
          refine lv_istore_n (lv' := [(1, .int x_5), (0, .ref h0), (2, .int (nI i4))]) hx hb dX7_toldMany_29 rfl hl (by decide) rfl (fun ls hl => ?_)
          refine lv_iinc (v := (nI (i4 + 1))) (lv' := [(2, .int (nI (i4 + 1))), (1, .int x_5), (0, .ref h0)]) hx hb dX7_toldMany_30 hl (k := 2) rfl (nI_add i4 1) (by decide) rfl (fun ls hl => ?_)
          refine lv_goto (tgt := 4) hx hb dX7_toldMany_33 (by decide) ?_
          exact ih4 (i4 + 1) x_5 ls (by omega)  (lv_sub hl [2, 1, 0] rfl)
  exact lp4 kc 0 0 ls (by omega)  (lv_sub hl [2, 1, 0] rfl)
