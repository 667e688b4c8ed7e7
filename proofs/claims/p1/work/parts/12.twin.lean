/-- the sum of the bits below k -/
def cz_sz (b : Int32) : Nat → Int32
  | 0 => 0
  | k + 1 => cz_sz b k + (b >>> (nI k &&& 31) &&& 1)

theorem c_X7_within_a1 (p0 : Int32) (p1 : Int32) (p2 : Int32) (c_1 : p0 < p1) : ¬ cz_in p1 p0 p2 := by first | (subst_vars; rfl) | ((repeat' split) <;> (first | rfl | ((try simp only [cz_in, cz_lt, cz_le, cz_eq, cz_l] at *) <;> (first | omega | (simp_all; done)))))
theorem c_X7_within_a2 (p0 : Int32) (p1 : Int32) (p2 : Int32) (c_1 : ¬ p0 < p1) (c_2 : p2 < p0) : ¬ cz_in p1 p0 p2 := by first | (subst_vars; rfl) | ((repeat' split) <;> (first | rfl | ((try simp only [cz_in, cz_lt, cz_le, cz_eq, cz_l] at *) <;> (first | omega | (simp_all; done)))))
theorem c_X7_within_a3 (p0 : Int32) (p1 : Int32) (p2 : Int32) (c_1 : ¬ p0 < p1) (c_2 : ¬ p2 < p0) : cz_in p1 p0 p2 := by first | (subst_vars; rfl) | ((repeat' split) <;> (first | rfl | ((try simp only [cz_in, cz_lt, cz_le, cz_eq, cz_l] at *) <;> (first | omega | (simp_all; done)))))
set_option maxHeartbeats 4000000 in
set_option maxRecDepth 100000 in
theorem c_X7_within (l : Launch) (dC : Nat → ClassId) (dI : Nat → Nat → Nat) (cI cB : ClassId) (p0 : Int32) (p1 : Int32) (p2 : Int32) : Met l yX7_within wsX7_within ({ frames := 0, cells := 0, slots := 0, locals := 0 }) (cz_Pp dC dI cI cB [.int p0, .int p1, .int p2] []) (vp_Si (fun r : Int32 => (r = 0 ∧ ¬ cz_in p1 p0 p2) ∨ (r = 1 ∧ cz_in p1 p0 p2))) 0 0 (fun _ => False) := by
  refine Met.ofW (cc := cX7_within) (maxL := 3) (ret := (some .boolean)) (by decide) rfl ?_
  intro p e s m args below meth c s₁ B hml hv
  obtain ⟨rfl, hP, hN⟩ := hv
  have hx := B.exec
  have hb := B.bytes
  have hr := B.returns
  have hts := atoms_spec (ws := wsX7_within) B.pre
  have hown : s.vm.findClass RX7 = some m.cls := findClass_of_methodNamed B.named
  have hlocks := B.notSynchronized
  have hK := hN.1
  have hl := lv_entry ([.int p0, .int p1, .int p2]) (n := 3) (Nat.le_of_ble_eq_true rfl)
  rw [lg_entry_eq]
  generalize (lg_sl ([.int p0, .int p1, .int p2]) ++ List.replicate (3 - (lg_sl ([.int p0, .int p1, .int p2])).length) Slot.unset).toArray = ls at hl ⊢
  have hl : lv_has ls 3 [(0, .int p0), (1, .int p1), (2, .int p2)] := hl
  refine lv_iload_n hx hb dX7_within_0 rfl (lv_at hl 0 rfl) ?_
  refine lv_iload_n hx hb dX7_within_1 rfl (lv_at hl 1 rfl) ?_
  refine lv_icmp_lt (tgt := 14) hx hb dX7_within_2 (by decide) (fun c_1 => ?_) (fun c_1 => ?_)
  · refine lv_iconst (v := 0) hx hb dX7_within_14 (by decide) ?_
    exact W.zret (v := 0) hx hb hr (by decide) (fun t ht hW => ⟨0, rfl, (Or.inl ⟨rfl, (c_X7_within_a1 p0 p1 p2 c_1)⟩), ht⟩) (fun _ h => absurd h List.not_mem_nil) dX7_within_15
  · refine lv_iload_n hx hb dX7_within_5 rfl (lv_at hl 0 rfl) ?_
    refine lv_iload_n hx hb dX7_within_6 rfl (lv_at hl 2 rfl) ?_
    refine lv_icmp_gt (tgt := 14) hx hb dX7_within_7 (by decide) (fun c_2 => ?_) (fun c_2 => ?_)
    · refine lv_iconst (v := 0) hx hb dX7_within_14 (by decide) ?_
      exact W.zret (v := 0) hx hb hr (by decide) (fun t ht hW => ⟨0, rfl, (Or.inl ⟨rfl, (c_X7_within_a2 p0 p1 p2 c_1 c_2)⟩), ht⟩) (fun _ h => absurd h List.not_mem_nil) dX7_within_15
    · refine lv_iconst (v := 1) hx hb dX7_within_10 (by decide) ?_
      refine lv_goto (tgt := 15) hx hb dX7_within_11 (by decide) ?_
      exact W.zret (v := 1) hx hb hr (by decide) (fun t ht hW => ⟨1, rfl, (Or.inr (⟨rfl, (c_X7_within_a3 p0 p1 p2 c_1 c_2)⟩)), ht⟩) (fun _ h => absurd h List.not_mem_nil) dX7_within_15

theorem c_X7_isPlace_a1 (p0 : Int32) (hr_1 : ¬ cz_in 0 p0 19) : ¬ cz_in 0 p0 19 := by first | (subst_vars; rfl) | ((repeat' split) <;> (first | rfl | ((try simp only [cz_in, cz_lt, cz_le, cz_eq, cz_l] at *) <;> (first | omega | (simp_all; done)))))
theorem c_X7_isPlace_a2 (p0 : Int32) (hr_1 : cz_in 0 p0 19) : cz_in 0 p0 19 := by first | (subst_vars; rfl) | ((repeat' split) <;> (first | rfl | ((try simp only [cz_in, cz_lt, cz_le, cz_eq, cz_l] at *) <;> (first | omega | (simp_all; done)))))
set_option maxHeartbeats 4000000 in
set_option maxRecDepth 100000 in
theorem c_X7_isPlace (l : Launch) (dC : Nat → ClassId) (dI : Nat → Nat → Nat) (cI cB : ClassId) (p0 : Int32) : Met l yX7_isPlace wsX7_isPlace ({ frames := 1, cells := 0, slots := 0, locals := 22 }) (cz_Pp dC dI cI cB [.int p0] []) (vp_Si (fun r : Int32 => (r = 0 ∧ ¬ cz_in 0 p0 19) ∨ (r = 1 ∧ cz_in 0 p0 19))) 0 0 (fun _ => False) := by
  refine Met.ofW (cc := cX7_isPlace) (maxL := 1) (ret := (some .boolean)) (by decide) rfl ?_
  intro p e s m args below meth c s₁ B hml hv
  obtain ⟨rfl, hP, hN⟩ := hv
  have hx := B.exec
  have hb := B.bytes
  have hr := B.returns
  have hts := atoms_spec (ws := wsX7_isPlace) B.pre
  have hown : s.vm.findClass RX7 = some m.cls := findClass_of_methodNamed B.named
  have hlocks := B.notSynchronized
  have hK := hN.1
  have hl := lv_entry ([.int p0]) (n := 1) (Nat.le_of_ble_eq_true rfl)
  rw [lg_entry_eq]
  generalize (lg_sl ([.int p0]) ++ List.replicate (1 - (lg_sl ([.int p0])).length) Slot.unset).toArray = ls at hl ⊢
  have hl : lv_has ls 1 [(0, .int p0)] := hl
  refine lv_iload_n hx hb dX7_isPlace_0 rfl (lv_at hl 0 rfl) ?_
  refine lv_iconst (v := 0) hx hb dX7_isPlace_1 (by decide) ?_
  refine lv_bipush (v := 19) hx hb dX7_isPlace_2 (by decide) ?_
  refine vp_callSi (cz_run (va_runS (As := [.int p0, .int 0, .int 19]) (rest := []) ⟨hx, hb, hml, hown, hts⟩ (c_X7_within l dC dI cI cB p0 0 19 ) (va_cwS 3 hts gX7_isPlace_X7_within rfl rfl rfl (by decide +kernel) ⟨Nat.le_of_ble_eq_true rfl, Nat.le_of_ble_eq_true rfl⟩) (cz_pS hP hN) rfl rfl hl.1 rfl (lv_room (Nat.le_of_ble_eq_true rfl)) dX7_isPlace_4 ⟨Nat.le_of_ble_eq_true rfl, Nat.le_of_ble_eq_true rfl⟩)) (fun r_1 hr_1 => ?_)
  rcases hr_1 with ⟨rfl, hr_1⟩ | ⟨rfl, hr_1⟩
  · exact W.zret (v := 0) hx hb hr (by decide) (fun t ht hW => ⟨0, rfl, (Or.inl ⟨rfl, (c_X7_isPlace_a1 p0 hr_1)⟩), ht⟩) (fun _ h => absurd h List.not_mem_nil) dX7_isPlace_7
  · exact W.zret (v := 1) hx hb hr (by decide) (fun t ht hW => ⟨1, rfl, (Or.inr (⟨rfl, (c_X7_isPlace_a2 p0 hr_1)⟩)), ht⟩) (fun _ h => absurd h List.not_mem_nil) dX7_isPlace_7

theorem cz_20 {k : Nat} (h : k ≤ 20) (c : (20 : Int32) ≤ nI k) : k = 20 := by
  rcases Nat.lt_or_ge k 20 with q | q
  · exact absurd c (nI_ge (a := k) (b := 20) q (by decide))
  · omega

set_option maxHeartbeats 4000000 in
set_option maxRecDepth 100000 in
theorem lp_size {p : Program} {l : Launch} {e : Env} {s : State} {m : MethodId} {args : Array Value} {below : List Frame} {meth : Method} {c : Code} {Q : State → Prop} {dC : Nat → ClassId} {dI : Nat → Nat → Nat} {cI cB : ClassId} (hx : p.tables.exec = Jvm.exec) (hb : c.code = cX7_size) (hml : c.maxLocals = 3) (hown : s.vm.findClass RX7 = some m.cls) (hts : ∀ w ∈ wsX7_size, w.before args s = true) (hN : cz_N dC dI cI cB s) (p0 : Int32) (hP : va_P (dC, dI) vwCl [] s.heap) (hex_24 : ∀ (x1 : Int32) (_hm : x1 = cz_sz p0 20) (ls : Array Slot), lv_has ls 3 [(1, .int x1)] → W p l e ({ frames := 0, cells := 0, slots := 0, locals := 0 } : Room) s m args below meth c s.heap [] 0 0 Q (F0 m 24 ls [])) : ∀ (n : Nat) (k : Nat) (x1 : Int32) (ls : Array Slot), k + n = 20 → x1 = cz_sz p0 k → lv_has ls 3 [(0, .int p0), (1, .int x1), (2, .int (nI k))] → W p l e ({ frames := 0, cells := 0, slots := 0, locals := 0 } : Room) s m args below meth c s.heap [] 0 0 Q (F0 m 4 ls []) := by
  have hK := hN.1
  intro n
  induction n with
  | zero =>
    intro k x1 ls hk hm hl
    refine lv_iload_n hx hb dX7_size_4 rfl (lv_at hl 2 rfl) ?_
    refine lv_bipush (v := 20) hx hb dX7_size_5 (by decide) ?_
    refine lv_icmp_ge (tgt := 24) hx hb dX7_size_7 (by decide) (fun c_1 => ?_) (fun c_1 => ?_)
    · exact hex_24 x1 (by rw [hm]; exact congrArg (cz_sz p0) (cz_20 (by omega) c_1)) ls (lv_sub hl [1] rfl)
    · exact absurd (by rw [show k = 20 by omega]; decide) c_1
  | succ n ih =>
    intro k x1 ls hk hm hl
    refine lv_iload_n hx hb dX7_size_4 rfl (lv_at hl 2 rfl) ?_
    refine lv_bipush (v := 20) hx hb dX7_size_5 (by decide) ?_
    refine lv_icmp_ge (tgt := 24) hx hb dX7_size_7 (by decide) (fun c_1 => ?_) (fun c_1 => ?_)
    · exact hex_24 x1 (by rw [hm]; exact congrArg (cz_sz p0) (cz_20 (by omega) c_1)) ls (lv_sub hl [1] rfl)
    · refine lv_iload_n hx hb dX7_size_10 rfl (lv_at hl 1 rfl) ?_
      refine lv_iload_n hx hb dX7_size_11 rfl (lv_at hl 0 rfl) ?_
      refine lv_iload_n hx hb dX7_size_12 rfl (lv_at hl 2 rfl) ?_
      refine lv_ishr hx hb dX7_size_13 ?_
      refine lv_topi (fun x_2 ex_2 => ?_)
      refine lv_iconst (v := 1) hx hb dX7_size_14 (by decide) ?_
      refine lv_iand hx hb dX7_size_15 ?_
      refine lv_topi (fun x_3 ex_3 => ?_)
      refine lv_iadd hx hb dX7_size_16 ?_
      refine lv_topi (fun x_4 ex_4 => ?_)
      refine lv_istore_n (lv' := [(1, .int x_4), (0, .int p0), (2, .int (nI k))]) hx hb dX7_size_17 rfl hl (by decide) rfl (fun ls hl => ?_)
      obtain ⟨x_5, ex_5⟩ : ∃ y : Int32, y = (nI k) + 1 := ⟨_, rfl⟩
      refine lv_iinc (v := x_5) (lv' := [(2, .int x_5), (1, .int x_4), (0, .int p0)]) hx hb dX7_size_18 hl (k := 2) rfl (by rw [ex_5]; rfl) (by decide) rfl (fun ls hl => ?_)
      refine lv_goto (tgt := 4) hx hb dX7_size_21 (by decide) ?_
      obtain rfl : x_5 = nI (k + 1) := ex_5.trans (nI_1 k)
      exact ih (k + 1) x_4 ls (by omega) (ex_4.trans (by rw [hm]; subst_vars; rfl)) (lv_sub hl [2, 1, 0] rfl)

theorem c_X7_size_a1 (p0 : Int32) (x1 : Int32) (hm : x1 = cz_sz p0 20) : (x1 : Int32) = cz_sz p0 20 := by first | (subst_vars; rfl) | ((repeat' split) <;> (first | rfl | ((try simp only [cz_in, cz_lt, cz_le, cz_eq, cz_l] at *) <;> (first | omega | (simp_all; done)))))
set_option maxHeartbeats 4000000 in
set_option maxRecDepth 100000 in
theorem c_X7_size (l : Launch) (dC : Nat → ClassId) (dI : Nat → Nat → Nat) (cI cB : ClassId) (p0 : Int32) : Met l yX7_size wsX7_size ({ frames := 0, cells := 0, slots := 0, locals := 0 }) (cz_Pp dC dI cI cB [.int p0] []) (vp_Si (fun r : Int32 => r = cz_sz p0 20)) 0 0 (fun _ => False) := by
  refine Met.ofW (cc := cX7_size) (maxL := 3) (ret := (some .int)) (by decide) rfl ?_
  intro p e s m args below meth c s₁ B hml hv
  obtain ⟨rfl, hP, hN⟩ := hv
  have hx := B.exec
  have hb := B.bytes
  have hr := B.returns
  have hts := atoms_spec (ws := wsX7_size) B.pre
  have hown : s.vm.findClass RX7 = some m.cls := findClass_of_methodNamed B.named
  have hlocks := B.notSynchronized
  have hK := hN.1
  have hl := lv_entry ([.int p0]) (n := 3) (Nat.le_of_ble_eq_true rfl)
  rw [lg_entry_eq]
  generalize (lg_sl ([.int p0]) ++ List.replicate (3 - (lg_sl ([.int p0])).length) Slot.unset).toArray = ls at hl ⊢
  have hl : lv_has ls 3 [(0, .int p0)] := hl
  refine lv_iconst (v := 0) hx hb dX7_size_0 (by decide) ?_
  refine lv_istore_n (lv' := [(1, .int 0), (0, .int p0)]) hx hb dX7_size_1 rfl hl (by decide) rfl (fun ls hl => ?_)
  refine lv_iconst (v := 0) hx hb dX7_size_2 (by decide) ?_
  refine lv_istore_n (lv' := [(2, .int 0), (1, .int 0), (0, .int p0)]) hx hb dX7_size_3 rfl hl (by decide) rfl (fun ls hl => ?_)
  refine lp_size hx hb hml hown hts hN p0 hP (fun x1 hm ls hl => ?_) 20 0 0 ls (by omega) rfl (lv_sub hl [2, 1, 0] rfl)
  refine lv_iload_n hx hb dX7_size_24 rfl (lv_at hl 0 rfl) ?_
  exact W.iret (v := x1) hx hb hr (fun t ht hW => ⟨x1, rfl, (c_X7_size_a1 p0 x1 hm), ht⟩) (fun _ h => absurd h List.not_mem_nil) dX7_size_25

theorem c_X7_isCourtier_a1 (p0 : Int32) (hr_1 : cz_in 0 p0 (-1)) : False := by first | (subst_vars; rfl) | ((repeat' split) <;> (first | rfl | ((try simp only [cz_in, cz_lt, cz_le, cz_eq, cz_l] at *) <;> (first | omega | (simp_all; done)))))
set_option maxHeartbeats 4000000 in
set_option maxRecDepth 100000 in
theorem c_X7_isCourtier (l : Launch) (dC : Nat → ClassId) (dI : Nat → Nat → Nat) (cI cB : ClassId) (h0 : Nat) (p0 : Int32) (m1 : Nat) (m2 : Nat) (m3 : Nat) (m4 : Nat) (m5 : Nat) (pg : Nat) (m6 : Nat) (m7 : Nat) (m8 : Nat) (m9 : Nat) (m10 : Nat) (m11 : Nat) (m12 : Nat) : Met l yX7_isCourtier wsX7_isCourtier ({ frames := 1, cells := 0, slots := 0, locals := 22 }) (cz_Pp dC dI cI cB [.ref h0, .int p0] [(h0, .inr (7, [.int 0, .int 0, .int 0, .int (-1), .int (-1), .int 0, .int 0, .ref m1, .ref m2, .ref m3, .ref m4, .ref m5, .int 0, .ref pg, .int 0, .int 0, .ref m6, .ref m7, .ref m8, .long 0, .int 0, .int 0, .int 0, .int 0, .int 0, .int 0, .ref m9, .ref m10, .ref m11, .ref m12, .long 0]))]) (vp_Si (fun r : Int32 => r = 0 ∧ True)) 0 0 (fun _ => False) := by
  refine Met.ofW (cc := cX7_isCourtier) (maxL := 2) (ret := (some .boolean)) (by decide) rfl ?_
  intro p e s m args below meth c s₁ B hml hv
  obtain ⟨rfl, hP, hN⟩ := hv
  have hx := B.exec
  have hb := B.bytes
  have hr := B.returns
  have hts := atoms_spec (ws := wsX7_isCourtier) B.pre
  have hown : s.vm.findClass RX7 = some m.cls := findClass_of_methodNamed B.named
  have hlocks := B.notSynchronized
  have hK := hN.1
  have hiX7 : ∀ w ∈ wsX70, w ∈ wsX7_isCourtier := (fun _ h => List.mem_cons_of_mem _ (List.mem_append_right _ h))
  have hl := lv_entry ([.ref h0, .int p0]) (n := 2) (Nat.le_of_ble_eq_true rfl)
  rw [lg_entry_eq]
  generalize (lg_sl ([.ref h0, .int p0]) ++ List.replicate (2 - (lg_sl ([.ref h0, .int p0])).length) Slot.unset).toArray = ls at hl ⊢
  have hl : lv_has ls 2 [(0, .ref h0), (1, .int p0)] := hl
  refine lv_iload_n hx hb dX7_isCourtier_0 rfl (lv_at hl 1 rfl) ?_
  refine lv_iconst (v := 0) hx hb dX7_isCourtier_1 (by decide) ?_
  refine lv_aload_n hx hb dX7_isCourtier_2 rfl (lv_at hl 0 rfl) ?_
  refine va_get (D := (dC, dI)) (ci := 7) (v := .int 0) (C := RX7) (T := TX7) (N := 31) hx hb hts hiX7 hown hK hP 0 rfl rfl 6 (by decide) (hts (.fieldLink RX7 86 "LeftProfileModel" "courtiers" "I") (List.mem_of_getElem? (i := 1) rfl)) (fun _ h9 => h9) rfl dX7_isCourtier_3 ?_
  refine lv_iconst (v := 1) hx hb dX7_isCourtier_6 (by decide) ?_
  refine lv_isub hx hb dX7_isCourtier_7 ?_
  refine cz_i (y := (-1)) (by decide) ?_
  refine vp_callSi (cz_run (va_runS (As := [.int p0, .int 0, .int (-1)]) (rest := []) ⟨hx, hb, hml, hown, hts⟩ (c_X7_within l dC dI cI cB p0 0 (-1) ) (va_cwS 3 hts gX7_isCourtier_X7_within rfl rfl rfl (by decide +kernel) ⟨Nat.le_of_ble_eq_true rfl, Nat.le_of_ble_eq_true rfl⟩) (cz_pS (hP.sub (ws' := []) [] rfl) hN) rfl rfl hl.1 rfl (lv_room (Nat.le_of_ble_eq_true rfl)) dX7_isCourtier_8 ⟨Nat.le_of_ble_eq_true rfl, Nat.le_of_ble_eq_true rfl⟩)) (fun r_1 hr_1 => ?_)
  rcases hr_1 with ⟨rfl, hr_1⟩ | ⟨rfl, hr_1⟩
  · exact W.zret (v := 0) hx hb hr (by decide) (fun t ht hW => ⟨0, rfl, ⟨rfl, trivial⟩, ht⟩) (fun _ h => absurd h List.not_mem_nil) dX7_isCourtier_11
  · exact W.zret (v := 1) hx hb hr (by decide) (fun t ht hW => ⟨1, rfl, ((c_X7_isCourtier_a1 p0 hr_1)).elim, ht⟩) (fun _ h => absurd h List.not_mem_nil) dX7_isCourtier_11

set_option maxHeartbeats 4000000 in
set_option maxRecDepth 100000 in
theorem c_X7_guiltySet (l : Launch) (dC : Nat → ClassId) (dI : Nat → Nat → Nat) (cI cB : ClassId) (h0 : Nat) (m1 : Nat) (m2 : Nat) (m3 : Nat) (m4 : Nat) (m5 : Nat) (pg : Nat) (m6 : Nat) (m7 : Nat) (m8 : Nat) (m9 : Nat) (m10 : Nat) (m11 : Nat) (m12 : Nat) : Met l yX7_guiltySet wsX7_guiltySet ({ frames := 0, cells := 0, slots := 0, locals := 0 }) (cz_Pp dC dI cI cB [.ref h0] [(h0, .inr (7, [.int 0, .int 0, .int 0, .int (-1), .int (-1), .int 0, .int 0, .ref m1, .ref m2, .ref m3, .ref m4, .ref m5, .int 0, .ref pg, .int 0, .int 0, .ref m6, .ref m7, .ref m8, .long 0, .int 0, .int 0, .int 0, .int 0, .int 0, .int 0, .ref m9, .ref m10, .ref m11, .ref m12, .long 0]))]) (vp_Si (fun r : Int32 => r = 0)) 0 0 (fun _ => False) := by
  refine Met.ofW (cc := cX7_guiltySet) (maxL := 3) (ret := (some .int)) (by decide) rfl ?_
  intro p e s m args below meth c s₁ B hml hv
  obtain ⟨rfl, hP, hN⟩ := hv
  have hx := B.exec
  have hb := B.bytes
  have hr := B.returns
  have hts := atoms_spec (ws := wsX7_guiltySet) B.pre
  have hown : s.vm.findClass RX7 = some m.cls := findClass_of_methodNamed B.named
  have hlocks := B.notSynchronized
  have hK := hN.1
  have hiX7 : ∀ w ∈ wsX70, w ∈ wsX7_guiltySet := (fun _ h => List.mem_cons_of_mem _ (List.mem_append_right _ h))
  have hl := lv_entry ([.ref h0]) (n := 3) (Nat.le_of_ble_eq_true rfl)
  rw [lg_entry_eq]
  generalize (lg_sl ([.ref h0]) ++ List.replicate (3 - (lg_sl ([.ref h0])).length) Slot.unset).toArray = ls at hl ⊢
  have hl : lv_has ls 3 [(0, .ref h0)] := hl
  refine lv_iconst (v := 0) hx hb dX7_guiltySet_0 (by decide) ?_
  refine lv_istore_n (lv' := [(1, .int 0), (0, .ref h0)]) hx hb dX7_guiltySet_1 rfl hl (by decide) rfl (fun ls hl => ?_)
  refine lv_iconst (v := 0) hx hb dX7_guiltySet_2 (by decide) ?_
  refine lv_istore_n (lv' := [(2, .int 0), (1, .int 0), (0, .ref h0)]) hx hb dX7_guiltySet_3 rfl hl (by decide) rfl (fun ls hl => ?_)
  refine lv_iload_n hx hb dX7_guiltySet_4 rfl (lv_at hl 0 rfl) ?_
  refine lv_aload_n hx hb dX7_guiltySet_5 rfl (lv_at hl 2 rfl) ?_
  refine va_get (D := (dC, dI)) (ci := 7) (v := .int 0) (C := RX7) (T := TX7) (N := 31) hx hb hts hiX7 hown hK hP 0 rfl rfl 6 (by decide) (hts (.fieldLink RX7 86 "LeftProfileModel" "courtiers" "I") (List.mem_of_getElem? (i := 1) rfl)) (fun _ h9 => h9) rfl dX7_guiltySet_6 ?_
  refine lv_icmp_ge (tgt := 36) hx hb dX7_guiltySet_9 (by decide) (fun _ => ?_) (fun c => absurd (by decide) c)
  refine lv_iload_n hx hb dX7_guiltySet_36 rfl (lv_at hl 1 rfl) ?_
  exact W.iret (v := 0) hx hb hr (fun t ht hW => ⟨0, rfl, rfl, ht⟩) (fun _ h => absurd h List.not_mem_nil) dX7_guiltySet_37

set_option maxHeartbeats 4000000 in
set_option maxRecDepth 100000 in
theorem c_X7_toldMany (l : Launch) (dC : Nat → ClassId) (dI : Nat → Nat → Nat) (cI cB : ClassId) (h0 : Nat) (m1 : Nat) (m2 : Nat) (m3 : Nat) (m4 : Nat) (m5 : Nat) (pg : Nat) (m6 : Nat) (m7 : Nat) (m8 : Nat) (m9 : Nat) (m10 : Nat) (m11 : Nat) (m12 : Nat) : Met l yX7_toldMany wsX7_toldMany ({ frames := 0, cells := 0, slots := 0, locals := 0 }) (cz_Pp dC dI cI cB [.ref h0] [(h0, .inr (7, [.int 0, .int 0, .int 0, .int (-1), .int (-1), .int 0, .int 0, .ref m1, .ref m2, .ref m3, .ref m4, .ref m5, .int 0, .ref pg, .int 0, .int 0, .ref m6, .ref m7, .ref m8, .long 0, .int 0, .int 0, .int 0, .int 0, .int 0, .int 0, .ref m9, .ref m10, .ref m11, .ref m12, .long 0]))]) (vp_Si (fun r : Int32 => r = 0)) 0 0 (fun _ => False) := by
  refine Met.ofW (cc := cX7_toldMany) (maxL := 3) (ret := (some .int)) (by decide) rfl ?_
  intro p e s m args below meth c s₁ B hml hv
  obtain ⟨rfl, hP, hN⟩ := hv
  have hx := B.exec
  have hb := B.bytes
  have hr := B.returns
  have hts := atoms_spec (ws := wsX7_toldMany) B.pre
  have hown : s.vm.findClass RX7 = some m.cls := findClass_of_methodNamed B.named
  have hlocks := B.notSynchronized
  have hK := hN.1
  have hiX7 : ∀ w ∈ wsX70, w ∈ wsX7_toldMany := (fun _ h => List.mem_cons_of_mem _ (List.mem_append_right _ h))
  have hl := lv_entry ([.ref h0]) (n := 3) (Nat.le_of_ble_eq_true rfl)
  rw [lg_entry_eq]
  generalize (lg_sl ([.ref h0]) ++ List.replicate (3 - (lg_sl ([.ref h0])).length) Slot.unset).toArray = ls at hl ⊢
  have hl : lv_has ls 3 [(0, .ref h0)] := hl
  refine lv_iconst (v := 0) hx hb dX7_toldMany_0 (by decide) ?_
  refine lv_istore_n (lv' := [(1, .int 0), (0, .ref h0)]) hx hb dX7_toldMany_1 rfl hl (by decide) rfl (fun ls hl => ?_)
  refine lv_iconst (v := 0) hx hb dX7_toldMany_2 (by decide) ?_
  refine lv_istore_n (lv' := [(2, .int 0), (1, .int 0), (0, .ref h0)]) hx hb dX7_toldMany_3 rfl hl (by decide) rfl (fun ls hl => ?_)
  refine lv_iload_n hx hb dX7_toldMany_4 rfl (lv_at hl 0 rfl) ?_
  refine lv_aload_n hx hb dX7_toldMany_5 rfl (lv_at hl 2 rfl) ?_
  refine va_get (D := (dC, dI)) (ci := 7) (v := .int 0) (C := RX7) (T := TX7) (N := 31) hx hb hts hiX7 hown hK hP 0 rfl rfl 6 (by decide) (hts (.fieldLink RX7 86 "LeftProfileModel" "courtiers" "I") (List.mem_of_getElem? (i := 1) rfl)) (fun _ h9 => h9) rfl dX7_toldMany_6 ?_
  refine lv_icmp_ge (tgt := 36) hx hb dX7_toldMany_9 (by decide) (fun _ => ?_) (fun c => absurd (by decide) c)
  refine lv_iload_n hx hb dX7_toldMany_36 rfl (lv_at hl 1 rfl) ?_
  exact W.iret (v := 0) hx hb hr (fun t ht hW => ⟨0, rfl, rfl, ht⟩) (fun _ h => absurd h List.not_mem_nil) dX7_toldMany_37

theorem c_X7_letter_a1 (p0 : Int32) (hr_1 : ¬ cz_in 32 p0 126) : ((-102) : Int32) = cz_rl p0 := by first | (subst_vars; rfl) | ((try simp only [cz_rl, cz_ron, cz_r2, cz_r1, cz_rr, cz_rw, cz_rc]) <;> (repeat' split) <;> (first | rfl | ((try simp only [cz_in, cz_lt, cz_le, cz_eq, cz_l] at *) <;> (first | omega | (simp_all; done)))))
theorem c_X7_letter_a2 (p0 : Int32) (x_2 : Int32) (hr_1 : cz_in 32 p0 126) (ex_2 : x_2 = p0.toInt8.toInt32) : (1 : Int32) = cz_rl p0 := by first | (subst_vars; rfl) | ((try simp only [cz_rl, cz_ron, cz_r2, cz_r1, cz_rr, cz_rw, cz_rc]) <;> (repeat' split) <;> (first | rfl | ((try simp only [cz_in, cz_lt, cz_le, cz_eq, cz_l] at *) <;> (first | omega | (simp_all; done)))))
set_option maxHeartbeats 4000000 in
set_option maxRecDepth 100000 in
theorem c_X7_letter (l : Launch) (dC : Nat → ClassId) (dI : Nat → Nat → Nat) (cI cB : ClassId) (h0 : Nat) (p0 : Int32) (m1 : Nat) (m2 : Nat) (m3 : Nat) (m4 : Nat) (m5 : Nat) (pg : Nat) (m6 : Nat) (m7 : Nat) (m8 : Nat) (m9 : Nat) (m10 : Nat) (m11 : Nat) (m12 : Nat) (f : Nat → Int32) (sz : Nat) : Met l yX7_letter wsX7_letter ({ frames := 1, cells := 0, slots := 0, locals := 22 }) (cz_Pm dC dI cI cB [.ref h0, .int p0] [(h0, .inr (7, [.int 0, .int 0, .int 0, .int (-1), .int (-1), .int 0, .int 0, .ref m1, .ref m2, .ref m3, .ref m4, .ref m5, .int 0, .ref pg, .int 0, .int 0, .ref m6, .ref m7, .ref m8, .long 0, .int 0, .int 0, .int 0, .int 0, .int 0, .int 0, .ref m9, .ref m10, .ref m11, .ref m12, .long 0])), (pg, .inl (cB, 24, .inl f))] sz) (va_Qi (fun (r : Int32) (_ : Unit) => r = cz_rl p0) (fun _ _ => True) (va_A [(h0, .inr (7, [.int 0, .int 0, .int 0, .int (-1), .int (-1), .int 0, .int 0, .ref m1, .ref m2, .ref m3, .ref m4, .ref m5, .int 0, .ref pg, .int 0, .int 0, .ref m6, .ref m7, .ref m8, .long 0, .int 0, .int 0, .int 0, .int 0, .int 0, .int 0, .ref m9, .ref m10, .ref m11, .ref m12, .long 0])), (pg, .inl (cB, 24, .inl f))] sz)) 0 0 (va_A [(h0, .inr (7, [.int 0, .int 0, .int 0, .int (-1), .int (-1), .int 0, .int 0, .ref m1, .ref m2, .ref m3, .ref m4, .ref m5, .int 0, .ref pg, .int 0, .int 0, .ref m6, .ref m7, .ref m8, .long 0, .int 0, .int 0, .int 0, .int 0, .int 0, .int 0, .ref m9, .ref m10, .ref m11, .ref m12, .long 0])), (pg, .inl (cB, 24, .inl f))] sz) := by
  refine Met.ofW (cc := cX7_letter) (maxL := 2) (ret := (some .int)) (by decide) rfl ?_
  intro p e s m args below meth c s₁ B hml hv
  obtain ⟨rfl, hsz, hP, hN, hD0⟩ := hv
  have hx := B.exec
  have hb := B.bytes
  have hr := B.returns
  have hts := atoms_spec (ws := wsX7_letter) B.pre
  have hown : s.vm.findClass RX7 = some m.cls := findClass_of_methodNamed B.named
  have hlocks := B.notSynchronized
  have hK := hN.1
  have hiX7 : ∀ w ∈ wsX70, w ∈ wsX7_letter := (fun _ h => List.mem_cons_of_mem _ (List.mem_append_right _ h))
  subst hsz
  have hD := hD0.self (sz := s.heap.size)
  generalize hAe : va_A [(h0, .inr (7, [.int 0, .int 0, .int 0, .int (-1), .int (-1), .int 0, .int 0, .ref m1, .ref m2, .ref m3, .ref m4, .ref m5, .int 0, .ref pg, .int 0, .int 0, .ref m6, .ref m7, .ref m8, .long 0, .int 0, .int 0, .int 0, .int 0, .int 0, .int 0, .ref m9, .ref m10, .ref m11, .ref m12, .long 0])), (pg, .inl (cB, 24, .inl f))] s.heap.size = A at hD ⊢
  have hA : ∀ q : Nat, s.heap.size ≤ q → A q := fun q h => by rw [← hAe]; exact Or.inr h
  have hS : va_S A s.heap s.heap [] := va_S.rf
  obtain ⟨H, eH⟩ : ∃ H, H = s.heap := ⟨_, rfl⟩
  have hP : va_P (dC, dI) vwCl [(h0, .inr (7, [.int 0, .int 0, .int 0, .int (-1), .int (-1), .int 0, .int 0, .ref m1, .ref m2, .ref m3, .ref m4, .ref m5, .int 0, .ref pg, .int 0, .int 0, .ref m6, .ref m7, .ref m8, .long 0, .int 0, .int 0, .int 0, .int 0, .int 0, .int 0, .ref m9, .ref m10, .ref m11, .ref m12, .long 0])), (pg, .inl (cB, 24, .inl f))] s.heap := hP
  have hl := lv_entry ([.ref h0, .int p0]) (n := 2) (Nat.le_of_ble_eq_true rfl)
  rw [lg_entry_eq]
  generalize (lg_sl ([.ref h0, .int p0]) ++ List.replicate (2 - (lg_sl ([.ref h0, .int p0])).length) Slot.unset).toArray = ls at hl ⊢
  have hl : lv_has ls 2 [(0, .ref h0), (1, .int p0)] := hl
  refine lv_iload_n hx hb dX7_letter_0 rfl (lv_at hl 1 rfl) ?_
  refine lv_bipush (v := 32) hx hb dX7_letter_1 (by decide) ?_
  refine lv_bipush (v := 126) hx hb dX7_letter_3 (by decide) ?_
  refine vp_callSi (cz_run (va_runS (As := [.int p0, .int 32, .int 126]) (rest := []) ⟨hx, hb, hml, hown, hts⟩ (c_X7_within l dC dI cI cB p0 32 126 ) (va_cwS 3 hts gX7_letter_X7_within rfl rfl rfl (by decide +kernel) ⟨Nat.le_of_ble_eq_true rfl, Nat.le_of_ble_eq_true rfl⟩) (cz_pS (hP.sub (ws' := []) [] rfl) hN) rfl rfl hl.1 rfl (lv_room (Nat.le_of_ble_eq_true rfl)) dX7_letter_5 ⟨Nat.le_of_ble_eq_true rfl, Nat.le_of_ble_eq_true rfl⟩)) (fun r_1 hr_1 => ?_)
  rcases hr_1 with ⟨rfl, hr_1⟩ | ⟨rfl, hr_1⟩
  · refine lv_if_ne (tgt := 14) hx hb dX7_letter_8 (by decide) (fun c => absurd (by decide) c) (fun _ => ?_)
    refine lv_bipush (v := (-102)) hx hb dX7_letter_11 (by decide) ?_
    refine W.widen (k := 0) (n := 0) (Nat.le_of_ble_eq_true rfl) (Nat.le_of_ble_eq_true rfl) ?_
    exact W.iret (v := (-102)) hx hb hr (fun t ht hW => ⟨⟨(-102), (), rfl, (c_X7_letter_a1 p0 hr_1), trivial⟩, hS.F ht⟩) hS.2.2 dX7_letter_13
  · refine lv_if_ne (tgt := 14) hx hb dX7_letter_8 (by decide) (fun _ => ?_) (fun c => absurd c (by decide))
    refine lv_aload_n hx hb dX7_letter_14 rfl (lv_at hl 0 rfl) ?_
    refine va_get (D := (dC, dI)) (ci := 7) (v := .int 0) (C := RX7) (T := TX7) (N := 31) hx hb hts hiX7 hown hK hP 0 rfl rfl 12 (by decide) (hts (.fieldLink RX7 61 "LeftProfileModel" "pageLength" "I") (List.mem_of_getElem? (i := 1) rfl)) (fun _ h9 => h9) rfl dX7_letter_15 ?_
    refine lv_bipush (v := 24) hx hb dX7_letter_18 (by decide) ?_
    refine lv_icmp_ne (tgt := 26) hx hb dX7_letter_20 (by decide) (fun _ => ?_) (fun c => absurd c (by decide))
    refine lv_aload_n hx hb dX7_letter_26 rfl (lv_at hl 0 rfl) ?_
    refine va_get (D := (dC, dI)) (ci := 7) (v := .ref pg) (C := RX7) (T := TX7) (N := 31) hx hb hts hiX7 hown hK hP 0 rfl rfl 13 (by decide) (hts (.fieldLink RX7 32 "LeftProfileModel" "page" "[B") (List.mem_of_getElem? (i := 2) rfl)) (fun _ h9 => h9) rfl dX7_letter_27 ?_
    refine lv_aload_n hx hb dX7_letter_30 rfl (lv_at hl 0 rfl) ?_
    refine va_get (D := (dC, dI)) (ci := 7) (v := .int 0) (C := RX7) (T := TX7) (N := 31) hx hb hts hiX7 hown hK hP 0 rfl rfl 12 (by decide) (hts (.fieldLink RX7 61 "LeftProfileModel" "pageLength" "I") (List.mem_of_getElem? (i := 1) rfl)) (fun _ h9 => h9) rfl dX7_letter_31 ?_
    refine lv_iload_n hx hb dX7_letter_34 rfl (lv_at hl 1 rfl) ?_
    refine lv_i2b hx hb dX7_letter_35 rfl ?_
    refine lv_topi (fun x_2 ex_2 => ?_)
    refine va_bast hx hb hK hP hD hS 1 1 rfl rfl (by unfold vp_in; decide) dX7_letter_36 (fun H locs hP hD hS => ?_)
    have hP : va_P (dC, dI) vwCl [(h0, .inr (7, [.int 0, .int 0, .int 0, .int (-1), .int (-1), .int 0, .int 0, .ref m1, .ref m2, .ref m3, .ref m4, .ref m5, .int 0, .ref pg, .int 0, .int 0, .ref m6, .ref m7, .ref m8, .long 0, .int 0, .int 0, .int 0, .int 0, .int 0, .int 0, .ref m9, .ref m10, .ref m11, .ref m12, .long 0])), (pg, .inl (cB, 24, .inl (upd f (0 : Int32).toNatClampNeg (vp_nar .byte x_2))))] H := hP
    have hD : va_D A [(h0, .inr (7, [.int 0, .int 0, .int 0, .int (-1), .int (-1), .int 0, .int 0, .ref m1, .ref m2, .ref m3, .ref m4, .ref m5, .int 0, .ref pg, .int 0, .int 0, .ref m6, .ref m7, .ref m8, .long 0, .int 0, .int 0, .int 0, .int 0, .int 0, .int 0, .ref m9, .ref m10, .ref m11, .ref m12, .long 0])), (pg, .inl (cB, 24, .inl (upd f (0 : Int32).toNatClampNeg (vp_nar .byte x_2))))] := hD
    refine lv_aload_n hx hb dX7_letter_37 rfl (lv_at hl 0 rfl) ?_
    refine lv_dup hx hb dX7_letter_38 rfl ?_
    refine va_get (D := (dC, dI)) (ci := 7) (v := .int 0) (C := RX7) (T := TX7) (N := 31) hx hb hts hiX7 hown hK hP 0 rfl rfl 12 (by decide) (hts (.fieldLink RX7 61 "LeftProfileModel" "pageLength" "I") (List.mem_of_getElem? (i := 1) rfl)) (fun _ h9 => h9) rfl dX7_letter_39 ?_
    refine lv_iconst (v := 1) hx hb dX7_letter_42 (by decide) ?_
    refine lv_iadd hx hb dX7_letter_43 ?_
    refine cz_i (y := 1) (by decide) ?_
    refine va_put (D := (dC, dI)) (ci := 7) (v := .int 1) (ty := .int) (C := RX7) (T := TX7) (N := 31) hx hb hts hiX7 tyX7 tyX7_ok nmX7 hown hK hP hD hS 0 rfl rfl 12 (by decide) (hts (.fieldLink RX7 61 "LeftProfileModel" "pageLength" "I") (List.mem_of_getElem? (i := 1) rfl)) (fun _ h9 => h9) rfl (by decide +kernel) rfl rfl (Nat.le_of_ble_eq_true rfl) dX7_letter_44 (fun H locs hP hD hS => ?_)
    have hP : va_P (dC, dI) vwCl [(h0, .inr (7, [.int 0, .int 0, .int 0, .int (-1), .int (-1), .int 0, .int 0, .ref m1, .ref m2, .ref m3, .ref m4, .ref m5, .int 1, .ref pg, .int 0, .int 0, .ref m6, .ref m7, .ref m8, .long 0, .int 0, .int 0, .int 0, .int 0, .int 0, .int 0, .ref m9, .ref m10, .ref m11, .ref m12, .long 0])), (pg, .inl (cB, 24, .inl (upd f (0 : Int32).toNatClampNeg (vp_nar .byte x_2))))] H := hP
    have hD : va_D A [(h0, .inr (7, [.int 0, .int 0, .int 0, .int (-1), .int (-1), .int 0, .int 0, .ref m1, .ref m2, .ref m3, .ref m4, .ref m5, .int 1, .ref pg, .int 0, .int 0, .ref m6, .ref m7, .ref m8, .long 0, .int 0, .int 0, .int 0, .int 0, .int 0, .int 0, .ref m9, .ref m10, .ref m11, .ref m12, .long 0])), (pg, .inl (cB, 24, .inl (upd f (0 : Int32).toNatClampNeg (vp_nar .byte x_2))))] := hD
    refine lv_aload_n hx hb dX7_letter_47 rfl (lv_at hl 0 rfl) ?_
    refine va_get (D := (dC, dI)) (ci := 7) (v := .int 1) (C := RX7) (T := TX7) (N := 31) hx hb hts hiX7 hown hK hP 0 rfl rfl 12 (by decide) (hts (.fieldLink RX7 61 "LeftProfileModel" "pageLength" "I") (List.mem_of_getElem? (i := 1) rfl)) (fun _ h9 => h9) rfl dX7_letter_48 ?_
    refine W.widen (k := 0) (n := 0) (Nat.le_of_ble_eq_true rfl) (Nat.le_of_ble_eq_true rfl) ?_
    exact W.iret (v := 1) hx hb hr (fun t ht hW => ⟨⟨1, (), rfl, (c_X7_letter_a2 p0 x_2 hr_1 ex_2), trivial⟩, hS.F ht⟩) hS.2.2 dX7_letter_51

set_option maxHeartbeats 4000000 in
set_option maxRecDepth 100000 in
theorem c_X7_blank (l : Launch) (dC : Nat → ClassId) (dI : Nat → Nat → Nat) (cI cB : ClassId) (h0 : Nat) (m1 : Nat) (m2 : Nat) (m3 : Nat) (m4 : Nat) (m5 : Nat) (pg : Nat) (m6 : Nat) (m7 : Nat) (m8 : Nat) (m9 : Nat) (m10 : Nat) (m11 : Nat) (m12 : Nat) (sz : Nat) : Met l yX7_blank wsX7_blank ({ frames := 0, cells := 0, slots := 0, locals := 0 }) (cz_Pm dC dI cI cB [.ref h0] [(h0, .inr (7, [.int 0, .int 0, .int 0, .int (-1), .int (-1), .int 0, .int 0, .ref m1, .ref m2, .ref m3, .ref m4, .ref m5, .int 0, .ref pg, .int 0, .int 0, .ref m6, .ref m7, .ref m8, .long 0, .int 0, .int 0, .int 0, .int 0, .int 0, .int 0, .ref m9, .ref m10, .ref m11, .ref m12, .long 0]))] sz) (va_Qi (fun (r : Int32) (_ : Unit) => r = 0) (fun _ _ => True) (va_A [(h0, .inr (7, [.int 0, .int 0, .int 0, .int (-1), .int (-1), .int 0, .int 0, .ref m1, .ref m2, .ref m3, .ref m4, .ref m5, .int 0, .ref pg, .int 0, .int 0, .ref m6, .ref m7, .ref m8, .long 0, .int 0, .int 0, .int 0, .int 0, .int 0, .int 0, .ref m9, .ref m10, .ref m11, .ref m12, .long 0]))] sz)) 0 0 (va_A [(h0, .inr (7, [.int 0, .int 0, .int 0, .int (-1), .int (-1), .int 0, .int 0, .ref m1, .ref m2, .ref m3, .ref m4, .ref m5, .int 0, .ref pg, .int 0, .int 0, .ref m6, .ref m7, .ref m8, .long 0, .int 0, .int 0, .int 0, .int 0, .int 0, .int 0, .ref m9, .ref m10, .ref m11, .ref m12, .long 0]))] sz) := by
  refine Met.ofW (cc := cX7_blank) (maxL := 2) (ret := (some .int)) (by decide) rfl ?_
  intro p e s m args below meth c s₁ B hml hv
  obtain ⟨rfl, hsz, hP, hN, hD0⟩ := hv
  have hx := B.exec
  have hb := B.bytes
  have hr := B.returns
  have hts := atoms_spec (ws := wsX7_blank) B.pre
  have hown : s.vm.findClass RX7 = some m.cls := findClass_of_methodNamed B.named
  have hlocks := B.notSynchronized
  have hK := hN.1
  have hiX7 : ∀ w ∈ wsX70, w ∈ wsX7_blank := (fun _ h => List.mem_cons_of_mem _ (List.mem_append_right _ h))
  subst hsz
  have hD := hD0.self (sz := s.heap.size)
  generalize hAe : va_A [(h0, .inr (7, [.int 0, .int 0, .int 0, .int (-1), .int (-1), .int 0, .int 0, .ref m1, .ref m2, .ref m3, .ref m4, .ref m5, .int 0, .ref pg, .int 0, .int 0, .ref m6, .ref m7, .ref m8, .long 0, .int 0, .int 0, .int 0, .int 0, .int 0, .int 0, .ref m9, .ref m10, .ref m11, .ref m12, .long 0]))] s.heap.size = A at hD ⊢
  have hA : ∀ q : Nat, s.heap.size ≤ q → A q := fun q h => by rw [← hAe]; exact Or.inr h
  have hS : va_S A s.heap s.heap [] := va_S.rf
  obtain ⟨H, eH⟩ : ∃ H, H = s.heap := ⟨_, rfl⟩
  have hP : va_P (dC, dI) vwCl [(h0, .inr (7, [.int 0, .int 0, .int 0, .int (-1), .int (-1), .int 0, .int 0, .ref m1, .ref m2, .ref m3, .ref m4, .ref m5, .int 0, .ref pg, .int 0, .int 0, .ref m6, .ref m7, .ref m8, .long 0, .int 0, .int 0, .int 0, .int 0, .int 0, .int 0, .ref m9, .ref m10, .ref m11, .ref m12, .long 0]))] s.heap := hP
  have hl := lv_entry ([.ref h0]) (n := 2) (Nat.le_of_ble_eq_true rfl)
  rw [lg_entry_eq]
  generalize (lg_sl ([.ref h0]) ++ List.replicate (2 - (lg_sl ([.ref h0])).length) Slot.unset).toArray = ls at hl ⊢
  have hl : lv_has ls 2 [(0, .ref h0)] := hl
  refine lv_aload_n hx hb dX7_blank_0 rfl (lv_at hl 0 rfl) ?_
  refine va_get (D := (dC, dI)) (ci := 7) (v := .int 0) (C := RX7) (T := TX7) (N := 31) hx hb hts hiX7 hown hK hP 0 rfl rfl 12 (by decide) (hts (.fieldLink RX7 61 "LeftProfileModel" "pageLength" "I") (List.mem_of_getElem? (i := 1) rfl)) (fun _ h9 => h9) rfl dX7_blank_1 ?_
  refine lv_istore_n (lv' := [(1, .int 0), (0, .ref h0)]) hx hb dX7_blank_4 rfl hl (by decide) rfl (fun ls hl => ?_)
  refine lv_aload_n hx hb dX7_blank_5 rfl (lv_at hl 1 rfl) ?_
  refine lv_iconst (v := 0) hx hb dX7_blank_6 (by decide) ?_
  refine va_put (D := (dC, dI)) (ci := 7) (v := .int 0) (ty := .int) (C := RX7) (T := TX7) (N := 31) hx hb hts hiX7 tyX7 tyX7_ok nmX7 hown hK hP hD hS 0 rfl rfl 12 (by decide) (hts (.fieldLink RX7 61 "LeftProfileModel" "pageLength" "I") (List.mem_of_getElem? (i := 1) rfl)) (fun _ h9 => h9) rfl (by decide +kernel) rfl rfl (Nat.le_of_ble_eq_true rfl) dX7_blank_7 (fun H locs hP hD hS => ?_)
  have hP : va_P (dC, dI) vwCl [(h0, .inr (7, [.int 0, .int 0, .int 0, .int (-1), .int (-1), .int 0, .int 0, .ref m1, .ref m2, .ref m3, .ref m4, .ref m5, .int 0, .ref pg, .int 0, .int 0, .ref m6, .ref m7, .ref m8, .long 0, .int 0, .int 0, .int 0, .int 0, .int 0, .int 0, .ref m9, .ref m10, .ref m11, .ref m12, .long 0]))] H := hP
  have hD : va_D A [(h0, .inr (7, [.int 0, .int 0, .int 0, .int (-1), .int (-1), .int 0, .int 0, .ref m1, .ref m2, .ref m3, .ref m4, .ref m5, .int 0, .ref pg, .int 0, .int 0, .ref m6, .ref m7, .ref m8, .long 0, .int 0, .int 0, .int 0, .int 0, .int 0, .int 0, .ref m9, .ref m10, .ref m11, .ref m12, .long 0]))] := hD
  refine lv_iload_n hx hb dX7_blank_10 rfl (lv_at hl 0 rfl) ?_
  refine W.widen (k := 0) (n := 0) (Nat.le_of_ble_eq_true rfl) (Nat.le_of_ble_eq_true rfl) ?_
  exact W.iret (v := 0) hx hb hr (fun t ht hW => ⟨⟨0, (), rfl, rfl, trivial⟩, hS.F ht⟩) hS.2.2 dX7_blank_11

set_option maxHeartbeats 4000000 in
set_option maxRecDepth 100000 in
theorem c_X7_readHall (l : Launch) (dC : Nat → ClassId) (dI : Nat → Nat → Nat) (cI cB : ClassId) (h0 : Nat) (m1 : Nat) (m2 : Nat) (m3 : Nat) (m4 : Nat) (m5 : Nat) (pg : Nat) (m6 : Nat) (m7 : Nat) (m8 : Nat) (m9 : Nat) (m10 : Nat) (m11 : Nat) (m12 : Nat) (sz : Nat) : Met l yX7_readHall wsX7_readHall ({ frames := 0, cells := 0, slots := 0, locals := 0 }) (cz_Pm dC dI cI cB [.ref h0] [(h0, .inr (7, [.int 0, .int 0, .int 0, .int (-1), .int (-1), .int 0, .int 0, .ref m1, .ref m2, .ref m3, .ref m4, .ref m5, .int 0, .ref pg, .int 0, .int 0, .ref m6, .ref m7, .ref m8, .long 0, .int 0, .int 0, .int 0, .int 0, .int 0, .int 0, .ref m9, .ref m10, .ref m11, .ref m12, .long 0]))] sz) (va_Qv (fun _ : Unit => True) (fun _ t => va_P (dC, dI) vwCl [(h0, .inr (7, [.int 0, .int 0, .int 0, .int (-1), .int (-1), .int 0, .int 0, .ref m1, .ref m2, .ref m3, .ref m4, .ref m5, .int 0, .ref pg, .int 0, .int 0, .ref m6, .ref m7, .ref m8, .long 0, .int 0, .int 0, .int 0, .int 0, .int 0, .int 0, .ref m9, .ref m10, .ref m11, .ref m12, .long 0]))] t.heap ∧ va_D (va_A [(h0, .inr (7, [.int 0, .int 0, .int 0, .int (-1), .int (-1), .int 0, .int 0, .ref m1, .ref m2, .ref m3, .ref m4, .ref m5, .int 0, .ref pg, .int 0, .int 0, .ref m6, .ref m7, .ref m8, .long 0, .int 0, .int 0, .int 0, .int 0, .int 0, .int 0, .ref m9, .ref m10, .ref m11, .ref m12, .long 0]))] sz) [(h0, .inr (7, [.int 0, .int 0, .int 0, .int (-1), .int (-1), .int 0, .int 0, .ref m1, .ref m2, .ref m3, .ref m4, .ref m5, .int 0, .ref pg, .int 0, .int 0, .ref m6, .ref m7, .ref m8, .long 0, .int 0, .int 0, .int 0, .int 0, .int 0, .int 0, .ref m9, .ref m10, .ref m11, .ref m12, .long 0]))]) (va_A [(h0, .inr (7, [.int 0, .int 0, .int 0, .int (-1), .int (-1), .int 0, .int 0, .ref m1, .ref m2, .ref m3, .ref m4, .ref m5, .int 0, .ref pg, .int 0, .int 0, .ref m6, .ref m7, .ref m8, .long 0, .int 0, .int 0, .int 0, .int 0, .int 0, .int 0, .ref m9, .ref m10, .ref m11, .ref m12, .long 0]))] sz)) 0 0 (va_A [(h0, .inr (7, [.int 0, .int 0, .int 0, .int (-1), .int (-1), .int 0, .int 0, .ref m1, .ref m2, .ref m3, .ref m4, .ref m5, .int 0, .ref pg, .int 0, .int 0, .ref m6, .ref m7, .ref m8, .long 0, .int 0, .int 0, .int 0, .int 0, .int 0, .int 0, .ref m9, .ref m10, .ref m11, .ref m12, .long 0]))] sz) := by
  refine Met.ofW (cc := cX7_readHall) (maxL := 4) (ret := none) (by decide) rfl ?_
  intro p e s m args below meth c s₁ B hml hv
  obtain ⟨rfl, hsz, hP, hN, hD0⟩ := hv
  have hx := B.exec
  have hb := B.bytes
  have hr := B.returns
  have hts := atoms_spec (ws := wsX7_readHall) B.pre
  have hown : s.vm.findClass RX7 = some m.cls := findClass_of_methodNamed B.named
  have hlocks := B.notSynchronized
  have hK := hN.1
  have hiX7 : ∀ w ∈ wsX70, w ∈ wsX7_readHall := (fun _ h => List.mem_cons_of_mem _ (List.mem_append_right _ h))
  subst hsz
  have hD := hD0.self (sz := s.heap.size)
  generalize hAe : va_A [(h0, .inr (7, [.int 0, .int 0, .int 0, .int (-1), .int (-1), .int 0, .int 0, .ref m1, .ref m2, .ref m3, .ref m4, .ref m5, .int 0, .ref pg, .int 0, .int 0, .ref m6, .ref m7, .ref m8, .long 0, .int 0, .int 0, .int 0, .int 0, .int 0, .int 0, .ref m9, .ref m10, .ref m11, .ref m12, .long 0]))] s.heap.size = A at hD ⊢
  have hA : ∀ q : Nat, s.heap.size ≤ q → A q := fun q h => by rw [← hAe]; exact Or.inr h
  have hS : va_S A s.heap s.heap [] := va_S.rf
  obtain ⟨H, eH⟩ : ∃ H, H = s.heap := ⟨_, rfl⟩
  have hP : va_P (dC, dI) vwCl [(h0, .inr (7, [.int 0, .int 0, .int 0, .int (-1), .int (-1), .int 0, .int 0, .ref m1, .ref m2, .ref m3, .ref m4, .ref m5, .int 0, .ref pg, .int 0, .int 0, .ref m6, .ref m7, .ref m8, .long 0, .int 0, .int 0, .int 0, .int 0, .int 0, .int 0, .ref m9, .ref m10, .ref m11, .ref m12, .long 0]))] s.heap := hP
  have hl := lv_entry ([.ref h0]) (n := 4) (Nat.le_of_ble_eq_true rfl)
  rw [lg_entry_eq]
  generalize (lg_sl ([.ref h0]) ++ List.replicate (4 - (lg_sl ([.ref h0])).length) Slot.unset).toArray = ls at hl ⊢
  have hl : lv_has ls 4 [(0, .ref h0)] := hl
  refine lv_aload_n hx hb dX7_readHall_0 rfl (lv_at hl 0 rfl) ?_
  refine lv_iconst (v := 0) hx hb dX7_readHall_1 (by decide) ?_
  refine va_put (D := (dC, dI)) (ci := 7) (v := .int 0) (ty := .int) (C := RX7) (T := TX7) (N := 31) hx hb hts hiX7 tyX7 tyX7_ok nmX7 hown hK hP hD hS 0 rfl rfl 15 (by decide) (hts (.fieldLink RX7 64 "LeftProfileModel" "newFloor" "I") (List.mem_of_getElem? (i := 1) rfl)) (fun _ h9 => h9) rfl (by decide +kernel) rfl rfl (Nat.le_of_ble_eq_true rfl) dX7_readHall_2 (fun H locs hP hD hS => ?_)
  have hP : va_P (dC, dI) vwCl [(h0, .inr (7, [.int 0, .int 0, .int 0, .int (-1), .int (-1), .int 0, .int 0, .ref m1, .ref m2, .ref m3, .ref m4, .ref m5, .int 0, .ref pg, .int 0, .int 0, .ref m6, .ref m7, .ref m8, .long 0, .int 0, .int 0, .int 0, .int 0, .int 0, .int 0, .ref m9, .ref m10, .ref m11, .ref m12, .long 0]))] H := hP
  have hD : va_D A [(h0, .inr (7, [.int 0, .int 0, .int 0, .int (-1), .int (-1), .int 0, .int 0, .ref m1, .ref m2, .ref m3, .ref m4, .ref m5, .int 0, .ref pg, .int 0, .int 0, .ref m6, .ref m7, .ref m8, .long 0, .int 0, .int 0, .int 0, .int 0, .int 0, .int 0, .ref m9, .ref m10, .ref m11, .ref m12, .long 0]))] := hD
  refine lv_iconst (v := 0) hx hb dX7_readHall_5 (by decide) ?_
  refine lv_istore_n (lv' := [(1, .int 0), (0, .ref h0)]) hx hb dX7_readHall_6 rfl hl (by decide) rfl (fun ls hl => ?_)
  refine lv_iconst (v := 1) hx hb dX7_readHall_7 (by decide) ?_
  refine lv_istore_n (lv' := [(2, .int 1), (1, .int 0), (0, .ref h0)]) hx hb dX7_readHall_8 rfl hl (by decide) rfl (fun ls hl => ?_)
  refine lv_iload_n hx hb dX7_readHall_9 rfl (lv_at hl 1 rfl) ?_
  refine lv_aload_n hx hb dX7_readHall_10 rfl (lv_at hl 2 rfl) ?_
  refine va_get (D := (dC, dI)) (ci := 7) (v := .int 0) (C := RX7) (T := TX7) (N := 31) hx hb hts hiX7 hown hK hP 0 rfl rfl 12 (by decide) (hts (.fieldLink RX7 61 "LeftProfileModel" "pageLength" "I") (List.mem_of_getElem? (i := 2) rfl)) (fun _ h9 => h9) rfl dX7_readHall_11 ?_
  refine lv_icmp_ge (tgt := 143) hx hb dX7_readHall_14 (by decide) (fun _ => ?_) (fun c => absurd (by decide) c)
  refine lv_aload_n hx hb dX7_readHall_143 rfl (lv_at hl 2 rfl) ?_
  refine lv_iload_n hx hb dX7_readHall_144 rfl (lv_at hl 1 rfl) ?_
  refine va_put (D := (dC, dI)) (ci := 7) (v := .int 0) (ty := .int) (C := RX7) (T := TX7) (N := 31) hx hb hts hiX7 tyX7 tyX7_ok nmX7 hown hK hP hD hS 0 rfl rfl 14 (by decide) (hts (.fieldLink RX7 67 "LeftProfileModel" "faultAt" "I") (List.mem_of_getElem? (i := 4) rfl)) (fun _ h9 => h9) rfl (by decide +kernel) rfl rfl (Nat.le_of_ble_eq_true rfl) dX7_readHall_145 (fun H locs hP hD hS => ?_)
  have hP : va_P (dC, dI) vwCl [(h0, .inr (7, [.int 0, .int 0, .int 0, .int (-1), .int (-1), .int 0, .int 0, .ref m1, .ref m2, .ref m3, .ref m4, .ref m5, .int 0, .ref pg, .int 0, .int 0, .ref m6, .ref m7, .ref m8, .long 0, .int 0, .int 0, .int 0, .int 0, .int 0, .int 0, .ref m9, .ref m10, .ref m11, .ref m12, .long 0]))] H := hP
  have hD : va_D A [(h0, .inr (7, [.int 0, .int 0, .int 0, .int (-1), .int (-1), .int 0, .int 0, .ref m1, .ref m2, .ref m3, .ref m4, .ref m5, .int 0, .ref pg, .int 0, .int 0, .ref m6, .ref m7, .ref m8, .long 0, .int 0, .int 0, .int 0, .int 0, .int 0, .int 0, .ref m9, .ref m10, .ref m11, .ref m12, .long 0]))] := hD
  refine W.widen (k := 0) (n := 0) (Nat.le_of_ble_eq_true rfl) (Nat.le_of_ble_eq_true rfl) ?_
  have hP9 := hP.sub (ws' := [(h0, .inr (7, [.int 0, .int 0, .int 0, .int (-1), .int (-1), .int 0, .int 0, .ref m1, .ref m2, .ref m3, .ref m4, .ref m5, .int 0, .ref pg, .int 0, .int 0, .ref m6, .ref m7, .ref m8, .long 0, .int 0, .int 0, .int 0, .int 0, .int 0, .int 0, .ref m9, .ref m10, .ref m11, .ref m12, .long 0]))]) [0] rfl
  have hD9 := hD.sub (ws' := [(h0, .inr (7, [.int 0, .int 0, .int 0, .int (-1), .int (-1), .int 0, .int 0, .ref m1, .ref m2, .ref m3, .ref m4, .ref m5, .int 0, .ref pg, .int 0, .int 0, .ref m6, .ref m7, .ref m8, .long 0, .int 0, .int 0, .int 0, .int 0, .int 0, .int 0, .ref m9, .ref m10, .ref m11, .ref m12, .long 0]))]) [0] (by decide) rfl
  exact W.vret hx hb hr (fun t ht hW => ⟨⟨(), rfl, trivial, ⟨by rw [ht]; exact hP9, hD9⟩⟩, hS.F ht⟩) hS.2.2 dX7_readHall_148

set_option maxHeartbeats 4000000 in
set_option maxRecDepth 100000 in
theorem c_X7_fault (l : Launch) (dC : Nat → ClassId) (dI : Nat → Nat → Nat) (cI cB : ClassId) (h0 : Nat) (m1 : Nat) (m2 : Nat) (m3 : Nat) (m4 : Nat) (m5 : Nat) (pg : Nat) (m6 : Nat) (m7 : Nat) (m8 : Nat) (m9 : Nat) (m10 : Nat) (m11 : Nat) (m12 : Nat) (sz : Nat) : Met l yX7_fault wsX7_fault ({ frames := 1, cells := 0, slots := 0, locals := 23 }) (cz_Pm dC dI cI cB [.ref h0] [(h0, .inr (7, [.int 0, .int 0, .int 0, .int (-1), .int (-1), .int 0, .int 0, .ref m1, .ref m2, .ref m3, .ref m4, .ref m5, .int 0, .ref pg, .int 0, .int 0, .ref m6, .ref m7, .ref m8, .long 0, .int 0, .int 0, .int 0, .int 0, .int 0, .int 0, .ref m9, .ref m10, .ref m11, .ref m12, .long 0]))] sz) (va_Qi (fun (r : Int32) (_ : Unit) => r = 0) (fun _ _ => True) (va_A [(h0, .inr (7, [.int 0, .int 0, .int 0, .int (-1), .int (-1), .int 0, .int 0, .ref m1, .ref m2, .ref m3, .ref m4, .ref m5, .int 0, .ref pg, .int 0, .int 0, .ref m6, .ref m7, .ref m8, .long 0, .int 0, .int 0, .int 0, .int 0, .int 0, .int 0, .ref m9, .ref m10, .ref m11, .ref m12, .long 0]))] sz)) 0 0 (va_A [(h0, .inr (7, [.int 0, .int 0, .int 0, .int (-1), .int (-1), .int 0, .int 0, .ref m1, .ref m2, .ref m3, .ref m4, .ref m5, .int 0, .ref pg, .int 0, .int 0, .ref m6, .ref m7, .ref m8, .long 0, .int 0, .int 0, .int 0, .int 0, .int 0, .int 0, .ref m9, .ref m10, .ref m11, .ref m12, .long 0]))] sz) := by
  refine Met.ofW (cc := cX7_fault) (maxL := 1) (ret := (some .int)) (by decide) rfl ?_
  intro p e s m args below meth c s₁ B hml hv
  obtain ⟨rfl, hsz, hP, hN, hD0⟩ := hv
  have hx := B.exec
  have hb := B.bytes
  have hr := B.returns
  have hts := atoms_spec (ws := wsX7_fault) B.pre
  have hown : s.vm.findClass RX7 = some m.cls := findClass_of_methodNamed B.named
  have hlocks := B.notSynchronized
  have hK := hN.1
  have hiX7 : ∀ w ∈ wsX70, w ∈ wsX7_fault := (fun _ h => List.mem_cons_of_mem _ (List.mem_append_right _ h))
  subst hsz
  have hD := hD0.self (sz := s.heap.size)
  generalize hAe : va_A [(h0, .inr (7, [.int 0, .int 0, .int 0, .int (-1), .int (-1), .int 0, .int 0, .ref m1, .ref m2, .ref m3, .ref m4, .ref m5, .int 0, .ref pg, .int 0, .int 0, .ref m6, .ref m7, .ref m8, .long 0, .int 0, .int 0, .int 0, .int 0, .int 0, .int 0, .ref m9, .ref m10, .ref m11, .ref m12, .long 0]))] s.heap.size = A at hD ⊢
  have hA : ∀ q : Nat, s.heap.size ≤ q → A q := fun q h => by rw [← hAe]; exact Or.inr h
  have hS : va_S A s.heap s.heap [] := va_S.rf
  obtain ⟨H, eH⟩ : ∃ H, H = s.heap := ⟨_, rfl⟩
  have hP : va_P (dC, dI) vwCl [(h0, .inr (7, [.int 0, .int 0, .int 0, .int (-1), .int (-1), .int 0, .int 0, .ref m1, .ref m2, .ref m3, .ref m4, .ref m5, .int 0, .ref pg, .int 0, .int 0, .ref m6, .ref m7, .ref m8, .long 0, .int 0, .int 0, .int 0, .int 0, .int 0, .int 0, .ref m9, .ref m10, .ref m11, .ref m12, .long 0]))] s.heap := hP
  have hl := lv_entry ([.ref h0]) (n := 1) (Nat.le_of_ble_eq_true rfl)
  rw [lg_entry_eq]
  generalize (lg_sl ([.ref h0]) ++ List.replicate (1 - (lg_sl ([.ref h0])).length) Slot.unset).toArray = ls at hl ⊢
  have hl : lv_has ls 1 [(0, .ref h0)] := hl
  refine lv_aload_n hx hb dX7_fault_0 rfl (lv_at hl 0 rfl) ?_
  have hPc := hP.sub (ws' := [(h0, .inr (7, [.int 0, .int 0, .int 0, .int (-1), .int (-1), .int 0, .int 0, .ref m1, .ref m2, .ref m3, .ref m4, .ref m5, .int 0, .ref pg, .int 0, .int 0, .ref m6, .ref m7, .ref m8, .long 0, .int 0, .int 0, .int 0, .int 0, .int 0, .int 0, .ref m9, .ref m10, .ref m11, .ref m12, .long 0]))]) [0] rfl
  have hDc := hD.sub (ws' := [(h0, .inr (7, [.int 0, .int 0, .int 0, .int (-1), .int (-1), .int 0, .int 0, .ref m1, .ref m2, .ref m3, .ref m4, .ref m5, .int 0, .ref pg, .int 0, .int 0, .ref m6, .ref m7, .ref m8, .long 0, .int 0, .int 0, .int 0, .int 0, .int 0, .int 0, .ref m9, .ref m10, .ref m11, .ref m12, .long 0]))]) [0] (by decide) rfl
  have hFc := va_free (wc := [(h0, .inr (7, [.int 0, .int 0, .int 0, .int (-1), .int (-1), .int 0, .int 0, .ref m1, .ref m2, .ref m3, .ref m4, .ref m5, .int 0, .ref pg, .int 0, .int 0, .ref m6, .ref m7, .ref m8, .long 0, .int 0, .int 0, .int 0, .int 0, .int 0, .int 0, .ref m9, .ref m10, .ref m11, .ref m12, .long 0]))]) hD hS hA [0] rfl
  refine va_callv (va_runV (As := []) (rest := []) ⟨hx, hb, hml, hown, hts⟩ (c_X7_readHall l dC dI cI cB h0 m1 m2 m3 m4 m5 pg m6 m7 m8 m9 m10 m11 m12 s.heap.size ) (cwV 0 hts gX7_fault_X7_readHall rfl rfl rfl (by decide +kernel) ⟨Nat.le_of_ble_eq_true rfl, Nat.le_of_ble_eq_true rfl⟩) (cz_mV hPc hN hDc (va_recv hK hPc (ci := 7) (q0 := 0) rfl rfl)) rfl rfl hl.1 rfl (lv_room (Nat.le_of_ble_eq_true rfl)) dX7_fault_1 ⟨Nat.le_of_ble_eq_true rfl, Nat.le_of_ble_eq_true rfl⟩) hS (fun q _ h => hFc q h) hFc (fun u t H1 locs ht hvm hr_1 hB hz1 hk1 hS => ?_)
  obtain ⟨hP1, hD1⟩ := hB
  rw [ht] at hP1
  obtain ⟨hP, hD⟩ := va_join (wr := []) (w1 := [(h0, .inr (7, [.int 0, .int 0, .int 0, .int (-1), .int (-1), .int 0, .int 0, .ref m1, .ref m2, .ref m3, .ref m4, .ref m5, .int 0, .ref pg, .int 0, .int 0, .ref m6, .ref m7, .ref m8, .long 0, .int 0, .int 0, .int 0, .int 0, .int 0, .int 0, .ref m9, .ref m10, .ref m11, .ref m12, .long 0]))]) hP hD [0] [] rfl rfl (by decide) (by decide) hk1 hFc hP1 hD1
  generalize H1 = H at hP hS ⊢
  have hP : va_P (dC, dI) vwCl [(h0, .inr (7, [.int 0, .int 0, .int 0, .int (-1), .int (-1), .int 0, .int 0, .ref m1, .ref m2, .ref m3, .ref m4, .ref m5, .int 0, .ref pg, .int 0, .int 0, .ref m6, .ref m7, .ref m8, .long 0, .int 0, .int 0, .int 0, .int 0, .int 0, .int 0, .ref m9, .ref m10, .ref m11, .ref m12, .long 0]))] H := hP
  have hD : va_D A [(h0, .inr (7, [.int 0, .int 0, .int 0, .int (-1), .int (-1), .int 0, .int 0, .ref m1, .ref m2, .ref m3, .ref m4, .ref m5, .int 0, .ref pg, .int 0, .int 0, .ref m6, .ref m7, .ref m8, .long 0, .int 0, .int 0, .int 0, .int 0, .int 0, .int 0, .ref m9, .ref m10, .ref m11, .ref m12, .long 0]))] := hD
  refine lv_aload_n hx hb dX7_fault_4 rfl (lv_at hl 0 rfl) ?_
  refine va_get (D := (dC, dI)) (ci := 7) (v := .int 0) (C := RX7) (T := TX7) (N := 31) hx hb hts hiX7 hown hK hP 0 rfl rfl 14 (by decide) (hts (.fieldLink RX7 67 "LeftProfileModel" "faultAt" "I") (List.mem_of_getElem? (i := 1) rfl)) (fun _ h9 => h9) rfl dX7_fault_5 ?_
  refine W.widen (k := 0) (n := 0) (Nat.le_of_ble_eq_true rfl) (Nat.le_of_ble_eq_true rfl) ?_
  exact W.iret (v := 0) hx hb hr (fun t ht hW => ⟨⟨0, (), rfl, rfl, trivial⟩, hS.F ht⟩) hS.2.2 dX7_fault_8

set_option maxHeartbeats 4000000 in
set_option maxRecDepth 100000 in
theorem c_X7_hall (l : Launch) (dC : Nat → ClassId) (dI : Nat → Nat → Nat) (cI cB : ClassId) (h0 : Nat) (m1 : Nat) (m2 : Nat) (m3 : Nat) (m4 : Nat) (m5 : Nat) (pg : Nat) (m6 : Nat) (m7 : Nat) (m8 : Nat) (m9 : Nat) (m10 : Nat) (m11 : Nat) (m12 : Nat) (sz : Nat) : Met l yX7_hall wsX7_hall ({ frames := 1, cells := 0, slots := 0, locals := 23 }) (cz_Pm dC dI cI cB [.ref h0] [(h0, .inr (7, [.int 0, .int 0, .int 0, .int (-1), .int (-1), .int 0, .int 0, .ref m1, .ref m2, .ref m3, .ref m4, .ref m5, .int 0, .ref pg, .int 0, .int 0, .ref m6, .ref m7, .ref m8, .long 0, .int 0, .int 0, .int 0, .int 0, .int 0, .int 0, .ref m9, .ref m10, .ref m11, .ref m12, .long 0]))] sz) (va_Qi (fun (r : Int32) (_ : Unit) => r = (-103)) (fun _ _ => True) (va_A [(h0, .inr (7, [.int 0, .int 0, .int 0, .int (-1), .int (-1), .int 0, .int 0, .ref m1, .ref m2, .ref m3, .ref m4, .ref m5, .int 0, .ref pg, .int 0, .int 0, .ref m6, .ref m7, .ref m8, .long 0, .int 0, .int 0, .int 0, .int 0, .int 0, .int 0, .ref m9, .ref m10, .ref m11, .ref m12, .long 0]))] sz)) 0 0 (va_A [(h0, .inr (7, [.int 0, .int 0, .int 0, .int (-1), .int (-1), .int 0, .int 0, .ref m1, .ref m2, .ref m3, .ref m4, .ref m5, .int 0, .ref pg, .int 0, .int 0, .ref m6, .ref m7, .ref m8, .long 0, .int 0, .int 0, .int 0, .int 0, .int 0, .int 0, .ref m9, .ref m10, .ref m11, .ref m12, .long 0]))] sz) := by
  refine Met.ofW (cc := cX7_hall) (maxL := 1) (ret := (some .int)) (by decide) rfl ?_
  intro p e s m args below meth c s₁ B hml hv
  obtain ⟨rfl, hsz, hP, hN, hD0⟩ := hv
  have hx := B.exec
  have hb := B.bytes
  have hr := B.returns
  have hts := atoms_spec (ws := wsX7_hall) B.pre
  have hown : s.vm.findClass RX7 = some m.cls := findClass_of_methodNamed B.named
  have hlocks := B.notSynchronized
  have hK := hN.1
  have hiX7 : ∀ w ∈ wsX70, w ∈ wsX7_hall := (fun _ h => List.mem_cons_of_mem _ (List.mem_append_right _ h))
  subst hsz
  have hD := hD0.self (sz := s.heap.size)
  generalize hAe : va_A [(h0, .inr (7, [.int 0, .int 0, .int 0, .int (-1), .int (-1), .int 0, .int 0, .ref m1, .ref m2, .ref m3, .ref m4, .ref m5, .int 0, .ref pg, .int 0, .int 0, .ref m6, .ref m7, .ref m8, .long 0, .int 0, .int 0, .int 0, .int 0, .int 0, .int 0, .ref m9, .ref m10, .ref m11, .ref m12, .long 0]))] s.heap.size = A at hD ⊢
  have hA : ∀ q : Nat, s.heap.size ≤ q → A q := fun q h => by rw [← hAe]; exact Or.inr h
  have hS : va_S A s.heap s.heap [] := va_S.rf
  obtain ⟨H, eH⟩ : ∃ H, H = s.heap := ⟨_, rfl⟩
  have hP : va_P (dC, dI) vwCl [(h0, .inr (7, [.int 0, .int 0, .int 0, .int (-1), .int (-1), .int 0, .int 0, .ref m1, .ref m2, .ref m3, .ref m4, .ref m5, .int 0, .ref pg, .int 0, .int 0, .ref m6, .ref m7, .ref m8, .long 0, .int 0, .int 0, .int 0, .int 0, .int 0, .int 0, .ref m9, .ref m10, .ref m11, .ref m12, .long 0]))] s.heap := hP
  have hl := lv_entry ([.ref h0]) (n := 1) (Nat.le_of_ble_eq_true rfl)
  rw [lg_entry_eq]
  generalize (lg_sl ([.ref h0]) ++ List.replicate (1 - (lg_sl ([.ref h0])).length) Slot.unset).toArray = ls at hl ⊢
  have hl : lv_has ls 1 [(0, .ref h0)] := hl
  refine lv_aload_n hx hb dX7_hall_0 rfl (lv_at hl 0 rfl) ?_
  have hPc := hP.sub (ws' := [(h0, .inr (7, [.int 0, .int 0, .int 0, .int (-1), .int (-1), .int 0, .int 0, .ref m1, .ref m2, .ref m3, .ref m4, .ref m5, .int 0, .ref pg, .int 0, .int 0, .ref m6, .ref m7, .ref m8, .long 0, .int 0, .int 0, .int 0, .int 0, .int 0, .int 0, .ref m9, .ref m10, .ref m11, .ref m12, .long 0]))]) [0] rfl
  have hDc := hD.sub (ws' := [(h0, .inr (7, [.int 0, .int 0, .int 0, .int (-1), .int (-1), .int 0, .int 0, .ref m1, .ref m2, .ref m3, .ref m4, .ref m5, .int 0, .ref pg, .int 0, .int 0, .ref m6, .ref m7, .ref m8, .long 0, .int 0, .int 0, .int 0, .int 0, .int 0, .int 0, .ref m9, .ref m10, .ref m11, .ref m12, .long 0]))]) [0] (by decide) rfl
  have hFc := va_free (wc := [(h0, .inr (7, [.int 0, .int 0, .int 0, .int (-1), .int (-1), .int 0, .int 0, .ref m1, .ref m2, .ref m3, .ref m4, .ref m5, .int 0, .ref pg, .int 0, .int 0, .ref m6, .ref m7, .ref m8, .long 0, .int 0, .int 0, .int 0, .int 0, .int 0, .int 0, .ref m9, .ref m10, .ref m11, .ref m12, .long 0]))]) hD hS hA [0] rfl
  refine va_callv (va_runV (As := []) (rest := []) ⟨hx, hb, hml, hown, hts⟩ (c_X7_readHall l dC dI cI cB h0 m1 m2 m3 m4 m5 pg m6 m7 m8 m9 m10 m11 m12 s.heap.size ) (cwV 0 hts gX7_hall_X7_readHall rfl rfl rfl (by decide +kernel) ⟨Nat.le_of_ble_eq_true rfl, Nat.le_of_ble_eq_true rfl⟩) (cz_mV hPc hN hDc (va_recv hK hPc (ci := 7) (q0 := 0) rfl rfl)) rfl rfl hl.1 rfl (lv_room (Nat.le_of_ble_eq_true rfl)) dX7_hall_1 ⟨Nat.le_of_ble_eq_true rfl, Nat.le_of_ble_eq_true rfl⟩) hS (fun q _ h => hFc q h) hFc (fun u t H1 locs ht hvm hr_1 hB hz1 hk1 hS => ?_)
  obtain ⟨hP1, hD1⟩ := hB
  rw [ht] at hP1
  obtain ⟨hP, hD⟩ := va_join (wr := []) (w1 := [(h0, .inr (7, [.int 0, .int 0, .int 0, .int (-1), .int (-1), .int 0, .int 0, .ref m1, .ref m2, .ref m3, .ref m4, .ref m5, .int 0, .ref pg, .int 0, .int 0, .ref m6, .ref m7, .ref m8, .long 0, .int 0, .int 0, .int 0, .int 0, .int 0, .int 0, .ref m9, .ref m10, .ref m11, .ref m12, .long 0]))]) hP hD [0] [] rfl rfl (by decide) (by decide) hk1 hFc hP1 hD1
  generalize H1 = H at hP hS ⊢
  have hP : va_P (dC, dI) vwCl [(h0, .inr (7, [.int 0, .int 0, .int 0, .int (-1), .int (-1), .int 0, .int 0, .ref m1, .ref m2, .ref m3, .ref m4, .ref m5, .int 0, .ref pg, .int 0, .int 0, .ref m6, .ref m7, .ref m8, .long 0, .int 0, .int 0, .int 0, .int 0, .int 0, .int 0, .ref m9, .ref m10, .ref m11, .ref m12, .long 0]))] H := hP
  have hD : va_D A [(h0, .inr (7, [.int 0, .int 0, .int 0, .int (-1), .int (-1), .int 0, .int 0, .ref m1, .ref m2, .ref m3, .ref m4, .ref m5, .int 0, .ref pg, .int 0, .int 0, .ref m6, .ref m7, .ref m8, .long 0, .int 0, .int 0, .int 0, .int 0, .int 0, .int 0, .ref m9, .ref m10, .ref m11, .ref m12, .long 0]))] := hD
  refine lv_aload_n hx hb dX7_hall_4 rfl (lv_at hl 0 rfl) ?_
  refine va_get (D := (dC, dI)) (ci := 7) (v := .int 0) (C := RX7) (T := TX7) (N := 31) hx hb hts hiX7 hown hK hP 0 rfl rfl 14 (by decide) (hts (.fieldLink RX7 67 "LeftProfileModel" "faultAt" "I") (List.mem_of_getElem? (i := 1) rfl)) (fun _ h9 => h9) rfl dX7_hall_5 ?_
  refine lv_aload_n hx hb dX7_hall_8 rfl (lv_at hl 0 rfl) ?_
  refine va_get (D := (dC, dI)) (ci := 7) (v := .int 0) (C := RX7) (T := TX7) (N := 31) hx hb hts hiX7 hown hK hP 0 rfl rfl 12 (by decide) (hts (.fieldLink RX7 61 "LeftProfileModel" "pageLength" "I") (List.mem_of_getElem? (i := 2) rfl)) (fun _ h9 => h9) rfl dX7_hall_9 ?_
  refine lv_icmp_ne (tgt := 24) hx hb dX7_hall_12 (by decide) (fun c => absurd (by decide) c) (fun _ => ?_)
  refine lv_aload_n hx hb dX7_hall_15 rfl (lv_at hl 0 rfl) ?_
  refine va_get (D := (dC, dI)) (ci := 7) (v := .int 0) (C := RX7) (T := TX7) (N := 31) hx hb hts hiX7 hown hK hP 0 rfl rfl 12 (by decide) (hts (.fieldLink RX7 61 "LeftProfileModel" "pageLength" "I") (List.mem_of_getElem? (i := 2) rfl)) (fun _ h9 => h9) rfl dX7_hall_16 ?_
  refine lv_bipush (v := 23) hx hb dX7_hall_19 (by decide) ?_
  refine lv_icmp_eq (tgt := 27) hx hb dX7_hall_21 (by decide) (fun c => absurd c (by decide)) (fun _ => ?_)
  refine lv_bipush (v := (-103)) hx hb dX7_hall_24 (by decide) ?_
  refine W.widen (k := 0) (n := 0) (Nat.le_of_ble_eq_true rfl) (Nat.le_of_ble_eq_true rfl) ?_
  exact W.iret (v := (-103)) hx hb hr (fun t ht hW => ⟨⟨(-103), (), rfl, rfl, trivial⟩, hS.F ht⟩) hS.2.2 dX7_hall_26

theorem c_X7_on_a1 (p0 : Int32) (hr_1 : ¬ cz_in 0 p0 19) : ((-101) : Int32) = cz_ron p0 := by first | (subst_vars; rfl) | ((try simp only [cz_rl, cz_ron, cz_r2, cz_r1, cz_rr, cz_rw, cz_rc]) <;> (repeat' split) <;> (first | rfl | ((try simp only [cz_in, cz_lt, cz_le, cz_eq, cz_l] at *) <;> (first | omega | (simp_all; done)))))
theorem c_X7_on_a2 (p0 : Int32) (hr_1 : cz_in 0 p0 19) : ((-103) : Int32) = cz_ron p0 := by first | (subst_vars; rfl) | ((try simp only [cz_rl, cz_ron, cz_r2, cz_r1, cz_rr, cz_rw, cz_rc]) <;> (repeat' split) <;> (first | rfl | ((try simp only [cz_in, cz_lt, cz_le, cz_eq, cz_l] at *) <;> (first | omega | (simp_all; done)))))
set_option maxHeartbeats 4000000 in
set_option maxRecDepth 100000 in
theorem c_X7_on (l : Launch) (dC : Nat → ClassId) (dI : Nat → Nat → Nat) (cI cB : ClassId) (h0 : Nat) (p0 : Int32) (m1 : Nat) (m2 : Nat) (m3 : Nat) (m4 : Nat) (m5 : Nat) (pg : Nat) (m6 : Nat) (m7 : Nat) (m8 : Nat) (m9 : Nat) (m10 : Nat) (m11 : Nat) (m12 : Nat) : Met l yX7_on wsX7_on ({ frames := 2, cells := 0, slots := 0, locals := 42 }) (cz_Pp dC dI cI cB [.ref h0, .int p0] [(h0, .inr (7, [.int 0, .int 0, .int 0, .int (-1), .int (-1), .int 0, .int 0, .ref m1, .ref m2, .ref m3, .ref m4, .ref m5, .int 0, .ref pg, .int 0, .int 0, .ref m6, .ref m7, .ref m8, .long 0, .int 0, .int 0, .int 0, .int 0, .int 0, .int 0, .ref m9, .ref m10, .ref m11, .ref m12, .long 0]))]) (vp_Si (fun r : Int32 => r = cz_ron p0)) 0 0 (fun _ => False) := by
  refine Met.ofW (cc := cX7_on) (maxL := 2) (ret := (some .int)) (by decide) rfl ?_
  intro p e s m args below meth c s₁ B hml hv
  obtain ⟨rfl, hP, hN⟩ := hv
  have hx := B.exec
  have hb := B.bytes
  have hr := B.returns
  have hts := atoms_spec (ws := wsX7_on) B.pre
  have hown : s.vm.findClass RX7 = some m.cls := findClass_of_methodNamed B.named
  have hlocks := B.notSynchronized
  have hK := hN.1
  have hiX7 : ∀ w ∈ wsX70, w ∈ wsX7_on := (fun _ h => List.mem_cons_of_mem _ (List.mem_append_right _ h))
  have hl := lv_entry ([.ref h0, .int p0]) (n := 2) (Nat.le_of_ble_eq_true rfl)
  rw [lg_entry_eq]
  generalize (lg_sl ([.ref h0, .int p0]) ++ List.replicate (2 - (lg_sl ([.ref h0, .int p0])).length) Slot.unset).toArray = ls at hl ⊢
  have hl : lv_has ls 2 [(0, .ref h0), (1, .int p0)] := hl
  refine lv_iload_n hx hb dX7_on_0 rfl (lv_at hl 1 rfl) ?_
  refine vp_callSi (cz_run (va_runS (As := [.int p0]) (rest := []) ⟨hx, hb, hml, hown, hts⟩ (c_X7_isPlace l dC dI cI cB p0 ) (va_cwS 1 hts gX7_on_X7_isPlace rfl rfl rfl (by decide +kernel) ⟨Nat.le_of_ble_eq_true rfl, Nat.le_of_ble_eq_true rfl⟩) (cz_pS (hP.sub (ws' := []) [] rfl) hN) rfl rfl hl.1 rfl (lv_room (Nat.le_of_ble_eq_true rfl)) dX7_on_1 ⟨Nat.le_of_ble_eq_true rfl, Nat.le_of_ble_eq_true rfl⟩)) (fun r_1 hr_1 => ?_)
  rcases hr_1 with ⟨rfl, hr_1⟩ | ⟨rfl, hr_1⟩
  · refine lv_if_ne (tgt := 10) hx hb dX7_on_4 (by decide) (fun c => absurd (by decide) c) (fun _ => ?_)
    refine lv_bipush (v := (-101)) hx hb dX7_on_7 (by decide) ?_
    exact W.iret (v := (-101)) hx hb hr (fun t ht hW => ⟨(-101), rfl, (c_X7_on_a1 p0 hr_1), ht⟩) (fun _ h => absurd h List.not_mem_nil) dX7_on_9
  · refine lv_if_ne (tgt := 10) hx hb dX7_on_4 (by decide) (fun _ => ?_) (fun c => absurd c (by decide))
    refine lv_aload_n hx hb dX7_on_10 rfl (lv_at hl 0 rfl) ?_
    refine va_get (D := (dC, dI)) (ci := 7) (v := .int 0) (C := RX7) (T := TX7) (N := 31) hx hb hts hiX7 hown hK hP 0 rfl rfl 0 (by decide) (hts (.fieldLink RX7 76 "LeftProfileModel" "isHall" "Z") (List.mem_of_getElem? (i := 1) rfl)) (fun _ h9 => h9) rfl dX7_on_11 ?_
    refine lv_if_eq (tgt := 25) hx hb dX7_on_14 (by decide) (fun _ => ?_) (fun c => absurd (by decide) c)
    refine lv_bipush (v := (-103)) hx hb dX7_on_25 (by decide) ?_
    exact W.iret (v := (-103)) hx hb hr (fun t ht hW => ⟨(-103), rfl, (c_X7_on_a2 p0 hr_1), ht⟩) (fun _ h => absurd h List.not_mem_nil) dX7_on_27

theorem c_X7_duke_a1 (p0 : Int32) (p1 : Int32) (hr_1 : ¬ cz_in 0 p0 19) : ((-101) : Int32) = cz_r2 p0 p1 3 := by first | (subst_vars; rfl) | ((try simp only [cz_rl, cz_ron, cz_r2, cz_r1, cz_rr, cz_rw, cz_rc]) <;> (repeat' split) <;> (first | rfl | ((try simp only [cz_in, cz_lt, cz_le, cz_eq, cz_l] at *) <;> (first | omega | (simp_all; done)))))
theorem c_X7_duke_a2 (p0 : Int32) (p1 : Int32) (hr_1 : cz_in 0 p0 19) (hr_2 : ¬ cz_in 0 p1 3) : ((-102) : Int32) = cz_r2 p0 p1 3 := by first | (subst_vars; rfl) | ((try simp only [cz_rl, cz_ron, cz_r2, cz_r1, cz_rr, cz_rw, cz_rc]) <;> (repeat' split) <;> (first | rfl | ((try simp only [cz_in, cz_lt, cz_le, cz_eq, cz_l] at *) <;> (first | omega | (simp_all; done)))))
theorem c_X7_duke_a3 (p0 : Int32) (p1 : Int32) (hr_1 : cz_in 0 p0 19) (hr_2 : cz_in 0 p1 3) : ((-103) : Int32) = cz_r2 p0 p1 3 := by first | (subst_vars; rfl) | ((try simp only [cz_rl, cz_ron, cz_r2, cz_r1, cz_rr, cz_rw, cz_rc]) <;> (repeat' split) <;> (first | rfl | ((try simp only [cz_in, cz_lt, cz_le, cz_eq, cz_l] at *) <;> (first | omega | (simp_all; done)))))
set_option maxHeartbeats 4000000 in
set_option maxRecDepth 100000 in
theorem c_X7_duke (l : Launch) (dC : Nat → ClassId) (dI : Nat → Nat → Nat) (cI cB : ClassId) (h0 : Nat) (p0 : Int32) (p1 : Int32) (m1 : Nat) (m2 : Nat) (m3 : Nat) (m4 : Nat) (m5 : Nat) (pg : Nat) (m6 : Nat) (m7 : Nat) (m8 : Nat) (m9 : Nat) (m10 : Nat) (m11 : Nat) (m12 : Nat) : Met l yX7_duke wsX7_duke ({ frames := 2, cells := 0, slots := 0, locals := 42 }) (cz_Pp dC dI cI cB [.ref h0, .int p0, .int p1] [(h0, .inr (7, [.int 0, .int 0, .int 0, .int (-1), .int (-1), .int 0, .int 0, .ref m1, .ref m2, .ref m3, .ref m4, .ref m5, .int 0, .ref pg, .int 0, .int 0, .ref m6, .ref m7, .ref m8, .long 0, .int 0, .int 0, .int 0, .int 0, .int 0, .int 0, .ref m9, .ref m10, .ref m11, .ref m12, .long 0]))]) (vp_Si (fun r : Int32 => r = cz_r2 p0 p1 3)) 0 0 (fun _ => False) := by
  refine Met.ofW (cc := cX7_duke) (maxL := 3) (ret := (some .int)) (by decide) rfl ?_
  intro p e s m args below meth c s₁ B hml hv
  obtain ⟨rfl, hP, hN⟩ := hv
  have hx := B.exec
  have hb := B.bytes
  have hr := B.returns
  have hts := atoms_spec (ws := wsX7_duke) B.pre
  have hown : s.vm.findClass RX7 = some m.cls := findClass_of_methodNamed B.named
  have hlocks := B.notSynchronized
  have hK := hN.1
  have hiX7 : ∀ w ∈ wsX70, w ∈ wsX7_duke := (fun _ h => List.mem_cons_of_mem _ (List.mem_append_right _ h))
  have hl := lv_entry ([.ref h0, .int p0, .int p1]) (n := 3) (Nat.le_of_ble_eq_true rfl)
  rw [lg_entry_eq]
  generalize (lg_sl ([.ref h0, .int p0, .int p1]) ++ List.replicate (3 - (lg_sl ([.ref h0, .int p0, .int p1])).length) Slot.unset).toArray = ls at hl ⊢
  have hl : lv_has ls 3 [(0, .ref h0), (1, .int p0), (2, .int p1)] := hl
  refine lv_iload_n hx hb dX7_duke_0 rfl (lv_at hl 1 rfl) ?_
  refine vp_callSi (cz_run (va_runS (As := [.int p0]) (rest := []) ⟨hx, hb, hml, hown, hts⟩ (c_X7_isPlace l dC dI cI cB p0 ) (va_cwS 1 hts gX7_duke_X7_isPlace rfl rfl rfl (by decide +kernel) ⟨Nat.le_of_ble_eq_true rfl, Nat.le_of_ble_eq_true rfl⟩) (cz_pS (hP.sub (ws' := []) [] rfl) hN) rfl rfl hl.1 rfl (lv_room (Nat.le_of_ble_eq_true rfl)) dX7_duke_1 ⟨Nat.le_of_ble_eq_true rfl, Nat.le_of_ble_eq_true rfl⟩)) (fun r_1 hr_1 => ?_)
  rcases hr_1 with ⟨rfl, hr_1⟩ | ⟨rfl, hr_1⟩
  · refine lv_if_ne (tgt := 10) hx hb dX7_duke_4 (by decide) (fun c => absurd (by decide) c) (fun _ => ?_)
    refine lv_bipush (v := (-101)) hx hb dX7_duke_7 (by decide) ?_
    exact W.iret (v := (-101)) hx hb hr (fun t ht hW => ⟨(-101), rfl, (c_X7_duke_a1 p0 p1 hr_1), ht⟩) (fun _ h => absurd h List.not_mem_nil) dX7_duke_9
  · refine lv_if_ne (tgt := 10) hx hb dX7_duke_4 (by decide) (fun _ => ?_) (fun c => absurd c (by decide))
    refine lv_iload_n hx hb dX7_duke_10 rfl (lv_at hl 2 rfl) ?_
    refine lv_iconst (v := 0) hx hb dX7_duke_11 (by decide) ?_
    refine lv_iconst (v := 3) hx hb dX7_duke_12 (by decide) ?_
    refine vp_callSi (cz_run (va_runS (As := [.int p1, .int 0, .int 3]) (rest := []) ⟨hx, hb, hml, hown, hts⟩ (c_X7_within l dC dI cI cB p1 0 3 ) (va_cwS 3 hts gX7_duke_X7_within rfl rfl rfl (by decide +kernel) ⟨Nat.le_of_ble_eq_true rfl, Nat.le_of_ble_eq_true rfl⟩) (cz_pS (hP.sub (ws' := []) [] rfl) hN) rfl rfl hl.1 rfl (lv_room (Nat.le_of_ble_eq_true rfl)) dX7_duke_13 ⟨Nat.le_of_ble_eq_true rfl, Nat.le_of_ble_eq_true rfl⟩)) (fun r_2 hr_2 => ?_)
    rcases hr_2 with ⟨rfl, hr_2⟩ | ⟨rfl, hr_2⟩
    · refine lv_if_ne (tgt := 22) hx hb dX7_duke_16 (by decide) (fun c => absurd (by decide) c) (fun _ => ?_)
      refine lv_bipush (v := (-102)) hx hb dX7_duke_19 (by decide) ?_
      exact W.iret (v := (-102)) hx hb hr (fun t ht hW => ⟨(-102), rfl, (c_X7_duke_a2 p0 p1 hr_1 hr_2), ht⟩) (fun _ h => absurd h List.not_mem_nil) dX7_duke_21
    · refine lv_if_ne (tgt := 22) hx hb dX7_duke_16 (by decide) (fun _ => ?_) (fun c => absurd c (by decide))
      refine lv_aload_n hx hb dX7_duke_22 rfl (lv_at hl 0 rfl) ?_
      refine va_get (D := (dC, dI)) (ci := 7) (v := .int 0) (C := RX7) (T := TX7) (N := 31) hx hb hts hiX7 hown hK hP 0 rfl rfl 0 (by decide) (hts (.fieldLink RX7 76 "LeftProfileModel" "isHall" "Z") (List.mem_of_getElem? (i := 1) rfl)) (fun _ h9 => h9) rfl dX7_duke_23 ?_
      refine lv_if_eq (tgt := 45) hx hb dX7_duke_26 (by decide) (fun _ => ?_) (fun c => absurd (by decide) c)
      refine lv_bipush (v := (-103)) hx hb dX7_duke_45 (by decide) ?_
      exact W.iret (v := (-103)) hx hb hr (fun t ht hW => ⟨(-103), rfl, (c_X7_duke_a3 p0 p1 hr_1 hr_2), ht⟩) (fun _ h => absurd h List.not_mem_nil) dX7_duke_47

theorem c_X7_courtier_a1 (p0 : Int32) (p1 : Int32) (hr_1 : ¬ cz_in 0 p1 19) : ((-101) : Int32) = cz_r2 p1 p0 4 := by first | (subst_vars; rfl) | ((try simp only [cz_rl, cz_ron, cz_r2, cz_r1, cz_rr, cz_rw, cz_rc]) <;> (repeat' split) <;> (first | rfl | ((try simp only [cz_in, cz_lt, cz_le, cz_eq, cz_l] at *) <;> (first | omega | (simp_all; done)))))
theorem c_X7_courtier_a2 (p0 : Int32) (p1 : Int32) (hr_1 : cz_in 0 p1 19) (hr_2 : ¬ cz_in 0 p0 4) : ((-102) : Int32) = cz_r2 p1 p0 4 := by first | (subst_vars; rfl) | ((try simp only [cz_rl, cz_ron, cz_r2, cz_r1, cz_rr, cz_rw, cz_rc]) <;> (repeat' split) <;> (first | rfl | ((try simp only [cz_in, cz_lt, cz_le, cz_eq, cz_l] at *) <;> (first | omega | (simp_all; done)))))
theorem c_X7_courtier_a3 (p0 : Int32) (p1 : Int32) (hr_1 : cz_in 0 p1 19) (hr_2 : cz_in 0 p0 4) : ((-103) : Int32) = cz_r2 p1 p0 4 := by first | (subst_vars; rfl) | ((try simp only [cz_rl, cz_ron, cz_r2, cz_r1, cz_rr, cz_rw, cz_rc]) <;> (repeat' split) <;> (first | rfl | ((try simp only [cz_in, cz_lt, cz_le, cz_eq, cz_l] at *) <;> (first | omega | (simp_all; done)))))
set_option maxHeartbeats 4000000 in
set_option maxRecDepth 100000 in
theorem c_X7_courtier (l : Launch) (dC : Nat → ClassId) (dI : Nat → Nat → Nat) (cI cB : ClassId) (h0 : Nat) (p0 : Int32) (p1 : Int32) (m1 : Nat) (m2 : Nat) (m3 : Nat) (m4 : Nat) (m5 : Nat) (pg : Nat) (m6 : Nat) (m7 : Nat) (m8 : Nat) (m9 : Nat) (m10 : Nat) (m11 : Nat) (m12 : Nat) : Met l yX7_courtier wsX7_courtier ({ frames := 2, cells := 0, slots := 0, locals := 42 }) (cz_Pp dC dI cI cB [.ref h0, .int p0, .int p1] [(h0, .inr (7, [.int 0, .int 0, .int 0, .int (-1), .int (-1), .int 0, .int 0, .ref m1, .ref m2, .ref m3, .ref m4, .ref m5, .int 0, .ref pg, .int 0, .int 0, .ref m6, .ref m7, .ref m8, .long 0, .int 0, .int 0, .int 0, .int 0, .int 0, .int 0, .ref m9, .ref m10, .ref m11, .ref m12, .long 0]))]) (vp_Si (fun r : Int32 => r = cz_r2 p1 p0 4)) 0 0 (fun _ => False) := by
  refine Met.ofW (cc := cX7_courtier) (maxL := 3) (ret := (some .int)) (by decide) rfl ?_
  intro p e s m args below meth c s₁ B hml hv
  obtain ⟨rfl, hP, hN⟩ := hv
  have hx := B.exec
  have hb := B.bytes
  have hr := B.returns
  have hts := atoms_spec (ws := wsX7_courtier) B.pre
  have hown : s.vm.findClass RX7 = some m.cls := findClass_of_methodNamed B.named
  have hlocks := B.notSynchronized
  have hK := hN.1
  have hiX7 : ∀ w ∈ wsX70, w ∈ wsX7_courtier := (fun _ h => List.mem_cons_of_mem _ (List.mem_append_right _ h))
  have hl := lv_entry ([.ref h0, .int p0, .int p1]) (n := 3) (Nat.le_of_ble_eq_true rfl)
  rw [lg_entry_eq]
  generalize (lg_sl ([.ref h0, .int p0, .int p1]) ++ List.replicate (3 - (lg_sl ([.ref h0, .int p0, .int p1])).length) Slot.unset).toArray = ls at hl ⊢
  have hl : lv_has ls 3 [(0, .ref h0), (1, .int p0), (2, .int p1)] := hl
  refine lv_iload_n hx hb dX7_courtier_0 rfl (lv_at hl 2 rfl) ?_
  refine vp_callSi (cz_run (va_runS (As := [.int p1]) (rest := []) ⟨hx, hb, hml, hown, hts⟩ (c_X7_isPlace l dC dI cI cB p1 ) (va_cwS 1 hts gX7_courtier_X7_isPlace rfl rfl rfl (by decide +kernel) ⟨Nat.le_of_ble_eq_true rfl, Nat.le_of_ble_eq_true rfl⟩) (cz_pS (hP.sub (ws' := []) [] rfl) hN) rfl rfl hl.1 rfl (lv_room (Nat.le_of_ble_eq_true rfl)) dX7_courtier_1 ⟨Nat.le_of_ble_eq_true rfl, Nat.le_of_ble_eq_true rfl⟩)) (fun r_1 hr_1 => ?_)
  rcases hr_1 with ⟨rfl, hr_1⟩ | ⟨rfl, hr_1⟩
  · refine lv_if_ne (tgt := 10) hx hb dX7_courtier_4 (by decide) (fun c => absurd (by decide) c) (fun _ => ?_)
    refine lv_bipush (v := (-101)) hx hb dX7_courtier_7 (by decide) ?_
    exact W.iret (v := (-101)) hx hb hr (fun t ht hW => ⟨(-101), rfl, (c_X7_courtier_a1 p0 p1 hr_1), ht⟩) (fun _ h => absurd h List.not_mem_nil) dX7_courtier_9
  · refine lv_if_ne (tgt := 10) hx hb dX7_courtier_4 (by decide) (fun _ => ?_) (fun c => absurd c (by decide))
    refine lv_iload_n hx hb dX7_courtier_10 rfl (lv_at hl 1 rfl) ?_
    refine lv_iconst (v := 0) hx hb dX7_courtier_11 (by decide) ?_
    refine lv_iconst (v := 4) hx hb dX7_courtier_12 (by decide) ?_
    refine vp_callSi (cz_run (va_runS (As := [.int p0, .int 0, .int 4]) (rest := []) ⟨hx, hb, hml, hown, hts⟩ (c_X7_within l dC dI cI cB p0 0 4 ) (va_cwS 3 hts gX7_courtier_X7_within rfl rfl rfl (by decide +kernel) ⟨Nat.le_of_ble_eq_true rfl, Nat.le_of_ble_eq_true rfl⟩) (cz_pS (hP.sub (ws' := []) [] rfl) hN) rfl rfl hl.1 rfl (lv_room (Nat.le_of_ble_eq_true rfl)) dX7_courtier_13 ⟨Nat.le_of_ble_eq_true rfl, Nat.le_of_ble_eq_true rfl⟩)) (fun r_2 hr_2 => ?_)
    rcases hr_2 with ⟨rfl, hr_2⟩ | ⟨rfl, hr_2⟩
    · refine lv_if_ne (tgt := 22) hx hb dX7_courtier_16 (by decide) (fun c => absurd (by decide) c) (fun _ => ?_)
      refine lv_bipush (v := (-102)) hx hb dX7_courtier_19 (by decide) ?_
      exact W.iret (v := (-102)) hx hb hr (fun t ht hW => ⟨(-102), rfl, (c_X7_courtier_a2 p0 p1 hr_1 hr_2), ht⟩) (fun _ h => absurd h List.not_mem_nil) dX7_courtier_21
    · refine lv_if_ne (tgt := 22) hx hb dX7_courtier_16 (by decide) (fun _ => ?_) (fun c => absurd c (by decide))
      refine lv_aload_n hx hb dX7_courtier_22 rfl (lv_at hl 0 rfl) ?_
      refine va_get (D := (dC, dI)) (ci := 7) (v := .int 0) (C := RX7) (T := TX7) (N := 31) hx hb hts hiX7 hown hK hP 0 rfl rfl 0 (by decide) (hts (.fieldLink RX7 76 "LeftProfileModel" "isHall" "Z") (List.mem_of_getElem? (i := 1) rfl)) (fun _ h9 => h9) rfl dX7_courtier_23 ?_
      refine lv_if_eq (tgt := 37) hx hb dX7_courtier_26 (by decide) (fun _ => ?_) (fun c => absurd (by decide) c)
      refine lv_bipush (v := (-103)) hx hb dX7_courtier_37 (by decide) ?_
      exact W.iret (v := (-103)) hx hb hr (fun t ht hW => ⟨(-103), rfl, (c_X7_courtier_a3 p0 p1 hr_1 hr_2), ht⟩) (fun _ h => absurd h List.not_mem_nil) dX7_courtier_39

set_option maxHeartbeats 4000000 in
set_option maxRecDepth 100000 in
theorem c_X7_about (l : Launch) (dC : Nat → ClassId) (dI : Nat → Nat → Nat) (cI cB : ClassId) (h0 : Nat) (p0 : Int32) (p1 : Int32) (m1 : Nat) (m2 : Nat) (m3 : Nat) (m4 : Nat) (m5 : Nat) (pg : Nat) (m6 : Nat) (m7 : Nat) (m8 : Nat) (m9 : Nat) (m10 : Nat) (m11 : Nat) (m12 : Nat) : Met l yX7_about wsX7_about ({ frames := 2, cells := 0, slots := 0, locals := 43 }) (cz_Pp dC dI cI cB [.ref h0, .int p0, .int p1] [(h0, .inr (7, [.int 0, .int 0, .int 0, .int (-1), .int (-1), .int 0, .int 0, .ref m1, .ref m2, .ref m3, .ref m4, .ref m5, .int 0, .ref pg, .int 0, .int 0, .ref m6, .ref m7, .ref m8, .long 0, .int 0, .int 0, .int 0, .int 0, .int 0, .int 0, .ref m9, .ref m10, .ref m11, .ref m12, .long 0]))]) (vp_Si (fun r : Int32 => r = (-101))) 0 0 (fun _ => False) := by
  refine Met.ofW (cc := cX7_about) (maxL := 3) (ret := (some .int)) (by decide) rfl ?_
  intro p e s m args below meth c s₁ B hml hv
  obtain ⟨rfl, hP, hN⟩ := hv
  have hx := B.exec
  have hb := B.bytes
  have hr := B.returns
  have hts := atoms_spec (ws := wsX7_about) B.pre
  have hown : s.vm.findClass RX7 = some m.cls := findClass_of_methodNamed B.named
  have hlocks := B.notSynchronized
  have hK := hN.1
  have hl := lv_entry ([.ref h0, .int p0, .int p1]) (n := 3) (Nat.le_of_ble_eq_true rfl)
  rw [lg_entry_eq]
  generalize (lg_sl ([.ref h0, .int p0, .int p1]) ++ List.replicate (3 - (lg_sl ([.ref h0, .int p0, .int p1])).length) Slot.unset).toArray = ls at hl ⊢
  have hl : lv_has ls 3 [(0, .ref h0), (1, .int p0), (2, .int p1)] := hl
  refine lv_aload_n hx hb dX7_about_0 rfl (lv_at hl 0 rfl) ?_
  refine lv_iload_n hx hb dX7_about_1 rfl (lv_at hl 1 rfl) ?_
  refine vp_callSi (cz_run (va_runV (As := [.int p0]) (rest := []) ⟨hx, hb, hml, hown, hts⟩ (c_X7_isCourtier l dC dI cI cB h0 p0 m1 m2 m3 m4 m5 pg m6 m7 m8 m9 m10 m11 m12 ) (cwV 1 hts gX7_about_X7_isCourtier rfl rfl rfl (by decide +kernel) ⟨Nat.le_of_ble_eq_true rfl, Nat.le_of_ble_eq_true rfl⟩) (cz_pV hP hN (va_recv hK hP (ci := 7) (q0 := 0) rfl rfl)) rfl rfl hl.1 rfl (lv_room (Nat.le_of_ble_eq_true rfl)) dX7_about_2 ⟨Nat.le_of_ble_eq_true rfl, Nat.le_of_ble_eq_true rfl⟩)) (fun r_1 hr_1 => ?_)
  obtain ⟨rfl, hr_1⟩ := hr_1
  refine lv_if_ne (tgt := 13) hx hb dX7_about_5 (by decide) (fun c => absurd (by decide) c) (fun _ => ?_)
  refine lv_bipush (v := (-101)) hx hb dX7_about_8 (by decide) ?_
  refine lv_goto (tgt := 33) hx hb dX7_about_10 (by decide) ?_
  exact W.iret (v := (-101)) hx hb hr (fun t ht hW => ⟨(-101), rfl, rfl, ht⟩) (fun _ h => absurd h List.not_mem_nil) dX7_about_33

set_option maxHeartbeats 4000000 in
set_option maxRecDepth 100000 in
theorem c_X7_as (l : Launch) (dC : Nat → ClassId) (dI : Nat → Nat → Nat) (cI cB : ClassId) (h0 : Nat) (p0 : Int32) (p1 : Int32) (m1 : Nat) (m2 : Nat) (m3 : Nat) (m4 : Nat) (m5 : Nat) (pg : Nat) (m6 : Nat) (m7 : Nat) (m8 : Nat) (m9 : Nat) (m10 : Nat) (m11 : Nat) (m12 : Nat) : Met l yX7_as wsX7_as ({ frames := 2, cells := 0, slots := 0, locals := 43 }) (cz_Pp dC dI cI cB [.ref h0, .int p0, .int p1] [(h0, .inr (7, [.int 0, .int 0, .int 0, .int (-1), .int (-1), .int 0, .int 0, .ref m1, .ref m2, .ref m3, .ref m4, .ref m5, .int 0, .ref pg, .int 0, .int 0, .ref m6, .ref m7, .ref m8, .long 0, .int 0, .int 0, .int 0, .int 0, .int 0, .int 0, .ref m9, .ref m10, .ref m11, .ref m12, .long 0]))]) (vp_Si (fun r : Int32 => r = (-101))) 0 0 (fun _ => False) := by
  refine Met.ofW (cc := cX7_as) (maxL := 4) (ret := (some .int)) (by decide) rfl ?_
  intro p e s m args below meth c s₁ B hml hv
  obtain ⟨rfl, hP, hN⟩ := hv
  have hx := B.exec
  have hb := B.bytes
  have hr := B.returns
  have hts := atoms_spec (ws := wsX7_as) B.pre
  have hown : s.vm.findClass RX7 = some m.cls := findClass_of_methodNamed B.named
  have hlocks := B.notSynchronized
  have hK := hN.1
  have hl := lv_entry ([.ref h0, .int p0, .int p1]) (n := 4) (Nat.le_of_ble_eq_true rfl)
  rw [lg_entry_eq]
  generalize (lg_sl ([.ref h0, .int p0, .int p1]) ++ List.replicate (4 - (lg_sl ([.ref h0, .int p0, .int p1])).length) Slot.unset).toArray = ls at hl ⊢
  have hl : lv_has ls 4 [(0, .ref h0), (1, .int p0), (2, .int p1)] := hl
  refine lv_aload_n hx hb dX7_as_0 rfl (lv_at hl 0 rfl) ?_
  refine lv_iload_n hx hb dX7_as_1 rfl (lv_at hl 1 rfl) ?_
  refine vp_callSi (cz_run (va_runV (As := [.int p0]) (rest := []) ⟨hx, hb, hml, hown, hts⟩ (c_X7_isCourtier l dC dI cI cB h0 p0 m1 m2 m3 m4 m5 pg m6 m7 m8 m9 m10 m11 m12 ) (cwV 1 hts gX7_as_X7_isCourtier rfl rfl rfl (by decide +kernel) ⟨Nat.le_of_ble_eq_true rfl, Nat.le_of_ble_eq_true rfl⟩) (cz_pV hP hN (va_recv hK hP (ci := 7) (q0 := 0) rfl rfl)) rfl rfl hl.1 rfl (lv_room (Nat.le_of_ble_eq_true rfl)) dX7_as_2 ⟨Nat.le_of_ble_eq_true rfl, Nat.le_of_ble_eq_true rfl⟩)) (fun r_1 hr_1 => ?_)
  obtain ⟨rfl, hr_1⟩ := hr_1
  refine lv_if_ne (tgt := 11) hx hb dX7_as_5 (by decide) (fun c => absurd (by decide) c) (fun _ => ?_)
  refine lv_bipush (v := (-101)) hx hb dX7_as_8 (by decide) ?_
  exact W.iret (v := (-101)) hx hb hr (fun t ht hW => ⟨(-101), rfl, rfl, ht⟩) (fun _ h => absurd h List.not_mem_nil) dX7_as_10

set_option maxHeartbeats 4000000 in
set_option maxRecDepth 100000 in
theorem c_X7_go (l : Launch) (dC : Nat → ClassId) (dI : Nat → Nat → Nat) (cI cB : ClassId) (h0 : Nat) (p0 : Int32) (p1 : Int32) (m1 : Nat) (m2 : Nat) (m3 : Nat) (m4 : Nat) (m5 : Nat) (pg : Nat) (m6 : Nat) (m7 : Nat) (m8 : Nat) (m9 : Nat) (m10 : Nat) (m11 : Nat) (m12 : Nat) : Met l yX7_go wsX7_go ({ frames := 2, cells := 0, slots := 0, locals := 43 }) (cz_Pp dC dI cI cB [.ref h0, .int p0, .int p1] [(h0, .inr (7, [.int 0, .int 0, .int 0, .int (-1), .int (-1), .int 0, .int 0, .ref m1, .ref m2, .ref m3, .ref m4, .ref m5, .int 0, .ref pg, .int 0, .int 0, .ref m6, .ref m7, .ref m8, .long 0, .int 0, .int 0, .int 0, .int 0, .int 0, .int 0, .ref m9, .ref m10, .ref m11, .ref m12, .long 0]))]) (vp_Si (fun r : Int32 => r = (-101))) 0 0 (fun _ => False) := by
  refine Met.ofW (cc := cX7_go) (maxL := 4) (ret := (some .int)) (by decide) rfl ?_
  intro p e s m args below meth c s₁ B hml hv
  obtain ⟨rfl, hP, hN⟩ := hv
  have hx := B.exec
  have hb := B.bytes
  have hr := B.returns
  have hts := atoms_spec (ws := wsX7_go) B.pre
  have hown : s.vm.findClass RX7 = some m.cls := findClass_of_methodNamed B.named
  have hlocks := B.notSynchronized
  have hK := hN.1
  have hl := lv_entry ([.ref h0, .int p0, .int p1]) (n := 4) (Nat.le_of_ble_eq_true rfl)
  rw [lg_entry_eq]
  generalize (lg_sl ([.ref h0, .int p0, .int p1]) ++ List.replicate (4 - (lg_sl ([.ref h0, .int p0, .int p1])).length) Slot.unset).toArray = ls at hl ⊢
  have hl : lv_has ls 4 [(0, .ref h0), (1, .int p0), (2, .int p1)] := hl
  refine lv_aload_n hx hb dX7_go_0 rfl (lv_at hl 0 rfl) ?_
  refine lv_iload_n hx hb dX7_go_1 rfl (lv_at hl 1 rfl) ?_
  refine vp_callSi (cz_run (va_runV (As := [.int p0]) (rest := []) ⟨hx, hb, hml, hown, hts⟩ (c_X7_isCourtier l dC dI cI cB h0 p0 m1 m2 m3 m4 m5 pg m6 m7 m8 m9 m10 m11 m12 ) (cwV 1 hts gX7_go_X7_isCourtier rfl rfl rfl (by decide +kernel) ⟨Nat.le_of_ble_eq_true rfl, Nat.le_of_ble_eq_true rfl⟩) (cz_pV hP hN (va_recv hK hP (ci := 7) (q0 := 0) rfl rfl)) rfl rfl hl.1 rfl (lv_room (Nat.le_of_ble_eq_true rfl)) dX7_go_2 ⟨Nat.le_of_ble_eq_true rfl, Nat.le_of_ble_eq_true rfl⟩)) (fun r_1 hr_1 => ?_)
  obtain ⟨rfl, hr_1⟩ := hr_1
  refine lv_if_eq (tgt := 15) hx hb dX7_go_5 (by decide) (fun _ => ?_) (fun c => absurd (by decide) c)
  refine lv_bipush (v := (-101)) hx hb dX7_go_15 (by decide) ?_
  exact W.iret (v := (-101)) hx hb hr (fun t ht hW => ⟨(-101), rfl, rfl, ht⟩) (fun _ h => absurd h List.not_mem_nil) dX7_go_17

theorem c_X7_act_a1 (p0 : Int32) (hr_1 : ¬ cz_in 0 p0 2) : ((-102) : Int32) = cz_r1 p0 2 := by first | (subst_vars; rfl) | ((try simp only [cz_rl, cz_ron, cz_r2, cz_r1, cz_rr, cz_rw, cz_rc]) <;> (repeat' split) <;> (first | rfl | ((try simp only [cz_in, cz_lt, cz_le, cz_eq, cz_l] at *) <;> (first | omega | (simp_all; done)))))
theorem c_X7_act_a2 (p0 : Int32) (hr_1 : cz_in 0 p0 2) : ((-103) : Int32) = cz_r1 p0 2 := by first | (subst_vars; rfl) | ((try simp only [cz_rl, cz_ron, cz_r2, cz_r1, cz_rr, cz_rw, cz_rc]) <;> (repeat' split) <;> (first | rfl | ((try simp only [cz_in, cz_lt, cz_le, cz_eq, cz_l] at *) <;> (first | omega | (simp_all; done)))))
set_option maxHeartbeats 4000000 in
set_option maxRecDepth 100000 in
theorem c_X7_act (l : Launch) (dC : Nat → ClassId) (dI : Nat → Nat → Nat) (cI cB : ClassId) (h0 : Nat) (p0 : Int32) (m1 : Nat) (m2 : Nat) (m3 : Nat) (m4 : Nat) (m5 : Nat) (pg : Nat) (m6 : Nat) (m7 : Nat) (m8 : Nat) (m9 : Nat) (m10 : Nat) (m11 : Nat) (m12 : Nat) : Met l yX7_act wsX7_act ({ frames := 1, cells := 0, slots := 0, locals := 22 }) (cz_Pp dC dI cI cB [.ref h0, .int p0] [(h0, .inr (7, [.int 0, .int 0, .int 0, .int (-1), .int (-1), .int 0, .int 0, .ref m1, .ref m2, .ref m3, .ref m4, .ref m5, .int 0, .ref pg, .int 0, .int 0, .ref m6, .ref m7, .ref m8, .long 0, .int 0, .int 0, .int 0, .int 0, .int 0, .int 0, .ref m9, .ref m10, .ref m11, .ref m12, .long 0]))]) (vp_Si (fun r : Int32 => r = cz_r1 p0 2)) 0 0 (fun _ => False) := by
  refine Met.ofW (cc := cX7_act) (maxL := 4) (ret := (some .int)) (by decide) rfl ?_
  intro p e s m args below meth c s₁ B hml hv
  obtain ⟨rfl, hP, hN⟩ := hv
  have hx := B.exec
  have hb := B.bytes
  have hr := B.returns
  have hts := atoms_spec (ws := wsX7_act) B.pre
  have hown : s.vm.findClass RX7 = some m.cls := findClass_of_methodNamed B.named
  have hlocks := B.notSynchronized
  have hK := hN.1
  have hiX7 : ∀ w ∈ wsX70, w ∈ wsX7_act := (fun _ h => List.mem_cons_of_mem _ (List.mem_append_right _ h))
  have hl := lv_entry ([.ref h0, .int p0]) (n := 4) (Nat.le_of_ble_eq_true rfl)
  rw [lg_entry_eq]
  generalize (lg_sl ([.ref h0, .int p0]) ++ List.replicate (4 - (lg_sl ([.ref h0, .int p0])).length) Slot.unset).toArray = ls at hl ⊢
  have hl : lv_has ls 4 [(0, .ref h0), (1, .int p0)] := hl
  refine lv_iload_n hx hb dX7_act_0 rfl (lv_at hl 1 rfl) ?_
  refine lv_iconst (v := 0) hx hb dX7_act_1 (by decide) ?_
  refine lv_iconst (v := 2) hx hb dX7_act_2 (by decide) ?_
  refine vp_callSi (cz_run (va_runS (As := [.int p0, .int 0, .int 2]) (rest := []) ⟨hx, hb, hml, hown, hts⟩ (c_X7_within l dC dI cI cB p0 0 2 ) (va_cwS 3 hts gX7_act_X7_within rfl rfl rfl (by decide +kernel) ⟨Nat.le_of_ble_eq_true rfl, Nat.le_of_ble_eq_true rfl⟩) (cz_pS (hP.sub (ws' := []) [] rfl) hN) rfl rfl hl.1 rfl (lv_room (Nat.le_of_ble_eq_true rfl)) dX7_act_3 ⟨Nat.le_of_ble_eq_true rfl, Nat.le_of_ble_eq_true rfl⟩)) (fun r_1 hr_1 => ?_)
  rcases hr_1 with ⟨rfl, hr_1⟩ | ⟨rfl, hr_1⟩
  · refine lv_if_ne (tgt := 12) hx hb dX7_act_6 (by decide) (fun c => absurd (by decide) c) (fun _ => ?_)
    refine lv_bipush (v := (-102)) hx hb dX7_act_9 (by decide) ?_
    exact W.iret (v := (-102)) hx hb hr (fun t ht hW => ⟨(-102), rfl, (c_X7_act_a1 p0 hr_1), ht⟩) (fun _ h => absurd h List.not_mem_nil) dX7_act_11
  · refine lv_if_ne (tgt := 12) hx hb dX7_act_6 (by decide) (fun _ => ?_) (fun c => absurd c (by decide))
    refine lv_aload_n hx hb dX7_act_12 rfl (lv_at hl 0 rfl) ?_
    refine va_get (D := (dC, dI)) (ci := 7) (v := .int (-1)) (C := RX7) (T := TX7) (N := 31) hx hb hts hiX7 hown hK hP 0 rfl rfl 3 (by decide) (hts (.fieldLink RX7 7 "LeftProfileModel" "dukeAt" "I") (List.mem_of_getElem? (i := 1) rfl)) (fun _ h9 => h9) rfl dX7_act_13 ?_
    refine lv_iconst (v := (-1)) hx hb dX7_act_16 (by decide) ?_
    refine lv_icmp_eq (tgt := 28) hx hb dX7_act_17 (by decide) (fun _ => ?_) (fun c => absurd (by decide) c)
    refine lv_bipush (v := (-103)) hx hb dX7_act_28 (by decide) ?_
    exact W.iret (v := (-103)) hx hb hr (fun t ht hW => ⟨(-103), rfl, (c_X7_act_a2 p0 hr_1), ht⟩) (fun _ h => absurd h List.not_mem_nil) dX7_act_30

set_option maxHeartbeats 4000000 in
set_option maxRecDepth 100000 in
theorem c_X7_guilty (l : Launch) (dC : Nat → ClassId) (dI : Nat → Nat → Nat) (cI cB : ClassId) (h0 : Nat) (m1 : Nat) (m2 : Nat) (m3 : Nat) (m4 : Nat) (m5 : Nat) (pg : Nat) (m6 : Nat) (m7 : Nat) (m8 : Nat) (m9 : Nat) (m10 : Nat) (m11 : Nat) (m12 : Nat) : Met l yX7_guilty wsX7_guilty ({ frames := 1, cells := 0, slots := 0, locals := 22 }) (cz_Pp dC dI cI cB [.ref h0] [(h0, .inr (7, [.int 0, .int 0, .int 0, .int (-1), .int (-1), .int 0, .int 0, .ref m1, .ref m2, .ref m3, .ref m4, .ref m5, .int 0, .ref pg, .int 0, .int 0, .ref m6, .ref m7, .ref m8, .long 0, .int 0, .int 0, .int 0, .int 0, .int 0, .int 0, .ref m9, .ref m10, .ref m11, .ref m12, .long 0]))]) (vp_Si (fun r : Int32 => r = 0)) 0 0 (fun _ => False) := by
  refine Met.ofW (cc := cX7_guilty) (maxL := 1) (ret := (some .int)) (by decide) rfl ?_
  intro p e s m args below meth c s₁ B hml hv
  obtain ⟨rfl, hP, hN⟩ := hv
  have hx := B.exec
  have hb := B.bytes
  have hr := B.returns
  have hts := atoms_spec (ws := wsX7_guilty) B.pre
  have hown : s.vm.findClass RX7 = some m.cls := findClass_of_methodNamed B.named
  have hlocks := B.notSynchronized
  have hK := hN.1
  have hl := lv_entry ([.ref h0]) (n := 1) (Nat.le_of_ble_eq_true rfl)
  rw [lg_entry_eq]
  generalize (lg_sl ([.ref h0]) ++ List.replicate (1 - (lg_sl ([.ref h0])).length) Slot.unset).toArray = ls at hl ⊢
  have hl : lv_has ls 1 [(0, .ref h0)] := hl
  refine lv_aload_n hx hb dX7_guilty_0 rfl (lv_at hl 0 rfl) ?_
  refine vp_callSi (cz_run (va_runV (As := []) (rest := []) ⟨hx, hb, hml, hown, hts⟩ (c_X7_guiltySet l dC dI cI cB h0 m1 m2 m3 m4 m5 pg m6 m7 m8 m9 m10 m11 m12 ) (cwV 0 hts gX7_guilty_X7_guiltySet rfl rfl rfl (by decide +kernel) ⟨Nat.le_of_ble_eq_true rfl, Nat.le_of_ble_eq_true rfl⟩) (cz_pV hP hN (va_recv hK hP (ci := 7) (q0 := 0) rfl rfl)) rfl rfl hl.1 rfl (lv_room (Nat.le_of_ble_eq_true rfl)) dX7_guilty_1 ⟨Nat.le_of_ble_eq_true rfl, Nat.le_of_ble_eq_true rfl⟩)) (fun r_1 hr_1 => ?_)
  obtain rfl : r_1 = 0 := hr_1
  exact W.iret (v := 0) hx hb hr (fun t ht hW => ⟨0, rfl, rfl, ht⟩) (fun _ h => absurd h List.not_mem_nil) dX7_guilty_4

theorem c_X7_room_a1 (p0 : Int32) (p1 : Int32) (hr_1 : ¬ cz_in 1 p0 3) : ((-102) : Int32) = cz_rr p0 p1 := by first | (subst_vars; rfl) | ((try simp only [cz_rl, cz_ron, cz_r2, cz_r1, cz_rr, cz_rw, cz_rc]) <;> (repeat' split) <;> (first | rfl | ((try simp only [cz_in, cz_lt, cz_le, cz_eq, cz_l] at *) <;> (first | omega | (simp_all; done)))))
theorem c_X7_room_a2 (p0 : Int32) (p1 : Int32) (hr_1 : cz_in 1 p0 3) (hr_2 : ¬ cz_in 0 p1 2) : ((-102) : Int32) = cz_rr p0 p1 := by first | (subst_vars; rfl) | ((try simp only [cz_rl, cz_ron, cz_r2, cz_r1, cz_rr, cz_rw, cz_rc]) <;> (repeat' split) <;> (first | rfl | ((try simp only [cz_in, cz_lt, cz_le, cz_eq, cz_l] at *) <;> (first | omega | (simp_all; done)))))
theorem c_X7_room_a3 (p0 : Int32) (p1 : Int32) (hr_1 : cz_in 1 p0 3) (hr_2 : cz_in 0 p1 2) : ((-103) : Int32) = cz_rr p0 p1 := by first | (subst_vars; rfl) | ((try simp only [cz_rl, cz_ron, cz_r2, cz_r1, cz_rr, cz_rw, cz_rc]) <;> (repeat' split) <;> (first | rfl | ((try simp only [cz_in, cz_lt, cz_le, cz_eq, cz_l] at *) <;> (first | omega | (simp_all; done)))))
set_option maxHeartbeats 4000000 in
set_option maxRecDepth 100000 in
theorem c_X7_room (l : Launch) (dC : Nat → ClassId) (dI : Nat → Nat → Nat) (cI cB : ClassId) (h0 : Nat) (p0 : Int32) (p1 : Int32) (m1 : Nat) (m2 : Nat) (m3 : Nat) (m4 : Nat) (m5 : Nat) (pg : Nat) (m6 : Nat) (m7 : Nat) (m8 : Nat) (m9 : Nat) (m10 : Nat) (m11 : Nat) (m12 : Nat) : Met l yX7_room wsX7_room ({ frames := 1, cells := 0, slots := 0, locals := 22 }) (cz_Pp dC dI cI cB [.ref h0, .int p0, .int p1] [(h0, .inr (7, [.int 0, .int 0, .int 0, .int (-1), .int (-1), .int 0, .int 0, .ref m1, .ref m2, .ref m3, .ref m4, .ref m5, .int 0, .ref pg, .int 0, .int 0, .ref m6, .ref m7, .ref m8, .long 0, .int 0, .int 0, .int 0, .int 0, .int 0, .int 0, .ref m9, .ref m10, .ref m11, .ref m12, .long 0]))]) (vp_Si (fun r : Int32 => r = cz_rr p0 p1)) 0 0 (fun _ => False) := by
  refine Met.ofW (cc := cX7_room) (maxL := 3) (ret := (some .int)) (by decide) rfl ?_
  intro p e s m args below meth c s₁ B hml hv
  obtain ⟨rfl, hP, hN⟩ := hv
  have hx := B.exec
  have hb := B.bytes
  have hr := B.returns
  have hts := atoms_spec (ws := wsX7_room) B.pre
  have hown : s.vm.findClass RX7 = some m.cls := findClass_of_methodNamed B.named
  have hlocks := B.notSynchronized
  have hK := hN.1
  have hiX7 : ∀ w ∈ wsX70, w ∈ wsX7_room := (fun _ h => List.mem_cons_of_mem _ (List.mem_append_right _ h))
  have hl := lv_entry ([.ref h0, .int p0, .int p1]) (n := 3) (Nat.le_of_ble_eq_true rfl)
  rw [lg_entry_eq]
  generalize (lg_sl ([.ref h0, .int p0, .int p1]) ++ List.replicate (3 - (lg_sl ([.ref h0, .int p0, .int p1])).length) Slot.unset).toArray = ls at hl ⊢
  have hl : lv_has ls 3 [(0, .ref h0), (1, .int p0), (2, .int p1)] := hl
  refine lv_iload_n hx hb dX7_room_0 rfl (lv_at hl 1 rfl) ?_
  refine lv_iconst (v := 1) hx hb dX7_room_1 (by decide) ?_
  refine lv_iconst (v := 3) hx hb dX7_room_2 (by decide) ?_
  refine vp_callSi (cz_run (va_runS (As := [.int p0, .int 1, .int 3]) (rest := []) ⟨hx, hb, hml, hown, hts⟩ (c_X7_within l dC dI cI cB p0 1 3 ) (va_cwS 3 hts gX7_room_X7_within rfl rfl rfl (by decide +kernel) ⟨Nat.le_of_ble_eq_true rfl, Nat.le_of_ble_eq_true rfl⟩) (cz_pS (hP.sub (ws' := []) [] rfl) hN) rfl rfl hl.1 rfl (lv_room (Nat.le_of_ble_eq_true rfl)) dX7_room_3 ⟨Nat.le_of_ble_eq_true rfl, Nat.le_of_ble_eq_true rfl⟩)) (fun r_1 hr_1 => ?_)
  rcases hr_1 with ⟨rfl, hr_1⟩ | ⟨rfl, hr_1⟩
  · refine lv_if_eq (tgt := 18) hx hb dX7_room_6 (by decide) (fun _ => ?_) (fun c => absurd (by decide) c)
    refine lv_bipush (v := (-102)) hx hb dX7_room_18 (by decide) ?_
    exact W.iret (v := (-102)) hx hb hr (fun t ht hW => ⟨(-102), rfl, (c_X7_room_a1 p0 p1 hr_1), ht⟩) (fun _ h => absurd h List.not_mem_nil) dX7_room_20
  · refine lv_if_eq (tgt := 18) hx hb dX7_room_6 (by decide) (fun c => absurd c (by decide)) (fun _ => ?_)
    refine lv_iload_n hx hb dX7_room_9 rfl (lv_at hl 2 rfl) ?_
    refine lv_iconst (v := 0) hx hb dX7_room_10 (by decide) ?_
    refine lv_iconst (v := 2) hx hb dX7_room_11 (by decide) ?_
    refine vp_callSi (cz_run (va_runS (As := [.int p1, .int 0, .int 2]) (rest := []) ⟨hx, hb, hml, hown, hts⟩ (c_X7_within l dC dI cI cB p1 0 2 ) (va_cwS 3 hts gX7_room_X7_within rfl rfl rfl (by decide +kernel) ⟨Nat.le_of_ble_eq_true rfl, Nat.le_of_ble_eq_true rfl⟩) (cz_pS (hP.sub (ws' := []) [] rfl) hN) rfl rfl hl.1 rfl (lv_room (Nat.le_of_ble_eq_true rfl)) dX7_room_12 ⟨Nat.le_of_ble_eq_true rfl, Nat.le_of_ble_eq_true rfl⟩)) (fun r_2 hr_2 => ?_)
    rcases hr_2 with ⟨rfl, hr_2⟩ | ⟨rfl, hr_2⟩
    · refine lv_if_ne (tgt := 21) hx hb dX7_room_15 (by decide) (fun c => absurd (by decide) c) (fun _ => ?_)
      refine lv_bipush (v := (-102)) hx hb dX7_room_18 (by decide) ?_
      exact W.iret (v := (-102)) hx hb hr (fun t ht hW => ⟨(-102), rfl, (c_X7_room_a2 p0 p1 hr_1 hr_2), ht⟩) (fun _ h => absurd h List.not_mem_nil) dX7_room_20
    · refine lv_if_ne (tgt := 21) hx hb dX7_room_15 (by decide) (fun _ => ?_) (fun c => absurd c (by decide))
      refine lv_aload_n hx hb dX7_room_21 rfl (lv_at hl 0 rfl) ?_
      refine va_get (D := (dC, dI)) (ci := 7) (v := .int (-1)) (C := RX7) (T := TX7) (N := 31) hx hb hts hiX7 hown hK hP 0 rfl rfl 3 (by decide) (hts (.fieldLink RX7 7 "LeftProfileModel" "dukeAt" "I") (List.mem_of_getElem? (i := 1) rfl)) (fun _ h9 => h9) rfl dX7_room_22 ?_
      refine lv_iconst (v := (-1)) hx hb dX7_room_25 (by decide) ?_
      refine lv_icmp_ne (tgt := 34) hx hb dX7_room_26 (by decide) (fun c => absurd (by decide) c) (fun _ => ?_)
      refine lv_bipush (v := (-103)) hx hb dX7_room_29 (by decide) ?_
      refine lv_goto (tgt := 40) hx hb dX7_room_31 (by decide) ?_
      exact W.iret (v := (-103)) hx hb hr (fun t ht hW => ⟨(-103), rfl, (c_X7_room_a3 p0 p1 hr_1 hr_2), ht⟩) (fun _ h => absurd h List.not_mem_nil) dX7_room_40

theorem c_X7_brick_a1 (p0 : Int32) (hr_1 : ¬ cz_in 0 p0 1) : ((-102) : Int32) = cz_r1 p0 1 := by first | (subst_vars; rfl) | ((try simp only [cz_rl, cz_ron, cz_r2, cz_r1, cz_rr, cz_rw, cz_rc]) <;> (repeat' split) <;> (first | rfl | ((try simp only [cz_in, cz_lt, cz_le, cz_eq, cz_l] at *) <;> (first | omega | (simp_all; done)))))
theorem c_X7_brick_a2 (p0 : Int32) (hr_1 : cz_in 0 p0 1) : ((-103) : Int32) = cz_r1 p0 1 := by first | (subst_vars; rfl) | ((try simp only [cz_rl, cz_ron, cz_r2, cz_r1, cz_rr, cz_rw, cz_rc]) <;> (repeat' split) <;> (first | rfl | ((try simp only [cz_in, cz_lt, cz_le, cz_eq, cz_l] at *) <;> (first | omega | (simp_all; done)))))
set_option maxHeartbeats 4000000 in
set_option maxRecDepth 100000 in
theorem c_X7_brick (l : Launch) (dC : Nat → ClassId) (dI : Nat → Nat → Nat) (cI cB : ClassId) (h0 : Nat) (p0 : Int32) (m1 : Nat) (m2 : Nat) (m3 : Nat) (m4 : Nat) (m5 : Nat) (pg : Nat) (m6 : Nat) (m7 : Nat) (m8 : Nat) (m9 : Nat) (m10 : Nat) (m11 : Nat) (m12 : Nat) : Met l yX7_brick wsX7_brick ({ frames := 1, cells := 0, slots := 0, locals := 22 }) (cz_Pp dC dI cI cB [.ref h0, .int p0] [(h0, .inr (7, [.int 0, .int 0, .int 0, .int (-1), .int (-1), .int 0, .int 0, .ref m1, .ref m2, .ref m3, .ref m4, .ref m5, .int 0, .ref pg, .int 0, .int 0, .ref m6, .ref m7, .ref m8, .long 0, .int 0, .int 0, .int 0, .int 0, .int 0, .int 0, .ref m9, .ref m10, .ref m11, .ref m12, .long 0]))]) (vp_Si (fun r : Int32 => r = cz_r1 p0 1)) 0 0 (fun _ => False) := by
  refine Met.ofW (cc := cX7_brick) (maxL := 2) (ret := (some .int)) (by decide) rfl ?_
  intro p e s m args below meth c s₁ B hml hv
  obtain ⟨rfl, hP, hN⟩ := hv
  have hx := B.exec
  have hb := B.bytes
  have hr := B.returns
  have hts := atoms_spec (ws := wsX7_brick) B.pre
  have hown : s.vm.findClass RX7 = some m.cls := findClass_of_methodNamed B.named
  have hlocks := B.notSynchronized
  have hK := hN.1
  have hiX7 : ∀ w ∈ wsX70, w ∈ wsX7_brick := (fun _ h => List.mem_cons_of_mem _ (List.mem_append_right _ h))
  have hl := lv_entry ([.ref h0, .int p0]) (n := 2) (Nat.le_of_ble_eq_true rfl)
  rw [lg_entry_eq]
  generalize (lg_sl ([.ref h0, .int p0]) ++ List.replicate (2 - (lg_sl ([.ref h0, .int p0])).length) Slot.unset).toArray = ls at hl ⊢
  have hl : lv_has ls 2 [(0, .ref h0), (1, .int p0)] := hl
  refine lv_iload_n hx hb dX7_brick_0 rfl (lv_at hl 1 rfl) ?_
  refine lv_iconst (v := 0) hx hb dX7_brick_1 (by decide) ?_
  refine lv_iconst (v := 1) hx hb dX7_brick_2 (by decide) ?_
  refine vp_callSi (cz_run (va_runS (As := [.int p0, .int 0, .int 1]) (rest := []) ⟨hx, hb, hml, hown, hts⟩ (c_X7_within l dC dI cI cB p0 0 1 ) (va_cwS 3 hts gX7_brick_X7_within rfl rfl rfl (by decide +kernel) ⟨Nat.le_of_ble_eq_true rfl, Nat.le_of_ble_eq_true rfl⟩) (cz_pS (hP.sub (ws' := []) [] rfl) hN) rfl rfl hl.1 rfl (lv_room (Nat.le_of_ble_eq_true rfl)) dX7_brick_3 ⟨Nat.le_of_ble_eq_true rfl, Nat.le_of_ble_eq_true rfl⟩)) (fun r_1 hr_1 => ?_)
  rcases hr_1 with ⟨rfl, hr_1⟩ | ⟨rfl, hr_1⟩
  · refine lv_if_ne (tgt := 12) hx hb dX7_brick_6 (by decide) (fun c => absurd (by decide) c) (fun _ => ?_)
    refine lv_bipush (v := (-102)) hx hb dX7_brick_9 (by decide) ?_
    exact W.iret (v := (-102)) hx hb hr (fun t ht hW => ⟨(-102), rfl, (c_X7_brick_a1 p0 hr_1), ht⟩) (fun _ h => absurd h List.not_mem_nil) dX7_brick_11
  · refine lv_if_ne (tgt := 12) hx hb dX7_brick_6 (by decide) (fun _ => ?_) (fun c => absurd c (by decide))
    refine lv_aload_n hx hb dX7_brick_12 rfl (lv_at hl 0 rfl) ?_
    refine va_get (D := (dC, dI)) (ci := 7) (v := .int (-1)) (C := RX7) (T := TX7) (N := 31) hx hb hts hiX7 hown hK hP 0 rfl rfl 3 (by decide) (hts (.fieldLink RX7 7 "LeftProfileModel" "dukeAt" "I") (List.mem_of_getElem? (i := 1) rfl)) (fun _ h9 => h9) rfl dX7_brick_13 ?_
    refine lv_iconst (v := (-1)) hx hb dX7_brick_16 (by decide) ?_
    refine lv_icmp_ne (tgt := 25) hx hb dX7_brick_17 (by decide) (fun c => absurd (by decide) c) (fun _ => ?_)
    refine lv_bipush (v := (-103)) hx hb dX7_brick_20 (by decide) ?_
    refine lv_goto (tgt := 30) hx hb dX7_brick_22 (by decide) ?_
    exact W.iret (v := (-103)) hx hb hr (fun t ht hW => ⟨(-103), rfl, (c_X7_brick_a2 p0 hr_1), ht⟩) (fun _ h => absurd h List.not_mem_nil) dX7_brick_30

theorem c_X7_way_a1 (p0 : Int32) (p1 : Int32) (hr_1 : ¬ cz_in 0 p0 19) : ((-101) : Int32) = cz_r2 p0 p1 1 := by first | (subst_vars; rfl) | ((try simp only [cz_rl, cz_ron, cz_r2, cz_r1, cz_rr, cz_rw, cz_rc]) <;> (repeat' split) <;> (first | rfl | ((try simp only [cz_in, cz_lt, cz_le, cz_eq, cz_l] at *) <;> (first | omega | (simp_all; done)))))
theorem c_X7_way_a2 (p0 : Int32) (p1 : Int32) (hr_1 : cz_in 0 p0 19) (hr_2 : ¬ cz_in 0 p1 1) : ((-102) : Int32) = cz_r2 p0 p1 1 := by first | (subst_vars; rfl) | ((try simp only [cz_rl, cz_ron, cz_r2, cz_r1, cz_rr, cz_rw, cz_rc]) <;> (repeat' split) <;> (first | rfl | ((try simp only [cz_in, cz_lt, cz_le, cz_eq, cz_l] at *) <;> (first | omega | (simp_all; done)))))
theorem c_X7_way_a3 (p0 : Int32) (p1 : Int32) (hr_1 : cz_in 0 p0 19) (hr_2 : cz_in 0 p1 1) : ((-103) : Int32) = cz_r2 p0 p1 1 := by first | (subst_vars; rfl) | ((try simp only [cz_rl, cz_ron, cz_r2, cz_r1, cz_rr, cz_rw, cz_rc]) <;> (repeat' split) <;> (first | rfl | ((try simp only [cz_in, cz_lt, cz_le, cz_eq, cz_l] at *) <;> (first | omega | (simp_all; done)))))
set_option maxHeartbeats 4000000 in
set_option maxRecDepth 100000 in
theorem c_X7_way (l : Launch) (dC : Nat → ClassId) (dI : Nat → Nat → Nat) (cI cB : ClassId) (h0 : Nat) (p0 : Int32) (p1 : Int32) (m1 : Nat) (m2 : Nat) (m3 : Nat) (m4 : Nat) (m5 : Nat) (pg : Nat) (m6 : Nat) (m7 : Nat) (m8 : Nat) (m9 : Nat) (m10 : Nat) (m11 : Nat) (m12 : Nat) : Met l yX7_way wsX7_way ({ frames := 2, cells := 0, slots := 0, locals := 42 }) (cz_Pp dC dI cI cB [.ref h0, .int p0, .int p1] [(h0, .inr (7, [.int 0, .int 0, .int 0, .int (-1), .int (-1), .int 0, .int 0, .ref m1, .ref m2, .ref m3, .ref m4, .ref m5, .int 0, .ref pg, .int 0, .int 0, .ref m6, .ref m7, .ref m8, .long 0, .int 0, .int 0, .int 0, .int 0, .int 0, .int 0, .ref m9, .ref m10, .ref m11, .ref m12, .long 0]))]) (vp_Si (fun r : Int32 => r = cz_r2 p0 p1 1)) 0 0 (fun _ => False) := by
  refine Met.ofW (cc := cX7_way) (maxL := 3) (ret := (some .int)) (by decide) rfl ?_
  intro p e s m args below meth c s₁ B hml hv
  obtain ⟨rfl, hP, hN⟩ := hv
  have hx := B.exec
  have hb := B.bytes
  have hr := B.returns
  have hts := atoms_spec (ws := wsX7_way) B.pre
  have hown : s.vm.findClass RX7 = some m.cls := findClass_of_methodNamed B.named
  have hlocks := B.notSynchronized
  have hK := hN.1
  have hiX7 : ∀ w ∈ wsX70, w ∈ wsX7_way := (fun _ h => List.mem_cons_of_mem _ (List.mem_append_right _ h))
  have hl := lv_entry ([.ref h0, .int p0, .int p1]) (n := 3) (Nat.le_of_ble_eq_true rfl)
  rw [lg_entry_eq]
  generalize (lg_sl ([.ref h0, .int p0, .int p1]) ++ List.replicate (3 - (lg_sl ([.ref h0, .int p0, .int p1])).length) Slot.unset).toArray = ls at hl ⊢
  have hl : lv_has ls 3 [(0, .ref h0), (1, .int p0), (2, .int p1)] := hl
  refine lv_iload_n hx hb dX7_way_0 rfl (lv_at hl 1 rfl) ?_
  refine vp_callSi (cz_run (va_runS (As := [.int p0]) (rest := []) ⟨hx, hb, hml, hown, hts⟩ (c_X7_isPlace l dC dI cI cB p0 ) (va_cwS 1 hts gX7_way_X7_isPlace rfl rfl rfl (by decide +kernel) ⟨Nat.le_of_ble_eq_true rfl, Nat.le_of_ble_eq_true rfl⟩) (cz_pS (hP.sub (ws' := []) [] rfl) hN) rfl rfl hl.1 rfl (lv_room (Nat.le_of_ble_eq_true rfl)) dX7_way_1 ⟨Nat.le_of_ble_eq_true rfl, Nat.le_of_ble_eq_true rfl⟩)) (fun r_1 hr_1 => ?_)
  rcases hr_1 with ⟨rfl, hr_1⟩ | ⟨rfl, hr_1⟩
  · refine lv_if_ne (tgt := 10) hx hb dX7_way_4 (by decide) (fun c => absurd (by decide) c) (fun _ => ?_)
    refine lv_bipush (v := (-101)) hx hb dX7_way_7 (by decide) ?_
    exact W.iret (v := (-101)) hx hb hr (fun t ht hW => ⟨(-101), rfl, (c_X7_way_a1 p0 p1 hr_1), ht⟩) (fun _ h => absurd h List.not_mem_nil) dX7_way_9
  · refine lv_if_ne (tgt := 10) hx hb dX7_way_4 (by decide) (fun _ => ?_) (fun c => absurd c (by decide))
    refine lv_iload_n hx hb dX7_way_10 rfl (lv_at hl 2 rfl) ?_
    refine lv_iconst (v := 0) hx hb dX7_way_11 (by decide) ?_
    refine lv_iconst (v := 1) hx hb dX7_way_12 (by decide) ?_
    refine vp_callSi (cz_run (va_runS (As := [.int p1, .int 0, .int 1]) (rest := []) ⟨hx, hb, hml, hown, hts⟩ (c_X7_within l dC dI cI cB p1 0 1 ) (va_cwS 3 hts gX7_way_X7_within rfl rfl rfl (by decide +kernel) ⟨Nat.le_of_ble_eq_true rfl, Nat.le_of_ble_eq_true rfl⟩) (cz_pS (hP.sub (ws' := []) [] rfl) hN) rfl rfl hl.1 rfl (lv_room (Nat.le_of_ble_eq_true rfl)) dX7_way_13 ⟨Nat.le_of_ble_eq_true rfl, Nat.le_of_ble_eq_true rfl⟩)) (fun r_2 hr_2 => ?_)
    rcases hr_2 with ⟨rfl, hr_2⟩ | ⟨rfl, hr_2⟩
    · refine lv_if_ne (tgt := 22) hx hb dX7_way_16 (by decide) (fun c => absurd (by decide) c) (fun _ => ?_)
      refine lv_bipush (v := (-102)) hx hb dX7_way_19 (by decide) ?_
      exact W.iret (v := (-102)) hx hb hr (fun t ht hW => ⟨(-102), rfl, (c_X7_way_a2 p0 p1 hr_1 hr_2), ht⟩) (fun _ h => absurd h List.not_mem_nil) dX7_way_21
    · refine lv_if_ne (tgt := 22) hx hb dX7_way_16 (by decide) (fun _ => ?_) (fun c => absurd c (by decide))
      refine lv_aload_n hx hb dX7_way_22 rfl (lv_at hl 0 rfl) ?_
      refine va_get (D := (dC, dI)) (ci := 7) (v := .int (-1)) (C := RX7) (T := TX7) (N := 31) hx hb hts hiX7 hown hK hP 0 rfl rfl 3 (by decide) (hts (.fieldLink RX7 7 "LeftProfileModel" "dukeAt" "I") (List.mem_of_getElem? (i := 1) rfl)) (fun _ h9 => h9) rfl dX7_way_23 ?_
      refine lv_iconst (v := (-1)) hx hb dX7_way_26 (by decide) ?_
      refine lv_icmp_ne (tgt := 35) hx hb dX7_way_27 (by decide) (fun c => absurd (by decide) c) (fun _ => ?_)
      refine lv_bipush (v := (-103)) hx hb dX7_way_30 (by decide) ?_
      refine lv_goto (tgt := 41) hx hb dX7_way_32 (by decide) ?_
      exact W.iret (v := (-103)) hx hb hr (fun t ht hW => ⟨(-103), rfl, (c_X7_way_a3 p0 p1 hr_1 hr_2), ht⟩) (fun _ h => absurd h List.not_mem_nil) dX7_way_41

set_option maxHeartbeats 4000000 in
set_option maxRecDepth 100000 in
theorem c_X7_told (l : Launch) (dC : Nat → ClassId) (dI : Nat → Nat → Nat) (cI cB : ClassId) (h0 : Nat) (p0 : Int32) (p1 : Int32) (m1 : Nat) (m2 : Nat) (m3 : Nat) (m4 : Nat) (m5 : Nat) (pg : Nat) (m6 : Nat) (m7 : Nat) (m8 : Nat) (m9 : Nat) (m10 : Nat) (m11 : Nat) (m12 : Nat) : Met l yX7_told wsX7_told ({ frames := 2, cells := 0, slots := 0, locals := 43 }) (cz_Pp dC dI cI cB [.ref h0, .int p0, .int p1] [(h0, .inr (7, [.int 0, .int 0, .int 0, .int (-1), .int (-1), .int 0, .int 0, .ref m1, .ref m2, .ref m3, .ref m4, .ref m5, .int 0, .ref pg, .int 0, .int 0, .ref m6, .ref m7, .ref m8, .long 0, .int 0, .int 0, .int 0, .int 0, .int 0, .int 0, .ref m9, .ref m10, .ref m11, .ref m12, .long 0]))]) (vp_Si (fun r : Int32 => r = (-101))) 0 0 (fun _ => False) := by
  refine Met.ofW (cc := cX7_told) (maxL := 4) (ret := (some .int)) (by decide) rfl ?_
  intro p e s m args below meth c s₁ B hml hv
  obtain ⟨rfl, hP, hN⟩ := hv
  have hx := B.exec
  have hb := B.bytes
  have hr := B.returns
  have hts := atoms_spec (ws := wsX7_told) B.pre
  have hown : s.vm.findClass RX7 = some m.cls := findClass_of_methodNamed B.named
  have hlocks := B.notSynchronized
  have hK := hN.1
  have hl := lv_entry ([.ref h0, .int p0, .int p1]) (n := 4) (Nat.le_of_ble_eq_true rfl)
  rw [lg_entry_eq]
  generalize (lg_sl ([.ref h0, .int p0, .int p1]) ++ List.replicate (4 - (lg_sl ([.ref h0, .int p0, .int p1])).length) Slot.unset).toArray = ls at hl ⊢
  have hl : lv_has ls 4 [(0, .ref h0), (1, .int p0), (2, .int p1)] := hl
  refine lv_aload_n hx hb dX7_told_0 rfl (lv_at hl 0 rfl) ?_
  refine lv_iload_n hx hb dX7_told_1 rfl (lv_at hl 1 rfl) ?_
  refine vp_callSi (cz_run (va_runV (As := [.int p0]) (rest := []) ⟨hx, hb, hml, hown, hts⟩ (c_X7_isCourtier l dC dI cI cB h0 p0 m1 m2 m3 m4 m5 pg m6 m7 m8 m9 m10 m11 m12 ) (cwV 1 hts gX7_told_X7_isCourtier rfl rfl rfl (by decide +kernel) ⟨Nat.le_of_ble_eq_true rfl, Nat.le_of_ble_eq_true rfl⟩) (cz_pV hP hN (va_recv hK hP (ci := 7) (q0 := 0) rfl rfl)) rfl rfl hl.1 rfl (lv_room (Nat.le_of_ble_eq_true rfl)) dX7_told_2 ⟨Nat.le_of_ble_eq_true rfl, Nat.le_of_ble_eq_true rfl⟩)) (fun r_1 hr_1 => ?_)
  obtain ⟨rfl, hr_1⟩ := hr_1
  refine lv_if_ne (tgt := 11) hx hb dX7_told_5 (by decide) (fun c => absurd (by decide) c) (fun _ => ?_)
  refine lv_bipush (v := (-101)) hx hb dX7_told_8 (by decide) ?_
  exact W.iret (v := (-101)) hx hb hr (fun t ht hW => ⟨(-101), rfl, rfl, ht⟩) (fun _ h => absurd h List.not_mem_nil) dX7_told_10

theorem c_X7_stood_a1 (p0 : Int32) (hr_1 : ¬ cz_in 0 p0 2) : ((-102) : Int32) = cz_r1 p0 2 := by first | (subst_vars; rfl) | ((try simp only [cz_rl, cz_ron, cz_r2, cz_r1, cz_rr, cz_rw, cz_rc]) <;> (repeat' split) <;> (first | rfl | ((try simp only [cz_in, cz_lt, cz_le, cz_eq, cz_l] at *) <;> (first | omega | (simp_all; done)))))
theorem c_X7_stood_a2 (p0 : Int32) (hr_1 : cz_in 0 p0 2) : ((-103) : Int32) = cz_r1 p0 2 := by first | (subst_vars; rfl) | ((try simp only [cz_rl, cz_ron, cz_r2, cz_r1, cz_rr, cz_rw, cz_rc]) <;> (repeat' split) <;> (first | rfl | ((try simp only [cz_in, cz_lt, cz_le, cz_eq, cz_l] at *) <;> (first | omega | (simp_all; done)))))
set_option maxHeartbeats 4000000 in
set_option maxRecDepth 100000 in
theorem c_X7_stood (l : Launch) (dC : Nat → ClassId) (dI : Nat → Nat → Nat) (cI cB : ClassId) (h0 : Nat) (p0 : Int32) (m1 : Nat) (m2 : Nat) (m3 : Nat) (m4 : Nat) (m5 : Nat) (pg : Nat) (m6 : Nat) (m7 : Nat) (m8 : Nat) (m9 : Nat) (m10 : Nat) (m11 : Nat) (m12 : Nat) : Met l yX7_stood wsX7_stood ({ frames := 1, cells := 0, slots := 0, locals := 22 }) (cz_Pp dC dI cI cB [.ref h0, .int p0] [(h0, .inr (7, [.int 0, .int 0, .int 0, .int (-1), .int (-1), .int 0, .int 0, .ref m1, .ref m2, .ref m3, .ref m4, .ref m5, .int 0, .ref pg, .int 0, .int 0, .ref m6, .ref m7, .ref m8, .long 0, .int 0, .int 0, .int 0, .int 0, .int 0, .int 0, .ref m9, .ref m10, .ref m11, .ref m12, .long 0]))]) (vp_Si (fun r : Int32 => r = cz_r1 p0 2)) 0 0 (fun _ => False) := by
  refine Met.ofW (cc := cX7_stood) (maxL := 2) (ret := (some .int)) (by decide) rfl ?_
  intro p e s m args below meth c s₁ B hml hv
  obtain ⟨rfl, hP, hN⟩ := hv
  have hx := B.exec
  have hb := B.bytes
  have hr := B.returns
  have hts := atoms_spec (ws := wsX7_stood) B.pre
  have hown : s.vm.findClass RX7 = some m.cls := findClass_of_methodNamed B.named
  have hlocks := B.notSynchronized
  have hK := hN.1
  have hiX7 : ∀ w ∈ wsX70, w ∈ wsX7_stood := (fun _ h => List.mem_cons_of_mem _ (List.mem_append_right _ h))
  have hl := lv_entry ([.ref h0, .int p0]) (n := 2) (Nat.le_of_ble_eq_true rfl)
  rw [lg_entry_eq]
  generalize (lg_sl ([.ref h0, .int p0]) ++ List.replicate (2 - (lg_sl ([.ref h0, .int p0])).length) Slot.unset).toArray = ls at hl ⊢
  have hl : lv_has ls 2 [(0, .ref h0), (1, .int p0)] := hl
  refine lv_iload_n hx hb dX7_stood_0 rfl (lv_at hl 1 rfl) ?_
  refine lv_iconst (v := 0) hx hb dX7_stood_1 (by decide) ?_
  refine lv_iconst (v := 2) hx hb dX7_stood_2 (by decide) ?_
  refine vp_callSi (cz_run (va_runS (As := [.int p0, .int 0, .int 2]) (rest := []) ⟨hx, hb, hml, hown, hts⟩ (c_X7_within l dC dI cI cB p0 0 2 ) (va_cwS 3 hts gX7_stood_X7_within rfl rfl rfl (by decide +kernel) ⟨Nat.le_of_ble_eq_true rfl, Nat.le_of_ble_eq_true rfl⟩) (cz_pS (hP.sub (ws' := []) [] rfl) hN) rfl rfl hl.1 rfl (lv_room (Nat.le_of_ble_eq_true rfl)) dX7_stood_3 ⟨Nat.le_of_ble_eq_true rfl, Nat.le_of_ble_eq_true rfl⟩)) (fun r_1 hr_1 => ?_)
  rcases hr_1 with ⟨rfl, hr_1⟩ | ⟨rfl, hr_1⟩
  · refine lv_if_ne (tgt := 12) hx hb dX7_stood_6 (by decide) (fun c => absurd (by decide) c) (fun _ => ?_)
    refine lv_bipush (v := (-102)) hx hb dX7_stood_9 (by decide) ?_
    exact W.iret (v := (-102)) hx hb hr (fun t ht hW => ⟨(-102), rfl, (c_X7_stood_a1 p0 hr_1), ht⟩) (fun _ h => absurd h List.not_mem_nil) dX7_stood_11
  · refine lv_if_ne (tgt := 12) hx hb dX7_stood_6 (by decide) (fun _ => ?_) (fun c => absurd c (by decide))
    refine lv_aload_n hx hb dX7_stood_12 rfl (lv_at hl 0 rfl) ?_
    refine va_get (D := (dC, dI)) (ci := 7) (v := .int 0) (C := RX7) (T := TX7) (N := 31) hx hb hts hiX7 hown hK hP 0 rfl rfl 0 (by decide) (hts (.fieldLink RX7 76 "LeftProfileModel" "isHall" "Z") (List.mem_of_getElem? (i := 1) rfl)) (fun _ h9 => h9) rfl dX7_stood_13 ?_
    refine lv_if_eq (tgt := 27) hx hb dX7_stood_16 (by decide) (fun _ => ?_) (fun c => absurd (by decide) c)
    refine lv_bipush (v := (-103)) hx hb dX7_stood_27 (by decide) ?_
    exact W.iret (v := (-103)) hx hb hr (fun t ht hW => ⟨(-103), rfl, (c_X7_stood_a2 p0 hr_1), ht⟩) (fun _ h => absurd h List.not_mem_nil) dX7_stood_29

theorem c_X7_walk_a1 (p0 : Int32) (p1 : Int32) (p2 : Int32) (hr_1 : ¬ cz_in 1 p0 60) : ((-102) : Int32) = cz_rw p0 p1 p2 := by first | (subst_vars; rfl) | ((try simp only [cz_rl, cz_ron, cz_r2, cz_r1, cz_rr, cz_rw, cz_rc]) <;> (repeat' split) <;> (first | rfl | ((try simp only [cz_in, cz_lt, cz_le, cz_eq, cz_l] at *) <;> (first | omega | (simp_all; done)))))
theorem c_X7_walk_a2 (p0 : Int32) (p1 : Int32) (p2 : Int32) (hr_1 : cz_in 1 p0 60) (c_2 : p1 < 0) : ((-102) : Int32) = cz_rw p0 p1 p2 := by first | (subst_vars; rfl) | ((try simp only [cz_rl, cz_ron, cz_r2, cz_r1, cz_rr, cz_rw, cz_rc]) <;> (repeat' split) <;> (first | rfl | ((try simp only [cz_in, cz_lt, cz_le, cz_eq, cz_l] at *) <;> (first | omega | (simp_all; done)))))
theorem c_X7_walk_a3 (p0 : Int32) (p1 : Int32) (p2 : Int32) (hr_1 : cz_in 1 p0 60) (c_2 : ¬ p1 < 0) (hr_3 : ¬ cz_in 0 p2 3) : ((-102) : Int32) = cz_rw p0 p1 p2 := by first | (subst_vars; rfl) | ((try simp only [cz_rl, cz_ron, cz_r2, cz_r1, cz_rr, cz_rw, cz_rc]) <;> (repeat' split) <;> (first | rfl | ((try simp only [cz_in, cz_lt, cz_le, cz_eq, cz_l] at *) <;> (first | omega | (simp_all; done)))))
theorem c_X7_walk_a4 (p0 : Int32) (p1 : Int32) (p2 : Int32) (hr_1 : cz_in 1 p0 60) (c_2 : ¬ p1 < 0) (hr_3 : cz_in 0 p2 3) : ((-103) : Int32) = cz_rw p0 p1 p2 := by first | (subst_vars; rfl) | ((try simp only [cz_rl, cz_ron, cz_r2, cz_r1, cz_rr, cz_rw, cz_rc]) <;> (repeat' split) <;> (first | rfl | ((try simp only [cz_in, cz_lt, cz_le, cz_eq, cz_l] at *) <;> (first | omega | (simp_all; done)))))
set_option maxHeartbeats 4000000 in
set_option maxRecDepth 100000 in
theorem c_X7_walk (l : Launch) (dC : Nat → ClassId) (dI : Nat → Nat → Nat) (cI cB : ClassId) (h0 : Nat) (p0 : Int32) (p1 : Int32) (p2 : Int32) (m1 : Nat) (m2 : Nat) (m3 : Nat) (m4 : Nat) (m5 : Nat) (pg : Nat) (m6 : Nat) (m7 : Nat) (m8 : Nat) (m9 : Nat) (m10 : Nat) (m11 : Nat) (m12 : Nat) : Met l yX7_walk wsX7_walk ({ frames := 1, cells := 0, slots := 0, locals := 22 }) (cz_Pp dC dI cI cB [.ref h0, .int p0, .int p1, .int p2] [(h0, .inr (7, [.int 0, .int 0, .int 0, .int (-1), .int (-1), .int 0, .int 0, .ref m1, .ref m2, .ref m3, .ref m4, .ref m5, .int 0, .ref pg, .int 0, .int 0, .ref m6, .ref m7, .ref m8, .long 0, .int 0, .int 0, .int 0, .int 0, .int 0, .int 0, .ref m9, .ref m10, .ref m11, .ref m12, .long 0]))]) (vp_Si (fun r : Int32 => r = cz_rw p0 p1 p2)) 0 0 (fun _ => False) := by
  refine Met.ofW (cc := cX7_walk) (maxL := 4) (ret := (some .int)) (by decide) rfl ?_
  intro p e s m args below meth c s₁ B hml hv
  obtain ⟨rfl, hP, hN⟩ := hv
  have hx := B.exec
  have hb := B.bytes
  have hr := B.returns
  have hts := atoms_spec (ws := wsX7_walk) B.pre
  have hown : s.vm.findClass RX7 = some m.cls := findClass_of_methodNamed B.named
  have hlocks := B.notSynchronized
  have hK := hN.1
  have hiX7 : ∀ w ∈ wsX70, w ∈ wsX7_walk := (fun _ h => List.mem_cons_of_mem _ (List.mem_append_right _ h))
  have hl := lv_entry ([.ref h0, .int p0, .int p1, .int p2]) (n := 4) (Nat.le_of_ble_eq_true rfl)
  rw [lg_entry_eq]
  generalize (lg_sl ([.ref h0, .int p0, .int p1, .int p2]) ++ List.replicate (4 - (lg_sl ([.ref h0, .int p0, .int p1, .int p2])).length) Slot.unset).toArray = ls at hl ⊢
  have hl : lv_has ls 4 [(0, .ref h0), (1, .int p0), (2, .int p1), (3, .int p2)] := hl
  refine lv_iload_n hx hb dX7_walk_0 rfl (lv_at hl 1 rfl) ?_
  refine lv_iconst (v := 1) hx hb dX7_walk_1 (by decide) ?_
  refine lv_bipush (v := 60) hx hb dX7_walk_2 (by decide) ?_
  refine vp_callSi (cz_run (va_runS (As := [.int p0, .int 1, .int 60]) (rest := []) ⟨hx, hb, hml, hown, hts⟩ (c_X7_within l dC dI cI cB p0 1 60 ) (va_cwS 3 hts gX7_walk_X7_within rfl rfl rfl (by decide +kernel) ⟨Nat.le_of_ble_eq_true rfl, Nat.le_of_ble_eq_true rfl⟩) (cz_pS (hP.sub (ws' := []) [] rfl) hN) rfl rfl hl.1 rfl (lv_room (Nat.le_of_ble_eq_true rfl)) dX7_walk_4 ⟨Nat.le_of_ble_eq_true rfl, Nat.le_of_ble_eq_true rfl⟩)) (fun r_1 hr_1 => ?_)
  rcases hr_1 with ⟨rfl, hr_1⟩ | ⟨rfl, hr_1⟩
  · refine lv_if_eq (tgt := 23) hx hb dX7_walk_7 (by decide) (fun _ => ?_) (fun c => absurd (by decide) c)
    refine lv_bipush (v := (-102)) hx hb dX7_walk_23 (by decide) ?_
    exact W.iret (v := (-102)) hx hb hr (fun t ht hW => ⟨(-102), rfl, (c_X7_walk_a1 p0 p1 p2 hr_1), ht⟩) (fun _ h => absurd h List.not_mem_nil) dX7_walk_25
  · refine lv_if_eq (tgt := 23) hx hb dX7_walk_7 (by decide) (fun c => absurd c (by decide)) (fun _ => ?_)
    refine lv_iload_n hx hb dX7_walk_10 rfl (lv_at hl 2 rfl) ?_
    refine lv_if_lt (tgt := 23) hx hb dX7_walk_11 (by decide) (fun c_2 => ?_) (fun c_2 => ?_)
    · refine lv_bipush (v := (-102)) hx hb dX7_walk_23 (by decide) ?_
      exact W.iret (v := (-102)) hx hb hr (fun t ht hW => ⟨(-102), rfl, (c_X7_walk_a2 p0 p1 p2 hr_1 c_2), ht⟩) (fun _ h => absurd h List.not_mem_nil) dX7_walk_25
    · refine lv_iload_n hx hb dX7_walk_14 rfl (lv_at hl 3 rfl) ?_
      refine lv_iconst (v := 0) hx hb dX7_walk_15 (by decide) ?_
      refine lv_iconst (v := 3) hx hb dX7_walk_16 (by decide) ?_
      refine vp_callSi (cz_run (va_runS (As := [.int p2, .int 0, .int 3]) (rest := []) ⟨hx, hb, hml, hown, hts⟩ (c_X7_within l dC dI cI cB p2 0 3 ) (va_cwS 3 hts gX7_walk_X7_within rfl rfl rfl (by decide +kernel) ⟨Nat.le_of_ble_eq_true rfl, Nat.le_of_ble_eq_true rfl⟩) (cz_pS (hP.sub (ws' := []) [] rfl) hN) rfl rfl hl.1 rfl (lv_room (Nat.le_of_ble_eq_true rfl)) dX7_walk_17 ⟨Nat.le_of_ble_eq_true rfl, Nat.le_of_ble_eq_true rfl⟩)) (fun r_3 hr_3 => ?_)
      rcases hr_3 with ⟨rfl, hr_3⟩ | ⟨rfl, hr_3⟩
      · refine lv_if_ne (tgt := 26) hx hb dX7_walk_20 (by decide) (fun c => absurd (by decide) c) (fun _ => ?_)
        refine lv_bipush (v := (-102)) hx hb dX7_walk_23 (by decide) ?_
        exact W.iret (v := (-102)) hx hb hr (fun t ht hW => ⟨(-102), rfl, (c_X7_walk_a3 p0 p1 p2 hr_1 c_2 hr_3), ht⟩) (fun _ h => absurd h List.not_mem_nil) dX7_walk_25
      · refine lv_if_ne (tgt := 26) hx hb dX7_walk_20 (by decide) (fun _ => ?_) (fun c => absurd c (by decide))
        refine lv_aload_n hx hb dX7_walk_26 rfl (lv_at hl 0 rfl) ?_
        refine va_get (D := (dC, dI)) (ci := 7) (v := .int (-1)) (C := RX7) (T := TX7) (N := 31) hx hb hts hiX7 hown hK hP 0 rfl rfl 3 (by decide) (hts (.fieldLink RX7 7 "LeftProfileModel" "dukeAt" "I") (List.mem_of_getElem? (i := 1) rfl)) (fun _ h9 => h9) rfl dX7_walk_27 ?_
        refine lv_iconst (v := (-1)) hx hb dX7_walk_30 (by decide) ?_
        refine lv_icmp_ne (tgt := 39) hx hb dX7_walk_31 (by decide) (fun c => absurd (by decide) c) (fun _ => ?_)
        refine lv_bipush (v := (-103)) hx hb dX7_walk_34 (by decide) ?_
        refine lv_goto (tgt := 46) hx hb dX7_walk_36 (by decide) ?_
        exact W.iret (v := (-103)) hx hb hr (fun t ht hW => ⟨(-103), rfl, (c_X7_walk_a4 p0 p1 p2 hr_1 c_2 hr_3), ht⟩) (fun _ h => absurd h List.not_mem_nil) dX7_walk_46

set_option maxHeartbeats 4000000 in
set_option maxRecDepth 100000 in
theorem c_X7_image (l : Launch) (dC : Nat → ClassId) (dI : Nat → Nat → Nat) (cI cB : ClassId) (h0 : Nat) (m1 : Nat) (m2 : Nat) (m3 : Nat) (m4 : Nat) (m5 : Nat) (pg : Nat) (m6 : Nat) (m7 : Nat) (m8 : Nat) (m9 : Nat) (m10 : Nat) (m11 : Nat) (m12 : Nat) : Met l yX7_image wsX7_image ({ frames := 0, cells := 0, slots := 0, locals := 0 }) (cz_Pp dC dI cI cB [.ref h0] [(h0, .inr (7, [.int 0, .int 0, .int 0, .int (-1), .int (-1), .int 0, .int 0, .ref m1, .ref m2, .ref m3, .ref m4, .ref m5, .int 0, .ref pg, .int 0, .int 0, .ref m6, .ref m7, .ref m8, .long 0, .int 0, .int 0, .int 0, .int 0, .int 0, .int 0, .ref m9, .ref m10, .ref m11, .ref m12, .long 0]))]) (vp_Si (fun r : Int32 => r = (-103))) 0 0 (fun _ => False) := by
  refine Met.ofW (cc := cX7_image) (maxL := 2) (ret := (some .int)) (by decide) rfl ?_
  intro p e s m args below meth c s₁ B hml hv
  obtain ⟨rfl, hP, hN⟩ := hv
  have hx := B.exec
  have hb := B.bytes
  have hr := B.returns
  have hts := atoms_spec (ws := wsX7_image) B.pre
  have hown : s.vm.findClass RX7 = some m.cls := findClass_of_methodNamed B.named
  have hlocks := B.notSynchronized
  have hK := hN.1
  have hiX7 : ∀ w ∈ wsX70, w ∈ wsX7_image := (fun _ h => List.mem_cons_of_mem _ (List.mem_append_right _ h))
  have hl := lv_entry ([.ref h0]) (n := 2) (Nat.le_of_ble_eq_true rfl)
  rw [lg_entry_eq]
  generalize (lg_sl ([.ref h0]) ++ List.replicate (2 - (lg_sl ([.ref h0])).length) Slot.unset).toArray = ls at hl ⊢
  have hl : lv_has ls 2 [(0, .ref h0)] := hl
  refine lv_aload_n hx hb dX7_image_0 rfl (lv_at hl 0 rfl) ?_
  refine va_get (D := (dC, dI)) (ci := 7) (v := .int 0) (C := RX7) (T := TX7) (N := 31) hx hb hts hiX7 hown hK hP 0 rfl rfl 0 (by decide) (hts (.fieldLink RX7 76 "LeftProfileModel" "isHall" "Z") (List.mem_of_getElem? (i := 1) rfl)) (fun _ h9 => h9) rfl dX7_image_1 ?_
  refine lv_if_ne (tgt := 10) hx hb dX7_image_4 (by decide) (fun c => absurd (by decide) c) (fun _ => ?_)
  refine lv_bipush (v := (-103)) hx hb dX7_image_7 (by decide) ?_
  exact W.iret (v := (-103)) hx hb hr (fun t ht hW => ⟨(-103), rfl, rfl, ht⟩) (fun _ h => absurd h List.not_mem_nil) dX7_image_9

set_option maxHeartbeats 4000000 in
set_option maxRecDepth 100000 in
theorem c_X7_restore (l : Launch) (dC : Nat → ClassId) (dI : Nat → Nat → Nat) (cI cB : ClassId) (h0 : Nat) (m1 : Nat) (m2 : Nat) (m3 : Nat) (m4 : Nat) (m5 : Nat) (pg : Nat) (m6 : Nat) (m7 : Nat) (m8 : Nat) (m9 : Nat) (m10 : Nat) (m11 : Nat) (m12 : Nat) : Met l yX7_restore wsX7_restore ({ frames := 0, cells := 0, slots := 0, locals := 0 }) (cz_Pp dC dI cI cB [.ref h0] [(h0, .inr (7, [.int 0, .int 0, .int 0, .int (-1), .int (-1), .int 0, .int 0, .ref m1, .ref m2, .ref m3, .ref m4, .ref m5, .int 0, .ref pg, .int 0, .int 0, .ref m6, .ref m7, .ref m8, .long 0, .int 0, .int 0, .int 0, .int 0, .int 0, .int 0, .ref m9, .ref m10, .ref m11, .ref m12, .long 0]))]) (vp_Si (fun r : Int32 => r = (-103))) 0 0 (fun _ => False) := by
  refine Met.ofW (cc := cX7_restore) (maxL := 2) (ret := (some .int)) (by decide) rfl ?_
  intro p e s m args below meth c s₁ B hml hv
  obtain ⟨rfl, hP, hN⟩ := hv
  have hx := B.exec
  have hb := B.bytes
  have hr := B.returns
  have hts := atoms_spec (ws := wsX7_restore) B.pre
  have hown : s.vm.findClass RX7 = some m.cls := findClass_of_methodNamed B.named
  have hlocks := B.notSynchronized
  have hK := hN.1
  have hiX7 : ∀ w ∈ wsX70, w ∈ wsX7_restore := (fun _ h => List.mem_cons_of_mem _ (List.mem_append_right _ h))
  have hl := lv_entry ([.ref h0]) (n := 2) (Nat.le_of_ble_eq_true rfl)
  rw [lg_entry_eq]
  generalize (lg_sl ([.ref h0]) ++ List.replicate (2 - (lg_sl ([.ref h0])).length) Slot.unset).toArray = ls at hl ⊢
  have hl : lv_has ls 2 [(0, .ref h0)] := hl
  refine lv_aload_n hx hb dX7_restore_0 rfl (lv_at hl 0 rfl) ?_
  refine va_get (D := (dC, dI)) (ci := 7) (v := .int 0) (C := RX7) (T := TX7) (N := 31) hx hb hts hiX7 hown hK hP 0 rfl rfl 20 (by decide) (hts (.fieldLink RX7 210 "LeftProfileModel" "isKept" "Z") (List.mem_of_getElem? (i := 1) rfl)) (fun _ h9 => h9) rfl dX7_restore_1 ?_
  refine lv_if_eq (tgt := 18) hx hb dX7_restore_4 (by decide) (fun _ => ?_) (fun c => absurd (by decide) c)
  refine lv_bipush (v := (-103)) hx hb dX7_restore_18 (by decide) ?_
  exact W.iret (v := (-103)) hx hb hr (fun t ht hW => ⟨(-103), rfl, rfl, ht⟩) (fun _ h => absurd h List.not_mem_nil) dX7_restore_20
