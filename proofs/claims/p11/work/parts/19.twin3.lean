theorem c_X7_ahead_a1 (d0 : Nat) (p1 : Int32) (hd0 : d0 < 20) (c_1 : p1 = 0) (c_2 : d0 < 5) : ((-1) : Int32) = cz_ahd d0 p1 := by first | (subst_vars; rfl) | assumption | ((try subst_vars) <;> (try simp only [cz_ahd]) <;> (repeat' split) <;> (first | rfl | contradiction | ((try simp only [cz_in, cz_du, cz_lt, cz_le, cz_eq, cz_l] at *) <;> (first | omega | (simp_all; done))))) | ((try subst_vars); simp only [cz_ahd, cz_in, *, and_self, and_true, true_and, if_true, if_false])
theorem c_X7_ahead_a2 (d0 : Nat) (p1 : Int32) (hd0 : d0 < 20) (c_1 : p1 = 0) (c_2 : ¬ d0 < 5) : ((nI (d0 - 5)) : Int32) = cz_ahd d0 p1 := by first | (subst_vars; rfl) | assumption | ((try subst_vars) <;> (try simp only [cz_ahd]) <;> (repeat' split) <;> (first | rfl | contradiction | ((try simp only [cz_in, cz_du, cz_lt, cz_le, cz_eq, cz_l] at *) <;> (first | omega | (simp_all; done))))) | ((try subst_vars); simp only [cz_ahd, cz_in, *, and_self, and_true, true_and, if_true, if_false])
theorem c_X7_ahead_a3 (d0 : Nat) (p1 : Int32) (hd0 : d0 < 20) (c_1 : p1 = 1) (c_3 : 4 ≤ (d0 % 5)) : ((-1) : Int32) = cz_ahd d0 p1 := by first | (subst_vars; rfl) | assumption | ((try subst_vars) <;> (try simp only [cz_ahd]) <;> (repeat' split) <;> (first | rfl | contradiction | ((try simp only [cz_in, cz_du, cz_lt, cz_le, cz_eq, cz_l] at *) <;> (first | omega | (simp_all; done))))) | ((try subst_vars); simp only [cz_ahd, cz_in, *, and_self, and_true, true_and, if_true, if_false])
theorem c_X7_ahead_a4 (d0 : Nat) (p1 : Int32) (hd0 : d0 < 20) (c_1 : p1 = 1) (c_3 : ¬ 4 ≤ (d0 % 5)) : ((nI (d0 + 1)) : Int32) = cz_ahd d0 p1 := by first | (subst_vars; rfl) | assumption | ((try subst_vars) <;> (try simp only [cz_ahd]) <;> (repeat' split) <;> (first | rfl | contradiction | ((try simp only [cz_in, cz_du, cz_lt, cz_le, cz_eq, cz_l] at *) <;> (first | omega | (simp_all; done))))) | ((try subst_vars); simp only [cz_ahd, cz_in, *, and_self, and_true, true_and, if_true, if_false])
theorem c_X7_ahead_a5 (d0 : Nat) (p1 : Int32) (hd0 : d0 < 20) (c_1 : p1 = 2) (c_4 : 15 ≤ d0) : ((-1) : Int32) = cz_ahd d0 p1 := by first | (subst_vars; rfl) | assumption | ((try subst_vars) <;> (try simp only [cz_ahd]) <;> (repeat' split) <;> (first | rfl | contradiction | ((try simp only [cz_in, cz_du, cz_lt, cz_le, cz_eq, cz_l] at *) <;> (first | omega | (simp_all; done))))) | ((try subst_vars); simp only [cz_ahd, cz_in, *, and_self, and_true, true_and, if_true, if_false])
theorem c_X7_ahead_a6 (d0 : Nat) (p1 : Int32) (hd0 : d0 < 20) (c_1 : p1 = 2) (c_4 : ¬ 15 ≤ d0) : ((nI (d0 + 5)) : Int32) = cz_ahd d0 p1 := by first | (subst_vars; rfl) | assumption | ((try subst_vars) <;> (try simp only [cz_ahd]) <;> (repeat' split) <;> (first | rfl | contradiction | ((try simp only [cz_in, cz_du, cz_lt, cz_le, cz_eq, cz_l] at *) <;> (first | omega | (simp_all; done))))) | ((try subst_vars); simp only [cz_ahd, cz_in, *, and_self, and_true, true_and, if_true, if_false])
theorem c_X7_ahead_a7 (d0 : Nat) (p1 : Int32) (hd0 : d0 < 20) (c_1 : p1.toInt < 0 ∨ 2 < p1.toInt) (c_5 : (d0 % 5) ≤ 0) : ((-1) : Int32) = cz_ahd d0 p1 := by first | (subst_vars; rfl) | assumption | ((try subst_vars) <;> (try simp only [cz_ahd]) <;> (repeat' split) <;> (first | rfl | contradiction | ((try simp only [cz_in, cz_du, cz_lt, cz_le, cz_eq, cz_l] at *) <;> (first | omega | (simp_all; done))))) | ((try subst_vars); simp only [cz_ahd, cz_in, *, and_self, and_true, true_and, if_true, if_false])
theorem c_X7_ahead_a8 (d0 : Nat) (p1 : Int32) (hd0 : d0 < 20) (c_1 : p1.toInt < 0 ∨ 2 < p1.toInt) (c_5 : ¬ (d0 % 5) ≤ 0) : ((nI (d0 - 1)) : Int32) = cz_ahd d0 p1 := by first | (subst_vars; rfl) | assumption | ((try subst_vars) <;> (try simp only [cz_ahd]) <;> (repeat' split) <;> (first | rfl | contradiction | ((try simp only [cz_in, cz_du, cz_lt, cz_le, cz_eq, cz_l] at *) <;> (first | omega | (simp_all; done))))) | ((try subst_vars); simp only [cz_ahd, cz_in, *, and_self, and_true, true_and, if_true, if_false])
set_option maxHeartbeats 4000000 in
set_option maxRecDepth 100000 in
theorem c_X7_ahead (l : Launch) (dC : Nat → ClassId) (dI : Nat → Nat → Nat) (cI cB : ClassId) (d0 : Nat) (p1 : Int32) (hd0 : d0 < 20) : Met l yX7_ahead wsX7_ahead ({ frames := 0, cells := 0, slots := 0, locals := 0 }) (cz_Pp dC dI cI cB [.int (nI d0), .int p1] []) (vp_Si (fun r : Int32 => r = cz_ahd d0 p1)) 0 0 (fun _ => False) := by
  refine cz_of (cc := cX7_ahead) (maxL := 2) (ret := (some .int)) (by decide) rfl ?_
  intro p e s m args below meth c s₁ Q B hml hv hQ
  obtain ⟨rfl, hP, hN⟩ := hv
  have hx := B.exec
  have hb := B.bytes
  have hr := B.returns
  have hts := atoms_spec (ws := wsX7_ahead) B.pre
  have hown : s.vm.findClass RX7 = some m.cls := findClass_of_methodNamed B.named
  have hlocks := B.notSynchronized
  have hK := hN.1
  have hl := lv_entry ([.int (nI d0), .int p1]) (n := 2) (Nat.le_of_ble_eq_true rfl)
  rw [lg_entry_eq]
  generalize (lg_sl ([.int (nI d0), .int p1]) ++ List.replicate (2 - (lg_sl ([.int (nI d0), .int p1])).length) Slot.unset).toArray = ls at hl ⊢
  have hl : lv_has ls 2 [(0, .int (nI d0)), (1, .int p1)] := hl
  refine lv_iload_n hx hb dX7_ahead_0 rfl (lv_at hl 1 rfl) ?_
  rcases cz_sw_0_2 p1 with c_1 | c_1 | c_1 | c_1
  · refine lv_tableIn (off := 27) (tgt := 28) hx hb dX7_ahead_1 (by rw [c_1]; decide) (by rw [c_1]; decide) (by rw [c_1]; decide) (by decide) ?_
    refine lv_iload_n hx hb dX7_ahead_28 rfl (lv_at hl 0 rfl) ?_
    refine lv_iconst (v := 5) hx hb dX7_ahead_29 (by decide) ?_
    refine lv_icmp_lt (tgt := 39) hx hb dX7_ahead_30 (by decide) (fun c_2 => ?_) (fun c_2 => ?_)
    · have c_2 : d0 < 5 := (nI_ltI (a := d0) (b := 5) (by omega) (by omega)).mp c_2
      refine lv_iconst (v := (-1)) hx hb dX7_ahead_39 (by decide) ?_
      rw [hQ]; exact W.iret (v := (-1)) hx hb hr (fun t ht hW => ⟨(-1), rfl, (c_X7_ahead_a1 d0 p1 hd0 c_1 c_2), ht⟩) (fun _ h => absurd h List.not_mem_nil) dX7_ahead_40
    · have c_2 : ¬ d0 < 5 := fun h => c_2 ((nI_ltI (a := d0) (b := 5) (by omega) (by omega)).mpr h)
      refine lv_iload_n hx hb dX7_ahead_33 rfl (lv_at hl 0 rfl) ?_
      refine lv_iconst (v := 5) hx hb dX7_ahead_34 (by decide) ?_
      refine lv_isub hx hb dX7_ahead_35 ?_
      refine cz_i (y := (nI (d0 - 5))) (pk_sub (a := d0) (b := 5) (by omega)) ?_
      refine lv_goto (tgt := 40) hx hb dX7_ahead_36 (by decide) ?_
      rw [hQ]; exact W.iret (v := (nI (d0 - 5))) hx hb hr (fun t ht hW => ⟨(nI (d0 - 5)), rfl, (c_X7_ahead_a2 d0 p1 hd0 c_1 c_2), ht⟩) (fun _ h => absurd h List.not_mem_nil) dX7_ahead_40
  · refine lv_tableIn (off := 40) (tgt := 41) hx hb dX7_ahead_1 (by rw [c_1]; decide) (by rw [c_1]; decide) (by rw [c_1]; decide) (by decide) ?_
    refine lv_iload_n hx hb dX7_ahead_41 rfl (lv_at hl 0 rfl) ?_
    refine lv_iconst (v := 5) hx hb dX7_ahead_42 (by decide) ?_
    refine lv_irem hx hb dX7_ahead_43 (by decide) ?_
    refine cz_i (y := (nI (d0 % 5))) (pk_rem (a := d0) (d := 5) (by omega) (by decide) (by decide)) ?_
    refine lv_iconst (v := 4) hx hb dX7_ahead_44 (by decide) ?_
    refine lv_icmp_ge (tgt := 54) hx hb dX7_ahead_45 (by decide) (fun c_3 => ?_) (fun c_3 => ?_)
    · have c_3 : 4 ≤ (d0 % 5) := (nI_leI (a := 4) (b := (d0 % 5)) (by omega) (by omega)).mp c_3
      refine lv_iconst (v := (-1)) hx hb dX7_ahead_54 (by decide) ?_
      rw [hQ]; exact W.iret (v := (-1)) hx hb hr (fun t ht hW => ⟨(-1), rfl, (c_X7_ahead_a3 d0 p1 hd0 c_1 c_3), ht⟩) (fun _ h => absurd h List.not_mem_nil) dX7_ahead_55
    · have c_3 : ¬ 4 ≤ (d0 % 5) := fun h => c_3 ((nI_leI (a := 4) (b := (d0 % 5)) (by omega) (by omega)).mpr h)
      refine lv_iload_n hx hb dX7_ahead_48 rfl (lv_at hl 0 rfl) ?_
      refine lv_iconst (v := 1) hx hb dX7_ahead_49 (by decide) ?_
      refine lv_iadd hx hb dX7_ahead_50 ?_
      refine cz_i (y := (nI (d0 + 1))) (nI_add d0 1) ?_
      refine lv_goto (tgt := 55) hx hb dX7_ahead_51 (by decide) ?_
      rw [hQ]; exact W.iret (v := (nI (d0 + 1))) hx hb hr (fun t ht hW => ⟨(nI (d0 + 1)), rfl, (c_X7_ahead_a4 d0 p1 hd0 c_1 c_3), ht⟩) (fun _ h => absurd h List.not_mem_nil) dX7_ahead_55
  · refine lv_tableIn (off := 55) (tgt := 56) hx hb dX7_ahead_1 (by rw [c_1]; decide) (by rw [c_1]; decide) (by rw [c_1]; decide) (by decide) ?_
    refine lv_iload_n hx hb dX7_ahead_56 rfl (lv_at hl 0 rfl) ?_
    refine lv_bipush (v := 15) hx hb dX7_ahead_57 (by decide) ?_
    refine lv_icmp_ge (tgt := 68) hx hb dX7_ahead_59 (by decide) (fun c_4 => ?_) (fun c_4 => ?_)
    · have c_4 : 15 ≤ d0 := (nI_leI (a := 15) (b := d0) (by omega) (by omega)).mp c_4
      refine lv_iconst (v := (-1)) hx hb dX7_ahead_68 (by decide) ?_
      rw [hQ]; exact W.iret (v := (-1)) hx hb hr (fun t ht hW => ⟨(-1), rfl, (c_X7_ahead_a5 d0 p1 hd0 c_1 c_4), ht⟩) (fun _ h => absurd h List.not_mem_nil) dX7_ahead_69
    · have c_4 : ¬ 15 ≤ d0 := fun h => c_4 ((nI_leI (a := 15) (b := d0) (by omega) (by omega)).mpr h)
      refine lv_iload_n hx hb dX7_ahead_62 rfl (lv_at hl 0 rfl) ?_
      refine lv_iconst (v := 5) hx hb dX7_ahead_63 (by decide) ?_
      refine lv_iadd hx hb dX7_ahead_64 ?_
      refine cz_i (y := (nI (d0 + 5))) (nI_add d0 5) ?_
      refine lv_goto (tgt := 69) hx hb dX7_ahead_65 (by decide) ?_
      rw [hQ]; exact W.iret (v := (nI (d0 + 5))) hx hb hr (fun t ht hW => ⟨(nI (d0 + 5)), rfl, (c_X7_ahead_a6 d0 p1 hd0 c_1 c_4), ht⟩) (fun _ h => absurd h List.not_mem_nil) dX7_ahead_69
  · refine lv_tableOut (tgt := 70) hx hb dX7_ahead_1 c_1 (by decide) ?_
    refine lv_iload_n hx hb dX7_ahead_70 rfl (lv_at hl 0 rfl) ?_
    refine lv_iconst (v := 5) hx hb dX7_ahead_71 (by decide) ?_
    refine lv_irem hx hb dX7_ahead_72 (by decide) ?_
    refine cz_i (y := (nI (d0 % 5))) (pk_rem (a := d0) (d := 5) (by omega) (by decide) (by decide)) ?_
    refine lv_if_le (tgt := 82) hx hb dX7_ahead_73 (by decide) (fun c_5 => ?_) (fun c_5 => ?_)
    · have c_5 : (d0 % 5) ≤ 0 := (nI_leI (a := (d0 % 5)) (b := 0) (by omega) (by omega)).mp c_5
      refine lv_iconst (v := (-1)) hx hb dX7_ahead_82 (by decide) ?_
      rw [hQ]; exact W.iret (v := (-1)) hx hb hr (fun t ht hW => ⟨(-1), rfl, (c_X7_ahead_a7 d0 p1 hd0 c_1 c_5), ht⟩) (fun _ h => absurd h List.not_mem_nil) dX7_ahead_83
    · have c_5 : ¬ (d0 % 5) ≤ 0 := fun h => c_5 ((nI_leI (a := (d0 % 5)) (b := 0) (by omega) (by omega)).mpr h)
      refine lv_iload_n hx hb dX7_ahead_76 rfl (lv_at hl 0 rfl) ?_
      refine lv_iconst (v := 1) hx hb dX7_ahead_77 (by decide) ?_
      refine lv_isub hx hb dX7_ahead_78 ?_
      refine cz_i (y := (nI (d0 - 1))) (pk_sub (a := d0) (b := 1) (by omega)) ?_
      refine lv_goto (tgt := 83) hx hb dX7_ahead_79 (by decide) ?_
      rw [hQ]; exact W.iret (v := (nI (d0 - 1))) hx hb hr (fun t ht hW => ⟨(nI (d0 - 1)), rfl, (c_X7_ahead_a8 d0 p1 hd0 c_1 c_5), ht⟩) (fun _ h => absurd h List.not_mem_nil) dX7_ahead_83

/-- the ACT may be done, by the reference -/
abbrev cz_may (act : Int32) (d e : Nat) (fl : Int32) (g : Nat → Int32) (k : Nat) : Prop := act < 2 ∨ (¬ cz_ahd d (nI e) = -1 ∧ cz_em fl (nI d) (cz_ahd d (nI e)) g k)
theorem cz_may_lt {act : Int32} {d e : Nat} {fl : Int32} {g : Nat → Int32} {k : Nat} (h : cz_may act d e fl g k) : act < 2 ∨ ¬ cz_ahd d (nI e) = -1 := h.imp id (fun q => q.1)
/-- the PLACE and the SIDE behind it -/
def cz_mD (act : Int32) (d e : Nat) : Nat := if act = 2 then (cz_ahd d (nI e)).toNatClampNeg else d
def cz_mE (act : Int32) (e : Nat) : Nat := if act = 2 then e else (e + (if act = 0 then 3 else 1)) % 4
/-- the same, for an ACT that is asked for -/
def cz_acB (act da ds fl : Int32) (g1 g2 : Nat → Int32) (k : Nat) : Int32 := if cz_in 0 act 2 then (if da = -1 then -103 else if cz_may act da.toNatClampNeg ds.toNatClampNeg fl g2 k then cz_sz (cz_mq (nI (cz_mD act da.toNatClampNeg ds.toNatClampNeg)) (nI (cz_mE act ds.toNatClampNeg)) fl g1 g2 k k) 20 else -103) else -102
def cz_nd (s : Int64) : Int64 := (1103515245 * s + 12345) &&& 2147483647
def cz_drw (z : Int64) : Int32 := (z / 65536 - z / 65536 / 3 * 3).toInt32
def cz_wmS (fl : Int32) (g1 g2 : Nat → Int32) (k : Nat) (d e : Nat) (a : Int32) (z : Int64) (all : Int32) : (Nat × Nat) × Int64 × Int32 := if cz_may a d e fl g2 k then ((cz_mD a d e, cz_mE a e), z, all + cz_sz (cz_mq (nI (cz_mD a d e)) (nI (cz_mE a e)) fl g1 g2 k k) 20) else ((d, e), z, all)
def cz_wm (d0 e0 : Nat) (s0 : Int64) (fl : Int32) (g1 g2 : Nat → Int32) (k : Nat) : Nat → (Nat × Nat) × Int64 × Int32
  | 0 => ((d0, e0), s0, 0)
  | i + 1 => cz_wmS fl g1 g2 k (cz_wm d0 e0 s0 fl g1 g2 k i).1.1 (cz_wm d0 e0 s0 fl g1 g2 k i).1.2 (cz_drw (cz_nd (cz_wm d0 e0 s0 fl g1 g2 k i).2.1)) (cz_nd (cz_wm d0 e0 s0 fl g1 g2 k i).2.1) (cz_wm d0 e0 s0 fl g1 g2 k i).2.2
theorem cz_wm_n {d0 e0 : Nat} {s0 : Int64} {fl : Int32} {g1 g2 : Nat → Int32} {k i : Nat} {d e : Nat} {s z : Int64} {all a : Int32} (h1 : d = (cz_wm d0 e0 s0 fl g1 g2 k i).1.1) (h2 : e = (cz_wm d0 e0 s0 fl g1 g2 k i).1.2) (h3 : s = (cz_wm d0 e0 s0 fl g1 g2 k i).2.1) (h4 : all = (cz_wm d0 e0 s0 fl g1 g2 k i).2.2) (hz : z = cz_nd s) (ha : a = cz_drw (cz_nd s)) (c : ¬ cz_may a d e fl g2 k) : cz_wm d0 e0 s0 fl g1 g2 k (i + 1) = ((d, e), z, all) := by
  rw [cz_wm, ← h1, ← h2, ← h3, ← h4, ← ha, ← hz, cz_wmS, if_neg c]
theorem cz_wm_y {d0 e0 : Nat} {s0 : Int64} {fl : Int32} {g1 g2 : Nat → Int32} {k i : Nat} {d e : Nat} {s z : Int64} {all a : Int32} (h1 : d = (cz_wm d0 e0 s0 fl g1 g2 k i).1.1) (h2 : e = (cz_wm d0 e0 s0 fl g1 g2 k i).1.2) (h3 : s = (cz_wm d0 e0 s0 fl g1 g2 k i).2.1) (h4 : all = (cz_wm d0 e0 s0 fl g1 g2 k i).2.2) (hz : z = cz_nd s) (ha : a = cz_drw (cz_nd s)) (c : cz_may a d e fl g2 k) : cz_wm d0 e0 s0 fl g1 g2 k (i + 1) = ((cz_mD a d e, cz_mE a e), z, all + cz_sz (cz_mq (nI (cz_mD a d e)) (nI (cz_mE a e)) fl g1 g2 k k) 20) := by
  rw [cz_wm, ← h1, ← h2, ← h3, ← h4, ← ha, ← hz, cz_wmS, if_pos c]
def cz_wmR (what : Int32) (t : (Nat × Nat) × Int64 × Int32) : Int32 := if what = 0 then nI t.1.1 else if what = 1 then nI t.1.2 else if what = 2 then t.2.2 else t.2.1.toInt32
abbrev cz_acM (act da ds fl : Int32) (g : Nat → Int32) (k : Nat) : Prop := cz_in 0 act 2 ∧ ¬ da = -1 ∧ cz_may act da.toNatClampNeg ds.toNatClampNeg fl g k

theorem c_X7_mayAct_a1 (p0 : Int32) (fl : Int32) (d0 : Nat) (e0 : Nat) (kc : Nat) (g2 : Nat → Int32) (r_1 : Int32) (hkc : kc ≤ 6) (hd0 : d0 < 20) (he0 : e0 < 4) (hr_1 : r_1 = cz_ahd d0 (nI e0)) (c_2 : p0 < 2) : cz_may p0 d0 e0 fl g2 kc := by (try subst_vars); first | exact Or.inl (by assumption) | exact Or.inr ⟨by assumption, by assumption⟩
theorem c_X7_mayAct_a2 (p0 : Int32) (fl : Int32) (d0 : Nat) (e0 : Nat) (kc : Nat) (g2 : Nat → Int32) (r_1 : Int32) (hkc : kc ≤ 6) (hd0 : d0 < 20) (he0 : e0 < 4) (hr_1 : r_1 = cz_ahd d0 (nI e0)) (c_2 : ¬ p0 < 2) (c_3 : r_1 = (-1)) : ¬ cz_may p0 d0 e0 fl g2 kc := by (try subst_vars); intro h; rcases h with h | h; exact absurd h (by assumption); first | exact absurd h.2 (by assumption) | exact absurd (by assumption) h.1
theorem c_X7_mayAct_a3 (p0 : Int32) (fl : Int32) (d0 : Nat) (e0 : Nat) (kc : Nat) (g2 : Nat → Int32) (r_1 : Int32) (hkc : kc ≤ 6) (hd0 : d0 < 20) (he0 : e0 < 4) (hr_1 : r_1 = cz_ahd d0 (nI e0)) (c_2 : ¬ p0 < 2) (c_3 : ¬ r_1 = (-1)) (hr_4 : ¬ cz_em fl (nI d0) r_1 g2 kc) : ¬ cz_may p0 d0 e0 fl g2 kc := by (try subst_vars); intro h; rcases h with h | h; exact absurd h (by assumption); first | exact absurd h.2 (by assumption) | exact absurd (by assumption) h.1
theorem c_X7_mayAct_a4 (p0 : Int32) (fl : Int32) (d0 : Nat) (e0 : Nat) (kc : Nat) (g2 : Nat → Int32) (r_1 : Int32) (hkc : kc ≤ 6) (hd0 : d0 < 20) (he0 : e0 < 4) (hr_1 : r_1 = cz_ahd d0 (nI e0)) (c_2 : ¬ p0 < 2) (c_3 : ¬ r_1 = (-1)) (hr_4 : cz_em fl (nI d0) r_1 g2 kc) : cz_may p0 d0 e0 fl g2 kc := by (try subst_vars); first | exact Or.inl (by assumption) | exact Or.inr ⟨by assumption, by assumption⟩
set_option maxHeartbeats 4000000 in
set_option maxRecDepth 100000 in
theorem c_X7_mayAct (l : Launch) (dC : Nat → ClassId) (dI : Nat → Nat → Nat) (cI cB : ClassId) (h0 : Nat) (p0 : Int32) (ih : Int32) (hn : Int32) (fl : Int32) (d0 : Nat) (e0 : Nat) (ac : Int32) (kc : Nat) (m1 : Nat) (m2 : Nat) (m3 : Nat) (m4 : Nat) (m5 : Nat) (pl : Nat) (pg : Nat) (fa : Int32) (nf : Int32) (m6 : Nat) (m7 : Nat) (m8 : Nat) (sd : Int64) (ik : Int32) (kh : Int32) (km : Nat) (ka : Int32) (ks : Int32) (kac : Int32) (m9 : Nat) (m10 : Nat) (m11 : Nat) (m12 : Nat) (hv : Int64) (g2 : Nat → Int32) (hkc : kc ≤ 6) (hd0 : d0 < 20) (he0 : e0 < 4) : Met l yX7_mayAct wsX7_mayAct ({ frames := 2, cells := 0, slots := 0, locals := 44 }) (cz_Pp dC dI cI cB [.ref h0, .int p0] [(h0, .inr (7, [.int ih, .int hn, .int fl, .int (nI d0), .int (nI e0), .int ac, .int (nI kc), .ref m1, .ref m2, .ref m3, .ref m4, .ref m5, .int (nI pl), .ref pg, .int fa, .int nf, .ref m6, .ref m7, .ref m8, .long sd, .int ik, .int kh, .int (nI km), .int ka, .int ks, .int kac, .ref m9, .ref m10, .ref m11, .ref m12, .long hv])), (m2, .inl (cI, 6, .inl g2))]) (vp_Si (fun r : Int32 => (r = 0 ∧ ¬ cz_may p0 d0 e0 fl g2 kc) ∨ (r = 1 ∧ cz_may p0 d0 e0 fl g2 kc))) 0 0 (fun _ => False) := by
  refine cz_of (cc := cX7_mayAct) (maxL := 3) (ret := (some .boolean)) (by decide) rfl ?_
  intro p e s m args below meth c s₁ Q B hml hv hQ
  obtain ⟨rfl, hP, hN⟩ := hv
  have hx := B.exec
  have hb := B.bytes
  have hr := B.returns
  have hts := atoms_spec (ws := wsX7_mayAct) B.pre
  have hown : s.vm.findClass RX7 = some m.cls := findClass_of_methodNamed B.named
  have hlocks := B.notSynchronized
  have hK := hN.1
  have hiX7 : ∀ w ∈ wsX70, w ∈ wsX7_mayAct := (fun _ h => List.mem_cons_of_mem _ (List.mem_append_right _ h))
  have hl := lv_entry ([.ref h0, .int p0]) (n := 3) (Nat.le_of_ble_eq_true rfl)
  rw [lg_entry_eq]
  generalize (lg_sl ([.ref h0, .int p0]) ++ List.replicate (3 - (lg_sl ([.ref h0, .int p0])).length) Slot.unset).toArray = ls at hl ⊢
  have hl : lv_has ls 3 [(0, .ref h0), (1, .int p0)] := hl
  refine lv_aload_n hx hb dX7_mayAct_0 rfl (lv_at hl 0 rfl) ?_
  refine va_get (D := (dC, dI)) (ci := 7) (v := .int (nI d0)) (C := RX7) (T := TX7) (N := 31) hx hb hts hiX7 hown hK hP 0 rfl rfl 3 (by decide) (hts (.fieldLink RX7 7 "LeftProfileModel" "dukeAt" "I") (List.mem_of_getElem? (i := 1) rfl)) (fun _ h9 => h9) rfl dX7_mayAct_1 ?_
  refine lv_aload_n hx hb dX7_mayAct_4 rfl (lv_at hl 0 rfl) ?_
  refine va_get (D := (dC, dI)) (ci := 7) (v := .int (nI e0)) (C := RX7) (T := TX7) (N := 31) hx hb hts hiX7 hown hK hP 0 rfl rfl 4 (by decide) (hts (.fieldLink RX7 13 "LeftProfileModel" "dukeSide" "I") (List.mem_of_getElem? (i := 2) rfl)) (fun _ h9 => h9) rfl dX7_mayAct_5 ?_
  refine vp_callSi (cz_run (va_runS (As := [.int (nI d0), .int (nI e0)]) (rest := []) ⟨hx, hb, hml, hown, hts⟩ (c_X7_ahead l dC dI cI cB d0 (nI e0) hd0) (va_cwS 2 hts gX7_mayAct_X7_ahead rfl rfl rfl (by decide +kernel) ⟨Nat.le_of_ble_eq_true rfl, Nat.le_of_ble_eq_true rfl⟩) (cz_pS (hP.sub (ws' := []) [] rfl) hN) rfl rfl hl.1 rfl (lv_room (Nat.le_of_ble_eq_true rfl)) dX7_mayAct_8 ⟨Nat.le_of_ble_eq_true rfl, Nat.le_of_ble_eq_true rfl⟩)) (fun r_1 hr_1 => ?_)
  refine lv_istore_n (lv' := [(2, .int r_1), (0, .ref h0), (1, .int p0)]) hx hb dX7_mayAct_11 rfl hl (by decide) rfl (fun ls hl => ?_)
  refine lv_iload_n hx hb dX7_mayAct_12 rfl (lv_at hl 2 rfl) ?_
  refine lv_iconst (v := 2) hx hb dX7_mayAct_13 (by decide) ?_
  refine lv_icmp_lt (tgt := 30) hx hb dX7_mayAct_14 (by decide) (fun c_2 => ?_) (fun c_2 => ?_)
  · refine lv_iconst (v := 1) hx hb dX7_mayAct_30 (by decide) ?_
    refine lv_goto (tgt := 35) hx hb dX7_mayAct_31 (by decide) ?_
    rw [hQ]; exact W.zret (v := 1) hx hb hr (by decide) (fun t ht hW => ⟨1, rfl, (Or.inr (⟨rfl, (c_X7_mayAct_a1 p0 fl d0 e0 kc g2 r_1 hkc hd0 he0 hr_1 c_2)⟩)), ht⟩) (fun _ h => absurd h List.not_mem_nil) dX7_mayAct_35
  · refine lv_iload_n hx hb dX7_mayAct_17 rfl (lv_at hl 0 rfl) ?_
    refine lv_iconst (v := (-1)) hx hb dX7_mayAct_18 (by decide) ?_
    refine lv_icmp_eq (tgt := 34) hx hb dX7_mayAct_19 (by decide) (fun c_3 => ?_) (fun c_3 => ?_)
    · refine lv_iconst (v := 0) hx hb dX7_mayAct_34 (by decide) ?_
      rw [hQ]; exact W.zret (v := 0) hx hb hr (by decide) (fun t ht hW => ⟨0, rfl, (Or.inl ⟨rfl, (c_X7_mayAct_a2 p0 fl d0 e0 kc g2 r_1 hkc hd0 he0 hr_1 c_2 c_3)⟩), ht⟩) (fun _ h => absurd h List.not_mem_nil) dX7_mayAct_35
    · refine lv_aload_n hx hb dX7_mayAct_22 rfl (lv_at hl 1 rfl) ?_
      refine lv_iload_n hx hb dX7_mayAct_23 rfl (lv_at hl 0 rfl) ?_
      refine vp_callSi (cz_run (va_runV (As := [.int r_1]) (rest := []) ⟨hx, hb, hml, hown, hts⟩ (c_X7_isEmpty l dC dI cI cB h0 r_1 ih hn fl (nI d0) (nI e0) ac kc m1 m2 m3 m4 m5 pl pg fa nf m6 m7 m8 sd ik kh km ka ks kac m9 m10 m11 m12 hv g2 hkc) (cwV 1 hts gX7_mayAct_X7_isEmpty rfl rfl rfl (by decide +kernel) ⟨Nat.le_of_ble_eq_true rfl, Nat.le_of_ble_eq_true rfl⟩) (cz_pV hP hN (va_recv hK hP (ci := 7) (q0 := 0) rfl rfl)) rfl rfl hl.1 rfl (lv_room (Nat.le_of_ble_eq_true rfl)) dX7_mayAct_24 ⟨Nat.le_of_ble_eq_true rfl, Nat.le_of_ble_eq_true rfl⟩)) (fun r_4 hr_4 => ?_)
      rcases hr_4 with ⟨rfl, hr_4⟩ | ⟨rfl, hr_4⟩
      · refine lv_if_eq (tgt := 34) hx hb dX7_mayAct_27 (by decide) (fun _ => ?_) (fun c => absurd (by decide) c)
        refine lv_iconst (v := 0) hx hb dX7_mayAct_34 (by decide) ?_
        rw [hQ]; exact W.zret (v := 0) hx hb hr (by decide) (fun t ht hW => ⟨0, rfl, (Or.inl ⟨rfl, (c_X7_mayAct_a3 p0 fl d0 e0 kc g2 r_1 hkc hd0 he0 hr_1 c_2 c_3 hr_4)⟩), ht⟩) (fun _ h => absurd h List.not_mem_nil) dX7_mayAct_35
      · refine lv_if_eq (tgt := 34) hx hb dX7_mayAct_27 (by decide) (fun c => absurd c (by decide)) (fun _ => ?_)
        refine lv_iconst (v := 1) hx hb dX7_mayAct_30 (by decide) ?_
        refine lv_goto (tgt := 35) hx hb dX7_mayAct_31 (by decide) ?_
        rw [hQ]; exact W.zret (v := 1) hx hb hr (by decide) (fun t ht hW => ⟨1, rfl, (Or.inr (⟨rfl, (c_X7_mayAct_a4 p0 fl d0 e0 kc g2 r_1 hkc hd0 he0 hr_1 c_2 c_3 hr_4)⟩)), ht⟩) (fun _ h => absurd h List.not_mem_nil) dX7_mayAct_35

theorem c_X7_doAct_a1 (p0 : Int32) (d0 : Nat) (e0 : Nat) (hd0 : d0 < 20) (he0 : e0 < 4) (hma : (p0 < 2 ∨ ¬ cz_ahd d0 (nI e0) = -1)) (c_1 : ¬ p0 = 2) (c_2 : ¬ p0 = 0) : d0 = cz_mD p0 d0 e0 := by (try subst_vars); unfold cz_mD; rw [if_neg (by assumption)]
theorem c_X7_doAct_a2 (p0 : Int32) (d0 : Nat) (e0 : Nat) (hd0 : d0 < 20) (he0 : e0 < 4) (hma : (p0 < 2 ∨ ¬ cz_ahd d0 (nI e0) = -1)) (c_1 : ¬ p0 = 2) (c_2 : ¬ p0 = 0) : ((e0 + 1) % 4) = cz_mE p0 e0 := by (try subst_vars); simp only [cz_mE]; (repeat' split) <;> (first | rfl | contradiction | omega | (exfalso; simp_all; done))
theorem c_X7_doAct_a3 (p0 : Int32) (d0 : Nat) (e0 : Nat) (hd0 : d0 < 20) (he0 : e0 < 4) (hma : (p0 < 2 ∨ ¬ cz_ahd d0 (nI e0) = -1)) (c_1 : ¬ p0 = 2) (c_2 : p0 = 0) : d0 = cz_mD p0 d0 e0 := by (try subst_vars); unfold cz_mD; rw [if_neg (by assumption)]
theorem c_X7_doAct_a4 (p0 : Int32) (d0 : Nat) (e0 : Nat) (hd0 : d0 < 20) (he0 : e0 < 4) (hma : (p0 < 2 ∨ ¬ cz_ahd d0 (nI e0) = -1)) (c_1 : ¬ p0 = 2) (c_2 : p0 = 0) : ((e0 + 3) % 4) = cz_mE p0 e0 := by (try subst_vars); simp only [cz_mE]; (repeat' split) <;> (first | rfl | contradiction | omega | (exfalso; simp_all; done))
theorem c_X7_doAct_a5 (p0 : Int32) (d0 : Nat) (e0 : Nat) (r_3 : Int32) (hd0 : d0 < 20) (he0 : e0 < 4) (hma : (p0 < 2 ∨ ¬ cz_ahd d0 (nI e0) = -1)) (c_1 : p0 = 2) (hr_3 : r_3 = cz_ahd d0 (nI e0)) : ¬ cz_ahd d0 (nI e0) = -1 := by rcases hma with q | q; (subst_vars; exact absurd q (by decide)); exact q
theorem c_X7_doAct_a6 (p0 : Int32) (d0 : Nat) (e0 : Nat) (k_4 : Nat) (hd0 : d0 < 20) (he0 : e0 < 4) (hma : (p0 < 2 ∨ ¬ cz_ahd d0 (nI e0) = -1)) (c_1 : p0 = 2) (hk_4 : k_4 < 20) (ek_4 : cz_ahd d0 (nI e0) = nI k_4) : k_4 = cz_mD p0 d0 e0 := by subst_vars; unfold cz_mD; rw [if_pos rfl, ek_4, nI_clamp (by omega)]
theorem c_X7_doAct_a7 (p0 : Int32) (d0 : Nat) (e0 : Nat) (k_4 : Nat) (hd0 : d0 < 20) (he0 : e0 < 4) (hma : (p0 < 2 ∨ ¬ cz_ahd d0 (nI e0) = -1)) (c_1 : p0 = 2) (hk_4 : k_4 < 20) (ek_4 : cz_ahd d0 (nI e0) = nI k_4) : e0 = cz_mE p0 e0 := by (try subst_vars); simp only [cz_mE]; (repeat' split) <;> (first | rfl | contradiction | omega | (exfalso; simp_all; done))
set_option maxHeartbeats 4000000 in
set_option maxRecDepth 100000 in
theorem c_X7_doAct (l : Launch) (dC : Nat → ClassId) (dI : Nat → Nat → Nat) (cI cB : ClassId) (h0 : Nat) (p0 : Int32) (ih : Int32) (hn : Int32) (fl : Int32) (d0 : Nat) (e0 : Nat) (ac : Int32) (kc : Nat) (m1 : Nat) (m2 : Nat) (m3 : Nat) (m4 : Nat) (m5 : Nat) (pl : Nat) (pg : Nat) (fa : Int32) (nf : Int32) (m6 : Nat) (m7 : Nat) (m8 : Nat) (sd : Int64) (ik : Int32) (kh : Int32) (km : Nat) (ka : Int32) (ks : Int32) (kac : Int32) (m9 : Nat) (m10 : Nat) (m11 : Nat) (m12 : Nat) (hv : Int64) (sz : Nat) (hd0 : d0 < 20) (he0 : e0 < 4) (hma : (p0 < 2 ∨ ¬ cz_ahd d0 (nI e0) = -1)) : Met l yX7_doAct wsX7_doAct ({ frames := 1, cells := 0, slots := 0, locals := 21 }) (cz_Pm dC dI cI cB [.ref h0, .int p0] [(h0, .inr (7, [.int ih, .int hn, .int fl, .int (nI d0), .int (nI e0), .int ac, .int (nI kc), .ref m1, .ref m2, .ref m3, .ref m4, .ref m5, .int (nI pl), .ref pg, .int fa, .int nf, .ref m6, .ref m7, .ref m8, .long sd, .int ik, .int kh, .int (nI km), .int ka, .int ks, .int kac, .ref m9, .ref m10, .ref m11, .ref m12, .long hv]))] sz) (va_Qv (fun _ : Unit => True) (fun _ t => ∃ (d9 : Nat) (e9 : Nat), (d9 < 20) ∧ (e9 < 4) ∧ (d9 = cz_mD p0 d0 e0) ∧ (e9 = cz_mE p0 e0) ∧ va_P (dC, dI) vwCl [(h0, .inr (7, [.int ih, .int hn, .int fl, .int (nI d9), .int (nI e9), .int ac, .int (nI kc), .ref m1, .ref m2, .ref m3, .ref m4, .ref m5, .int (nI pl), .ref pg, .int fa, .int nf, .ref m6, .ref m7, .ref m8, .long sd, .int ik, .int kh, .int (nI km), .int ka, .int ks, .int kac, .ref m9, .ref m10, .ref m11, .ref m12, .long hv]))] t.heap ∧ va_D (va_A [(h0, .inr (7, [.int ih, .int hn, .int fl, .int (nI d0), .int (nI e0), .int ac, .int (nI kc), .ref m1, .ref m2, .ref m3, .ref m4, .ref m5, .int (nI pl), .ref pg, .int fa, .int nf, .ref m6, .ref m7, .ref m8, .long sd, .int ik, .int kh, .int (nI km), .int ka, .int ks, .int kac, .ref m9, .ref m10, .ref m11, .ref m12, .long hv]))] sz) [(h0, .inr (7, [.int ih, .int hn, .int fl, .int (nI d9), .int (nI e9), .int ac, .int (nI kc), .ref m1, .ref m2, .ref m3, .ref m4, .ref m5, .int (nI pl), .ref pg, .int fa, .int nf, .ref m6, .ref m7, .ref m8, .long sd, .int ik, .int kh, .int (nI km), .int ka, .int ks, .int kac, .ref m9, .ref m10, .ref m11, .ref m12, .long hv]))]) (va_A [(h0, .inr (7, [.int ih, .int hn, .int fl, .int (nI d0), .int (nI e0), .int ac, .int (nI kc), .ref m1, .ref m2, .ref m3, .ref m4, .ref m5, .int (nI pl), .ref pg, .int fa, .int nf, .ref m6, .ref m7, .ref m8, .long sd, .int ik, .int kh, .int (nI km), .int ka, .int ks, .int kac, .ref m9, .ref m10, .ref m11, .ref m12, .long hv]))] sz)) 0 0 (va_A [(h0, .inr (7, [.int ih, .int hn, .int fl, .int (nI d0), .int (nI e0), .int ac, .int (nI kc), .ref m1, .ref m2, .ref m3, .ref m4, .ref m5, .int (nI pl), .ref pg, .int fa, .int nf, .ref m6, .ref m7, .ref m8, .long sd, .int ik, .int kh, .int (nI km), .int ka, .int ks, .int kac, .ref m9, .ref m10, .ref m11, .ref m12, .long hv]))] sz) := by
  refine cz_of (cc := cX7_doAct) (maxL := 2) (ret := none) (by decide) rfl ?_
  intro p e s m args below meth c s₁ Q B hml hv hQ
  obtain ⟨rfl, hsz, hP, hN, hD0⟩ := hv
  have hx := B.exec
  have hb := B.bytes
  have hr := B.returns
  have hts := atoms_spec (ws := wsX7_doAct) B.pre
  have hown : s.vm.findClass RX7 = some m.cls := findClass_of_methodNamed B.named
  have hlocks := B.notSynchronized
  have hK := hN.1
  have hiX7 : ∀ w ∈ wsX70, w ∈ wsX7_doAct := (fun _ h => List.mem_cons_of_mem _ (List.mem_append_right _ h))
  subst hsz
  have hD := hD0.self (sz := s.heap.size)
  generalize hAe : va_A [(h0, .inr (7, [.int ih, .int hn, .int fl, .int (nI d0), .int (nI e0), .int ac, .int (nI kc), .ref m1, .ref m2, .ref m3, .ref m4, .ref m5, .int (nI pl), .ref pg, .int fa, .int nf, .ref m6, .ref m7, .ref m8, .long sd, .int ik, .int kh, .int (nI km), .int ka, .int ks, .int kac, .ref m9, .ref m10, .ref m11, .ref m12, .long hv]))] s.heap.size = A at hD hQ ⊢
  have hA : ∀ q : Nat, s.heap.size ≤ q → A q := fun q h => by rw [← hAe]; exact Or.inr h
  have hS : va_S A s.heap s.heap [] := va_S.rf
  obtain ⟨H, eH⟩ : ∃ H, H = s.heap := ⟨_, rfl⟩
  have hP : va_P (dC, dI) vwCl [(h0, .inr (7, [.int ih, .int hn, .int fl, .int (nI d0), .int (nI e0), .int ac, .int (nI kc), .ref m1, .ref m2, .ref m3, .ref m4, .ref m5, .int (nI pl), .ref pg, .int fa, .int nf, .ref m6, .ref m7, .ref m8, .long sd, .int ik, .int kh, .int (nI km), .int ka, .int ks, .int kac, .ref m9, .ref m10, .ref m11, .ref m12, .long hv]))] s.heap := hP
  have hl := lv_entry ([.ref h0, .int p0]) (n := 2) (Nat.le_of_ble_eq_true rfl)
  rw [lg_entry_eq]
  generalize (lg_sl ([.ref h0, .int p0]) ++ List.replicate (2 - (lg_sl ([.ref h0, .int p0])).length) Slot.unset).toArray = ls at hl ⊢
  have hl : lv_has ls 2 [(0, .ref h0), (1, .int p0)] := hl
  refine lv_iload_n hx hb dX7_doAct_0 rfl (lv_at hl 1 rfl) ?_
  refine lv_iconst (v := 2) hx hb dX7_doAct_1 (by decide) ?_
  refine lv_icmp_ne (tgt := 23) hx hb dX7_doAct_2 (by decide) (fun c_1 => ?_) (fun c_1 => ?_)
  · refine lv_aload_n hx hb dX7_doAct_23 rfl (lv_at hl 0 rfl) ?_
    refine lv_aload_n hx hb dX7_doAct_24 rfl (lv_at hl 0 rfl) ?_
    refine va_get (D := (dC, dI)) (ci := 7) (v := .int (nI e0)) (C := RX7) (T := TX7) (N := 31) hx hb hts hiX7 hown hK hP 0 rfl rfl 4 (by decide) (hts (.fieldLink RX7 13 "LeftProfileModel" "dukeSide" "I") (List.mem_of_getElem? (i := 2) rfl)) (fun _ h9 => h9) rfl dX7_doAct_25 ?_
    refine lv_iload_n hx hb dX7_doAct_28 rfl (lv_at hl 1 rfl) ?_
    refine lv_if_ne (tgt := 36) hx hb dX7_doAct_29 (by decide) (fun c_2 => ?_) (fun c_2 => ?_)
    · refine lv_iconst (v := 1) hx hb dX7_doAct_36 (by decide) ?_
      refine lv_iadd hx hb dX7_doAct_37 ?_
      refine cz_i (y := (nI (e0 + 1))) (nI_add e0 1) ?_
      refine lv_iconst (v := 4) hx hb dX7_doAct_38 (by decide) ?_
      refine lv_irem hx hb dX7_doAct_39 (by decide) ?_
      refine cz_i (y := (nI ((e0 + 1) % 4))) (pk_rem (a := (e0 + 1)) (d := 4) (by omega) (by decide) (by decide)) ?_
      refine va_put (D := (dC, dI)) (ci := 7) (v := .int (nI ((e0 + 1) % 4))) (ty := .int) (C := RX7) (T := TX7) (N := 31) hx hb hts hiX7 tyX7 tyX7_ok nmX7 hown hK hP hD hS 0 rfl rfl 4 (by decide) (hts (.fieldLink RX7 13 "LeftProfileModel" "dukeSide" "I") (List.mem_of_getElem? (i := 2) rfl)) (fun _ h9 => h9) rfl (by decide +kernel) rfl rfl (Nat.le_of_ble_eq_true rfl) dX7_doAct_40 (fun H locs hP hD hS => ?_)
      have hP : va_P (dC, dI) vwCl [(h0, .inr (7, [.int ih, .int hn, .int fl, .int (nI d0), .int (nI ((e0 + 1) % 4)), .int ac, .int (nI kc), .ref m1, .ref m2, .ref m3, .ref m4, .ref m5, .int (nI pl), .ref pg, .int fa, .int nf, .ref m6, .ref m7, .ref m8, .long sd, .int ik, .int kh, .int (nI km), .int ka, .int ks, .int kac, .ref m9, .ref m10, .ref m11, .ref m12, .long hv]))] H := hP
      have hD : va_D A [(h0, .inr (7, [.int ih, .int hn, .int fl, .int (nI d0), .int (nI ((e0 + 1) % 4)), .int ac, .int (nI kc), .ref m1, .ref m2, .ref m3, .ref m4, .ref m5, .int (nI pl), .ref pg, .int fa, .int nf, .ref m6, .ref m7, .ref m8, .long sd, .int ik, .int kh, .int (nI km), .int ka, .int ks, .int kac, .ref m9, .ref m10, .ref m11, .ref m12, .long hv]))] := hD
      refine W.widen (k := 0) (n := 0) (Nat.le_of_ble_eq_true rfl) (Nat.le_of_ble_eq_true rfl) ?_
      have hP9 := hP.sub (ws' := [(h0, .inr (7, [.int ih, .int hn, .int fl, .int (nI d0), .int (nI ((e0 + 1) % 4)), .int ac, .int (nI kc), .ref m1, .ref m2, .ref m3, .ref m4, .ref m5, .int (nI pl), .ref pg, .int fa, .int nf, .ref m6, .ref m7, .ref m8, .long sd, .int ik, .int kh, .int (nI km), .int ka, .int ks, .int kac, .ref m9, .ref m10, .ref m11, .ref m12, .long hv]))]) [0] rfl
      have hD9 := hD.sub (ws' := [(h0, .inr (7, [.int ih, .int hn, .int fl, .int (nI d0), .int (nI ((e0 + 1) % 4)), .int ac, .int (nI kc), .ref m1, .ref m2, .ref m3, .ref m4, .ref m5, .int (nI pl), .ref pg, .int fa, .int nf, .ref m6, .ref m7, .ref m8, .long sd, .int ik, .int kh, .int (nI km), .int ka, .int ks, .int kac, .ref m9, .ref m10, .ref m11, .ref m12, .long hv]))]) [0] (by decide) rfl
      rw [hQ]; exact W.vret hx hb hr (fun t ht hW => ⟨⟨(), rfl, trivial, ⟨d0, ((e0 + 1) % 4), hd0, (by omega), (c_X7_doAct_a1 p0 d0 e0 hd0 he0 hma c_1 c_2), (c_X7_doAct_a2 p0 d0 e0 hd0 he0 hma c_1 c_2), by rw [ht]; exact hP9, hD9⟩⟩, hS.F ht⟩) hS.2.2 dX7_doAct_43
    · refine lv_iconst (v := 3) hx hb dX7_doAct_32 (by decide) ?_
      refine lv_goto (tgt := 37) hx hb dX7_doAct_33 (by decide) ?_
      refine lv_iadd hx hb dX7_doAct_37 ?_
      refine cz_i (y := (nI (e0 + 3))) (nI_add e0 3) ?_
      refine lv_iconst (v := 4) hx hb dX7_doAct_38 (by decide) ?_
      refine lv_irem hx hb dX7_doAct_39 (by decide) ?_
      refine cz_i (y := (nI ((e0 + 3) % 4))) (pk_rem (a := (e0 + 3)) (d := 4) (by omega) (by decide) (by decide)) ?_
      refine va_put (D := (dC, dI)) (ci := 7) (v := .int (nI ((e0 + 3) % 4))) (ty := .int) (C := RX7) (T := TX7) (N := 31) hx hb hts hiX7 tyX7 tyX7_ok nmX7 hown hK hP hD hS 0 rfl rfl 4 (by decide) (hts (.fieldLink RX7 13 "LeftProfileModel" "dukeSide" "I") (List.mem_of_getElem? (i := 2) rfl)) (fun _ h9 => h9) rfl (by decide +kernel) rfl rfl (Nat.le_of_ble_eq_true rfl) dX7_doAct_40 (fun H locs hP hD hS => ?_)
      have hP : va_P (dC, dI) vwCl [(h0, .inr (7, [.int ih, .int hn, .int fl, .int (nI d0), .int (nI ((e0 + 3) % 4)), .int ac, .int (nI kc), .ref m1, .ref m2, .ref m3, .ref m4, .ref m5, .int (nI pl), .ref pg, .int fa, .int nf, .ref m6, .ref m7, .ref m8, .long sd, .int ik, .int kh, .int (nI km), .int ka, .int ks, .int kac, .ref m9, .ref m10, .ref m11, .ref m12, .long hv]))] H := hP
      have hD : va_D A [(h0, .inr (7, [.int ih, .int hn, .int fl, .int (nI d0), .int (nI ((e0 + 3) % 4)), .int ac, .int (nI kc), .ref m1, .ref m2, .ref m3, .ref m4, .ref m5, .int (nI pl), .ref pg, .int fa, .int nf, .ref m6, .ref m7, .ref m8, .long sd, .int ik, .int kh, .int (nI km), .int ka, .int ks, .int kac, .ref m9, .ref m10, .ref m11, .ref m12, .long hv]))] := hD
      refine W.widen (k := 0) (n := 0) (Nat.le_of_ble_eq_true rfl) (Nat.le_of_ble_eq_true rfl) ?_
      have hP9 := hP.sub (ws' := [(h0, .inr (7, [.int ih, .int hn, .int fl, .int (nI d0), .int (nI ((e0 + 3) % 4)), .int ac, .int (nI kc), .ref m1, .ref m2, .ref m3, .ref m4, .ref m5, .int (nI pl), .ref pg, .int fa, .int nf, .ref m6, .ref m7, .ref m8, .long sd, .int ik, .int kh, .int (nI km), .int ka, .int ks, .int kac, .ref m9, .ref m10, .ref m11, .ref m12, .long hv]))]) [0] rfl
      have hD9 := hD.sub (ws' := [(h0, .inr (7, [.int ih, .int hn, .int fl, .int (nI d0), .int (nI ((e0 + 3) % 4)), .int ac, .int (nI kc), .ref m1, .ref m2, .ref m3, .ref m4, .ref m5, .int (nI pl), .ref pg, .int fa, .int nf, .ref m6, .ref m7, .ref m8, .long sd, .int ik, .int kh, .int (nI km), .int ka, .int ks, .int kac, .ref m9, .ref m10, .ref m11, .ref m12, .long hv]))]) [0] (by decide) rfl
      rw [hQ]; exact W.vret hx hb hr (fun t ht hW => ⟨⟨(), rfl, trivial, ⟨d0, ((e0 + 3) % 4), hd0, (by omega), (c_X7_doAct_a3 p0 d0 e0 hd0 he0 hma c_1 c_2), (c_X7_doAct_a4 p0 d0 e0 hd0 he0 hma c_1 c_2), by rw [ht]; exact hP9, hD9⟩⟩, hS.F ht⟩) hS.2.2 dX7_doAct_43
  · refine lv_aload_n hx hb dX7_doAct_5 rfl (lv_at hl 0 rfl) ?_
    refine lv_aload_n hx hb dX7_doAct_6 rfl (lv_at hl 0 rfl) ?_
    refine va_get (D := (dC, dI)) (ci := 7) (v := .int (nI d0)) (C := RX7) (T := TX7) (N := 31) hx hb hts hiX7 hown hK hP 0 rfl rfl 3 (by decide) (hts (.fieldLink RX7 7 "LeftProfileModel" "dukeAt" "I") (List.mem_of_getElem? (i := 1) rfl)) (fun _ h9 => h9) rfl dX7_doAct_7 ?_
    refine lv_aload_n hx hb dX7_doAct_10 rfl (lv_at hl 0 rfl) ?_
    refine va_get (D := (dC, dI)) (ci := 7) (v := .int (nI e0)) (C := RX7) (T := TX7) (N := 31) hx hb hts hiX7 hown hK hP 0 rfl rfl 4 (by decide) (hts (.fieldLink RX7 13 "LeftProfileModel" "dukeSide" "I") (List.mem_of_getElem? (i := 2) rfl)) (fun _ h9 => h9) rfl dX7_doAct_11 ?_
    refine vp_callSi (cz_run (va_runS (As := [.int (nI d0), .int (nI e0)]) (rest := [.ref h0]) ⟨hx, hb, hml, hown, hts⟩ (c_X7_ahead l dC dI cI cB d0 (nI e0) hd0) (va_cwS 2 hts gX7_doAct_X7_ahead rfl rfl rfl (by decide +kernel) ⟨Nat.le_of_ble_eq_true rfl, Nat.le_of_ble_eq_true rfl⟩) (cz_pS (hP.sub (ws' := []) [] rfl) hN) rfl rfl hl.1 rfl (lv_room (Nat.le_of_ble_eq_true rfl)) dX7_doAct_14 ⟨Nat.le_of_ble_eq_true rfl, Nat.le_of_ble_eq_true rfl⟩)) (fun r_3 hr_3 => ?_)
    obtain ⟨k_4, hk_4, ek_4⟩ := cz_ahd_n (x := (nI e0)) hd0 (c_X7_doAct_a5 p0 d0 e0 r_3 hd0 he0 hma c_1 hr_3)
    rw [ek_4] at hr_3
    obtain rfl := hr_3
    refine va_put (D := (dC, dI)) (ci := 7) (v := .int (nI k_4)) (ty := .int) (C := RX7) (T := TX7) (N := 31) hx hb hts hiX7 tyX7 tyX7_ok nmX7 hown hK hP hD hS 0 rfl rfl 3 (by decide) (hts (.fieldLink RX7 7 "LeftProfileModel" "dukeAt" "I") (List.mem_of_getElem? (i := 1) rfl)) (fun _ h9 => h9) rfl (by decide +kernel) rfl rfl (Nat.le_of_ble_eq_true rfl) dX7_doAct_17 (fun H locs hP hD hS => ?_)
    have hP : va_P (dC, dI) vwCl [(h0, .inr (7, [.int ih, .int hn, .int fl, .int (nI k_4), .int (nI e0), .int ac, .int (nI kc), .ref m1, .ref m2, .ref m3, .ref m4, .ref m5, .int (nI pl), .ref pg, .int fa, .int nf, .ref m6, .ref m7, .ref m8, .long sd, .int ik, .int kh, .int (nI km), .int ka, .int ks, .int kac, .ref m9, .ref m10, .ref m11, .ref m12, .long hv]))] H := hP
    have hD : va_D A [(h0, .inr (7, [.int ih, .int hn, .int fl, .int (nI k_4), .int (nI e0), .int ac, .int (nI kc), .ref m1, .ref m2, .ref m3, .ref m4, .ref m5, .int (nI pl), .ref pg, .int fa, .int nf, .ref m6, .ref m7, .ref m8, .long sd, .int ik, .int kh, .int (nI km), .int ka, .int ks, .int kac, .ref m9, .ref m10, .ref m11, .ref m12, .long hv]))] := hD
    refine lv_goto (tgt := 43) hx hb dX7_doAct_20 (by decide) ?_
    refine W.widen (k := 0) (n := 0) (Nat.le_of_ble_eq_true rfl) (Nat.le_of_ble_eq_true rfl) ?_
    have hP9 := hP.sub (ws' := [(h0, .inr (7, [.int ih, .int hn, .int fl, .int (nI k_4), .int (nI e0), .int ac, .int (nI kc), .ref m1, .ref m2, .ref m3, .ref m4, .ref m5, .int (nI pl), .ref pg, .int fa, .int nf, .ref m6, .ref m7, .ref m8, .long sd, .int ik, .int kh, .int (nI km), .int ka, .int ks, .int kac, .ref m9, .ref m10, .ref m11, .ref m12, .long hv]))]) [0] rfl
    have hD9 := hD.sub (ws' := [(h0, .inr (7, [.int ih, .int hn, .int fl, .int (nI k_4), .int (nI e0), .int ac, .int (nI kc), .ref m1, .ref m2, .ref m3, .ref m4, .ref m5, .int (nI pl), .ref pg, .int fa, .int nf, .ref m6, .ref m7, .ref m8, .long sd, .int ik, .int kh, .int (nI km), .int ka, .int ks, .int kac, .ref m9, .ref m10, .ref m11, .ref m12, .long hv]))]) [0] (by decide) rfl
    rw [hQ]; exact W.vret hx hb hr (fun t ht hW => ⟨⟨(), rfl, trivial, ⟨k_4, e0, hk_4, he0, (c_X7_doAct_a6 p0 d0 e0 k_4 hd0 he0 hma c_1 hk_4 ek_4), (c_X7_doAct_a7 p0 d0 e0 k_4 hd0 he0 hma c_1 hk_4 ek_4), by rw [ht]; exact hP9, hD9⟩⟩, hS.F ht⟩) hS.2.2 dX7_doAct_43

theorem c_X7_act_a1 (p0 : Int32) (fl : Int32) (da : Int32) (ds : Int32) (kc : Nat) (g2 : Nat → Int32) (hkc : kc ≤ 6) (hpl : cz_pl g2) (hdu : cz_du da ds) (hr_1 : ¬ cz_in 0 p0 2) : da = if cz_acM p0 da ds fl g2 kc then nI (cz_mD p0 da.toNatClampNeg ds.toNatClampNeg) else da := by rw [if_neg]; intro h; first | exact absurd h.1 (by assumption) | exact absurd (by assumption) h.2.1 | (simp_all; done)
theorem c_X7_act_a2 (p0 : Int32) (fl : Int32) (da : Int32) (ds : Int32) (kc : Nat) (g2 : Nat → Int32) (hkc : kc ≤ 6) (hpl : cz_pl g2) (hdu : cz_du da ds) (hr_1 : ¬ cz_in 0 p0 2) : ds = if cz_acM p0 da ds fl g2 kc then nI (cz_mE p0 ds.toNatClampNeg) else ds := by rw [if_neg]; intro h; first | exact absurd h.1 (by assumption) | exact absurd (by assumption) h.2.1 | (simp_all; done)
theorem c_X7_act_a3 (p0 : Int32) (fl : Int32) (da : Int32) (ds : Int32) (kc : Nat) (g1 : Nat → Int32) (g2 : Nat → Int32) (g3 : Nat → Int32) (hkc : kc ≤ 6) (hpl : cz_pl g2) (hdu : cz_du da ds) (hr_1 : ¬ cz_in 0 p0 2) : g3 = if cz_acM p0 da ds fl g2 kc then cz_ml 1 (fun i => cz_sw (g1 i) (g2 i) (nI (cz_mD p0 da.toNatClampNeg ds.toNatClampNeg)) (nI (cz_mE p0 ds.toNatClampNeg)) fl g2 kc) g3 kc else g3 := by rw [if_neg]; intro h; first | exact absurd h.1 (by assumption) | exact absurd (by assumption) h.2.1 | (simp_all; done)
theorem c_X7_act_a4 (p0 : Int32) (fl : Int32) (da : Int32) (ds : Int32) (kc : Nat) (g1 : Nat → Int32) (g2 : Nat → Int32) (g4 : Nat → Int32) (hkc : kc ≤ 6) (hpl : cz_pl g2) (hdu : cz_du da ds) (hr_1 : ¬ cz_in 0 p0 2) : g4 = if cz_acM p0 da ds fl g2 kc then cz_ml 2 (fun i => cz_sw (g1 i) (g2 i) (nI (cz_mD p0 da.toNatClampNeg ds.toNatClampNeg)) (nI (cz_mE p0 ds.toNatClampNeg)) fl g2 kc) g4 kc else g4 := by rw [if_neg]; intro h; first | exact absurd h.1 (by assumption) | exact absurd (by assumption) h.2.1 | (simp_all; done)
theorem c_X7_act_a5 (p0 : Int32) (fl : Int32) (da : Int32) (ds : Int32) (kc : Nat) (g1 : Nat → Int32) (g2 : Nat → Int32) (hkc : kc ≤ 6) (hpl : cz_pl g2) (hdu : cz_du da ds) (hr_1 : ¬ cz_in 0 p0 2) : ((-102) : Int32) = cz_acB p0 da ds fl g1 g2 kc := by (try subst_vars); first | rfl | (simp only [cz_acB, *, if_true, if_false]; done) | (simp only [cz_acB, cz_in, *, and_self, and_true, true_and, and_false, false_and, if_true, if_false, not_true_eq_false, not_false_eq_true]; done) | ((try simp only [cz_acB]); (repeat' split) <;> (first | rfl | contradiction | ((try simp only [cz_in, cz_du, cz_lt, cz_le, cz_eq, cz_l] at *) <;> (first | omega | (simp_all; done)))))
theorem c_X7_act_a6 (p0 : Int32) (fl : Int32) (da : Int32) (ds : Int32) (kc : Nat) (g2 : Nat → Int32) (hkc : kc ≤ 6) (hpl : cz_pl g2) (hdu : cz_du da ds) (hr_1 : cz_in 0 p0 2) (c_2 : da = (-1)) : da = if cz_acM p0 da ds fl g2 kc then nI (cz_mD p0 da.toNatClampNeg ds.toNatClampNeg) else da := by rw [if_neg]; intro h; first | exact absurd h.1 (by assumption) | exact absurd (by assumption) h.2.1 | (simp_all; done)
theorem c_X7_act_a7 (p0 : Int32) (fl : Int32) (da : Int32) (ds : Int32) (kc : Nat) (g2 : Nat → Int32) (hkc : kc ≤ 6) (hpl : cz_pl g2) (hdu : cz_du da ds) (hr_1 : cz_in 0 p0 2) (c_2 : da = (-1)) : ds = if cz_acM p0 da ds fl g2 kc then nI (cz_mE p0 ds.toNatClampNeg) else ds := by rw [if_neg]; intro h; first | exact absurd h.1 (by assumption) | exact absurd (by assumption) h.2.1 | (simp_all; done)
theorem c_X7_act_a8 (p0 : Int32) (fl : Int32) (da : Int32) (ds : Int32) (kc : Nat) (g1 : Nat → Int32) (g2 : Nat → Int32) (g3 : Nat → Int32) (hkc : kc ≤ 6) (hpl : cz_pl g2) (hdu : cz_du da ds) (hr_1 : cz_in 0 p0 2) (c_2 : da = (-1)) : g3 = if cz_acM p0 da ds fl g2 kc then cz_ml 1 (fun i => cz_sw (g1 i) (g2 i) (nI (cz_mD p0 da.toNatClampNeg ds.toNatClampNeg)) (nI (cz_mE p0 ds.toNatClampNeg)) fl g2 kc) g3 kc else g3 := by rw [if_neg]; intro h; first | exact absurd h.1 (by assumption) | exact absurd (by assumption) h.2.1 | (simp_all; done)
theorem c_X7_act_a9 (p0 : Int32) (fl : Int32) (da : Int32) (ds : Int32) (kc : Nat) (g1 : Nat → Int32) (g2 : Nat → Int32) (g4 : Nat → Int32) (hkc : kc ≤ 6) (hpl : cz_pl g2) (hdu : cz_du da ds) (hr_1 : cz_in 0 p0 2) (c_2 : da = (-1)) : g4 = if cz_acM p0 da ds fl g2 kc then cz_ml 2 (fun i => cz_sw (g1 i) (g2 i) (nI (cz_mD p0 da.toNatClampNeg ds.toNatClampNeg)) (nI (cz_mE p0 ds.toNatClampNeg)) fl g2 kc) g4 kc else g4 := by rw [if_neg]; intro h; first | exact absurd h.1 (by assumption) | exact absurd (by assumption) h.2.1 | (simp_all; done)
theorem c_X7_act_a10 (p0 : Int32) (fl : Int32) (da : Int32) (ds : Int32) (kc : Nat) (g1 : Nat → Int32) (g2 : Nat → Int32) (hkc : kc ≤ 6) (hpl : cz_pl g2) (hdu : cz_du da ds) (hr_1 : cz_in 0 p0 2) (c_2 : da = (-1)) : ((-103) : Int32) = cz_acB p0 da ds fl g1 g2 kc := by (try subst_vars); first | rfl | (simp only [cz_acB, *, if_true, if_false]; done) | (simp only [cz_acB, cz_in, *, and_self, and_true, true_and, and_false, false_and, if_true, if_false, not_true_eq_false, not_false_eq_true]; done) | ((try simp only [cz_acB]); (repeat' split) <;> (first | rfl | contradiction | ((try simp only [cz_in, cz_du, cz_lt, cz_le, cz_eq, cz_l] at *) <;> (first | omega | (simp_all; done)))))
theorem c_X7_act_a11 (p0 : Int32) (fl : Int32) (kc : Nat) (g2 : Nat → Int32) (d_3 : Nat) (e_4 : Nat) (hkc : kc ≤ 6) (hpl : cz_pl g2) (hdu : cz_du (nI d_3) (nI e_4)) (hr_1 : cz_in 0 p0 2) (c_2 : ¬ (nI d_3) = (-1)) (hd_3 : d_3 < 20) (he_4 : e_4 < 4) (hr_5 : ¬ cz_may p0 d_3 e_4 fl g2 kc) : (nI d_3) = if cz_acM p0 (nI d_3) (nI e_4) fl g2 kc then nI (cz_mD p0 (nI d_3).toNatClampNeg (nI e_4).toNatClampNeg) else (nI d_3) := by have q1 := nI_clamp (n := d_3) (by omega); have q2 := nI_clamp (n := e_4) (by omega); simp only [cz_acM, q1, q2]; rw [if_neg (fun h => absurd h.2.2 (by assumption))]
theorem c_X7_act_a12 (p0 : Int32) (fl : Int32) (kc : Nat) (g2 : Nat → Int32) (d_3 : Nat) (e_4 : Nat) (hkc : kc ≤ 6) (hpl : cz_pl g2) (hdu : cz_du (nI d_3) (nI e_4)) (hr_1 : cz_in 0 p0 2) (c_2 : ¬ (nI d_3) = (-1)) (hd_3 : d_3 < 20) (he_4 : e_4 < 4) (hr_5 : ¬ cz_may p0 d_3 e_4 fl g2 kc) : (nI e_4) = if cz_acM p0 (nI d_3) (nI e_4) fl g2 kc then nI (cz_mE p0 (nI e_4).toNatClampNeg) else (nI e_4) := by have q1 := nI_clamp (n := d_3) (by omega); have q2 := nI_clamp (n := e_4) (by omega); simp only [cz_acM, q1, q2]; rw [if_neg (fun h => absurd h.2.2 (by assumption))]
theorem c_X7_act_a13 (p0 : Int32) (fl : Int32) (kc : Nat) (g1 : Nat → Int32) (g2 : Nat → Int32) (g3 : Nat → Int32) (d_3 : Nat) (e_4 : Nat) (hkc : kc ≤ 6) (hpl : cz_pl g2) (hdu : cz_du (nI d_3) (nI e_4)) (hr_1 : cz_in 0 p0 2) (c_2 : ¬ (nI d_3) = (-1)) (hd_3 : d_3 < 20) (he_4 : e_4 < 4) (hr_5 : ¬ cz_may p0 d_3 e_4 fl g2 kc) : g3 = if cz_acM p0 (nI d_3) (nI e_4) fl g2 kc then cz_ml 1 (fun i => cz_sw (g1 i) (g2 i) (nI (cz_mD p0 (nI d_3).toNatClampNeg (nI e_4).toNatClampNeg)) (nI (cz_mE p0 (nI e_4).toNatClampNeg)) fl g2 kc) g3 kc else g3 := by have q1 := nI_clamp (n := d_3) (by omega); have q2 := nI_clamp (n := e_4) (by omega); simp only [cz_acM, q1, q2]; rw [if_neg (fun h => absurd h.2.2 (by assumption))]
theorem c_X7_act_a14 (p0 : Int32) (fl : Int32) (kc : Nat) (g1 : Nat → Int32) (g2 : Nat → Int32) (g4 : Nat → Int32) (d_3 : Nat) (e_4 : Nat) (hkc : kc ≤ 6) (hpl : cz_pl g2) (hdu : cz_du (nI d_3) (nI e_4)) (hr_1 : cz_in 0 p0 2) (c_2 : ¬ (nI d_3) = (-1)) (hd_3 : d_3 < 20) (he_4 : e_4 < 4) (hr_5 : ¬ cz_may p0 d_3 e_4 fl g2 kc) : g4 = if cz_acM p0 (nI d_3) (nI e_4) fl g2 kc then cz_ml 2 (fun i => cz_sw (g1 i) (g2 i) (nI (cz_mD p0 (nI d_3).toNatClampNeg (nI e_4).toNatClampNeg)) (nI (cz_mE p0 (nI e_4).toNatClampNeg)) fl g2 kc) g4 kc else g4 := by have q1 := nI_clamp (n := d_3) (by omega); have q2 := nI_clamp (n := e_4) (by omega); simp only [cz_acM, q1, q2]; rw [if_neg (fun h => absurd h.2.2 (by assumption))]
theorem c_X7_act_a15 (p0 : Int32) (fl : Int32) (kc : Nat) (g1 : Nat → Int32) (g2 : Nat → Int32) (d_3 : Nat) (e_4 : Nat) (hkc : kc ≤ 6) (hpl : cz_pl g2) (hdu : cz_du (nI d_3) (nI e_4)) (hr_1 : cz_in 0 p0 2) (c_2 : ¬ (nI d_3) = (-1)) (hd_3 : d_3 < 20) (he_4 : e_4 < 4) (hr_5 : ¬ cz_may p0 d_3 e_4 fl g2 kc) : ((-103) : Int32) = cz_acB p0 (nI d_3) (nI e_4) fl g1 g2 kc := by have q1 := nI_clamp (n := d_3) (by omega); have q2 := nI_clamp (n := e_4) (by omega); (try subst_vars); simp only [cz_acB, q1, q2]; (repeat' split) <;> (first | rfl | contradiction | ((try simp only [cz_in, cz_du, cz_lt, cz_le, cz_eq, cz_l] at *) <;> (first | omega | (simp_all; done))))
theorem c_X7_act_a16 (p0 : Int32) (fl : Int32) (ac : Int32) (kc : Nat) (g1 : Nat → Int32) (g2 : Nat → Int32) (g3 : Nat → Int32) (g4 : Nat → Int32) (d_3 : Nat) (e_4 : Nat) (q_7 : Nat) (q_8 : Nat) (x_9 : Int32) (y3 : Nat → Int32) (y4 : Nat → Int32) (r_11 : Int32) (r_12 : Int32) (hkc : kc ≤ 6) (hpl : cz_pl g2) (hdu : cz_du (nI d_3) (nI e_4)) (hr_1 : cz_in 0 p0 2) (c_2 : ¬ (nI d_3) = (-1)) (hd_3 : d_3 < 20) (he_4 : e_4 < 4) (hr_5 : cz_may p0 d_3 e_4 fl g2 kc) (hr_6_d : q_7 < 20) (hr_6_e : q_8 < 4) (hr_6_x : q_7 = cz_mD p0 d_3 e_4) (hr_6_y : q_8 = cz_mE p0 e_4) (ex_9 : x_9 = ac + 1) (hl3 : y3 = cz_ml 1 (fun i => cz_sw (g1 i) (g2 i) (nI q_7) (nI q_8) fl g2 kc) g3 kc) (hl4 : y4 = cz_ml 2 (fun i => cz_sw (g1 i) (g2 i) (nI q_7) (nI q_8) fl g2 kc) g4 kc) (hr_11 : r_11 = cz_mq (nI q_7) (nI q_8) fl g1 g2 kc kc) (hr_12 : r_12 = cz_sz r_11 20) : (nI q_7) = if cz_acM p0 (nI d_3) (nI e_4) fl g2 kc then nI (cz_mD p0 (nI d_3).toNatClampNeg (nI e_4).toNatClampNeg) else (nI d_3) := by have q1 := nI_clamp (n := d_3) (by omega); have q2 := nI_clamp (n := e_4) (by omega); simp only [cz_acM, q1, q2]; rw [if_pos ⟨by assumption, by assumption, by assumption⟩]; (subst_vars; rfl)
theorem c_X7_act_a17 (p0 : Int32) (fl : Int32) (ac : Int32) (kc : Nat) (g1 : Nat → Int32) (g2 : Nat → Int32) (g3 : Nat → Int32) (g4 : Nat → Int32) (d_3 : Nat) (e_4 : Nat) (q_7 : Nat) (q_8 : Nat) (x_9 : Int32) (y3 : Nat → Int32) (y4 : Nat → Int32) (r_11 : Int32) (r_12 : Int32) (hkc : kc ≤ 6) (hpl : cz_pl g2) (hdu : cz_du (nI d_3) (nI e_4)) (hr_1 : cz_in 0 p0 2) (c_2 : ¬ (nI d_3) = (-1)) (hd_3 : d_3 < 20) (he_4 : e_4 < 4) (hr_5 : cz_may p0 d_3 e_4 fl g2 kc) (hr_6_d : q_7 < 20) (hr_6_e : q_8 < 4) (hr_6_x : q_7 = cz_mD p0 d_3 e_4) (hr_6_y : q_8 = cz_mE p0 e_4) (ex_9 : x_9 = ac + 1) (hl3 : y3 = cz_ml 1 (fun i => cz_sw (g1 i) (g2 i) (nI q_7) (nI q_8) fl g2 kc) g3 kc) (hl4 : y4 = cz_ml 2 (fun i => cz_sw (g1 i) (g2 i) (nI q_7) (nI q_8) fl g2 kc) g4 kc) (hr_11 : r_11 = cz_mq (nI q_7) (nI q_8) fl g1 g2 kc kc) (hr_12 : r_12 = cz_sz r_11 20) : (nI q_8) = if cz_acM p0 (nI d_3) (nI e_4) fl g2 kc then nI (cz_mE p0 (nI e_4).toNatClampNeg) else (nI e_4) := by have q1 := nI_clamp (n := d_3) (by omega); have q2 := nI_clamp (n := e_4) (by omega); simp only [cz_acM, q1, q2]; rw [if_pos ⟨by assumption, by assumption, by assumption⟩]; (subst_vars; rfl)
theorem c_X7_act_a18 (p0 : Int32) (fl : Int32) (ac : Int32) (kc : Nat) (g1 : Nat → Int32) (g2 : Nat → Int32) (g3 : Nat → Int32) (g4 : Nat → Int32) (d_3 : Nat) (e_4 : Nat) (q_7 : Nat) (q_8 : Nat) (x_9 : Int32) (y3 : Nat → Int32) (y4 : Nat → Int32) (r_11 : Int32) (r_12 : Int32) (hkc : kc ≤ 6) (hpl : cz_pl g2) (hdu : cz_du (nI d_3) (nI e_4)) (hr_1 : cz_in 0 p0 2) (c_2 : ¬ (nI d_3) = (-1)) (hd_3 : d_3 < 20) (he_4 : e_4 < 4) (hr_5 : cz_may p0 d_3 e_4 fl g2 kc) (hr_6_d : q_7 < 20) (hr_6_e : q_8 < 4) (hr_6_x : q_7 = cz_mD p0 d_3 e_4) (hr_6_y : q_8 = cz_mE p0 e_4) (ex_9 : x_9 = ac + 1) (hl3 : y3 = cz_ml 1 (fun i => cz_sw (g1 i) (g2 i) (nI q_7) (nI q_8) fl g2 kc) g3 kc) (hl4 : y4 = cz_ml 2 (fun i => cz_sw (g1 i) (g2 i) (nI q_7) (nI q_8) fl g2 kc) g4 kc) (hr_11 : r_11 = cz_mq (nI q_7) (nI q_8) fl g1 g2 kc kc) (hr_12 : r_12 = cz_sz r_11 20) : y3 = if cz_acM p0 (nI d_3) (nI e_4) fl g2 kc then cz_ml 1 (fun i => cz_sw (g1 i) (g2 i) (nI (cz_mD p0 (nI d_3).toNatClampNeg (nI e_4).toNatClampNeg)) (nI (cz_mE p0 (nI e_4).toNatClampNeg)) fl g2 kc) g3 kc else g3 := by have q1 := nI_clamp (n := d_3) (by omega); have q2 := nI_clamp (n := e_4) (by omega); simp only [cz_acM, q1, q2]; rw [if_pos ⟨by assumption, by assumption, by assumption⟩]; (subst_vars; rfl)
theorem c_X7_act_a19 (p0 : Int32) (fl : Int32) (ac : Int32) (kc : Nat) (g1 : Nat → Int32) (g2 : Nat → Int32) (g3 : Nat → Int32) (g4 : Nat → Int32) (d_3 : Nat) (e_4 : Nat) (q_7 : Nat) (q_8 : Nat) (x_9 : Int32) (y3 : Nat → Int32) (y4 : Nat → Int32) (r_11 : Int32) (r_12 : Int32) (hkc : kc ≤ 6) (hpl : cz_pl g2) (hdu : cz_du (nI d_3) (nI e_4)) (hr_1 : cz_in 0 p0 2) (c_2 : ¬ (nI d_3) = (-1)) (hd_3 : d_3 < 20) (he_4 : e_4 < 4) (hr_5 : cz_may p0 d_3 e_4 fl g2 kc) (hr_6_d : q_7 < 20) (hr_6_e : q_8 < 4) (hr_6_x : q_7 = cz_mD p0 d_3 e_4) (hr_6_y : q_8 = cz_mE p0 e_4) (ex_9 : x_9 = ac + 1) (hl3 : y3 = cz_ml 1 (fun i => cz_sw (g1 i) (g2 i) (nI q_7) (nI q_8) fl g2 kc) g3 kc) (hl4 : y4 = cz_ml 2 (fun i => cz_sw (g1 i) (g2 i) (nI q_7) (nI q_8) fl g2 kc) g4 kc) (hr_11 : r_11 = cz_mq (nI q_7) (nI q_8) fl g1 g2 kc kc) (hr_12 : r_12 = cz_sz r_11 20) : y4 = if cz_acM p0 (nI d_3) (nI e_4) fl g2 kc then cz_ml 2 (fun i => cz_sw (g1 i) (g2 i) (nI (cz_mD p0 (nI d_3).toNatClampNeg (nI e_4).toNatClampNeg)) (nI (cz_mE p0 (nI e_4).toNatClampNeg)) fl g2 kc) g4 kc else g4 := by have q1 := nI_clamp (n := d_3) (by omega); have q2 := nI_clamp (n := e_4) (by omega); simp only [cz_acM, q1, q2]; rw [if_pos ⟨by assumption, by assumption, by assumption⟩]; (subst_vars; rfl)
theorem c_X7_act_a20 (p0 : Int32) (fl : Int32) (ac : Int32) (kc : Nat) (g1 : Nat → Int32) (g2 : Nat → Int32) (g3 : Nat → Int32) (g4 : Nat → Int32) (d_3 : Nat) (e_4 : Nat) (q_7 : Nat) (q_8 : Nat) (x_9 : Int32) (y3 : Nat → Int32) (y4 : Nat → Int32) (r_11 : Int32) (r_12 : Int32) (hkc : kc ≤ 6) (hpl : cz_pl g2) (hdu : cz_du (nI d_3) (nI e_4)) (hr_1 : cz_in 0 p0 2) (c_2 : ¬ (nI d_3) = (-1)) (hd_3 : d_3 < 20) (he_4 : e_4 < 4) (hr_5 : cz_may p0 d_3 e_4 fl g2 kc) (hr_6_d : q_7 < 20) (hr_6_e : q_8 < 4) (hr_6_x : q_7 = cz_mD p0 d_3 e_4) (hr_6_y : q_8 = cz_mE p0 e_4) (ex_9 : x_9 = ac + 1) (hl3 : y3 = cz_ml 1 (fun i => cz_sw (g1 i) (g2 i) (nI q_7) (nI q_8) fl g2 kc) g3 kc) (hl4 : y4 = cz_ml 2 (fun i => cz_sw (g1 i) (g2 i) (nI q_7) (nI q_8) fl g2 kc) g4 kc) (hr_11 : r_11 = cz_mq (nI q_7) (nI q_8) fl g1 g2 kc kc) (hr_12 : r_12 = cz_sz r_11 20) : (r_12 : Int32) = cz_acB p0 (nI d_3) (nI e_4) fl g1 g2 kc := by have q1 := nI_clamp (n := d_3) (by omega); have q2 := nI_clamp (n := e_4) (by omega); (try subst_vars); simp only [cz_acB, q1, q2]; (repeat' split) <;> (first | rfl | contradiction | ((try simp only [cz_in, cz_du, cz_lt, cz_le, cz_eq, cz_l] at *) <;> (first | omega | (simp_all; done))))
theorem c_X7_act_a21 (p0 : Int32) (fl : Int32) (ac : Int32) (kc : Nat) (g1 : Nat → Int32) (g2 : Nat → Int32) (g3 : Nat → Int32) (g4 : Nat → Int32) (d_3 : Nat) (e_4 : Nat) (q_7 : Nat) (q_8 : Nat) (x_9 : Int32) (i48 : Nat) (y3 : Nat → Int32) (y4 : Nat → Int32) (n48 : Nat) (r_14 : Int32) (x_16 : Int32) (x_18 : Int32) (hkc : kc ≤ 6) (hpl : cz_pl g2) (hdu : cz_du (nI d_3) (nI e_4)) (hr_1 : cz_in 0 p0 2) (c_2 : ¬ (nI d_3) = (-1)) (hd_3 : d_3 < 20) (he_4 : e_4 < 4) (hr_5 : cz_may p0 d_3 e_4 fl g2 kc) (hr_6_d : q_7 < 20) (hr_6_e : q_8 < 4) (hr_6_x : q_7 = cz_mD p0 d_3 e_4) (hr_6_y : q_8 = cz_mE p0 e_4) (ex_9 : x_9 = ac + 1) (hi48 : i48 + (n48 + 1) = kc) (hl3 : y3 = cz_ml 1 (fun i => cz_sw (g1 i) (g2 i) (nI q_7) (nI q_8) fl g2 kc) g3 i48) (hl4 : y4 = cz_ml 2 (fun i => cz_sw (g1 i) (g2 i) (nI q_7) (nI q_8) fl g2 kc) g4 i48) (hr_14 : r_14 = cz_sw (g1 i48) (g2 i48) (nI q_7) (nI q_8) fl g2 kc) (c_15 : r_14 = 1) (ex_16 : x_16 = (y3 i48) + 1) (c_17 : r_14 = 2) (ex_18 : x_18 = (y4 i48) + 1) : (upd y3 i48 x_16) = cz_ml 1 (fun i => cz_sw (g1 i) (g2 i) (nI q_7) (nI q_8) fl g2 kc) g3 (i48 + 1) := by (try subst_vars); simp only [cz_ml]; first | (simp only [*, not_true_eq_false, not_false_eq_true, and_true, true_and, and_false, false_and, or_true, true_or, or_false, false_or, and_self, or_self, if_true, if_false, ite_true, ite_false]; done) | (split <;> first | rfl | contradiction | (simp_all; done))
theorem c_X7_act_a22 (p0 : Int32) (fl : Int32) (ac : Int32) (kc : Nat) (g1 : Nat → Int32) (g2 : Nat → Int32) (g3 : Nat → Int32) (g4 : Nat → Int32) (d_3 : Nat) (e_4 : Nat) (q_7 : Nat) (q_8 : Nat) (x_9 : Int32) (i48 : Nat) (y3 : Nat → Int32) (y4 : Nat → Int32) (n48 : Nat) (r_14 : Int32) (x_16 : Int32) (x_18 : Int32) (hkc : kc ≤ 6) (hpl : cz_pl g2) (hdu : cz_du (nI d_3) (nI e_4)) (hr_1 : cz_in 0 p0 2) (c_2 : ¬ (nI d_3) = (-1)) (hd_3 : d_3 < 20) (he_4 : e_4 < 4) (hr_5 : cz_may p0 d_3 e_4 fl g2 kc) (hr_6_d : q_7 < 20) (hr_6_e : q_8 < 4) (hr_6_x : q_7 = cz_mD p0 d_3 e_4) (hr_6_y : q_8 = cz_mE p0 e_4) (ex_9 : x_9 = ac + 1) (hi48 : i48 + (n48 + 1) = kc) (hl3 : y3 = cz_ml 1 (fun i => cz_sw (g1 i) (g2 i) (nI q_7) (nI q_8) fl g2 kc) g3 i48) (hl4 : y4 = cz_ml 2 (fun i => cz_sw (g1 i) (g2 i) (nI q_7) (nI q_8) fl g2 kc) g4 i48) (hr_14 : r_14 = cz_sw (g1 i48) (g2 i48) (nI q_7) (nI q_8) fl g2 kc) (c_15 : r_14 = 1) (ex_16 : x_16 = (y3 i48) + 1) (c_17 : r_14 = 2) (ex_18 : x_18 = (y4 i48) + 1) : (upd y4 i48 x_18) = cz_ml 2 (fun i => cz_sw (g1 i) (g2 i) (nI q_7) (nI q_8) fl g2 kc) g4 (i48 + 1) := by (try subst_vars); simp only [cz_ml]; first | (simp only [*, not_true_eq_false, not_false_eq_true, and_true, true_and, and_false, false_and, or_true, true_or, or_false, false_or, and_self, or_self, if_true, if_false, ite_true, ite_false]; done) | (split <;> first | rfl | contradiction | (simp_all; done))
theorem c_X7_act_a23 (p0 : Int32) (fl : Int32) (ac : Int32) (kc : Nat) (g1 : Nat → Int32) (g2 : Nat → Int32) (g3 : Nat → Int32) (g4 : Nat → Int32) (d_3 : Nat) (e_4 : Nat) (q_7 : Nat) (q_8 : Nat) (x_9 : Int32) (i48 : Nat) (y3 : Nat → Int32) (y4 : Nat → Int32) (n48 : Nat) (r_14 : Int32) (x_16 : Int32) (x_20 : Int32) (hkc : kc ≤ 6) (hpl : cz_pl g2) (hdu : cz_du (nI d_3) (nI e_4)) (hr_1 : cz_in 0 p0 2) (c_2 : ¬ (nI d_3) = (-1)) (hd_3 : d_3 < 20) (he_4 : e_4 < 4) (hr_5 : cz_may p0 d_3 e_4 fl g2 kc) (hr_6_d : q_7 < 20) (hr_6_e : q_8 < 4) (hr_6_x : q_7 = cz_mD p0 d_3 e_4) (hr_6_y : q_8 = cz_mE p0 e_4) (ex_9 : x_9 = ac + 1) (hi48 : i48 + (n48 + 1) = kc) (hl3 : y3 = cz_ml 1 (fun i => cz_sw (g1 i) (g2 i) (nI q_7) (nI q_8) fl g2 kc) g3 i48) (hl4 : y4 = cz_ml 2 (fun i => cz_sw (g1 i) (g2 i) (nI q_7) (nI q_8) fl g2 kc) g4 i48) (hr_14 : r_14 = cz_sw (g1 i48) (g2 i48) (nI q_7) (nI q_8) fl g2 kc) (c_15 : r_14 = 1) (ex_16 : x_16 = (y3 i48) + 1) (c_17 : ¬ r_14 = 2) (c_19 : ¬ r_14 = 3) (ex_20 : x_20 = (y4 i48) + 0) : (upd y3 i48 x_16) = cz_ml 1 (fun i => cz_sw (g1 i) (g2 i) (nI q_7) (nI q_8) fl g2 kc) g3 (i48 + 1) := by (try subst_vars); simp only [cz_ml]; first | (simp only [*, not_true_eq_false, not_false_eq_true, and_true, true_and, and_false, false_and, or_true, true_or, or_false, false_or, and_self, or_self, if_true, if_false, ite_true, ite_false]; done) | (split <;> first | rfl | contradiction | (simp_all; done))
theorem c_X7_act_a24 (p0 : Int32) (fl : Int32) (ac : Int32) (kc : Nat) (g1 : Nat → Int32) (g2 : Nat → Int32) (g3 : Nat → Int32) (g4 : Nat → Int32) (d_3 : Nat) (e_4 : Nat) (q_7 : Nat) (q_8 : Nat) (x_9 : Int32) (i48 : Nat) (y3 : Nat → Int32) (y4 : Nat → Int32) (n48 : Nat) (r_14 : Int32) (x_16 : Int32) (x_20 : Int32) (hkc : kc ≤ 6) (hpl : cz_pl g2) (hdu : cz_du (nI d_3) (nI e_4)) (hr_1 : cz_in 0 p0 2) (c_2 : ¬ (nI d_3) = (-1)) (hd_3 : d_3 < 20) (he_4 : e_4 < 4) (hr_5 : cz_may p0 d_3 e_4 fl g2 kc) (hr_6_d : q_7 < 20) (hr_6_e : q_8 < 4) (hr_6_x : q_7 = cz_mD p0 d_3 e_4) (hr_6_y : q_8 = cz_mE p0 e_4) (ex_9 : x_9 = ac + 1) (hi48 : i48 + (n48 + 1) = kc) (hl3 : y3 = cz_ml 1 (fun i => cz_sw (g1 i) (g2 i) (nI q_7) (nI q_8) fl g2 kc) g3 i48) (hl4 : y4 = cz_ml 2 (fun i => cz_sw (g1 i) (g2 i) (nI q_7) (nI q_8) fl g2 kc) g4 i48) (hr_14 : r_14 = cz_sw (g1 i48) (g2 i48) (nI q_7) (nI q_8) fl g2 kc) (c_15 : r_14 = 1) (ex_16 : x_16 = (y3 i48) + 1) (c_17 : ¬ r_14 = 2) (c_19 : ¬ r_14 = 3) (ex_20 : x_20 = (y4 i48) + 0) : (upd y4 i48 x_20) = cz_ml 2 (fun i => cz_sw (g1 i) (g2 i) (nI q_7) (nI q_8) fl g2 kc) g4 (i48 + 1) := by (try subst_vars); simp only [cz_ml]; first | (simp only [*, not_true_eq_false, not_false_eq_true, and_true, true_and, and_false, false_and, or_true, true_or, or_false, false_or, and_self, or_self, if_true, if_false, ite_true, ite_false]; done) | (split <;> first | rfl | contradiction | (simp_all; done))
theorem c_X7_act_a25 (p0 : Int32) (fl : Int32) (ac : Int32) (kc : Nat) (g1 : Nat → Int32) (g2 : Nat → Int32) (g3 : Nat → Int32) (g4 : Nat → Int32) (d_3 : Nat) (e_4 : Nat) (q_7 : Nat) (q_8 : Nat) (x_9 : Int32) (i48 : Nat) (y3 : Nat → Int32) (y4 : Nat → Int32) (n48 : Nat) (r_14 : Int32) (x_16 : Int32) (x_21 : Int32) (hkc : kc ≤ 6) (hpl : cz_pl g2) (hdu : cz_du (nI d_3) (nI e_4)) (hr_1 : cz_in 0 p0 2) (c_2 : ¬ (nI d_3) = (-1)) (hd_3 : d_3 < 20) (he_4 : e_4 < 4) (hr_5 : cz_may p0 d_3 e_4 fl g2 kc) (hr_6_d : q_7 < 20) (hr_6_e : q_8 < 4) (hr_6_x : q_7 = cz_mD p0 d_3 e_4) (hr_6_y : q_8 = cz_mE p0 e_4) (ex_9 : x_9 = ac + 1) (hi48 : i48 + (n48 + 1) = kc) (hl3 : y3 = cz_ml 1 (fun i => cz_sw (g1 i) (g2 i) (nI q_7) (nI q_8) fl g2 kc) g3 i48) (hl4 : y4 = cz_ml 2 (fun i => cz_sw (g1 i) (g2 i) (nI q_7) (nI q_8) fl g2 kc) g4 i48) (hr_14 : r_14 = cz_sw (g1 i48) (g2 i48) (nI q_7) (nI q_8) fl g2 kc) (c_15 : r_14 = 1) (ex_16 : x_16 = (y3 i48) + 1) (c_17 : ¬ r_14 = 2) (c_19 : r_14 = 3) (ex_21 : x_21 = (y4 i48) + 1) : (upd y3 i48 x_16) = cz_ml 1 (fun i => cz_sw (g1 i) (g2 i) (nI q_7) (nI q_8) fl g2 kc) g3 (i48 + 1) := by (try subst_vars); simp only [cz_ml]; first | (simp only [*, not_true_eq_false, not_false_eq_true, and_true, true_and, and_false, false_and, or_true, true_or, or_false, false_or, and_self, or_self, if_true, if_false, ite_true, ite_false]; done) | (split <;> first | rfl | contradiction | (simp_all; done))
theorem c_X7_act_a26 (p0 : Int32) (fl : Int32) (ac : Int32) (kc : Nat) (g1 : Nat → Int32) (g2 : Nat → Int32) (g3 : Nat → Int32) (g4 : Nat → Int32) (d_3 : Nat) (e_4 : Nat) (q_7 : Nat) (q_8 : Nat) (x_9 : Int32) (i48 : Nat) (y3 : Nat → Int32) (y4 : Nat → Int32) (n48 : Nat) (r_14 : Int32) (x_16 : Int32) (x_21 : Int32) (hkc : kc ≤ 6) (hpl : cz_pl g2) (hdu : cz_du (nI d_3) (nI e_4)) (hr_1 : cz_in 0 p0 2) (c_2 : ¬ (nI d_3) = (-1)) (hd_3 : d_3 < 20) (he_4 : e_4 < 4) (hr_5 : cz_may p0 d_3 e_4 fl g2 kc) (hr_6_d : q_7 < 20) (hr_6_e : q_8 < 4) (hr_6_x : q_7 = cz_mD p0 d_3 e_4) (hr_6_y : q_8 = cz_mE p0 e_4) (ex_9 : x_9 = ac + 1) (hi48 : i48 + (n48 + 1) = kc) (hl3 : y3 = cz_ml 1 (fun i => cz_sw (g1 i) (g2 i) (nI q_7) (nI q_8) fl g2 kc) g3 i48) (hl4 : y4 = cz_ml 2 (fun i => cz_sw (g1 i) (g2 i) (nI q_7) (nI q_8) fl g2 kc) g4 i48) (hr_14 : r_14 = cz_sw (g1 i48) (g2 i48) (nI q_7) (nI q_8) fl g2 kc) (c_15 : r_14 = 1) (ex_16 : x_16 = (y3 i48) + 1) (c_17 : ¬ r_14 = 2) (c_19 : r_14 = 3) (ex_21 : x_21 = (y4 i48) + 1) : (upd y4 i48 x_21) = cz_ml 2 (fun i => cz_sw (g1 i) (g2 i) (nI q_7) (nI q_8) fl g2 kc) g4 (i48 + 1) := by (try subst_vars); simp only [cz_ml]; first | (simp only [*, not_true_eq_false, not_false_eq_true, and_true, true_and, and_false, false_and, or_true, true_or, or_false, false_or, and_self, or_self, if_true, if_false, ite_true, ite_false]; done) | (split <;> first | rfl | contradiction | (simp_all; done))
theorem c_X7_act_a27 (p0 : Int32) (fl : Int32) (ac : Int32) (kc : Nat) (g1 : Nat → Int32) (g2 : Nat → Int32) (g3 : Nat → Int32) (g4 : Nat → Int32) (d_3 : Nat) (e_4 : Nat) (q_7 : Nat) (q_8 : Nat) (x_9 : Int32) (i48 : Nat) (y3 : Nat → Int32) (y4 : Nat → Int32) (n48 : Nat) (r_14 : Int32) (x_23 : Int32) (x_25 : Int32) (hkc : kc ≤ 6) (hpl : cz_pl g2) (hdu : cz_du (nI d_3) (nI e_4)) (hr_1 : cz_in 0 p0 2) (c_2 : ¬ (nI d_3) = (-1)) (hd_3 : d_3 < 20) (he_4 : e_4 < 4) (hr_5 : cz_may p0 d_3 e_4 fl g2 kc) (hr_6_d : q_7 < 20) (hr_6_e : q_8 < 4) (hr_6_x : q_7 = cz_mD p0 d_3 e_4) (hr_6_y : q_8 = cz_mE p0 e_4) (ex_9 : x_9 = ac + 1) (hi48 : i48 + (n48 + 1) = kc) (hl3 : y3 = cz_ml 1 (fun i => cz_sw (g1 i) (g2 i) (nI q_7) (nI q_8) fl g2 kc) g3 i48) (hl4 : y4 = cz_ml 2 (fun i => cz_sw (g1 i) (g2 i) (nI q_7) (nI q_8) fl g2 kc) g4 i48) (hr_14 : r_14 = cz_sw (g1 i48) (g2 i48) (nI q_7) (nI q_8) fl g2 kc) (c_15 : ¬ r_14 = 1) (c_22 : ¬ r_14 = 3) (ex_23 : x_23 = (y3 i48) + 0) (c_24 : r_14 = 2) (ex_25 : x_25 = (y4 i48) + 1) : (upd y3 i48 x_23) = cz_ml 1 (fun i => cz_sw (g1 i) (g2 i) (nI q_7) (nI q_8) fl g2 kc) g3 (i48 + 1) := by (try subst_vars); simp only [cz_ml]; first | (simp only [*, not_true_eq_false, not_false_eq_true, and_true, true_and, and_false, false_and, or_true, true_or, or_false, false_or, and_self, or_self, if_true, if_false, ite_true, ite_false]; done) | (split <;> first | rfl | contradiction | (simp_all; done))
theorem c_X7_act_a28 (p0 : Int32) (fl : Int32) (ac : Int32) (kc : Nat) (g1 : Nat → Int32) (g2 : Nat → Int32) (g3 : Nat → Int32) (g4 : Nat → Int32) (d_3 : Nat) (e_4 : Nat) (q_7 : Nat) (q_8 : Nat) (x_9 : Int32) (i48 : Nat) (y3 : Nat → Int32) (y4 : Nat → Int32) (n48 : Nat) (r_14 : Int32) (x_23 : Int32) (x_25 : Int32) (hkc : kc ≤ 6) (hpl : cz_pl g2) (hdu : cz_du (nI d_3) (nI e_4)) (hr_1 : cz_in 0 p0 2) (c_2 : ¬ (nI d_3) = (-1)) (hd_3 : d_3 < 20) (he_4 : e_4 < 4) (hr_5 : cz_may p0 d_3 e_4 fl g2 kc) (hr_6_d : q_7 < 20) (hr_6_e : q_8 < 4) (hr_6_x : q_7 = cz_mD p0 d_3 e_4) (hr_6_y : q_8 = cz_mE p0 e_4) (ex_9 : x_9 = ac + 1) (hi48 : i48 + (n48 + 1) = kc) (hl3 : y3 = cz_ml 1 (fun i => cz_sw (g1 i) (g2 i) (nI q_7) (nI q_8) fl g2 kc) g3 i48) (hl4 : y4 = cz_ml 2 (fun i => cz_sw (g1 i) (g2 i) (nI q_7) (nI q_8) fl g2 kc) g4 i48) (hr_14 : r_14 = cz_sw (g1 i48) (g2 i48) (nI q_7) (nI q_8) fl g2 kc) (c_15 : ¬ r_14 = 1) (c_22 : ¬ r_14 = 3) (ex_23 : x_23 = (y3 i48) + 0) (c_24 : r_14 = 2) (ex_25 : x_25 = (y4 i48) + 1) : (upd y4 i48 x_25) = cz_ml 2 (fun i => cz_sw (g1 i) (g2 i) (nI q_7) (nI q_8) fl g2 kc) g4 (i48 + 1) := by (try subst_vars); simp only [cz_ml]; first | (simp only [*, not_true_eq_false, not_false_eq_true, and_true, true_and, and_false, false_and, or_true, true_or, or_false, false_or, and_self, or_self, if_true, if_false, ite_true, ite_false]; done) | (split <;> first | rfl | contradiction | (simp_all; done))
theorem c_X7_act_a29 (p0 : Int32) (fl : Int32) (ac : Int32) (kc : Nat) (g1 : Nat → Int32) (g2 : Nat → Int32) (g3 : Nat → Int32) (g4 : Nat → Int32) (d_3 : Nat) (e_4 : Nat) (q_7 : Nat) (q_8 : Nat) (x_9 : Int32) (i48 : Nat) (y3 : Nat → Int32) (y4 : Nat → Int32) (n48 : Nat) (r_14 : Int32) (x_23 : Int32) (x_26 : Int32) (hkc : kc ≤ 6) (hpl : cz_pl g2) (hdu : cz_du (nI d_3) (nI e_4)) (hr_1 : cz_in 0 p0 2) (c_2 : ¬ (nI d_3) = (-1)) (hd_3 : d_3 < 20) (he_4 : e_4 < 4) (hr_5 : cz_may p0 d_3 e_4 fl g2 kc) (hr_6_d : q_7 < 20) (hr_6_e : q_8 < 4) (hr_6_x : q_7 = cz_mD p0 d_3 e_4) (hr_6_y : q_8 = cz_mE p0 e_4) (ex_9 : x_9 = ac + 1) (hi48 : i48 + (n48 + 1) = kc) (hl3 : y3 = cz_ml 1 (fun i => cz_sw (g1 i) (g2 i) (nI q_7) (nI q_8) fl g2 kc) g3 i48) (hl4 : y4 = cz_ml 2 (fun i => cz_sw (g1 i) (g2 i) (nI q_7) (nI q_8) fl g2 kc) g4 i48) (hr_14 : r_14 = cz_sw (g1 i48) (g2 i48) (nI q_7) (nI q_8) fl g2 kc) (c_15 : ¬ r_14 = 1) (c_22 : ¬ r_14 = 3) (ex_23 : x_23 = (y3 i48) + 0) (c_24 : ¬ r_14 = 2) (ex_26 : x_26 = (y4 i48) + 0) : (upd y3 i48 x_23) = cz_ml 1 (fun i => cz_sw (g1 i) (g2 i) (nI q_7) (nI q_8) fl g2 kc) g3 (i48 + 1) := by (try subst_vars); simp only [cz_ml]; first | (simp only [*, not_true_eq_false, not_false_eq_true, and_true, true_and, and_false, false_and, or_true, true_or, or_false, false_or, and_self, or_self, if_true, if_false, ite_true, ite_false]; done) | (split <;> first | rfl | contradiction | (simp_all; done))
theorem c_X7_act_a30 (p0 : Int32) (fl : Int32) (ac : Int32) (kc : Nat) (g1 : Nat → Int32) (g2 : Nat → Int32) (g3 : Nat → Int32) (g4 : Nat → Int32) (d_3 : Nat) (e_4 : Nat) (q_7 : Nat) (q_8 : Nat) (x_9 : Int32) (i48 : Nat) (y3 : Nat → Int32) (y4 : Nat → Int32) (n48 : Nat) (r_14 : Int32) (x_23 : Int32) (x_26 : Int32) (hkc : kc ≤ 6) (hpl : cz_pl g2) (hdu : cz_du (nI d_3) (nI e_4)) (hr_1 : cz_in 0 p0 2) (c_2 : ¬ (nI d_3) = (-1)) (hd_3 : d_3 < 20) (he_4 : e_4 < 4) (hr_5 : cz_may p0 d_3 e_4 fl g2 kc) (hr_6_d : q_7 < 20) (hr_6_e : q_8 < 4) (hr_6_x : q_7 = cz_mD p0 d_3 e_4) (hr_6_y : q_8 = cz_mE p0 e_4) (ex_9 : x_9 = ac + 1) (hi48 : i48 + (n48 + 1) = kc) (hl3 : y3 = cz_ml 1 (fun i => cz_sw (g1 i) (g2 i) (nI q_7) (nI q_8) fl g2 kc) g3 i48) (hl4 : y4 = cz_ml 2 (fun i => cz_sw (g1 i) (g2 i) (nI q_7) (nI q_8) fl g2 kc) g4 i48) (hr_14 : r_14 = cz_sw (g1 i48) (g2 i48) (nI q_7) (nI q_8) fl g2 kc) (c_15 : ¬ r_14 = 1) (c_22 : ¬ r_14 = 3) (ex_23 : x_23 = (y3 i48) + 0) (c_24 : ¬ r_14 = 2) (ex_26 : x_26 = (y4 i48) + 0) : (upd y4 i48 x_26) = cz_ml 2 (fun i => cz_sw (g1 i) (g2 i) (nI q_7) (nI q_8) fl g2 kc) g4 (i48 + 1) := by (try subst_vars); simp only [cz_ml]; first | (simp only [*, not_true_eq_false, not_false_eq_true, and_true, true_and, and_false, false_and, or_true, true_or, or_false, false_or, and_self, or_self, if_true, if_false, ite_true, ite_false]; done) | (split <;> first | rfl | contradiction | (simp_all; done))
theorem c_X7_act_a31 (p0 : Int32) (fl : Int32) (ac : Int32) (kc : Nat) (g1 : Nat → Int32) (g2 : Nat → Int32) (g3 : Nat → Int32) (g4 : Nat → Int32) (d_3 : Nat) (e_4 : Nat) (q_7 : Nat) (q_8 : Nat) (x_9 : Int32) (i48 : Nat) (y3 : Nat → Int32) (y4 : Nat → Int32) (n48 : Nat) (r_14 : Int32) (x_27 : Int32) (x_29 : Int32) (hkc : kc ≤ 6) (hpl : cz_pl g2) (hdu : cz_du (nI d_3) (nI e_4)) (hr_1 : cz_in 0 p0 2) (c_2 : ¬ (nI d_3) = (-1)) (hd_3 : d_3 < 20) (he_4 : e_4 < 4) (hr_5 : cz_may p0 d_3 e_4 fl g2 kc) (hr_6_d : q_7 < 20) (hr_6_e : q_8 < 4) (hr_6_x : q_7 = cz_mD p0 d_3 e_4) (hr_6_y : q_8 = cz_mE p0 e_4) (ex_9 : x_9 = ac + 1) (hi48 : i48 + (n48 + 1) = kc) (hl3 : y3 = cz_ml 1 (fun i => cz_sw (g1 i) (g2 i) (nI q_7) (nI q_8) fl g2 kc) g3 i48) (hl4 : y4 = cz_ml 2 (fun i => cz_sw (g1 i) (g2 i) (nI q_7) (nI q_8) fl g2 kc) g4 i48) (hr_14 : r_14 = cz_sw (g1 i48) (g2 i48) (nI q_7) (nI q_8) fl g2 kc) (c_15 : ¬ r_14 = 1) (c_22 : r_14 = 3) (ex_27 : x_27 = (y3 i48) + 1) (c_28 : r_14 = 2) (ex_29 : x_29 = (y4 i48) + 1) : (upd y3 i48 x_27) = cz_ml 1 (fun i => cz_sw (g1 i) (g2 i) (nI q_7) (nI q_8) fl g2 kc) g3 (i48 + 1) := by (try subst_vars); simp only [cz_ml]; first | (simp only [*, not_true_eq_false, not_false_eq_true, and_true, true_and, and_false, false_and, or_true, true_or, or_false, false_or, and_self, or_self, if_true, if_false, ite_true, ite_false]; done) | (split <;> first | rfl | contradiction | (simp_all; done))
theorem c_X7_act_a32 (p0 : Int32) (fl : Int32) (ac : Int32) (kc : Nat) (g1 : Nat → Int32) (g2 : Nat → Int32) (g3 : Nat → Int32) (g4 : Nat → Int32) (d_3 : Nat) (e_4 : Nat) (q_7 : Nat) (q_8 : Nat) (x_9 : Int32) (i48 : Nat) (y3 : Nat → Int32) (y4 : Nat → Int32) (n48 : Nat) (r_14 : Int32) (x_27 : Int32) (x_29 : Int32) (hkc : kc ≤ 6) (hpl : cz_pl g2) (hdu : cz_du (nI d_3) (nI e_4)) (hr_1 : cz_in 0 p0 2) (c_2 : ¬ (nI d_3) = (-1)) (hd_3 : d_3 < 20) (he_4 : e_4 < 4) (hr_5 : cz_may p0 d_3 e_4 fl g2 kc) (hr_6_d : q_7 < 20) (hr_6_e : q_8 < 4) (hr_6_x : q_7 = cz_mD p0 d_3 e_4) (hr_6_y : q_8 = cz_mE p0 e_4) (ex_9 : x_9 = ac + 1) (hi48 : i48 + (n48 + 1) = kc) (hl3 : y3 = cz_ml 1 (fun i => cz_sw (g1 i) (g2 i) (nI q_7) (nI q_8) fl g2 kc) g3 i48) (hl4 : y4 = cz_ml 2 (fun i => cz_sw (g1 i) (g2 i) (nI q_7) (nI q_8) fl g2 kc) g4 i48) (hr_14 : r_14 = cz_sw (g1 i48) (g2 i48) (nI q_7) (nI q_8) fl g2 kc) (c_15 : ¬ r_14 = 1) (c_22 : r_14 = 3) (ex_27 : x_27 = (y3 i48) + 1) (c_28 : r_14 = 2) (ex_29 : x_29 = (y4 i48) + 1) : (upd y4 i48 x_29) = cz_ml 2 (fun i => cz_sw (g1 i) (g2 i) (nI q_7) (nI q_8) fl g2 kc) g4 (i48 + 1) := by (try subst_vars); simp only [cz_ml]; first | (simp only [*, not_true_eq_false, not_false_eq_true, and_true, true_and, and_false, false_and, or_true, true_or, or_false, false_or, and_self, or_self, if_true, if_false, ite_true, ite_false]; done) | (split <;> first | rfl | contradiction | (simp_all; done))
theorem c_X7_act_a33 (p0 : Int32) (fl : Int32) (ac : Int32) (kc : Nat) (g1 : Nat → Int32) (g2 : Nat → Int32) (g3 : Nat → Int32) (g4 : Nat → Int32) (d_3 : Nat) (e_4 : Nat) (q_7 : Nat) (q_8 : Nat) (x_9 : Int32) (i48 : Nat) (y3 : Nat → Int32) (y4 : Nat → Int32) (n48 : Nat) (r_14 : Int32) (x_27 : Int32) (x_30 : Int32) (hkc : kc ≤ 6) (hpl : cz_pl g2) (hdu : cz_du (nI d_3) (nI e_4)) (hr_1 : cz_in 0 p0 2) (c_2 : ¬ (nI d_3) = (-1)) (hd_3 : d_3 < 20) (he_4 : e_4 < 4) (hr_5 : cz_may p0 d_3 e_4 fl g2 kc) (hr_6_d : q_7 < 20) (hr_6_e : q_8 < 4) (hr_6_x : q_7 = cz_mD p0 d_3 e_4) (hr_6_y : q_8 = cz_mE p0 e_4) (ex_9 : x_9 = ac + 1) (hi48 : i48 + (n48 + 1) = kc) (hl3 : y3 = cz_ml 1 (fun i => cz_sw (g1 i) (g2 i) (nI q_7) (nI q_8) fl g2 kc) g3 i48) (hl4 : y4 = cz_ml 2 (fun i => cz_sw (g1 i) (g2 i) (nI q_7) (nI q_8) fl g2 kc) g4 i48) (hr_14 : r_14 = cz_sw (g1 i48) (g2 i48) (nI q_7) (nI q_8) fl g2 kc) (c_15 : ¬ r_14 = 1) (c_22 : r_14 = 3) (ex_27 : x_27 = (y3 i48) + 1) (c_28 : ¬ r_14 = 2) (ex_30 : x_30 = (y4 i48) + 1) : (upd y3 i48 x_27) = cz_ml 1 (fun i => cz_sw (g1 i) (g2 i) (nI q_7) (nI q_8) fl g2 kc) g3 (i48 + 1) := by (try subst_vars); simp only [cz_ml]; first | (simp only [*, not_true_eq_false, not_false_eq_true, and_true, true_and, and_false, false_and, or_true, true_or, or_false, false_or, and_self, or_self, if_true, if_false, ite_true, ite_false]; done) | (split <;> first | rfl | contradiction | (simp_all; done))
theorem c_X7_act_a34 (p0 : Int32) (fl : Int32) (ac : Int32) (kc : Nat) (g1 : Nat → Int32) (g2 : Nat → Int32) (g3 : Nat → Int32) (g4 : Nat → Int32) (d_3 : Nat) (e_4 : Nat) (q_7 : Nat) (q_8 : Nat) (x_9 : Int32) (i48 : Nat) (y3 : Nat → Int32) (y4 : Nat → Int32) (n48 : Nat) (r_14 : Int32) (x_27 : Int32) (x_30 : Int32) (hkc : kc ≤ 6) (hpl : cz_pl g2) (hdu : cz_du (nI d_3) (nI e_4)) (hr_1 : cz_in 0 p0 2) (c_2 : ¬ (nI d_3) = (-1)) (hd_3 : d_3 < 20) (he_4 : e_4 < 4) (hr_5 : cz_may p0 d_3 e_4 fl g2 kc) (hr_6_d : q_7 < 20) (hr_6_e : q_8 < 4) (hr_6_x : q_7 = cz_mD p0 d_3 e_4) (hr_6_y : q_8 = cz_mE p0 e_4) (ex_9 : x_9 = ac + 1) (hi48 : i48 + (n48 + 1) = kc) (hl3 : y3 = cz_ml 1 (fun i => cz_sw (g1 i) (g2 i) (nI q_7) (nI q_8) fl g2 kc) g3 i48) (hl4 : y4 = cz_ml 2 (fun i => cz_sw (g1 i) (g2 i) (nI q_7) (nI q_8) fl g2 kc) g4 i48) (hr_14 : r_14 = cz_sw (g1 i48) (g2 i48) (nI q_7) (nI q_8) fl g2 kc) (c_15 : ¬ r_14 = 1) (c_22 : r_14 = 3) (ex_27 : x_27 = (y3 i48) + 1) (c_28 : ¬ r_14 = 2) (ex_30 : x_30 = (y4 i48) + 1) : (upd y4 i48 x_30) = cz_ml 2 (fun i => cz_sw (g1 i) (g2 i) (nI q_7) (nI q_8) fl g2 kc) g4 (i48 + 1) := by (try subst_vars); simp only [cz_ml]; first | (simp only [*, not_true_eq_false, not_false_eq_true, and_true, true_and, and_false, false_and, or_true, true_or, or_false, false_or, and_self, or_self, if_true, if_false, ite_true, ite_false]; done) | (split <;> first | rfl | contradiction | (simp_all; done))
set_option maxHeartbeats 4000000 in
set_option maxRecDepth 100000 in
theorem c_X7_act (l : Launch) (dC : Nat → ClassId) (dI : Nat → Nat → Nat) (cI cB : ClassId) (h0 : Nat) (p0 : Int32) (ih : Int32) (hn : Int32) (fl : Int32) (da : Int32) (ds : Int32) (ac : Int32) (kc : Nat) (m1 : Nat) (m2 : Nat) (m3 : Nat) (m4 : Nat) (m5 : Nat) (pl : Nat) (pg : Nat) (fa : Int32) (nf : Int32) (m6 : Nat) (m7 : Nat) (m8 : Nat) (sd : Int64) (ik : Int32) (kh : Int32) (km : Nat) (ka : Int32) (ks : Int32) (kac : Int32) (m9 : Nat) (m10 : Nat) (m11 : Nat) (m12 : Nat) (hv : Int64) (g1 : Nat → Int32) (g2 : Nat → Int32) (g3 : Nat → Int32) (g4 : Nat → Int32) (sz : Nat) (hkc : kc ≤ 6) (hpl : cz_pl g2) (hdu : cz_du da ds) : Met l yX7_act wsX7_act ({ frames := 5, cells := 0, slots := 0, locals := 116 }) (cz_Pm dC dI cI cB [.ref h0, .int p0] [(h0, .inr (7, [.int ih, .int hn, .int fl, .int da, .int ds, .int ac, .int (nI kc), .ref m1, .ref m2, .ref m3, .ref m4, .ref m5, .int (nI pl), .ref pg, .int fa, .int nf, .ref m6, .ref m7, .ref m8, .long sd, .int ik, .int kh, .int (nI km), .int ka, .int ks, .int kac, .ref m9, .ref m10, .ref m11, .ref m12, .long hv])), (m1, .inl (cI, 6, .inl g1)), (m2, .inl (cI, 6, .inl g2)), (m3, .inl (cI, 6, .inl g3)), (m4, .inl (cI, 6, .inl g4))] sz) (va_Qi (fun (r : Int32) (_ : Unit) => r = cz_acB p0 da ds fl g1 g2 kc) (fun _ t => ∃ (z3 : Int32) (z4 : Int32) (z6 : Int32) (t3 : Nat → Int32) (t4 : Nat → Int32), (cz_du z3 z4) ∧ (z3 = if cz_acM p0 da ds fl g2 kc then nI (cz_mD p0 da.toNatClampNeg ds.toNatClampNeg) else da) ∧ (z4 = if cz_acM p0 da ds fl g2 kc then nI (cz_mE p0 ds.toNatClampNeg) else ds) ∧ (t3 = if cz_acM p0 da ds fl g2 kc then cz_ml 1 (fun i => cz_sw (g1 i) (g2 i) (nI (cz_mD p0 da.toNatClampNeg ds.toNatClampNeg)) (nI (cz_mE p0 ds.toNatClampNeg)) fl g2 kc) g3 kc else g3) ∧ (t4 = if cz_acM p0 da ds fl g2 kc then cz_ml 2 (fun i => cz_sw (g1 i) (g2 i) (nI (cz_mD p0 da.toNatClampNeg ds.toNatClampNeg)) (nI (cz_mE p0 ds.toNatClampNeg)) fl g2 kc) g4 kc else g4) ∧ va_P (dC, dI) vwCl [(h0, .inr (7, [.int ih, .int hn, .int fl, .int z3, .int z4, .int z6, .int (nI kc), .ref m1, .ref m2, .ref m3, .ref m4, .ref m5, .int (nI pl), .ref pg, .int fa, .int nf, .ref m6, .ref m7, .ref m8, .long sd, .int ik, .int kh, .int (nI km), .int ka, .int ks, .int kac, .ref m9, .ref m10, .ref m11, .ref m12, .long hv])), (m1, .inl (cI, 6, .inl g1)), (m2, .inl (cI, 6, .inl g2)), (m3, .inl (cI, 6, .inl t3)), (m4, .inl (cI, 6, .inl t4))] t.heap ∧ va_D (va_A [(h0, .inr (7, [.int ih, .int hn, .int fl, .int da, .int ds, .int ac, .int (nI kc), .ref m1, .ref m2, .ref m3, .ref m4, .ref m5, .int (nI pl), .ref pg, .int fa, .int nf, .ref m6, .ref m7, .ref m8, .long sd, .int ik, .int kh, .int (nI km), .int ka, .int ks, .int kac, .ref m9, .ref m10, .ref m11, .ref m12, .long hv])), (m1, .inl (cI, 6, .inl g1)), (m2, .inl (cI, 6, .inl g2)), (m3, .inl (cI, 6, .inl g3)), (m4, .inl (cI, 6, .inl g4))] sz) [(h0, .inr (7, [.int ih, .int hn, .int fl, .int z3, .int z4, .int z6, .int (nI kc), .ref m1, .ref m2, .ref m3, .ref m4, .ref m5, .int (nI pl), .ref pg, .int fa, .int nf, .ref m6, .ref m7, .ref m8, .long sd, .int ik, .int kh, .int (nI km), .int ka, .int ks, .int kac, .ref m9, .ref m10, .ref m11, .ref m12, .long hv])), (m1, .inl (cI, 6, .inl g1)), (m2, .inl (cI, 6, .inl g2)), (m3, .inl (cI, 6, .inl t3)), (m4, .inl (cI, 6, .inl t4))]) (va_A [(h0, .inr (7, [.int ih, .int hn, .int fl, .int da, .int ds, .int ac, .int (nI kc), .ref m1, .ref m2, .ref m3, .ref m4, .ref m5, .int (nI pl), .ref pg, .int fa, .int nf, .ref m6, .ref m7, .ref m8, .long sd, .int ik, .int kh, .int (nI km), .int ka, .int ks, .int kac, .ref m9, .ref m10, .ref m11, .ref m12, .long hv])), (m1, .inl (cI, 6, .inl g1)), (m2, .inl (cI, 6, .inl g2)), (m3, .inl (cI, 6, .inl g3)), (m4, .inl (cI, 6, .inl g4))] sz)) 0 0 (va_A [(h0, .inr (7, [.int ih, .int hn, .int fl, .int da, .int ds, .int ac, .int (nI kc), .ref m1, .ref m2, .ref m3, .ref m4, .ref m5, .int (nI pl), .ref pg, .int fa, .int nf, .ref m6, .ref m7, .ref m8, .long sd, .int ik, .int kh, .int (nI km), .int ka, .int ks, .int kac, .ref m9, .ref m10, .ref m11, .ref m12, .long hv])), (m1, .inl (cI, 6, .inl g1)), (m2, .inl (cI, 6, .inl g2)), (m3, .inl (cI, 6, .inl g3)), (m4, .inl (cI, 6, .inl g4))] sz) := by
  refine cz_of (cc := cX7_act) (maxL := 4) (ret := (some .int)) (by decide) rfl ?_
  intro p e s m args below meth c s₁ Q B hml hv hQ
  obtain ⟨rfl, hsz, hP, hN, hD0⟩ := hv
  have hx := B.exec
  have hb := B.bytes
  have hr := B.returns
  have hts := atoms_spec (ws := wsX7_act) B.pre
  have hown : s.vm.findClass RX7 = some m.cls := findClass_of_methodNamed B.named
  have hlocks := B.notSynchronized
  have hK := hN.1
  have hiX7 : ∀ w ∈ wsX70, w ∈ wsX7_act := (fun _ h => List.mem_cons_of_mem _ (List.mem_append_right _ h))
  subst hsz
  have hD := hD0.self (sz := s.heap.size)
  generalize hAe : va_A [(h0, .inr (7, [.int ih, .int hn, .int fl, .int da, .int ds, .int ac, .int (nI kc), .ref m1, .ref m2, .ref m3, .ref m4, .ref m5, .int (nI pl), .ref pg, .int fa, .int nf, .ref m6, .ref m7, .ref m8, .long sd, .int ik, .int kh, .int (nI km), .int ka, .int ks, .int kac, .ref m9, .ref m10, .ref m11, .ref m12, .long hv])), (m1, .inl (cI, 6, .inl g1)), (m2, .inl (cI, 6, .inl g2)), (m3, .inl (cI, 6, .inl g3)), (m4, .inl (cI, 6, .inl g4))] s.heap.size = A at hD hQ ⊢
  have hA : ∀ q : Nat, s.heap.size ≤ q → A q := fun q h => by rw [← hAe]; exact Or.inr h
  have hS : va_S A s.heap s.heap [] := va_S.rf
  obtain ⟨H, eH⟩ : ∃ H, H = s.heap := ⟨_, rfl⟩
  have hP : va_P (dC, dI) vwCl [(h0, .inr (7, [.int ih, .int hn, .int fl, .int da, .int ds, .int ac, .int (nI kc), .ref m1, .ref m2, .ref m3, .ref m4, .ref m5, .int (nI pl), .ref pg, .int fa, .int nf, .ref m6, .ref m7, .ref m8, .long sd, .int ik, .int kh, .int (nI km), .int ka, .int ks, .int kac, .ref m9, .ref m10, .ref m11, .ref m12, .long hv])), (m1, .inl (cI, 6, .inl g1)), (m2, .inl (cI, 6, .inl g2)), (m3, .inl (cI, 6, .inl g3)), (m4, .inl (cI, 6, .inl g4))] s.heap := hP
  have hl := lv_entry ([.ref h0, .int p0]) (n := 4) (Nat.le_of_ble_eq_true rfl)
  rw [lg_entry_eq]
  generalize (lg_sl ([.ref h0, .int p0]) ++ List.replicate (4 - (lg_sl ([.ref h0, .int p0])).length) Slot.unset).toArray = ls at hl ⊢
  have hl : lv_has ls 4 [(0, .ref h0), (1, .int p0)] := hl
  refine lv_iload_n hx hb dX7_act_0 rfl (lv_at hl 1 rfl) ?_
  refine lv_iconst (v := 0) hx hb dX7_act_1 (by decide) ?_
  refine lv_iconst (v := 2) hx hb dX7_act_2 (by decide) ?_
  refine vp_callSi (cz_run (va_runS (As := [.int p0, .int 0, .int 2]) (rest := []) ⟨hx, hb, hml, hown, hts⟩ (c_X7_within l dC dI cI cB p0 0 2 ) (va_cwS 3 hts gX7_act_X7_within rfl rfl rfl (by decide +kernel) ⟨Nat.le_of_ble_eq_true rfl, Nat.le_of_ble_eq_true rfl⟩) (cz_pS (hP.sub (ws' := []) [] rfl) hN) rfl rfl hl.1 rfl (lv_room (Nat.le_of_ble_eq_true rfl)) dX7_act_3 ⟨Nat.le_of_ble_eq_true rfl, Nat.le_of_ble_eq_true rfl⟩)) (fun r_1 hr_1 => ?_)
  rcases hr_1 with ⟨rfl, hr_1⟩ | ⟨rfl, hr_1⟩
  · refine lv_if_ne (tgt := 12) hx hb dX7_act_6 (by decide) (fun c => absurd (by decide) c) (fun _ => ?_)
    refine lv_bipush (v := (-102)) hx hb dX7_act_9 (by decide) ?_
    refine W.widen (k := 0) (n := 0) (Nat.le_of_ble_eq_true rfl) (Nat.le_of_ble_eq_true rfl) ?_
    have hP9 := hP.sub (ws' := [(h0, .inr (7, [.int ih, .int hn, .int fl, .int da, .int ds, .int ac, .int (nI kc), .ref m1, .ref m2, .ref m3, .ref m4, .ref m5, .int (nI pl), .ref pg, .int fa, .int nf, .ref m6, .ref m7, .ref m8, .long sd, .int ik, .int kh, .int (nI km), .int ka, .int ks, .int kac, .ref m9, .ref m10, .ref m11, .ref m12, .long hv])), (m1, .inl (cI, 6, .inl g1)), (m2, .inl (cI, 6, .inl g2)), (m3, .inl (cI, 6, .inl g3)), (m4, .inl (cI, 6, .inl g4))]) [0, 1, 2, 3, 4] rfl
    have hD9 := hD.sub (ws' := [(h0, .inr (7, [.int ih, .int hn, .int fl, .int da, .int ds, .int ac, .int (nI kc), .ref m1, .ref m2, .ref m3, .ref m4, .ref m5, .int (nI pl), .ref pg, .int fa, .int nf, .ref m6, .ref m7, .ref m8, .long sd, .int ik, .int kh, .int (nI km), .int ka, .int ks, .int kac, .ref m9, .ref m10, .ref m11, .ref m12, .long hv])), (m1, .inl (cI, 6, .inl g1)), (m2, .inl (cI, 6, .inl g2)), (m3, .inl (cI, 6, .inl g3)), (m4, .inl (cI, 6, .inl g4))]) [0, 1, 2, 3, 4] (by decide) rfl
    rw [hQ]; exact W.iret (v := (-102)) hx hb hr (fun t ht hW => ⟨⟨(-102), (), rfl, (c_X7_act_a5 p0 fl da ds kc g1 g2 hkc hpl hdu hr_1), ⟨da, ds, ac, g3, g4, hdu, (c_X7_act_a1 p0 fl da ds kc g2 hkc hpl hdu hr_1), (c_X7_act_a2 p0 fl da ds kc g2 hkc hpl hdu hr_1), (c_X7_act_a3 p0 fl da ds kc g1 g2 g3 hkc hpl hdu hr_1), (c_X7_act_a4 p0 fl da ds kc g1 g2 g4 hkc hpl hdu hr_1), by rw [ht]; exact hP9, hD9⟩⟩, hS.F ht⟩) hS.2.2 dX7_act_11
  · refine lv_if_ne (tgt := 12) hx hb dX7_act_6 (by decide) (fun _ => ?_) (fun c => absurd c (by decide))
    refine lv_aload_n hx hb dX7_act_12 rfl (lv_at hl 0 rfl) ?_
    refine va_get (D := (dC, dI)) (ci := 7) (v := .int da) (C := RX7) (T := TX7) (N := 31) hx hb hts hiX7 hown hK hP 0 rfl rfl 3 (by decide) (hts (.fieldLink RX7 7 "LeftProfileModel" "dukeAt" "I") (List.mem_of_getElem? (i := 1) rfl)) (fun _ h9 => h9) rfl dX7_act_13 ?_
    refine lv_iconst (v := (-1)) hx hb dX7_act_16 (by decide) ?_
    refine lv_icmp_eq (tgt := 28) hx hb dX7_act_17 (by decide) (fun c_2 => ?_) (fun c_2 => ?_)
    · refine lv_bipush (v := (-103)) hx hb dX7_act_28 (by decide) ?_
      refine W.widen (k := 0) (n := 0) (Nat.le_of_ble_eq_true rfl) (Nat.le_of_ble_eq_true rfl) ?_
      have hP9 := hP.sub (ws' := [(h0, .inr (7, [.int ih, .int hn, .int fl, .int da, .int ds, .int ac, .int (nI kc), .ref m1, .ref m2, .ref m3, .ref m4, .ref m5, .int (nI pl), .ref pg, .int fa, .int nf, .ref m6, .ref m7, .ref m8, .long sd, .int ik, .int kh, .int (nI km), .int ka, .int ks, .int kac, .ref m9, .ref m10, .ref m11, .ref m12, .long hv])), (m1, .inl (cI, 6, .inl g1)), (m2, .inl (cI, 6, .inl g2)), (m3, .inl (cI, 6, .inl g3)), (m4, .inl (cI, 6, .inl g4))]) [0, 1, 2, 3, 4] rfl
      have hD9 := hD.sub (ws' := [(h0, .inr (7, [.int ih, .int hn, .int fl, .int da, .int ds, .int ac, .int (nI kc), .ref m1, .ref m2, .ref m3, .ref m4, .ref m5, .int (nI pl), .ref pg, .int fa, .int nf, .ref m6, .ref m7, .ref m8, .long sd, .int ik, .int kh, .int (nI km), .int ka, .int ks, .int kac, .ref m9, .ref m10, .ref m11, .ref m12, .long hv])), (m1, .inl (cI, 6, .inl g1)), (m2, .inl (cI, 6, .inl g2)), (m3, .inl (cI, 6, .inl g3)), (m4, .inl (cI, 6, .inl g4))]) [0, 1, 2, 3, 4] (by decide) rfl
      rw [hQ]; exact W.iret (v := (-103)) hx hb hr (fun t ht hW => ⟨⟨(-103), (), rfl, (c_X7_act_a10 p0 fl da ds kc g1 g2 hkc hpl hdu hr_1 c_2), ⟨da, ds, ac, g3, g4, hdu, (c_X7_act_a6 p0 fl da ds kc g2 hkc hpl hdu hr_1 c_2), (c_X7_act_a7 p0 fl da ds kc g2 hkc hpl hdu hr_1 c_2), (c_X7_act_a8 p0 fl da ds kc g1 g2 g3 hkc hpl hdu hr_1 c_2), (c_X7_act_a9 p0 fl da ds kc g1 g2 g4 hkc hpl hdu hr_1 c_2), by rw [ht]; exact hP9, hD9⟩⟩, hS.F ht⟩) hS.2.2 dX7_act_30
    · obtain ⟨⟨d_3, hd_3, rfl⟩, e_4, he_4, rfl⟩ := cz_du_ex hdu c_2
      refine lv_aload_n hx hb dX7_act_20 rfl (lv_at hl 0 rfl) ?_
      refine lv_iload_n hx hb dX7_act_21 rfl (lv_at hl 1 rfl) ?_
      refine vp_callSi (cz_run (va_runV (As := [.int p0]) (rest := []) ⟨hx, hb, hml, hown, hts⟩ (c_X7_mayAct l dC dI cI cB h0 p0 ih hn fl d_3 e_4 ac kc m1 m2 m3 m4 m5 pl pg fa nf m6 m7 m8 sd ik kh km ka ks kac m9 m10 m11 m12 hv g2 hkc hd_3 he_4) (cwV 1 hts gX7_act_X7_mayAct rfl rfl rfl (by decide +kernel) ⟨Nat.le_of_ble_eq_true rfl, Nat.le_of_ble_eq_true rfl⟩) (cz_pV (hP.sub (ws' := [(h0, .inr (7, [.int ih, .int hn, .int fl, .int (nI d_3), .int (nI e_4), .int ac, .int (nI kc), .ref m1, .ref m2, .ref m3, .ref m4, .ref m5, .int (nI pl), .ref pg, .int fa, .int nf, .ref m6, .ref m7, .ref m8, .long sd, .int ik, .int kh, .int (nI km), .int ka, .int ks, .int kac, .ref m9, .ref m10, .ref m11, .ref m12, .long hv])), (m2, .inl (cI, 6, .inl g2))]) [0, 2] rfl) hN (va_recv hK (hP.sub (ws' := [(h0, .inr (7, [.int ih, .int hn, .int fl, .int (nI d_3), .int (nI e_4), .int ac, .int (nI kc), .ref m1, .ref m2, .ref m3, .ref m4, .ref m5, .int (nI pl), .ref pg, .int fa, .int nf, .ref m6, .ref m7, .ref m8, .long sd, .int ik, .int kh, .int (nI km), .int ka, .int ks, .int kac, .ref m9, .ref m10, .ref m11, .ref m12, .long hv])), (m2, .inl (cI, 6, .inl g2))]) [0, 2] rfl) (ci := 7) (q0 := 0) rfl rfl)) rfl rfl hl.1 rfl (lv_room (Nat.le_of_ble_eq_true rfl)) dX7_act_22 ⟨Nat.le_of_ble_eq_true rfl, Nat.le_of_ble_eq_true rfl⟩)) (fun r_5 hr_5 => ?_)
      rcases hr_5 with ⟨rfl, hr_5⟩ | ⟨rfl, hr_5⟩
      · refine lv_if_ne (tgt := 31) hx hb dX7_act_25 (by decide) (fun c => absurd (by decide) c) (fun _ => ?_)
        refine lv_bipush (v := (-103)) hx hb dX7_act_28 (by decide) ?_
        refine W.widen (k := 0) (n := 0) (Nat.le_of_ble_eq_true rfl) (Nat.le_of_ble_eq_true rfl) ?_
        have hP9 := hP.sub (ws' := [(h0, .inr (7, [.int ih, .int hn, .int fl, .int (nI d_3), .int (nI e_4), .int ac, .int (nI kc), .ref m1, .ref m2, .ref m3, .ref m4, .ref m5, .int (nI pl), .ref pg, .int fa, .int nf, .ref m6, .ref m7, .ref m8, .long sd, .int ik, .int kh, .int (nI km), .int ka, .int ks, .int kac, .ref m9, .ref m10, .ref m11, .ref m12, .long hv])), (m1, .inl (cI, 6, .inl g1)), (m2, .inl (cI, 6, .inl g2)), (m3, .inl (cI, 6, .inl g3)), (m4, .inl (cI, 6, .inl g4))]) [0, 1, 2, 3, 4] rfl
        have hD9 := hD.sub (ws' := [(h0, .inr (7, [.int ih, .int hn, .int fl, .int (nI d_3), .int (nI e_4), .int ac, .int (nI kc), .ref m1, .ref m2, .ref m3, .ref m4, .ref m5, .int (nI pl), .ref pg, .int fa, .int nf, .ref m6, .ref m7, .ref m8, .long sd, .int ik, .int kh, .int (nI km), .int ka, .int ks, .int kac, .ref m9, .ref m10, .ref m11, .ref m12, .long hv])), (m1, .inl (cI, 6, .inl g1)), (m2, .inl (cI, 6, .inl g2)), (m3, .inl (cI, 6, .inl g3)), (m4, .inl (cI, 6, .inl g4))]) [0, 1, 2, 3, 4] (by decide) rfl
        rw [hQ]; exact W.iret (v := (-103)) hx hb hr (fun t ht hW => ⟨⟨(-103), (), rfl, (c_X7_act_a15 p0 fl kc g1 g2 d_3 e_4 hkc hpl hdu hr_1 c_2 hd_3 he_4 hr_5), ⟨(nI d_3), (nI e_4), ac, g3, g4, hdu, (c_X7_act_a11 p0 fl kc g2 d_3 e_4 hkc hpl hdu hr_1 c_2 hd_3 he_4 hr_5), (c_X7_act_a12 p0 fl kc g2 d_3 e_4 hkc hpl hdu hr_1 c_2 hd_3 he_4 hr_5), (c_X7_act_a13 p0 fl kc g1 g2 g3 d_3 e_4 hkc hpl hdu hr_1 c_2 hd_3 he_4 hr_5), (c_X7_act_a14 p0 fl kc g1 g2 g4 d_3 e_4 hkc hpl hdu hr_1 c_2 hd_3 he_4 hr_5), by rw [ht]; exact hP9, hD9⟩⟩, hS.F ht⟩) hS.2.2 dX7_act_30
      · refine lv_if_ne (tgt := 31) hx hb dX7_act_25 (by decide) (fun _ => ?_) (fun c => absurd c (by decide))
        refine lv_aload_n hx hb dX7_act_31 rfl (lv_at hl 0 rfl) ?_
        refine lv_iload_n hx hb dX7_act_32 rfl (lv_at hl 1 rfl) ?_
        have hPc := hP.sub (ws' := [(h0, .inr (7, [.int ih, .int hn, .int fl, .int (nI d_3), .int (nI e_4), .int ac, .int (nI kc), .ref m1, .ref m2, .ref m3, .ref m4, .ref m5, .int (nI pl), .ref pg, .int fa, .int nf, .ref m6, .ref m7, .ref m8, .long sd, .int ik, .int kh, .int (nI km), .int ka, .int ks, .int kac, .ref m9, .ref m10, .ref m11, .ref m12, .long hv]))]) [0] rfl
        have hDc := hD.sub (ws' := [(h0, .inr (7, [.int ih, .int hn, .int fl, .int (nI d_3), .int (nI e_4), .int ac, .int (nI kc), .ref m1, .ref m2, .ref m3, .ref m4, .ref m5, .int (nI pl), .ref pg, .int fa, .int nf, .ref m6, .ref m7, .ref m8, .long sd, .int ik, .int kh, .int (nI km), .int ka, .int ks, .int kac, .ref m9, .ref m10, .ref m11, .ref m12, .long hv]))]) [0] (by decide) rfl
        have hFc := va_free (wc := [(h0, .inr (7, [.int ih, .int hn, .int fl, .int (nI d_3), .int (nI e_4), .int ac, .int (nI kc), .ref m1, .ref m2, .ref m3, .ref m4, .ref m5, .int (nI pl), .ref pg, .int fa, .int nf, .ref m6, .ref m7, .ref m8, .long sd, .int ik, .int kh, .int (nI km), .int ka, .int ks, .int kac, .ref m9, .ref m10, .ref m11, .ref m12, .long hv]))]) hD hS hA [0] rfl
        refine va_callv (va_runV (As := [.int p0]) (rest := []) ⟨hx, hb, hml, hown, hts⟩ (c_X7_doAct l dC dI cI cB h0 p0 ih hn fl d_3 e_4 ac kc m1 m2 m3 m4 m5 pl pg fa nf m6 m7 m8 sd ik kh km ka ks kac m9 m10 m11 m12 hv s.heap.size hd_3 he_4 (cz_may_lt hr_5)) (cwV 1 hts gX7_act_X7_doAct rfl rfl rfl (by decide +kernel) ⟨Nat.le_of_ble_eq_true rfl, Nat.le_of_ble_eq_true rfl⟩) (cz_mV hPc hN hDc (va_recv hK hPc (ci := 7) (q0 := 0) rfl rfl)) rfl rfl hl.1 rfl (lv_room (Nat.le_of_ble_eq_true rfl)) dX7_act_33 ⟨Nat.le_of_ble_eq_true rfl, Nat.le_of_ble_eq_true rfl⟩) hS (fun q _ h => hFc q h) hFc (fun u t H1 locs ht hvm hr_6 hB hz1 hk1 hS => ?_)
        obtain ⟨q_7, q_8, hr_6_d, hr_6_e, hr_6_x, hr_6_y, hP1, hD1⟩ := hB
        rw [ht] at hP1
        obtain ⟨hP, hD⟩ := va_join (wr := [(m1, .inl (cI, 6, .inl g1)), (m2, .inl (cI, 6, .inl g2)), (m3, .inl (cI, 6, .inl g3)), (m4, .inl (cI, 6, .inl g4))]) (w1 := [(h0, .inr (7, [.int ih, .int hn, .int fl, .int (nI q_7), .int (nI q_8), .int ac, .int (nI kc), .ref m1, .ref m2, .ref m3, .ref m4, .ref m5, .int (nI pl), .ref pg, .int fa, .int nf, .ref m6, .ref m7, .ref m8, .long sd, .int ik, .int kh, .int (nI km), .int ka, .int ks, .int kac, .ref m9, .ref m10, .ref m11, .ref m12, .long hv]))]) hP hD [0] [1, 2, 3, 4] rfl rfl (by decide) (by decide) hk1 hFc hP1 hD1
        generalize H1 = H at hP hS ⊢
        have hP : va_P (dC, dI) vwCl [(m1, .inl (cI, 6, .inl g1)), (m2, .inl (cI, 6, .inl g2)), (m3, .inl (cI, 6, .inl g3)), (m4, .inl (cI, 6, .inl g4)), (h0, .inr (7, [.int ih, .int hn, .int fl, .int (nI q_7), .int (nI q_8), .int ac, .int (nI kc), .ref m1, .ref m2, .ref m3, .ref m4, .ref m5, .int (nI pl), .ref pg, .int fa, .int nf, .ref m6, .ref m7, .ref m8, .long sd, .int ik, .int kh, .int (nI km), .int ka, .int ks, .int kac, .ref m9, .ref m10, .ref m11, .ref m12, .long hv]))] H := hP
        have hD : va_D A [(m1, .inl (cI, 6, .inl g1)), (m2, .inl (cI, 6, .inl g2)), (m3, .inl (cI, 6, .inl g3)), (m4, .inl (cI, 6, .inl g4)), (h0, .inr (7, [.int ih, .int hn, .int fl, .int (nI q_7), .int (nI q_8), .int ac, .int (nI kc), .ref m1, .ref m2, .ref m3, .ref m4, .ref m5, .int (nI pl), .ref pg, .int fa, .int nf, .ref m6, .ref m7, .ref m8, .long sd, .int ik, .int kh, .int (nI km), .int ka, .int ks, .int kac, .ref m9, .ref m10, .ref m11, .ref m12, .long hv]))] := hD
        refine lv_aload_n hx hb dX7_act_36 rfl (lv_at hl 0 rfl) ?_
        refine lv_dup hx hb dX7_act_37 rfl ?_
        refine va_get (D := (dC, dI)) (ci := 7) (v := .int ac) (C := RX7) (T := TX7) (N := 31) hx hb hts hiX7 hown hK hP 4 rfl rfl 5 (by decide) (hts (.fieldLink RX7 83 "LeftProfileModel" "acts" "I") (List.mem_of_getElem? (i := 2) rfl)) (fun _ h9 => h9) rfl dX7_act_38 ?_
        refine lv_iconst (v := 1) hx hb dX7_act_41 (by decide) ?_
        refine lv_iadd hx hb dX7_act_42 ?_
        refine lv_topi (fun x_9 ex_9 => ?_)
        refine va_put (D := (dC, dI)) (ci := 7) (v := .int x_9) (ty := .int) (C := RX7) (T := TX7) (N := 31) hx hb hts hiX7 tyX7 tyX7_ok nmX7 hown hK hP hD hS 4 rfl rfl 5 (by decide) (hts (.fieldLink RX7 83 "LeftProfileModel" "acts" "I") (List.mem_of_getElem? (i := 2) rfl)) (fun _ h9 => h9) rfl (by decide +kernel) rfl rfl (Nat.le_of_ble_eq_true rfl) dX7_act_43 (fun H locs hP hD hS => ?_)
        have hP : va_P (dC, dI) vwCl [(m1, .inl (cI, 6, .inl g1)), (m2, .inl (cI, 6, .inl g2)), (m3, .inl (cI, 6, .inl g3)), (m4, .inl (cI, 6, .inl g4)), (h0, .inr (7, [.int ih, .int hn, .int fl, .int (nI q_7), .int (nI q_8), .int x_9, .int (nI kc), .ref m1, .ref m2, .ref m3, .ref m4, .ref m5, .int (nI pl), .ref pg, .int fa, .int nf, .ref m6, .ref m7, .ref m8, .long sd, .int ik, .int kh, .int (nI km), .int ka, .int ks, .int kac, .ref m9, .ref m10, .ref m11, .ref m12, .long hv]))] H := hP
        have hD : va_D A [(m1, .inl (cI, 6, .inl g1)), (m2, .inl (cI, 6, .inl g2)), (m3, .inl (cI, 6, .inl g3)), (m4, .inl (cI, 6, .inl g4)), (h0, .inr (7, [.int ih, .int hn, .int fl, .int (nI q_7), .int (nI q_8), .int x_9, .int (nI kc), .ref m1, .ref m2, .ref m3, .ref m4, .ref m5, .int (nI pl), .ref pg, .int fa, .int nf, .ref m6, .ref m7, .ref m8, .long sd, .int ik, .int kh, .int (nI km), .int ka, .int ks, .int kac, .ref m9, .ref m10, .ref m11, .ref m12, .long hv]))] := hD
        refine lv_iconst (v := 0) hx hb dX7_act_46 (by decide) ?_
        refine lv_istore_n (lv' := [(2, .int 0), (0, .ref h0), (1, .int p0)]) hx hb dX7_act_47 rfl hl (by decide) rfl (fun ls hl => ?_)
        have lp48 : ∀ (n48 : Nat) (i48 : Nat) (y3 : Nat → Int32) (y4 : Nat → Int32) (H : Heap) (locs : List Loc) (ls : Array Slot), i48 + n48 = kc → y3 = cz_ml 1 (fun i => cz_sw (g1 i) (g2 i) (nI q_7) (nI q_8) fl g2 kc) g3 i48 → y4 = cz_ml 2 (fun i => cz_sw (g1 i) (g2 i) (nI q_7) (nI q_8) fl g2 kc) g4 i48 → va_P (dC, dI) vwCl [(m1, .inl (cI, 6, .inl g1)), (m2, .inl (cI, 6, .inl g2)), (m3, .inl (cI, 6, .inl y3)), (m4, .inl (cI, 6, .inl y4)), (h0, .inr (7, [.int ih, .int hn, .int fl, .int (nI q_7), .int (nI q_8), .int x_9, .int (nI kc), .ref m1, .ref m2, .ref m3, .ref m4, .ref m5, .int (nI pl), .ref pg, .int fa, .int nf, .ref m6, .ref m7, .ref m8, .long sd, .int ik, .int kh, .int (nI km), .int ka, .int ks, .int kac, .ref m9, .ref m10, .ref m11, .ref m12, .long hv]))] H → va_D A [(m1, .inl (cI, 6, .inl g1)), (m2, .inl (cI, 6, .inl g2)), (m3, .inl (cI, 6, .inl y3)), (m4, .inl (cI, 6, .inl y4)), (h0, .inr (7, [.int ih, .int hn, .int fl, .int (nI q_7), .int (nI q_8), .int x_9, .int (nI kc), .ref m1, .ref m2, .ref m3, .ref m4, .ref m5, .int (nI pl), .ref pg, .int fa, .int nf, .ref m6, .ref m7, .ref m8, .long sd, .int ik, .int kh, .int (nI km), .int ka, .int ks, .int kac, .ref m9, .ref m10, .ref m11, .ref m12, .long hv]))] → va_S A s.heap H locs → lv_has ls 4 [(0, .ref h0), (1, .int p0), (2, .int (nI i48))] → W p l e ({ frames := 5, cells := 0, slots := 0, locals := 116 } : Room) s m #[Value.ref h0, Value.int p0] below meth c H locs 0 0 Q (F0 m 48 ls []) := by
          intro n48
          induction n48 with
          | zero =>
            intro i48 y3 y4 H locs ls hi48 hl3 hl4 hP hD hS hl
            obtain rfl : kc = i48 := by omega
            refine lv_iload_n hx hb dX7_act_48 rfl (lv_at hl 2 rfl) ?_
            refine lv_aload_n hx hb dX7_act_49 rfl (lv_at hl 0 rfl) ?_
            refine va_get (D := (dC, dI)) (ci := 7) (v := .int (nI kc)) (C := RX7) (T := TX7) (N := 31) hx hb hts hiX7 hown hK hP 4 rfl rfl 6 (by decide) (hts (.fieldLink RX7 86 "LeftProfileModel" "courtiers" "I") (List.mem_of_getElem? (i := 3) rfl)) (fun _ h9 => h9) rfl dX7_act_50 ?_
            refine lv_icmp_ge (tgt := 116) hx hb dX7_act_53 (by decide) (fun c_10 => ?_) (fun c_10 => ?_)
            · refine lv_aload_n hx hb dX7_act_116 rfl (lv_at hl 0 rfl) ?_
              refine vp_callSi (cz_run (va_runV (As := []) (rest := []) ⟨hx, hb, hml, hown, hts⟩ (c_X7_guiltySet l dC dI cI cB h0 ih hn fl (nI q_7) (nI q_8) x_9 kc m1 m2 m3 m4 m5 pl pg fa nf m6 m7 m8 sd ik kh km ka ks kac m9 m10 m11 m12 hv g1 g2 hkc hpl (cz_du_n (a := q_7) (b := q_8) (by omega) (by omega))) (cwV 0 hts gX7_act_X7_guiltySet rfl rfl rfl (by decide +kernel) ⟨Nat.le_of_ble_eq_true rfl, Nat.le_of_ble_eq_true rfl⟩) (cz_pV (hP.sub (ws' := [(h0, .inr (7, [.int ih, .int hn, .int fl, .int (nI q_7), .int (nI q_8), .int x_9, .int (nI kc), .ref m1, .ref m2, .ref m3, .ref m4, .ref m5, .int (nI pl), .ref pg, .int fa, .int nf, .ref m6, .ref m7, .ref m8, .long sd, .int ik, .int kh, .int (nI km), .int ka, .int ks, .int kac, .ref m9, .ref m10, .ref m11, .ref m12, .long hv])), (m1, .inl (cI, 6, .inl g1)), (m2, .inl (cI, 6, .inl g2))]) [4, 0, 1] rfl) hN (va_recv hK (hP.sub (ws' := [(h0, .inr (7, [.int ih, .int hn, .int fl, .int (nI q_7), .int (nI q_8), .int x_9, .int (nI kc), .ref m1, .ref m2, .ref m3, .ref m4, .ref m5, .int (nI pl), .ref pg, .int fa, .int nf, .ref m6, .ref m7, .ref m8, .long sd, .int ik, .int kh, .int (nI km), .int ka, .int ks, .int kac, .ref m9, .ref m10, .ref m11, .ref m12, .long hv])), (m1, .inl (cI, 6, .inl g1)), (m2, .inl (cI, 6, .inl g2))]) [4, 0, 1] rfl) (ci := 7) (q0 := 0) rfl rfl)) rfl rfl hl.1 rfl (lv_room (Nat.le_of_ble_eq_true rfl)) dX7_act_117 ⟨Nat.le_of_ble_eq_true rfl, Nat.le_of_ble_eq_true rfl⟩)) (fun r_11 hr_11 => ?_)
              refine vp_callSi (cz_run (va_runS (As := [.int r_11]) (rest := []) ⟨hx, hb, hml, hown, hts⟩ (c_X7_size l dC dI cI cB r_11 ) (va_cwS 1 hts gX7_act_X7_size rfl rfl rfl (by decide +kernel) ⟨Nat.le_of_ble_eq_true rfl, Nat.le_of_ble_eq_true rfl⟩) (cz_pS (hP.sub (ws' := []) [] rfl) hN) rfl rfl hl.1 rfl (lv_room (Nat.le_of_ble_eq_true rfl)) dX7_act_120 ⟨Nat.le_of_ble_eq_true rfl, Nat.le_of_ble_eq_true rfl⟩)) (fun r_12 hr_12 => ?_)
              refine W.widen (k := 0) (n := 0) (Nat.le_of_ble_eq_true rfl) (Nat.le_of_ble_eq_true rfl) ?_
              have hP9 := hP.sub (ws' := [(h0, .inr (7, [.int ih, .int hn, .int fl, .int (nI q_7), .int (nI q_8), .int x_9, .int (nI kc), .ref m1, .ref m2, .ref m3, .ref m4, .ref m5, .int (nI pl), .ref pg, .int fa, .int nf, .ref m6, .ref m7, .ref m8, .long sd, .int ik, .int kh, .int (nI km), .int ka, .int ks, .int kac, .ref m9, .ref m10, .ref m11, .ref m12, .long hv])), (m1, .inl (cI, 6, .inl g1)), (m2, .inl (cI, 6, .inl g2)), (m3, .inl (cI, 6, .inl y3)), (m4, .inl (cI, 6, .inl y4))]) [4, 0, 1, 2, 3] rfl
              have hD9 := hD.sub (ws' := [(h0, .inr (7, [.int ih, .int hn, .int fl, .int (nI q_7), .int (nI q_8), .int x_9, .int (nI kc), .ref m1, .ref m2, .ref m3, .ref m4, .ref m5, .int (nI pl), .ref pg, .int fa, .int nf, .ref m6, .ref m7, .ref m8, .long sd, .int ik, .int kh, .int (nI km), .int ka, .int ks, .int kac, .ref m9, .ref m10, .ref m11, .ref m12, .long hv])), (m1, .inl (cI, 6, .inl g1)), (m2, .inl (cI, 6, .inl g2)), (m3, .inl (cI, 6, .inl y3)), (m4, .inl (cI, 6, .inl y4))]) [4, 0, 1, 2, 3] (by decide) rfl
              rw [hQ]; exact W.iret (v := r_12) hx hb hr (fun t ht hW => ⟨⟨r_12, (), rfl, (c_X7_act_a20 p0 fl ac kc g1 g2 g3 g4 d_3 e_4 q_7 q_8 x_9 y3 y4 r_11 r_12 hkc hpl hdu hr_1 c_2 hd_3 he_4 hr_5 hr_6_d hr_6_e hr_6_x hr_6_y ex_9 hl3 hl4 hr_11 hr_12), ⟨(nI q_7), (nI q_8), x_9, y3, y4, (cz_du_n (a := q_7) (b := q_8) (by omega) (by omega)), (c_X7_act_a16 p0 fl ac kc g1 g2 g3 g4 d_3 e_4 q_7 q_8 x_9 y3 y4 r_11 r_12 hkc hpl hdu hr_1 c_2 hd_3 he_4 hr_5 hr_6_d hr_6_e hr_6_x hr_6_y ex_9 hl3 hl4 hr_11 hr_12), (c_X7_act_a17 p0 fl ac kc g1 g2 g3 g4 d_3 e_4 q_7 q_8 x_9 y3 y4 r_11 r_12 hkc hpl hdu hr_1 c_2 hd_3 he_4 hr_5 hr_6_d hr_6_e hr_6_x hr_6_y ex_9 hl3 hl4 hr_11 hr_12), (c_X7_act_a18 p0 fl ac kc g1 g2 g3 g4 d_3 e_4 q_7 q_8 x_9 y3 y4 r_11 r_12 hkc hpl hdu hr_1 c_2 hd_3 he_4 hr_5 hr_6_d hr_6_e hr_6_x hr_6_y ex_9 hl3 hl4 hr_11 hr_12), (c_X7_act_a19 p0 fl ac kc g1 g2 g3 g4 d_3 e_4 q_7 q_8 x_9 y3 y4 r_11 r_12 hkc hpl hdu hr_1 c_2 hd_3 he_4 hr_5 hr_6_d hr_6_e hr_6_x hr_6_y ex_9 hl3 hl4 hr_11 hr_12), by rw [ht]; exact hP9, hD9⟩⟩, hS.F ht⟩) hS.2.2 dX7_act_123
            · exact absurd (show nI kc ≤ nI kc from nI_le (a := kc) (b := kc) (by omega) (by omega)) c_10
          | succ n48 ih48 =>
            intro i48 y3 y4 H locs ls hi48 hl3 hl4 hP hD hS hl
            refine lv_iload_n hx hb dX7_act_48 rfl (lv_at hl 2 rfl) ?_
            refine lv_aload_n hx hb dX7_act_49 rfl (lv_at hl 0 rfl) ?_
            refine va_get (D := (dC, dI)) (ci := 7) (v := .int (nI kc)) (C := RX7) (T := TX7) (N := 31) hx hb hts hiX7 hown hK hP 4 rfl rfl 6 (by decide) (hts (.fieldLink RX7 86 "LeftProfileModel" "courtiers" "I") (List.mem_of_getElem? (i := 3) rfl)) (fun _ h9 => h9) rfl dX7_act_50 ?_
            refine lv_icmp_ge (tgt := 116) hx hb dX7_act_53 (by decide) (fun c_13 => ?_) (fun c_13 => ?_)
            · exact absurd c_13 (show ¬ nI kc ≤ nI i48 from nI_ge (a := i48) (b := kc) (by omega) (by omega))
            · refine lv_aload_n hx hb dX7_act_56 rfl (lv_at hl 0 rfl) ?_
              refine lv_iload_n hx hb dX7_act_57 rfl (lv_at hl 2 rfl) ?_
              refine vp_callSi (cz_run (va_runV (As := [.int (nI i48)]) (rest := []) ⟨hx, hb, hml, hown, hts⟩ (c_X7_seesNow l dC dI cI cB h0 i48 ih hn fl (nI q_7) (nI q_8) x_9 kc m1 m2 m3 m4 m5 pl pg fa nf m6 m7 m8 sd ik kh km ka ks kac m9 m10 m11 m12 hv g1 g2 hkc hpl (cz_du_n (a := q_7) (b := q_8) (by omega) (by omega)) (by omega)) (cwV 1 hts gX7_act_X7_seesNow rfl rfl rfl (by decide +kernel) ⟨Nat.le_of_ble_eq_true rfl, Nat.le_of_ble_eq_true rfl⟩) (cz_pV (hP.sub (ws' := [(h0, .inr (7, [.int ih, .int hn, .int fl, .int (nI q_7), .int (nI q_8), .int x_9, .int (nI kc), .ref m1, .ref m2, .ref m3, .ref m4, .ref m5, .int (nI pl), .ref pg, .int fa, .int nf, .ref m6, .ref m7, .ref m8, .long sd, .int ik, .int kh, .int (nI km), .int ka, .int ks, .int kac, .ref m9, .ref m10, .ref m11, .ref m12, .long hv])), (m1, .inl (cI, 6, .inl g1)), (m2, .inl (cI, 6, .inl g2))]) [4, 0, 1] rfl) hN (va_recv hK (hP.sub (ws' := [(h0, .inr (7, [.int ih, .int hn, .int fl, .int (nI q_7), .int (nI q_8), .int x_9, .int (nI kc), .ref m1, .ref m2, .ref m3, .ref m4, .ref m5, .int (nI pl), .ref pg, .int fa, .int nf, .ref m6, .ref m7, .ref m8, .long sd, .int ik, .int kh, .int (nI km), .int ka, .int ks, .int kac, .ref m9, .ref m10, .ref m11, .ref m12, .long hv])), (m1, .inl (cI, 6, .inl g1)), (m2, .inl (cI, 6, .inl g2))]) [4, 0, 1] rfl) (ci := 7) (q0 := 0) rfl rfl)) rfl rfl hl.1 rfl (lv_room (Nat.le_of_ble_eq_true rfl)) dX7_act_58 ⟨Nat.le_of_ble_eq_true rfl, Nat.le_of_ble_eq_true rfl⟩)) (fun r_14 hr_14 => ?_)
              refine lv_istore_n (lv' := [(3, .int r_14), (0, .ref h0), (1, .int p0), (2, .int (nI i48))]) hx hb dX7_act_61 rfl hl (by decide) rfl (fun ls hl => ?_)
              refine lv_aload_n hx hb dX7_act_62 rfl (lv_at hl 1 rfl) ?_
              refine va_get (D := (dC, dI)) (ci := 7) (v := .ref m3) (C := RX7) (T := TX7) (N := 31) hx hb hts hiX7 hown hK hP 4 rfl rfl 9 (by decide) (hts (.fieldLink RX7 23 "LeftProfileModel" "sawLeft" "[I") (List.mem_of_getElem? (i := 4) rfl)) (fun _ h9 => h9) rfl dX7_act_63 ?_
              refine lv_iload_n hx hb dX7_act_66 rfl (lv_at hl 3 rfl) ?_
              refine lv_dup2_11 hx hb dX7_act_67 rfl rfl ?_
              refine va_iald hx hb hK hP 2 0 rfl rfl (vp_in_nI (n := i48) (by omega) (by omega)) dX7_act_68 ?_
              refine cz_i (y := (y3 i48)) (congrArg y3 (nI_clamp (n := i48) (by omega))) ?_
              refine lv_iload_n hx hb dX7_act_69 rfl (lv_at hl 0 rfl) ?_
              refine lv_iconst (v := 1) hx hb dX7_act_70 (by decide) ?_
              refine lv_icmp_eq (tgt := 79) hx hb dX7_act_71 (by decide) (fun c_15 => ?_) (fun c_15 => ?_)
              · refine lv_iconst (v := 1) hx hb dX7_act_79 (by decide) ?_
                refine lv_goto (tgt := 84) hx hb dX7_act_80 (by decide) ?_
                refine lv_iadd hx hb dX7_act_84 ?_
                refine lv_topi (fun x_16 ex_16 => ?_)
                refine va_iast hx hb hK hP hD hS 2 0 rfl rfl (vp_in_nI (n := i48) (by omega) (by omega)) dX7_act_85 (fun H locs hP hD hS => ?_)
                rw [show (nI i48).toNatClampNeg = i48 from nI_clamp (n := i48) (by omega)] at hP hD
                have hP : va_P (dC, dI) vwCl [(m1, .inl (cI, 6, .inl g1)), (m2, .inl (cI, 6, .inl g2)), (m3, .inl (cI, 6, .inl (upd y3 i48 x_16))), (m4, .inl (cI, 6, .inl y4)), (h0, .inr (7, [.int ih, .int hn, .int fl, .int (nI q_7), .int (nI q_8), .int x_9, .int (nI kc), .ref m1, .ref m2, .ref m3, .ref m4, .ref m5, .int (nI pl), .ref pg, .int fa, .int nf, .ref m6, .ref m7, .ref m8, .long sd, .int ik, .int kh, .int (nI km), .int ka, .int ks, .int kac, .ref m9, .ref m10, .ref m11, .ref m12, .long hv]))] H := hP
                have hD : va_D A [(m1, .inl (cI, 6, .inl g1)), (m2, .inl (cI, 6, .inl g2)), (m3, .inl (cI, 6, .inl (upd y3 i48 x_16))), (m4, .inl (cI, 6, .inl y4)), (h0, .inr (7, [.int ih, .int hn, .int fl, .int (nI q_7), .int (nI q_8), .int x_9, .int (nI kc), .ref m1, .ref m2, .ref m3, .ref m4, .ref m5, .int (nI pl), .ref pg, .int fa, .int nf, .ref m6, .ref m7, .ref m8, .long sd, .int ik, .int kh, .int (nI km), .int ka, .int ks, .int kac, .ref m9, .ref m10, .ref m11, .ref m12, .long hv]))] := hD
                refine lv_aload_n hx hb dX7_act_86 rfl (lv_at hl 1 rfl) ?_
                refine va_get (D := (dC, dI)) (ci := 7) (v := .ref m4) (C := RX7) (T := TX7) (N := 31) hx hb hts hiX7 hown hK hP 4 rfl rfl 10 (by decide) (hts (.fieldLink RX7 26 "LeftProfileModel" "sawRight" "[I") (List.mem_of_getElem? (i := 5) rfl)) (fun _ h9 => h9) rfl dX7_act_87 ?_
                refine lv_iload_n hx hb dX7_act_90 rfl (lv_at hl 3 rfl) ?_
                refine lv_dup2_11 hx hb dX7_act_91 rfl rfl ?_
                refine va_iald hx hb hK hP 3 0 rfl rfl (vp_in_nI (n := i48) (by omega) (by omega)) dX7_act_92 ?_
                refine cz_i (y := (y4 i48)) (congrArg y4 (nI_clamp (n := i48) (by omega))) ?_
                refine lv_iload_n hx hb dX7_act_93 rfl (lv_at hl 0 rfl) ?_
                refine lv_iconst (v := 2) hx hb dX7_act_94 (by decide) ?_
                refine lv_icmp_eq (tgt := 103) hx hb dX7_act_95 (by decide) (fun c_17 => ?_) (fun c_17 => ?_)
                · refine lv_iconst (v := 1) hx hb dX7_act_103 (by decide) ?_
                  refine lv_goto (tgt := 108) hx hb dX7_act_104 (by decide) ?_
                  refine lv_iadd hx hb dX7_act_108 ?_
                  refine lv_topi (fun x_18 ex_18 => ?_)
                  refine va_iast hx hb hK hP hD hS 3 0 rfl rfl (vp_in_nI (n := i48) (by omega) (by omega)) dX7_act_109 (fun H locs hP hD hS => ?_)
                  rw [show (nI i48).toNatClampNeg = i48 from nI_clamp (n := i48) (by omega)] at hP hD
                  have hP : va_P (dC, dI) vwCl [(m1, .inl (cI, 6, .inl g1)), (m2, .inl (cI, 6, .inl g2)), (m3, .inl (cI, 6, .inl (upd y3 i48 x_16))), (m4, .inl (cI, 6, .inl (upd y4 i48 x_18))), (h0, .inr (7, [.int ih, .int hn, .int fl, .int (nI q_7), .int (nI q_8), .int x_9, .int (nI kc), .ref m1, .ref m2, .ref m3, .ref m4, .ref m5, .int (nI pl), .ref pg, .int fa, .int nf, .ref m6, .ref m7, .ref m8, .long sd, .int ik, .int kh, .int (nI km), .int ka, .int ks, .int kac, .ref m9, .ref m10, .ref m11, .ref m12, .long hv]))] H := hP
                  have hD : va_D A [(m1, .inl (cI, 6, .inl g1)), (m2, .inl (cI, 6, .inl g2)), (m3, .inl (cI, 6, .inl (upd y3 i48 x_16))), (m4, .inl (cI, 6, .inl (upd y4 i48 x_18))), (h0, .inr (7, [.int ih, .int hn, .int fl, .int (nI q_7), .int (nI q_8), .int x_9, .int (nI kc), .ref m1, .ref m2, .ref m3, .ref m4, .ref m5, .int (nI pl), .ref pg, .int fa, .int nf, .ref m6, .ref m7, .ref m8, .long sd, .int ik, .int kh, .int (nI km), .int ka, .int ks, .int kac, .ref m9, .ref m10, .ref m11, .ref m12, .long hv]))] := hD
                  refine lv_iinc (v := (nI (i48 + 1))) (lv' := [(2, .int (nI (i48 + 1))), (3, .int r_14), (0, .ref h0), (1, .int p0)]) hx hb dX7_act_110 hl (k := 3) rfl (nI_add i48 1) (by decide) rfl (fun ls hl => ?_)
                  refine lv_goto (tgt := 48) hx hb dX7_act_113 (by decide) ?_
                  exact ih48 (i48 + 1) (upd y3 i48 x_16) (upd y4 i48 x_18) H locs ls (by omega) (c_X7_act_a21 p0 fl ac kc g1 g2 g3 g4 d_3 e_4 q_7 q_8 x_9 i48 y3 y4 n48 r_14 x_16 x_18 hkc hpl hdu hr_1 c_2 hd_3 he_4 hr_5 hr_6_d hr_6_e hr_6_x hr_6_y ex_9 hi48 hl3 hl4 hr_14 c_15 ex_16 c_17 ex_18) (c_X7_act_a22 p0 fl ac kc g1 g2 g3 g4 d_3 e_4 q_7 q_8 x_9 i48 y3 y4 n48 r_14 x_16 x_18 hkc hpl hdu hr_1 c_2 hd_3 he_4 hr_5 hr_6_d hr_6_e hr_6_x hr_6_y ex_9 hi48 hl3 hl4 hr_14 c_15 ex_16 c_17 ex_18) hP hD hS (lv_sub hl [2, 3, 0] rfl)
                · refine lv_iload_n hx hb dX7_act_98 rfl (lv_at hl 0 rfl) ?_
                  refine lv_iconst (v := 3) hx hb dX7_act_99 (by decide) ?_
                  refine lv_icmp_ne (tgt := 107) hx hb dX7_act_100 (by decide) (fun c_19 => ?_) (fun c_19 => ?_)
                  · refine lv_iconst (v := 0) hx hb dX7_act_107 (by decide) ?_
                    refine lv_iadd hx hb dX7_act_108 ?_
                    refine lv_topi (fun x_20 ex_20 => ?_)
                    refine va_iast hx hb hK hP hD hS 3 0 rfl rfl (vp_in_nI (n := i48) (by omega) (by omega)) dX7_act_109 (fun H locs hP hD hS => ?_)
                    rw [show (nI i48).toNatClampNeg = i48 from nI_clamp (n := i48) (by omega)] at hP hD
                    have hP : va_P (dC, dI) vwCl [(m1, .inl (cI, 6, .inl g1)), (m2, .inl (cI, 6, .inl g2)), (m3, .inl (cI, 6, .inl (upd y3 i48 x_16))), (m4, .inl (cI, 6, .inl (upd y4 i48 x_20))), (h0, .inr (7, [.int ih, .int hn, .int fl, .int (nI q_7), .int (nI q_8), .int x_9, .int (nI kc), .ref m1, .ref m2, .ref m3, .ref m4, .ref m5, .int (nI pl), .ref pg, .int fa, .int nf, .ref m6, .ref m7, .ref m8, .long sd, .int ik, .int kh, .int (nI km), .int ka, .int ks, .int kac, .ref m9, .ref m10, .ref m11, .ref m12, .long hv]))] H := hP
                    have hD : va_D A [(m1, .inl (cI, 6, .inl g1)), (m2, .inl (cI, 6, .inl g2)), (m3, .inl (cI, 6, .inl (upd y3 i48 x_16))), (m4, .inl (cI, 6, .inl (upd y4 i48 x_20))), (h0, .inr (7, [.int ih, .int hn, .int fl, .int (nI q_7), .int (nI q_8), .int x_9, .int (nI kc), .ref m1, .ref m2, .ref m3, .ref m4, .ref m5, .int (nI pl), .ref pg, .int fa, .int nf, .ref m6, .ref m7, .ref m8, .long sd, .int ik, .int kh, .int (nI km), .int ka, .int ks, .int kac, .ref m9, .ref m10, .ref m11, .ref m12, .long hv]))] := hD
                    refine lv_iinc (v := (nI (i48 + 1))) (lv' := [(2, .int (nI (i48 + 1))), (3, .int r_14), (0, .ref h0), (1, .int p0)]) hx hb dX7_act_110 hl (k := 3) rfl (nI_add i48 1) (by decide) rfl (fun ls hl => ?_)
                    refine lv_goto (tgt := 48) hx hb dX7_act_113 (by decide) ?_
                    exact ih48 (i48 + 1) (upd y3 i48 x_16) (upd y4 i48 x_20) H locs ls (by omega) (c_X7_act_a23 p0 fl ac kc g1 g2 g3 g4 d_3 e_4 q_7 q_8 x_9 i48 y3 y4 n48 r_14 x_16 x_20 hkc hpl hdu hr_1 c_2 hd_3 he_4 hr_5 hr_6_d hr_6_e hr_6_x hr_6_y ex_9 hi48 hl3 hl4 hr_14 c_15 ex_16 c_17 c_19 ex_20) (c_X7_act_a24 p0 fl ac kc g1 g2 g3 g4 d_3 e_4 q_7 q_8 x_9 i48 y3 y4 n48 r_14 x_16 x_20 hkc hpl hdu hr_1 c_2 hd_3 he_4 hr_5 hr_6_d hr_6_e hr_6_x hr_6_y ex_9 hi48 hl3 hl4 hr_14 c_15 ex_16 c_17 c_19 ex_20) hP hD hS (lv_sub hl [2, 3, 0] rfl)
                  · refine lv_iconst (v := 1) hx hb dX7_act_103 (by decide) ?_
                    refine lv_goto (tgt := 108) hx hb dX7_act_104 (by decide) ?_
                    refine lv_iadd hx hb dX7_act_108 ?_
                    refine lv_topi (fun x_21 ex_21 => ?_)
                    refine va_iast hx hb hK hP hD hS 3 0 rfl rfl (vp_in_nI (n := i48) (by omega) (by omega)) dX7_act_109 (fun H locs hP hD hS => ?_)
                    rw [show (nI i48).toNatClampNeg = i48 from nI_clamp (n := i48) (by omega)] at hP hD
                    have hP : va_P (dC, dI) vwCl [(m1, .inl (cI, 6, .inl g1)), (m2, .inl (cI, 6, .inl g2)), (m3, .inl (cI, 6, .inl (upd y3 i48 x_16))), (m4, .inl (cI, 6, .inl (upd y4 i48 x_21))), (h0, .inr (7, [.int ih, .int hn, .int fl, .int (nI q_7), .int (nI q_8), .int x_9, .int (nI kc), .ref m1, .ref m2, .ref m3, .ref m4, .ref m5, .int (nI pl), .ref pg, .int fa, .int nf, .ref m6, .ref m7, .ref m8, .long sd, .int ik, .int kh, .int (nI km), .int ka, .int ks, .int kac, .ref m9, .ref m10, .ref m11, .ref m12, .long hv]))] H := hP
                    have hD : va_D A [(m1, .inl (cI, 6, .inl g1)), (m2, .inl (cI, 6, .inl g2)), (m3, .inl (cI, 6, .inl (upd y3 i48 x_16))), (m4, .inl (cI, 6, .inl (upd y4 i48 x_21))), (h0, .inr (7, [.int ih, .int hn, .int fl, .int (nI q_7), .int (nI q_8), .int x_9, .int (nI kc), .ref m1, .ref m2, .ref m3, .ref m4, .ref m5, .int (nI pl), .ref pg, .int fa, .int nf, .ref m6, .ref m7, .ref m8, .long sd, .int ik, .int kh, .int (nI km), .int ka, .int ks, .int kac, .ref m9, .ref m10, .ref m11, .ref m12, .long hv]))] := hD
                    refine lv_iinc (v := (nI (i48 + 1))) (lv' := [(2, .int (nI (i48 + 1))), (3, .int r_14), (0, .ref h0), (1, .int p0)]) hx hb dX7_act_110 hl (k := 3) rfl (nI_add i48 1) (by decide) rfl (fun ls hl => ?_)
                    refine lv_goto (tgt := 48) hx hb dX7_act_113 (by decide) ?_
                    exact ih48 (i48 + 1) (upd y3 i48 x_16) (upd y4 i48 x_21) H locs ls (by omega) (c_X7_act_a25 p0 fl ac kc g1 g2 g3 g4 d_3 e_4 q_7 q_8 x_9 i48 y3 y4 n48 r_14 x_16 x_21 hkc hpl hdu hr_1 c_2 hd_3 he_4 hr_5 hr_6_d hr_6_e hr_6_x hr_6_y ex_9 hi48 hl3 hl4 hr_14 c_15 ex_16 c_17 c_19 ex_21) (c_X7_act_a26 p0 fl ac kc g1 g2 g3 g4 d_3 e_4 q_7 q_8 x_9 i48 y3 y4 n48 r_14 x_16 x_21 hkc hpl hdu hr_1 c_2 hd_3 he_4 hr_5 hr_6_d hr_6_e hr_6_x hr_6_y ex_9 hi48 hl3 hl4 hr_14 c_15 ex_16 c_17 c_19 ex_21) hP hD hS (lv_sub hl [2, 3, 0] rfl)
              · refine lv_iload_n hx hb dX7_act_74 rfl (lv_at hl 0 rfl) ?_
                refine lv_iconst (v := 3) hx hb dX7_act_75 (by decide) ?_
                refine lv_icmp_ne (tgt := 83) hx hb dX7_act_76 (by decide) (fun c_22 => ?_) (fun c_22 => ?_)
                · refine lv_iconst (v := 0) hx hb dX7_act_83 (by decide) ?_
                  refine lv_iadd hx hb dX7_act_84 ?_
                  refine lv_topi (fun x_23 ex_23 => ?_)
                  refine va_iast hx hb hK hP hD hS 2 0 rfl rfl (vp_in_nI (n := i48) (by omega) (by omega)) dX7_act_85 (fun H locs hP hD hS => ?_)
                  rw [show (nI i48).toNatClampNeg = i48 from nI_clamp (n := i48) (by omega)] at hP hD
                  have hP : va_P (dC, dI) vwCl [(m1, .inl (cI, 6, .inl g1)), (m2, .inl (cI, 6, .inl g2)), (m3, .inl (cI, 6, .inl (upd y3 i48 x_23))), (m4, .inl (cI, 6, .inl y4)), (h0, .inr (7, [.int ih, .int hn, .int fl, .int (nI q_7), .int (nI q_8), .int x_9, .int (nI kc), .ref m1, .ref m2, .ref m3, .ref m4, .ref m5, .int (nI pl), .ref pg, .int fa, .int nf, .ref m6, .ref m7, .ref m8, .long sd, .int ik, .int kh, .int (nI km), .int ka, .int ks, .int kac, .ref m9, .ref m10, .ref m11, .ref m12, .long hv]))] H := hP
                  have hD : va_D A [(m1, .inl (cI, 6, .inl g1)), (m2, .inl (cI, 6, .inl g2)), (m3, .inl (cI, 6, .inl (upd y3 i48 x_23))), (m4, .inl (cI, 6, .inl y4)), (h0, .inr (7, [.int ih, .int hn, .int fl, .int (nI q_7), .int (nI q_8), .int x_9, .int (nI kc), .ref m1, .ref m2, .ref m3, .ref m4, .ref m5, .int (nI pl), .ref pg, .int fa, .int nf, .ref m6, .ref m7, .ref m8, .long sd, .int ik, .int kh, .int (nI km), .int ka, .int ks, .int kac, .ref m9, .ref m10, .ref m11, .ref m12, .long hv]))] := hD
                  refine lv_aload_n hx hb dX7_act_86 rfl (lv_at hl 1 rfl) ?_
                  refine va_get (D := (dC, dI)) (ci := 7) (v := .ref m4) (C := RX7) (T := TX7) (N := 31) hx hb hts hiX7 hown hK hP 4 rfl rfl 10 (by decide) (hts (.fieldLink RX7 26 "LeftProfileModel" "sawRight" "[I") (List.mem_of_getElem? (i := 5) rfl)) (fun _ h9 => h9) rfl dX7_act_87 ?_
                  refine lv_iload_n hx hb dX7_act_90 rfl (lv_at hl 3 rfl) ?_
                  refine lv_dup2_11 hx hb dX7_act_91 rfl rfl ?_
                  refine va_iald hx hb hK hP 3 0 rfl rfl (vp_in_nI (n := i48) (by omega) (by omega)) dX7_act_92 ?_
                  refine cz_i (y := (y4 i48)) (congrArg y4 (nI_clamp (n := i48) (by omega))) ?_
                  refine lv_iload_n hx hb dX7_act_93 rfl (lv_at hl 0 rfl) ?_
                  refine lv_iconst (v := 2) hx hb dX7_act_94 (by decide) ?_
                  refine lv_icmp_eq (tgt := 103) hx hb dX7_act_95 (by decide) (fun c_24 => ?_) (fun c_24 => ?_)
                  · refine lv_iconst (v := 1) hx hb dX7_act_103 (by decide) ?_
                    refine lv_goto (tgt := 108) hx hb dX7_act_104 (by decide) ?_
                    refine lv_iadd hx hb dX7_act_108 ?_
                    refine lv_topi (fun x_25 ex_25 => ?_)
                    refine va_iast hx hb hK hP hD hS 3 0 rfl rfl (vp_in_nI (n := i48) (by omega) (by omega)) dX7_act_109 (fun H locs hP hD hS => ?_)
                    rw [show (nI i48).toNatClampNeg = i48 from nI_clamp (n := i48) (by omega)] at hP hD
                    have hP : va_P (dC, dI) vwCl [(m1, .inl (cI, 6, .inl g1)), (m2, .inl (cI, 6, .inl g2)), (m3, .inl (cI, 6, .inl (upd y3 i48 x_23))), (m4, .inl (cI, 6, .inl (upd y4 i48 x_25))), (h0, .inr (7, [.int ih, .int hn, .int fl, .int (nI q_7), .int (nI q_8), .int x_9, .int (nI kc), .ref m1, .ref m2, .ref m3, .ref m4, .ref m5, .int (nI pl), .ref pg, .int fa, .int nf, .ref m6, .ref m7, .ref m8, .long sd, .int ik, .int kh, .int (nI km), .int ka, .int ks, .int kac, .ref m9, .ref m10, .ref m11, .ref m12, .long hv]))] H := hP
                    have hD : va_D A [(m1, .inl (cI, 6, .inl g1)), (m2, .inl (cI, 6, .inl g2)), (m3, .inl (cI, 6, .inl (upd y3 i48 x_23))), (m4, .inl (cI, 6, .inl (upd y4 i48 x_25))), (h0, .inr (7, [.int ih, .int hn, .int fl, .int (nI q_7), .int (nI q_8), .int x_9, .int (nI kc), .ref m1, .ref m2, .ref m3, .ref m4, .ref m5, .int (nI pl), .ref pg, .int fa, .int nf, .ref m6, .ref m7, .ref m8, .long sd, .int ik, .int kh, .int (nI km), .int ka, .int ks, .int kac, .ref m9, .ref m10, .ref m11, .ref m12, .long hv]))] := hD
                    refine lv_iinc (v := (nI (i48 + 1))) (lv' := [(2, .int (nI (i48 + 1))), (3, .int r_14), (0, .ref h0), (1, .int p0)]) hx hb dX7_act_110 hl (k := 3) rfl (nI_add i48 1) (by decide) rfl (fun ls hl => ?_)
                    refine lv_goto (tgt := 48) hx hb dX7_act_113 (by decide) ?_
                    exact ih48 (i48 + 1) (upd y3 i48 x_23) (upd y4 i48 x_25) H locs ls (by omega) (c_X7_act_a27 p0 fl ac kc g1 g2 g3 g4 d_3 e_4 q_7 q_8 x_9 i48 y3 y4 n48 r_14 x_23 x_25 hkc hpl hdu hr_1 c_2 hd_3 he_4 hr_5 hr_6_d hr_6_e hr_6_x hr_6_y ex_9 hi48 hl3 hl4 hr_14 c_15 c_22 ex_23 c_24 ex_25) (c_X7_act_a28 p0 fl ac kc g1 g2 g3 g4 d_3 e_4 q_7 q_8 x_9 i48 y3 y4 n48 r_14 x_23 x_25 hkc hpl hdu hr_1 c_2 hd_3 he_4 hr_5 hr_6_d hr_6_e hr_6_x hr_6_y ex_9 hi48 hl3 hl4 hr_14 c_15 c_22 ex_23 c_24 ex_25) hP hD hS (lv_sub hl [2, 3, 0] rfl)
                  · refine lv_iload_n hx hb dX7_act_98 rfl (lv_at hl 0 rfl) ?_
                    refine lv_iconst (v := 3) hx hb dX7_act_99 (by decide) ?_
                    refine lv_icmp_ne (tgt := 107) hx hb dX7_act_100 (by decide) (fun _ => ?_) (fun c => absurd c c_22)
                    refine lv_iconst (v := 0) hx hb dX7_act_107 (by decide) ?_
                    refine lv_iadd hx hb dX7_act_108 ?_
                    refine lv_topi (fun x_26 ex_26 => ?_)
                    refine va_iast hx hb hK hP hD hS 3 0 rfl rfl (vp_in_nI (n := i48) (by omega) (by omega)) dX7_act_109 (fun H locs hP hD hS => ?_)
                    rw [show (nI i48).toNatClampNeg = i48 from nI_clamp (n := i48) (by omega)] at hP hD
                    have hP : va_P (dC, dI) vwCl [(m1, .inl (cI, 6, .inl g1)), (m2, .inl (cI, 6, .inl g2)), (m3, .inl (cI, 6, .inl (upd y3 i48 x_23))), (m4, .inl (cI, 6, .inl (upd y4 i48 x_26))), (h0, .inr (7, [.int ih, .int hn, .int fl, .int (nI q_7), .int (nI q_8), .int x_9, .int (nI kc), .ref m1, .ref m2, .ref m3, .ref m4, .ref m5, .int (nI pl), .ref pg, .int fa, .int nf, .ref m6, .ref m7, .ref m8, .long sd, .int ik, .int kh, .int (nI km), .int ka, .int ks, .int kac, .ref m9, .ref m10, .ref m11, .ref m12, .long hv]))] H := hP
                    have hD : va_D A [(m1, .inl (cI, 6, .inl g1)), (m2, .inl (cI, 6, .inl g2)), (m3, .inl (cI, 6, .inl (upd y3 i48 x_23))), (m4, .inl (cI, 6, .inl (upd y4 i48 x_26))), (h0, .inr (7, [.int ih, .int hn, .int fl, .int (nI q_7), .int (nI q_8), .int x_9, .int (nI kc), .ref m1, .ref m2, .ref m3, .ref m4, .ref m5, .int (nI pl), .ref pg, .int fa, .int nf, .ref m6, .ref m7, .ref m8, .long sd, .int ik, .int kh, .int (nI km), .int ka, .int ks, .int kac, .ref m9, .ref m10, .ref m11, .ref m12, .long hv]))] := hD
                    refine lv_iinc (v := (nI (i48 + 1))) (lv' := [(2, .int (nI (i48 + 1))), (3, .int r_14), (0, .ref h0), (1, .int p0)]) hx hb dX7_act_110 hl (k := 3) rfl (nI_add i48 1) (by decide) rfl (fun ls hl => ?_)
                    refine lv_goto (tgt := 48) hx hb dX7_act_113 (by decide) ?_
                    exact ih48 (i48 + 1) (upd y3 i48 x_23) (upd y4 i48 x_26) H locs ls (by omega) (c_X7_act_a29 p0 fl ac kc g1 g2 g3 g4 d_3 e_4 q_7 q_8 x_9 i48 y3 y4 n48 r_14 x_23 x_26 hkc hpl hdu hr_1 c_2 hd_3 he_4 hr_5 hr_6_d hr_6_e hr_6_x hr_6_y ex_9 hi48 hl3 hl4 hr_14 c_15 c_22 ex_23 c_24 ex_26) (c_X7_act_a30 p0 fl ac kc g1 g2 g3 g4 d_3 e_4 q_7 q_8 x_9 i48 y3 y4 n48 r_14 x_23 x_26 hkc hpl hdu hr_1 c_2 hd_3 he_4 hr_5 hr_6_d hr_6_e hr_6_x hr_6_y ex_9 hi48 hl3 hl4 hr_14 c_15 c_22 ex_23 c_24 ex_26) hP hD hS (lv_sub hl [2, 3, 0] rfl)
                · refine lv_iconst (v := 1) hx hb dX7_act_79 (by decide) ?_
                  refine lv_goto (tgt := 84) hx hb dX7_act_80 (by decide) ?_
                  refine lv_iadd hx hb dX7_act_84 ?_
                  refine lv_topi (fun x_27 ex_27 => ?_)
                  refine va_iast hx hb hK hP hD hS 2 0 rfl rfl (vp_in_nI (n := i48) (by omega) (by omega)) dX7_act_85 (fun H locs hP hD hS => ?_)
                  rw [show (nI i48).toNatClampNeg = i48 from nI_clamp (n := i48) (by omega)] at hP hD
                  have hP : va_P (dC, dI) vwCl [(m1, .inl (cI, 6, .inl g1)), (m2, .inl (cI, 6, .inl g2)), (m3, .inl (cI, 6, .inl (upd y3 i48 x_27))), (m4, .inl (cI, 6, .inl y4)), (h0, .inr (7, [.int ih, .int hn, .int fl, .int (nI q_7), .int (nI q_8), .int x_9, .int (nI kc), .ref m1, .ref m2, .ref m3, .ref m4, .ref m5, .int (nI pl), .ref pg, .int fa, .int nf, .ref m6, .ref m7, .ref m8, .long sd, .int ik, .int kh, .int (nI km), .int ka, .int ks, .int kac, .ref m9, .ref m10, .ref m11, .ref m12, .long hv]))] H := hP
                  have hD : va_D A [(m1, .inl (cI, 6, .inl g1)), (m2, .inl (cI, 6, .inl g2)), (m3, .inl (cI, 6, .inl (upd y3 i48 x_27))), (m4, .inl (cI, 6, .inl y4)), (h0, .inr (7, [.int ih, .int hn, .int fl, .int (nI q_7), .int (nI q_8), .int x_9, .int (nI kc), .ref m1, .ref m2, .ref m3, .ref m4, .ref m5, .int (nI pl), .ref pg, .int fa, .int nf, .ref m6, .ref m7, .ref m8, .long sd, .int ik, .int kh, .int (nI km), .int ka, .int ks, .int kac, .ref m9, .ref m10, .ref m11, .ref m12, .long hv]))] := hD
                  refine lv_aload_n hx hb dX7_act_86 rfl (lv_at hl 1 rfl) ?_
                  refine va_get (D := (dC, dI)) (ci := 7) (v := .ref m4) (C := RX7) (T := TX7) (N := 31) hx hb hts hiX7 hown hK hP 4 rfl rfl 10 (by decide) (hts (.fieldLink RX7 26 "LeftProfileModel" "sawRight" "[I") (List.mem_of_getElem? (i := 5) rfl)) (fun _ h9 => h9) rfl dX7_act_87 ?_
                  refine lv_iload_n hx hb dX7_act_90 rfl (lv_at hl 3 rfl) ?_
                  refine lv_dup2_11 hx hb dX7_act_91 rfl rfl ?_
                  refine va_iald hx hb hK hP 3 0 rfl rfl (vp_in_nI (n := i48) (by omega) (by omega)) dX7_act_92 ?_
                  refine cz_i (y := (y4 i48)) (congrArg y4 (nI_clamp (n := i48) (by omega))) ?_
                  refine lv_iload_n hx hb dX7_act_93 rfl (lv_at hl 0 rfl) ?_
                  refine lv_iconst (v := 2) hx hb dX7_act_94 (by decide) ?_
                  refine lv_icmp_eq (tgt := 103) hx hb dX7_act_95 (by decide) (fun c_28 => ?_) (fun c_28 => ?_)
                  · refine lv_iconst (v := 1) hx hb dX7_act_103 (by decide) ?_
                    refine lv_goto (tgt := 108) hx hb dX7_act_104 (by decide) ?_
                    refine lv_iadd hx hb dX7_act_108 ?_
                    refine lv_topi (fun x_29 ex_29 => ?_)
                    refine va_iast hx hb hK hP hD hS 3 0 rfl rfl (vp_in_nI (n := i48) (by omega) (by omega)) dX7_act_109 (fun H locs hP hD hS => ?_)
                    rw [show (nI i48).toNatClampNeg = i48 from nI_clamp (n := i48) (by omega)] at hP hD
                    have hP : va_P (dC, dI) vwCl [(m1, .inl (cI, 6, .inl g1)), (m2, .inl (cI, 6, .inl g2)), (m3, .inl (cI, 6, .inl (upd y3 i48 x_27))), (m4, .inl (cI, 6, .inl (upd y4 i48 x_29))), (h0, .inr (7, [.int ih, .int hn, .int fl, .int (nI q_7), .int (nI q_8), .int x_9, .int (nI kc), .ref m1, .ref m2, .ref m3, .ref m4, .ref m5, .int (nI pl), .ref pg, .int fa, .int nf, .ref m6, .ref m7, .ref m8, .long sd, .int ik, .int kh, .int (nI km), .int ka, .int ks, .int kac, .ref m9, .ref m10, .ref m11, .ref m12, .long hv]))] H := hP
                    have hD : va_D A [(m1, .inl (cI, 6, .inl g1)), (m2, .inl (cI, 6, .inl g2)), (m3, .inl (cI, 6, .inl (upd y3 i48 x_27))), (m4, .inl (cI, 6, .inl (upd y4 i48 x_29))), (h0, .inr (7, [.int ih, .int hn, .int fl, .int (nI q_7), .int (nI q_8), .int x_9, .int (nI kc), .ref m1, .ref m2, .ref m3, .ref m4, .ref m5, .int (nI pl), .ref pg, .int fa, .int nf, .ref m6, .ref m7, .ref m8, .long sd, .int ik, .int kh, .int (nI km), .int ka, .int ks, .int kac, .ref m9, .ref m10, .ref m11, .ref m12, .long hv]))] := hD
                    refine lv_iinc (v := (nI (i48 + 1))) (lv' := [(2, .int (nI (i48 + 1))), (3, .int r_14), (0, .ref h0), (1, .int p0)]) hx hb dX7_act_110 hl (k := 3) rfl (nI_add i48 1) (by decide) rfl (fun ls hl => ?_)
                    refine lv_goto (tgt := 48) hx hb dX7_act_113 (by decide) ?_
                    exact ih48 (i48 + 1) (upd y3 i48 x_27) (upd y4 i48 x_29) H locs ls (by omega) (c_X7_act_a31 p0 fl ac kc g1 g2 g3 g4 d_3 e_4 q_7 q_8 x_9 i48 y3 y4 n48 r_14 x_27 x_29 hkc hpl hdu hr_1 c_2 hd_3 he_4 hr_5 hr_6_d hr_6_e hr_6_x hr_6_y ex_9 hi48 hl3 hl4 hr_14 c_15 c_22 ex_27 c_28 ex_29) (c_X7_act_a32 p0 fl ac kc g1 g2 g3 g4 d_3 e_4 q_7 q_8 x_9 i48 y3 y4 n48 r_14 x_27 x_29 hkc hpl hdu hr_1 c_2 hd_3 he_4 hr_5 hr_6_d hr_6_e hr_6_x hr_6_y ex_9 hi48 hl3 hl4 hr_14 c_15 c_22 ex_27 c_28 ex_29) hP hD hS (lv_sub hl [2, 3, 0] rfl)
                  · refine lv_iload_n hx hb dX7_act_98 rfl (lv_at hl 0 rfl) ?_
                    refine lv_iconst (v := 3) hx hb dX7_act_99 (by decide) ?_
                    refine lv_icmp_ne (tgt := 107) hx hb dX7_act_100 (by decide) (fun c => absurd c_22 c) (fun _ => ?_)
                    refine lv_iconst (v := 1) hx hb dX7_act_103 (by decide) ?_
                    refine lv_goto (tgt := 108) hx hb dX7_act_104 (by decide) ?_
                    refine lv_iadd hx hb dX7_act_108 ?_
                    refine lv_topi (fun x_30 ex_30 => ?_)
                    refine va_iast hx hb hK hP hD hS 3 0 rfl rfl (vp_in_nI (n := i48) (by omega) (by omega)) dX7_act_109 (fun H locs hP hD hS => ?_)
                    rw [show (nI i48).toNatClampNeg = i48 from nI_clamp (n := i48) (by omega)] at hP hD
                    have hP : va_P (dC, dI) vwCl [(m1, .inl (cI, 6, .inl g1)), (m2, .inl (cI, 6, .inl g2)), (m3, .inl (cI, 6, .inl (upd y3 i48 x_27))), (m4, .inl (cI, 6, .inl (upd y4 i48 x_30))), (h0, .inr (7, [.int ih, .int hn, .int fl, .int (nI q_7), .int (nI q_8), .int x_9, .int (nI kc), .ref m1, .ref m2, .ref m3, .ref m4, .ref m5, .int (nI pl), .ref pg, .int fa, .int nf, .ref m6, .ref m7, .ref m8, .long sd, .int ik, .int kh, .int (nI km), .int ka, .int ks, .int kac, .ref m9, .ref m10, .ref m11, .ref m12, .long hv]))] H := hP
                    have hD : va_D A [(m1, .inl (cI, 6, .inl g1)), (m2, .inl (cI, 6, .inl g2)), (m3, .inl (cI, 6, .inl (upd y3 i48 x_27))), (m4, .inl (cI, 6, .inl (upd y4 i48 x_30))), (h0, .inr (7, [.int ih, .int hn, .int fl, .int (nI q_7), .int (nI q_8), .int x_9, .int (nI kc), .ref m1, .ref m2, .ref m3, .ref m4, .ref m5, .int (nI pl), .ref pg, .int fa, .int nf, .ref m6, .ref m7, .ref m8, .long sd, .int ik, .int kh, .int (nI km), .int ka, .int ks, .int kac, .ref m9, .ref m10, .ref m11, .ref m12, .long hv]))] := hD
                    refine lv_iinc (v := (nI (i48 + 1))) (lv' := [(2, .int (nI (i48 + 1))), (3, .int r_14), (0, .ref h0), (1, .int p0)]) hx hb dX7_act_110 hl (k := 3) rfl (nI_add i48 1) (by decide) rfl (fun ls hl => ?_)
                    refine lv_goto (tgt := 48) hx hb dX7_act_113 (by decide) ?_
                    exact ih48 (i48 + 1) (upd y3 i48 x_27) (upd y4 i48 x_30) H locs ls (by omega) (c_X7_act_a33 p0 fl ac kc g1 g2 g3 g4 d_3 e_4 q_7 q_8 x_9 i48 y3 y4 n48 r_14 x_27 x_30 hkc hpl hdu hr_1 c_2 hd_3 he_4 hr_5 hr_6_d hr_6_e hr_6_x hr_6_y ex_9 hi48 hl3 hl4 hr_14 c_15 c_22 ex_27 c_28 ex_30) (c_X7_act_a34 p0 fl ac kc g1 g2 g3 g4 d_3 e_4 q_7 q_8 x_9 i48 y3 y4 n48 r_14 x_27 x_30 hkc hpl hdu hr_1 c_2 hd_3 he_4 hr_5 hr_6_d hr_6_e hr_6_x hr_6_y ex_9 hi48 hl3 hl4 hr_14 c_15 c_22 ex_27 c_28 ex_30) hP hD hS (lv_sub hl [2, 3, 0] rfl)
        exact lp48 kc 0 g3 g4 H locs ls (by omega) rfl rfl hP hD hS (lv_sub hl [1, 2, 0] rfl)

set_option maxHeartbeats 4000000 in
set_option maxRecDepth 100000 in
theorem c_X7_guilty (l : Launch) (dC : Nat → ClassId) (dI : Nat → Nat → Nat) (cI cB : ClassId) (h0 : Nat) (ih : Int32) (hn : Int32) (fl : Int32) (da : Int32) (ds : Int32) (ac : Int32) (kc : Nat) (m1 : Nat) (m2 : Nat) (m3 : Nat) (m4 : Nat) (m5 : Nat) (pl : Nat) (pg : Nat) (fa : Int32) (nf : Int32) (m6 : Nat) (m7 : Nat) (m8 : Nat) (sd : Int64) (ik : Int32) (kh : Int32) (km : Nat) (ka : Int32) (ks : Int32) (kac : Int32) (m9 : Nat) (m10 : Nat) (m11 : Nat) (m12 : Nat) (hv : Int64) (g1 : Nat → Int32) (g2 : Nat → Int32) (hkc : kc ≤ 6) (hpl : cz_pl g2) (hdu : cz_du da ds) : Met l yX7_guilty wsX7_guilty ({ frames := 5, cells := 0, slots := 0, locals := 116 }) (cz_Pp dC dI cI cB [.ref h0] [(h0, .inr (7, [.int ih, .int hn, .int fl, .int da, .int ds, .int ac, .int (nI kc), .ref m1, .ref m2, .ref m3, .ref m4, .ref m5, .int (nI pl), .ref pg, .int fa, .int nf, .ref m6, .ref m7, .ref m8, .long sd, .int ik, .int kh, .int (nI km), .int ka, .int ks, .int kac, .ref m9, .ref m10, .ref m11, .ref m12, .long hv])), (m1, .inl (cI, 6, .inl g1)), (m2, .inl (cI, 6, .inl g2))]) (vp_Si (fun r : Int32 => r = cz_mq da ds fl g1 g2 kc kc)) 0 0 (fun _ => False) := by
  refine cz_of (cc := cX7_guilty) (maxL := 1) (ret := (some .int)) (by decide) rfl ?_
  intro p e s m args below meth c s₁ Q B hml hv hQ
  obtain ⟨rfl, hP, hN⟩ := hv
  have hx := B.exec
  have hb := B.bytes
  have hr := B.returns
  have hts := atoms_spec (ws := wsX7_guilty) B.pre
  have hown : s.vm.findClass RX7 = some m.cls := findClass_of_methodNamed B.named
  have hlocks := B.notSynchronized
  have hK := hN.1
  have hl := lv_entry ([.ref h0]) (n := 1) (Nat.le_of_ble_eq_true rfl)
  rw [lg_entry_eq]
  generalize (lg_sl ([.ref h0]) ++ List.replicate (1 - (lg_sl ([.ref h0])).length) Slot.unset).toArray = ls at hl ⊢
  have hl : lv_has ls 1 [(0, .ref h0)] := hl
  refine lv_aload_n hx hb dX7_guilty_0 rfl (lv_at hl 0 rfl) ?_
  refine vp_callSi (cz_run (va_runV (As := []) (rest := []) ⟨hx, hb, hml, hown, hts⟩ (c_X7_guiltySet l dC dI cI cB h0 ih hn fl da ds ac kc m1 m2 m3 m4 m5 pl pg fa nf m6 m7 m8 sd ik kh km ka ks kac m9 m10 m11 m12 hv g1 g2 hkc hpl hdu) (cwV 0 hts gX7_guilty_X7_guiltySet rfl rfl rfl (by decide +kernel) ⟨Nat.le_of_ble_eq_true rfl, Nat.le_of_ble_eq_true rfl⟩) (cz_pV hP hN (va_recv hK hP (ci := 7) (q0 := 0) rfl rfl)) rfl rfl hl.1 rfl (lv_room (Nat.le_of_ble_eq_true rfl)) dX7_guilty_1 ⟨Nat.le_of_ble_eq_true rfl, Nat.le_of_ble_eq_true rfl⟩)) (fun r_1 hr_1 => ?_)
  rw [hQ]; exact W.iret (v := r_1) hx hb hr (fun t ht hW => ⟨r_1, rfl, hr_1, ht⟩) (fun _ h => absurd h List.not_mem_nil) dX7_guilty_4

theorem c_X7_isMore_a1 (p0 : Int32) (t0 : Nat) (g6 : Nat → Int32) (i5 : Nat) (y3 : Int32) (n5 : Nat) (ht3 : t0 ≤ 3) (hi5 : i5 + (n5 + 1) = t0) (h01 : y3 = 0 ∨ y3 = 1) (hm : y3 = cz_b1 (cm_mo g6 p0 i5)) (c_3 : ¬ y3 = 0) : (1 : Int32) = cz_b1 (cm_mo g6 p0 (i5 + 1)) := by first | exact cm_mo1 hm (by assumption) | exact cm_mo2 (by assumption) | exact cm_mo3 hm (by assumption) (by assumption)
theorem c_X7_isMore_a2 (p0 : Int32) (t0 : Nat) (g6 : Nat → Int32) (i5 : Nat) (y3 : Int32) (n5 : Nat) (ht3 : t0 ≤ 3) (hi5 : i5 + (n5 + 1) = t0) (h01 : y3 = 0 ∨ y3 = 1) (hm : y3 = cz_b1 (cm_mo g6 p0 i5)) (c_3 : y3 = 0) (c_4 : ¬ (g6 i5) = p0) : (0 : Int32) = cz_b1 (cm_mo g6 p0 (i5 + 1)) := by first | exact cm_mo1 hm (by assumption) | exact cm_mo2 (by assumption) | exact cm_mo3 hm (by assumption) (by assumption)
theorem c_X7_isMore_a3 (p0 : Int32) (t0 : Nat) (g6 : Nat → Int32) (i5 : Nat) (y3 : Int32) (n5 : Nat) (ht3 : t0 ≤ 3) (hi5 : i5 + (n5 + 1) = t0) (h01 : y3 = 0 ∨ y3 = 1) (hm : y3 = cz_b1 (cm_mo g6 p0 i5)) (c_3 : y3 = 0) (c_4 : (g6 i5) = p0) : (1 : Int32) = cz_b1 (cm_mo g6 p0 (i5 + 1)) := by first | exact cm_mo1 hm (by assumption) | exact cm_mo2 (by assumption) | exact cm_mo3 hm (by assumption) (by assumption)
set_option maxHeartbeats 4000000 in
set_option maxRecDepth 100000 in
theorem c_X7_isMore (l : Launch) (dC : Nat → ClassId) (dI : Nat → Nat → Nat) (cI cB : ClassId) (h0 : Nat) (p0 : Int32) (t0 : Nat) (ih : Int32) (hn : Int32) (fl : Int32) (da : Int32) (ds : Int32) (ac : Int32) (kc : Nat) (m1 : Nat) (m2 : Nat) (m3 : Nat) (m4 : Nat) (m5 : Nat) (pl : Nat) (pg : Nat) (fa : Int32) (nf : Int32) (m6 : Nat) (m7 : Nat) (m8 : Nat) (sd : Int64) (ik : Int32) (kh : Int32) (km : Nat) (ka : Int32) (ks : Int32) (kac : Int32) (m9 : Nat) (m10 : Nat) (m11 : Nat) (m12 : Nat) (hv : Int64) (g6 : Nat → Int32) (ht3 : t0 ≤ 3) : Met l yX7_isMore wsX7_isMore ({ frames := 0, cells := 0, slots := 0, locals := 0 }) (cz_Pp dC dI cI cB [.ref h0, .int p0, .int (nI t0)] [(h0, .inr (7, [.int ih, .int hn, .int fl, .int da, .int ds, .int ac, .int (nI kc), .ref m1, .ref m2, .ref m3, .ref m4, .ref m5, .int (nI pl), .ref pg, .int fa, .int nf, .ref m6, .ref m7, .ref m8, .long sd, .int ik, .int kh, .int (nI km), .int ka, .int ks, .int kac, .ref m9, .ref m10, .ref m11, .ref m12, .long hv])), (m6, .inl (cI, 3, .inl g6))]) (vp_Si (fun r : Int32 => r = cz_b1 (cm_mo g6 p0 t0))) 0 0 (fun _ => False) := by
  refine cz_of (cc := cX7_isMore) (maxL := 5) (ret := (some .boolean)) (by decide) rfl ?_
  intro p e s m args below meth c s₁ Q B hml hv hQ
  obtain ⟨rfl, hP, hN⟩ := hv
  have hx := B.exec
  have hb := B.bytes
  have hr := B.returns
  have hts := atoms_spec (ws := wsX7_isMore) B.pre
  have hown : s.vm.findClass RX7 = some m.cls := findClass_of_methodNamed B.named
  have hlocks := B.notSynchronized
  have hK := hN.1
  have hiX7 : ∀ w ∈ wsX70, w ∈ wsX7_isMore := (fun _ h => List.mem_cons_of_mem _ (List.mem_append_right _ h))
  have hl := lv_entry ([.ref h0, .int p0, .int (nI t0)]) (n := 5) (Nat.le_of_ble_eq_true rfl)
  rw [lg_entry_eq]
  generalize (lg_sl ([.ref h0, .int p0, .int (nI t0)]) ++ List.replicate (5 - (lg_sl ([.ref h0, .int p0, .int (nI t0)])).length) Slot.unset).toArray = ls at hl ⊢
  have hl : lv_has ls 5 [(0, .ref h0), (1, .int p0), (2, .int (nI t0))] := hl
  refine lv_iconst (v := 0) hx hb dX7_isMore_0 (by decide) ?_
  refine lv_istore_n (lv' := [(3, .int 0), (0, .ref h0), (1, .int p0), (2, .int (nI t0))]) hx hb dX7_isMore_1 rfl hl (by decide) rfl (fun ls hl => ?_)
  refine lv_iconst (v := 0) hx hb dX7_isMore_2 (by decide) ?_
  refine lv_istore (lv' := [(4, .int 0), (3, .int 0), (0, .ref h0), (1, .int p0), (2, .int (nI t0))]) hx hb dX7_isMore_3 hl (by decide) rfl (fun ls hl => ?_)
  have lp5 : ∀ (n5 : Nat) (i5 : Nat) (y3 : Int32) (ls : Array Slot), i5 + n5 = t0 → y3 = 0 ∨ y3 = 1 → y3 = cz_b1 (cm_mo g6 p0 i5) → lv_has ls 5 [(0, .ref h0), (1, .int p0), (2, .int (nI t0)), (3, .int y3), (4, .int (nI i5))] → W p l e ({ frames := 0, cells := 0, slots := 0, locals := 0 } : Room) s m #[Value.ref h0, Value.int p0, Value.int (nI t0)] below meth c s.heap [] 0 0 Q (F0 m 5 ls []) := by
    intro n5
    induction n5 with
    | zero =>
      intro i5 y3 ls hi5 h01 hm hl
      obtain rfl : t0 = i5 := by omega
      refine lv_iload hx hb dX7_isMore_5 (lv_at hl 4 rfl) ?_
      refine lv_iload_n hx hb dX7_isMore_7 rfl (lv_at hl 2 rfl) ?_
      refine lv_icmp_ge (tgt := 38) hx hb dX7_isMore_8 (by decide) (fun c_1 => ?_) (fun c_1 => ?_)
      · refine lv_iload_n hx hb dX7_isMore_38 rfl (lv_at hl 3 rfl) ?_
        rw [hQ]; exact W.zret (v := y3) hx hb hr (cz_nar h01) (fun t ht hW => ⟨y3, rfl, hm, ht⟩) (fun _ h => absurd h List.not_mem_nil) dX7_isMore_39
      · exact absurd (show nI t0 ≤ nI t0 from nI_le (a := t0) (b := t0) (by omega) (by omega)) c_1
    | succ n5 ih5 =>
      intro i5 y3 ls hi5 h01 hm hl
      refine lv_iload hx hb dX7_isMore_5 (lv_at hl 4 rfl) ?_
      refine lv_iload_n hx hb dX7_isMore_7 rfl (lv_at hl 2 rfl) ?_
      refine lv_icmp_ge (tgt := 38) hx hb dX7_isMore_8 (by decide) (fun c_2 => ?_) (fun c_2 => ?_)
      · exact absurd c_2 (show ¬ nI t0 ≤ nI i5 from nI_ge (a := i5) (b := t0) (by omega) (by omega))
      · refine lv_iload_n hx hb dX7_isMore_11 rfl (lv_at hl 3 rfl) ?_
        refine lv_if_ne (tgt := 26) hx hb dX7_isMore_12 (by decide) (fun c_3 => ?_) (fun c_3 => ?_)
        · refine lv_iconst (v := 1) hx hb dX7_isMore_26 (by decide) ?_
          refine lv_goto (tgt := 31) hx hb dX7_isMore_27 (by decide) ?_
          refine lv_istore_n (lv' := [(3, .int 1), (0, .ref h0), (1, .int p0), (2, .int (nI t0)), (4, .int (nI i5))]) hx hb dX7_isMore_31 rfl hl (by decide) rfl (fun ls hl => ?_)
          refine lv_iinc (v := (nI (i5 + 1))) (lv' := [(4, .int (nI (i5 + 1))), (3, .int 1), (0, .ref h0), (1, .int p0), (2, .int (nI t0))]) hx hb dX7_isMore_32 hl (k := 4) rfl (nI_add i5 1) (by decide) rfl (fun ls hl => ?_)
          refine lv_goto (tgt := 5) hx hb dX7_isMore_35 (by decide) ?_
          exact ih5 (i5 + 1) 1 ls (by omega) (Or.inr rfl) (c_X7_isMore_a1 p0 t0 g6 i5 y3 n5 ht3 hi5 h01 hm c_3) (lv_sub hl [2, 3, 4, 1, 0] rfl)
        · refine lv_aload_n hx hb dX7_isMore_15 rfl (lv_at hl 0 rfl) ?_
          refine va_get (D := (dC, dI)) (ci := 7) (v := .ref m6) (C := RX7) (T := TX7) (N := 31) hx hb hts hiX7 hown hK hP 0 rfl rfl 16 (by decide) (hts (.fieldLink RX7 36 "LeftProfileModel" "roomAt" "[I") (List.mem_of_getElem? (i := 1) rfl)) (fun _ h9 => h9) rfl dX7_isMore_16 ?_
          refine lv_iload hx hb dX7_isMore_19 (lv_at hl 4 rfl) ?_
          refine va_iald hx hb hK hP 1 0 rfl rfl (vp_in_nI (n := i5) (by omega) (by omega)) dX7_isMore_21 ?_
          refine cz_i (y := (g6 i5)) (congrArg g6 (nI_clamp (n := i5) (by omega))) ?_
          refine lv_iload_n hx hb dX7_isMore_22 rfl (lv_at hl 1 rfl) ?_
          refine lv_icmp_ne (tgt := 30) hx hb dX7_isMore_23 (by decide) (fun c_4 => ?_) (fun c_4 => ?_)
          · refine lv_iconst (v := 0) hx hb dX7_isMore_30 (by decide) ?_
            refine lv_istore_n (lv' := [(3, .int 0), (0, .ref h0), (1, .int p0), (2, .int (nI t0)), (4, .int (nI i5))]) hx hb dX7_isMore_31 rfl hl (by decide) rfl (fun ls hl => ?_)
            refine lv_iinc (v := (nI (i5 + 1))) (lv' := [(4, .int (nI (i5 + 1))), (3, .int 0), (0, .ref h0), (1, .int p0), (2, .int (nI t0))]) hx hb dX7_isMore_32 hl (k := 4) rfl (nI_add i5 1) (by decide) rfl (fun ls hl => ?_)
            refine lv_goto (tgt := 5) hx hb dX7_isMore_35 (by decide) ?_
            exact ih5 (i5 + 1) 0 ls (by omega) (Or.inl rfl) (c_X7_isMore_a2 p0 t0 g6 i5 y3 n5 ht3 hi5 h01 hm c_3 c_4) (lv_sub hl [2, 3, 4, 1, 0] rfl)
          · refine lv_iconst (v := 1) hx hb dX7_isMore_26 (by decide) ?_
            refine lv_goto (tgt := 31) hx hb dX7_isMore_27 (by decide) ?_
            refine lv_istore_n (lv' := [(3, .int 1), (0, .ref h0), (1, .int p0), (2, .int (nI t0)), (4, .int (nI i5))]) hx hb dX7_isMore_31 rfl hl (by decide) rfl (fun ls hl => ?_)
            refine lv_iinc (v := (nI (i5 + 1))) (lv' := [(4, .int (nI (i5 + 1))), (3, .int 1), (0, .ref h0), (1, .int p0), (2, .int (nI t0))]) hx hb dX7_isMore_32 hl (k := 4) rfl (nI_add i5 1) (by decide) rfl (fun ls hl => ?_)
            refine lv_goto (tgt := 5) hx hb dX7_isMore_35 (by decide) ?_
            exact ih5 (i5 + 1) 1 ls (by omega) (Or.inr rfl) (c_X7_isMore_a3 p0 t0 g6 i5 y3 n5 ht3 hi5 h01 hm c_3 c_4) (lv_sub hl [2, 3, 4, 1, 0] rfl)
  exact lp5 t0 0 0 ls (by omega) (Or.inl rfl) rfl (lv_sub hl [2, 3, 4, 1, 0] rfl)

theorem c_X7_isGuiltyAt_a1 (p1 : Int32) (da : Int32) (ds : Int32) (r_1 : Int32) (x_5 : Int32) (x_6 : Int32) (x_7 : Int32) (r_8 : Int32) (x_9 : Int32) (x_10 : Int32) (x_11 : Int32) (x_12 : Int32) (r_13 : Int32) (x_14 : Int32) (x_17 : Int32) (x_18 : Int32) (x_19 : Int32) (x_20 : Int32) (x_21 : Int32) (ex_5 : x_5 = p1 / 5) (ex_6 : x_6 = da / 5) (ex_7 : x_7 = x_5 - x_6) (ex_9 : x_9 = 5 * r_8) (ex_10 : x_10 = p1 - p1 / 5 * 5) (ex_11 : x_11 = da - da / 5 * 5) (ex_12 : x_12 = x_10 - x_11) (ex_14 : x_14 = x_9 + r_13) (ex_17 : x_17 = da + x_14) (ex_18 : x_18 = 2 * ds) (ex_19 : x_19 = r_1 - x_18) (ex_20 : x_20 = x_19 + 8) (ex_21 : x_21 = x_20 - x_20 / 8 * 8) : x_21 = cz_tn r_1 ds := by subst_vars; rfl
theorem c_X7_isGuiltyAt_a2 (p1 : Int32) (da : Int32) (ds : Int32) (r_1 : Int32) (x_5 : Int32) (x_6 : Int32) (x_7 : Int32) (r_8 : Int32) (x_9 : Int32) (x_10 : Int32) (x_11 : Int32) (x_12 : Int32) (r_13 : Int32) (x_14 : Int32) (x_17 : Int32) (x_18 : Int32) (x_19 : Int32) (x_20 : Int32) (x_21 : Int32) (ex_5 : x_5 = p1 / 5) (ex_6 : x_6 = da / 5) (ex_7 : x_7 = x_5 - x_6) (ex_9 : x_9 = 5 * r_8) (ex_10 : x_10 = p1 - p1 / 5 * 5) (ex_11 : x_11 = da - da / 5 * 5) (ex_12 : x_12 = x_10 - x_11) (ex_14 : x_14 = x_9 + r_13) (ex_17 : x_17 = da + x_14) (ex_18 : x_18 = 2 * ds) (ex_19 : x_19 = r_1 - x_18) (ex_20 : x_20 = x_19 + 8) (ex_21 : x_21 = x_20 - x_20 / 8 * 8) : x_21 = cz_tn r_1 ds := by subst_vars; rfl
theorem c_X7_isGuiltyAt_a3 (p1 : Int32) (da : Int32) (ds : Int32) (r_1 : Int32) (x_5 : Int32) (x_6 : Int32) (x_7 : Int32) (r_8 : Int32) (x_9 : Int32) (x_10 : Int32) (x_11 : Int32) (x_12 : Int32) (r_13 : Int32) (x_14 : Int32) (x_17 : Int32) (x_18 : Int32) (x_19 : Int32) (x_20 : Int32) (x_21 : Int32) (ex_5 : x_5 = p1 / 5) (ex_6 : x_6 = da / 5) (ex_7 : x_7 = x_5 - x_6) (ex_9 : x_9 = 5 * r_8) (ex_10 : x_10 = p1 - p1 / 5 * 5) (ex_11 : x_11 = da - da / 5 * 5) (ex_12 : x_12 = x_10 - x_11) (ex_14 : x_14 = x_9 + r_13) (ex_17 : x_17 = da + x_14) (ex_18 : x_18 = 2 * ds) (ex_19 : x_19 = r_1 - x_18) (ex_20 : x_20 = x_19 + 8) (ex_21 : x_21 = x_20 - x_20 / 8 * 8) : x_21 = cz_tn r_1 ds := by subst_vars; rfl
theorem c_X7_isGuiltyAt_a4 (p1 : Int32) (da : Int32) (ds : Int32) (r_1 : Int32) (x_5 : Int32) (x_6 : Int32) (x_7 : Int32) (r_8 : Int32) (x_9 : Int32) (x_10 : Int32) (x_11 : Int32) (x_12 : Int32) (r_13 : Int32) (x_14 : Int32) (x_17 : Int32) (x_18 : Int32) (x_19 : Int32) (x_20 : Int32) (x_21 : Int32) (ex_5 : x_5 = p1 / 5) (ex_6 : x_6 = da / 5) (ex_7 : x_7 = x_5 - x_6) (ex_9 : x_9 = 5 * r_8) (ex_10 : x_10 = p1 - p1 / 5 * 5) (ex_11 : x_11 = da - da / 5 * 5) (ex_12 : x_12 = x_10 - x_11) (ex_14 : x_14 = x_9 + r_13) (ex_17 : x_17 = da + x_14) (ex_18 : x_18 = 2 * ds) (ex_19 : x_19 = r_1 - x_18) (ex_20 : x_20 = x_19 + 8) (ex_21 : x_21 = x_20 - x_20 / 8 * 8) : x_21 = cz_tn r_1 ds := by subst_vars; rfl
theorem c_X7_isGuiltyAt_a5 (p1 : Int32) (fl : Int32) (da : Int32) (kc : Nat) (g2 : Nat → Int32) (r_1 : Int32) (x_5 : Int32) (x_6 : Int32) (x_7 : Int32) (r_8 : Int32) (x_9 : Int32) (x_10 : Int32) (x_11 : Int32) (x_12 : Int32) (r_13 : Int32) (x_14 : Int32) (r_16 : Int32) (x_17 : Int32) (nL : Nat) (hr_1 : r_1 = cz_wt da p1) (hr_1b : r_1 = -1 ∨ cz_line da p1) (ex_5 : x_5 = p1 / 5) (ex_6 : x_6 = da / 5) (ex_7 : x_7 = x_5 - x_6) (hr_8 : r_8 = cz_sgn x_7) (ex_9 : x_9 = 5 * r_8) (ex_10 : x_10 = p1 - p1 / 5 * 5) (ex_11 : x_11 = da - da / 5 * 5) (ex_12 : x_12 = x_10 - x_11) (hr_13 : r_13 = cz_sgn x_12) (ex_14 : x_14 = x_9 + r_13) (hr_16 : r_16 = cz_cl fl da g2 kc 0 da p1) (ex_17 : x_17 = da + x_14) (hn3 : nL ≤ 3) (hnL : da + cz_step da p1 + nI nL * cz_step da p1 = p1) : x_17 + nI nL * x_14 = p1 := by subst_vars; exact hnL
theorem c_X7_isGuiltyAt_a6 (p0 : Int32) (p1 : Int32) (t0 : Nat) (fl : Int32) (da : Int32) (kc : Nat) (g2 : Nat → Int32) (g6 : Nat → Int32) (r_1 : Int32) (x_5 : Int32) (x_6 : Int32) (x_7 : Int32) (r_8 : Int32) (x_9 : Int32) (x_10 : Int32) (x_11 : Int32) (x_12 : Int32) (r_13 : Int32) (x_14 : Int32) (r_16 : Int32) (x_17 : Int32) (nL : Nat) (hr_1 : r_1 = cz_wt da p1) (hr_1b : r_1 = -1 ∨ cz_line da p1) (ex_5 : x_5 = p1 / 5) (ex_6 : x_6 = da / 5) (ex_7 : x_7 = x_5 - x_6) (hr_8 : r_8 = cz_sgn x_7) (ex_9 : x_9 = 5 * r_8) (ex_10 : x_10 = p1 - p1 / 5 * 5) (ex_11 : x_11 = da - da / 5 * 5) (ex_12 : x_12 = x_10 - x_11) (hr_13 : r_13 = cz_sgn x_12) (ex_14 : x_14 = x_9 + r_13) (hr_16 : r_16 = cz_cl fl da g2 kc 0 da p1) (ex_17 : x_17 = da + x_14) (hn3 : nL ≤ 3) (hnL : da + cz_step da p1 + nI nL * cz_step da p1 = p1) : ∀ m : Nat, nL ≤ m → cm_clr (cm_C p0 g6 t0) x_14 p1 m x_17 r_16 = cm_clr (cm_C p0 g6 t0) (cz_step da p1) p1 4 (da + cz_step da p1) r_16 := by subst_vars; exact cm_clr_i hn3 hnL
theorem c_X7_isGuiltyAt_a7 (p1 : Int32) (da : Int32) (ds : Int32) (r_1 : Int32) (x_5 : Int32) (x_6 : Int32) (x_7 : Int32) (r_8 : Int32) (x_9 : Int32) (x_10 : Int32) (x_11 : Int32) (x_12 : Int32) (r_13 : Int32) (x_14 : Int32) (x_32 : Int32) (x_33 : Int32) (x_34 : Int32) (x_35 : Int32) (x_36 : Int32) (ex_5 : x_5 = p1 / 5) (ex_6 : x_6 = da / 5) (ex_7 : x_7 = x_5 - x_6) (ex_9 : x_9 = 5 * r_8) (ex_10 : x_10 = p1 - p1 / 5 * 5) (ex_11 : x_11 = da - da / 5 * 5) (ex_12 : x_12 = x_10 - x_11) (ex_14 : x_14 = x_9 + r_13) (ex_32 : x_32 = da + x_14) (ex_33 : x_33 = 2 * ds) (ex_34 : x_34 = r_1 - x_33) (ex_35 : x_35 = x_34 + 8) (ex_36 : x_36 = x_35 - x_35 / 8 * 8) : x_36 = cz_tn r_1 ds := by subst_vars; rfl
theorem c_X7_isGuiltyAt_a8 (p1 : Int32) (da : Int32) (ds : Int32) (r_1 : Int32) (x_5 : Int32) (x_6 : Int32) (x_7 : Int32) (r_8 : Int32) (x_9 : Int32) (x_10 : Int32) (x_11 : Int32) (x_12 : Int32) (r_13 : Int32) (x_14 : Int32) (x_32 : Int32) (x_33 : Int32) (x_34 : Int32) (x_35 : Int32) (x_36 : Int32) (ex_5 : x_5 = p1 / 5) (ex_6 : x_6 = da / 5) (ex_7 : x_7 = x_5 - x_6) (ex_9 : x_9 = 5 * r_8) (ex_10 : x_10 = p1 - p1 / 5 * 5) (ex_11 : x_11 = da - da / 5 * 5) (ex_12 : x_12 = x_10 - x_11) (ex_14 : x_14 = x_9 + r_13) (ex_32 : x_32 = da + x_14) (ex_33 : x_33 = 2 * ds) (ex_34 : x_34 = r_1 - x_33) (ex_35 : x_35 = x_34 + 8) (ex_36 : x_36 = x_35 - x_35 / 8 * 8) : x_36 = cz_tn r_1 ds := by subst_vars; rfl
theorem c_X7_isGuiltyAt_a9 (p1 : Int32) (da : Int32) (ds : Int32) (r_1 : Int32) (x_5 : Int32) (x_6 : Int32) (x_7 : Int32) (r_8 : Int32) (x_9 : Int32) (x_10 : Int32) (x_11 : Int32) (x_12 : Int32) (r_13 : Int32) (x_14 : Int32) (x_32 : Int32) (x_33 : Int32) (x_34 : Int32) (x_35 : Int32) (x_36 : Int32) (ex_5 : x_5 = p1 / 5) (ex_6 : x_6 = da / 5) (ex_7 : x_7 = x_5 - x_6) (ex_9 : x_9 = 5 * r_8) (ex_10 : x_10 = p1 - p1 / 5 * 5) (ex_11 : x_11 = da - da / 5 * 5) (ex_12 : x_12 = x_10 - x_11) (ex_14 : x_14 = x_9 + r_13) (ex_32 : x_32 = da + x_14) (ex_33 : x_33 = 2 * ds) (ex_34 : x_34 = r_1 - x_33) (ex_35 : x_35 = x_34 + 8) (ex_36 : x_36 = x_35 - x_35 / 8 * 8) : x_36 = cz_tn r_1 ds := by subst_vars; rfl
theorem c_X7_isGuiltyAt_a10 (p1 : Int32) (da : Int32) (ds : Int32) (r_1 : Int32) (x_5 : Int32) (x_6 : Int32) (x_7 : Int32) (r_8 : Int32) (x_9 : Int32) (x_10 : Int32) (x_11 : Int32) (x_12 : Int32) (r_13 : Int32) (x_14 : Int32) (x_32 : Int32) (x_33 : Int32) (x_34 : Int32) (x_35 : Int32) (x_36 : Int32) (ex_5 : x_5 = p1 / 5) (ex_6 : x_6 = da / 5) (ex_7 : x_7 = x_5 - x_6) (ex_9 : x_9 = 5 * r_8) (ex_10 : x_10 = p1 - p1 / 5 * 5) (ex_11 : x_11 = da - da / 5 * 5) (ex_12 : x_12 = x_10 - x_11) (ex_14 : x_14 = x_9 + r_13) (ex_32 : x_32 = da + x_14) (ex_33 : x_33 = 2 * ds) (ex_34 : x_34 = r_1 - x_33) (ex_35 : x_35 = x_34 + 8) (ex_36 : x_36 = x_35 - x_35 / 8 * 8) : x_36 = cz_tn r_1 ds := by subst_vars; rfl
theorem c_X7_isGuiltyAt_a11 (p1 : Int32) (fl : Int32) (da : Int32) (kc : Nat) (g2 : Nat → Int32) (r_1 : Int32) (x_5 : Int32) (x_6 : Int32) (x_7 : Int32) (r_8 : Int32) (x_9 : Int32) (x_10 : Int32) (x_11 : Int32) (x_12 : Int32) (r_13 : Int32) (x_14 : Int32) (r_31 : Int32) (x_32 : Int32) (nL : Nat) (hr_1 : r_1 = cz_wt da p1) (hr_1b : r_1 = -1 ∨ cz_line da p1) (ex_5 : x_5 = p1 / 5) (ex_6 : x_6 = da / 5) (ex_7 : x_7 = x_5 - x_6) (hr_8 : r_8 = cz_sgn x_7) (ex_9 : x_9 = 5 * r_8) (ex_10 : x_10 = p1 - p1 / 5 * 5) (ex_11 : x_11 = da - da / 5 * 5) (ex_12 : x_12 = x_10 - x_11) (hr_13 : r_13 = cz_sgn x_12) (ex_14 : x_14 = x_9 + r_13) (hr_31 : r_31 = cz_cl fl da g2 kc 1 da p1) (ex_32 : x_32 = da + x_14) (hn3 : nL ≤ 3) (hnL : da + cz_step da p1 + nI nL * cz_step da p1 = p1) : x_32 + nI nL * x_14 = p1 := by subst_vars; exact hnL
theorem c_X7_isGuiltyAt_a12 (p0 : Int32) (p1 : Int32) (t0 : Nat) (fl : Int32) (da : Int32) (kc : Nat) (g2 : Nat → Int32) (g6 : Nat → Int32) (r_1 : Int32) (x_5 : Int32) (x_6 : Int32) (x_7 : Int32) (r_8 : Int32) (x_9 : Int32) (x_10 : Int32) (x_11 : Int32) (x_12 : Int32) (r_13 : Int32) (x_14 : Int32) (r_31 : Int32) (x_32 : Int32) (nL : Nat) (hr_1 : r_1 = cz_wt da p1) (hr_1b : r_1 = -1 ∨ cz_line da p1) (ex_5 : x_5 = p1 / 5) (ex_6 : x_6 = da / 5) (ex_7 : x_7 = x_5 - x_6) (hr_8 : r_8 = cz_sgn x_7) (ex_9 : x_9 = 5 * r_8) (ex_10 : x_10 = p1 - p1 / 5 * 5) (ex_11 : x_11 = da - da / 5 * 5) (ex_12 : x_12 = x_10 - x_11) (hr_13 : r_13 = cz_sgn x_12) (ex_14 : x_14 = x_9 + r_13) (hr_31 : r_31 = cz_cl fl da g2 kc 1 da p1) (ex_32 : x_32 = da + x_14) (hn3 : nL ≤ 3) (hnL : da + cz_step da p1 + nI nL * cz_step da p1 = p1) : ∀ m : Nat, nL ≤ m → cm_clr (cm_C p0 g6 t0) x_14 p1 m x_32 r_31 = cm_clr (cm_C p0 g6 t0) (cz_step da p1) p1 4 (da + cz_step da p1) r_31 := by subst_vars; exact cm_clr_i hn3 hnL
theorem c_X7_isGuiltyAt_a13 (p1 : Int32) (da : Int32) (ds : Int32) (r_1 : Int32) (x_51 : Int32) (x_52 : Int32) (x_53 : Int32) (r_54 : Int32) (x_55 : Int32) (x_56 : Int32) (x_57 : Int32) (x_58 : Int32) (r_59 : Int32) (x_60 : Int32) (x_63 : Int32) (x_64 : Int32) (x_65 : Int32) (x_66 : Int32) (x_67 : Int32) (ex_51 : x_51 = p1 / 5) (ex_52 : x_52 = da / 5) (ex_53 : x_53 = x_51 - x_52) (ex_55 : x_55 = 5 * r_54) (ex_56 : x_56 = p1 - p1 / 5 * 5) (ex_57 : x_57 = da - da / 5 * 5) (ex_58 : x_58 = x_56 - x_57) (ex_60 : x_60 = x_55 + r_59) (ex_63 : x_63 = da + x_60) (ex_64 : x_64 = 2 * ds) (ex_65 : x_65 = r_1 - x_64) (ex_66 : x_66 = x_65 + 8) (ex_67 : x_67 = x_66 - x_66 / 8 * 8) : x_67 = cz_tn r_1 ds := by subst_vars; rfl
theorem c_X7_isGuiltyAt_a14 (p1 : Int32) (da : Int32) (ds : Int32) (r_1 : Int32) (x_51 : Int32) (x_52 : Int32) (x_53 : Int32) (r_54 : Int32) (x_55 : Int32) (x_56 : Int32) (x_57 : Int32) (x_58 : Int32) (r_59 : Int32) (x_60 : Int32) (x_63 : Int32) (x_64 : Int32) (x_65 : Int32) (x_66 : Int32) (x_67 : Int32) (ex_51 : x_51 = p1 / 5) (ex_52 : x_52 = da / 5) (ex_53 : x_53 = x_51 - x_52) (ex_55 : x_55 = 5 * r_54) (ex_56 : x_56 = p1 - p1 / 5 * 5) (ex_57 : x_57 = da - da / 5 * 5) (ex_58 : x_58 = x_56 - x_57) (ex_60 : x_60 = x_55 + r_59) (ex_63 : x_63 = da + x_60) (ex_64 : x_64 = 2 * ds) (ex_65 : x_65 = r_1 - x_64) (ex_66 : x_66 = x_65 + 8) (ex_67 : x_67 = x_66 - x_66 / 8 * 8) : x_67 = cz_tn r_1 ds := by subst_vars; rfl
theorem c_X7_isGuiltyAt_a15 (p1 : Int32) (da : Int32) (ds : Int32) (r_1 : Int32) (x_51 : Int32) (x_52 : Int32) (x_53 : Int32) (r_54 : Int32) (x_55 : Int32) (x_56 : Int32) (x_57 : Int32) (x_58 : Int32) (r_59 : Int32) (x_60 : Int32) (x_63 : Int32) (x_64 : Int32) (x_65 : Int32) (x_66 : Int32) (x_67 : Int32) (ex_51 : x_51 = p1 / 5) (ex_52 : x_52 = da / 5) (ex_53 : x_53 = x_51 - x_52) (ex_55 : x_55 = 5 * r_54) (ex_56 : x_56 = p1 - p1 / 5 * 5) (ex_57 : x_57 = da - da / 5 * 5) (ex_58 : x_58 = x_56 - x_57) (ex_60 : x_60 = x_55 + r_59) (ex_63 : x_63 = da + x_60) (ex_64 : x_64 = 2 * ds) (ex_65 : x_65 = r_1 - x_64) (ex_66 : x_66 = x_65 + 8) (ex_67 : x_67 = x_66 - x_66 / 8 * 8) : x_67 = cz_tn r_1 ds := by subst_vars; rfl
theorem c_X7_isGuiltyAt_a16 (p1 : Int32) (da : Int32) (ds : Int32) (r_1 : Int32) (x_51 : Int32) (x_52 : Int32) (x_53 : Int32) (r_54 : Int32) (x_55 : Int32) (x_56 : Int32) (x_57 : Int32) (x_58 : Int32) (r_59 : Int32) (x_60 : Int32) (x_63 : Int32) (x_64 : Int32) (x_65 : Int32) (x_66 : Int32) (x_67 : Int32) (ex_51 : x_51 = p1 / 5) (ex_52 : x_52 = da / 5) (ex_53 : x_53 = x_51 - x_52) (ex_55 : x_55 = 5 * r_54) (ex_56 : x_56 = p1 - p1 / 5 * 5) (ex_57 : x_57 = da - da / 5 * 5) (ex_58 : x_58 = x_56 - x_57) (ex_60 : x_60 = x_55 + r_59) (ex_63 : x_63 = da + x_60) (ex_64 : x_64 = 2 * ds) (ex_65 : x_65 = r_1 - x_64) (ex_66 : x_66 = x_65 + 8) (ex_67 : x_67 = x_66 - x_66 / 8 * 8) : x_67 = cz_tn r_1 ds := by subst_vars; rfl
theorem c_X7_isGuiltyAt_a17 (p1 : Int32) (fl : Int32) (da : Int32) (kc : Nat) (g2 : Nat → Int32) (r_1 : Int32) (r_49 : Int32) (x_51 : Int32) (x_52 : Int32) (x_53 : Int32) (r_54 : Int32) (x_55 : Int32) (x_56 : Int32) (x_57 : Int32) (x_58 : Int32) (r_59 : Int32) (x_60 : Int32) (r_62 : Int32) (x_63 : Int32) (nL : Nat) (hr_1 : r_1 = cz_wt da p1) (hr_1b : r_1 = -1 ∨ cz_line da p1) (hr_49 : r_49 = cz_far da p1) (ex_51 : x_51 = p1 / 5) (ex_52 : x_52 = da / 5) (ex_53 : x_53 = x_51 - x_52) (hr_54 : r_54 = cz_sgn x_53) (ex_55 : x_55 = 5 * r_54) (ex_56 : x_56 = p1 - p1 / 5 * 5) (ex_57 : x_57 = da - da / 5 * 5) (ex_58 : x_58 = x_56 - x_57) (hr_59 : r_59 = cz_sgn x_58) (ex_60 : x_60 = x_55 + r_59) (hr_62 : r_62 = cz_cl fl da g2 kc 0 da p1) (ex_63 : x_63 = da + x_60) (hn3 : nL ≤ 3) (hnL : da + cz_step da p1 + nI nL * cz_step da p1 = p1) : x_63 + nI nL * x_60 = p1 := by subst_vars; exact hnL
theorem c_X7_isGuiltyAt_a18 (p0 : Int32) (p1 : Int32) (t0 : Nat) (fl : Int32) (da : Int32) (kc : Nat) (g2 : Nat → Int32) (g6 : Nat → Int32) (r_1 : Int32) (r_49 : Int32) (x_51 : Int32) (x_52 : Int32) (x_53 : Int32) (r_54 : Int32) (x_55 : Int32) (x_56 : Int32) (x_57 : Int32) (x_58 : Int32) (r_59 : Int32) (x_60 : Int32) (r_62 : Int32) (x_63 : Int32) (nL : Nat) (hr_1 : r_1 = cz_wt da p1) (hr_1b : r_1 = -1 ∨ cz_line da p1) (hr_49 : r_49 = cz_far da p1) (ex_51 : x_51 = p1 / 5) (ex_52 : x_52 = da / 5) (ex_53 : x_53 = x_51 - x_52) (hr_54 : r_54 = cz_sgn x_53) (ex_55 : x_55 = 5 * r_54) (ex_56 : x_56 = p1 - p1 / 5 * 5) (ex_57 : x_57 = da - da / 5 * 5) (ex_58 : x_58 = x_56 - x_57) (hr_59 : r_59 = cz_sgn x_58) (ex_60 : x_60 = x_55 + r_59) (hr_62 : r_62 = cz_cl fl da g2 kc 0 da p1) (ex_63 : x_63 = da + x_60) (hn3 : nL ≤ 3) (hnL : da + cz_step da p1 + nI nL * cz_step da p1 = p1) : ∀ m : Nat, nL ≤ m → cm_clr (cm_C p0 g6 t0) x_60 p1 m x_63 r_62 = cm_clr (cm_C p0 g6 t0) (cz_step da p1) p1 4 (da + cz_step da p1) r_62 := by subst_vars; exact cm_clr_i hn3 hnL
theorem c_X7_isGuiltyAt_a19 (p1 : Int32) (da : Int32) (ds : Int32) (r_1 : Int32) (x_51 : Int32) (x_52 : Int32) (x_53 : Int32) (r_54 : Int32) (x_55 : Int32) (x_56 : Int32) (x_57 : Int32) (x_58 : Int32) (r_59 : Int32) (x_60 : Int32) (x_78 : Int32) (x_79 : Int32) (x_80 : Int32) (x_81 : Int32) (x_82 : Int32) (ex_51 : x_51 = p1 / 5) (ex_52 : x_52 = da / 5) (ex_53 : x_53 = x_51 - x_52) (ex_55 : x_55 = 5 * r_54) (ex_56 : x_56 = p1 - p1 / 5 * 5) (ex_57 : x_57 = da - da / 5 * 5) (ex_58 : x_58 = x_56 - x_57) (ex_60 : x_60 = x_55 + r_59) (ex_78 : x_78 = da + x_60) (ex_79 : x_79 = 2 * ds) (ex_80 : x_80 = r_1 - x_79) (ex_81 : x_81 = x_80 + 8) (ex_82 : x_82 = x_81 - x_81 / 8 * 8) : x_82 = cz_tn r_1 ds := by subst_vars; rfl
theorem c_X7_isGuiltyAt_a20 (p1 : Int32) (da : Int32) (ds : Int32) (r_1 : Int32) (x_51 : Int32) (x_52 : Int32) (x_53 : Int32) (r_54 : Int32) (x_55 : Int32) (x_56 : Int32) (x_57 : Int32) (x_58 : Int32) (r_59 : Int32) (x_60 : Int32) (x_78 : Int32) (x_79 : Int32) (x_80 : Int32) (x_81 : Int32) (x_82 : Int32) (ex_51 : x_51 = p1 / 5) (ex_52 : x_52 = da / 5) (ex_53 : x_53 = x_51 - x_52) (ex_55 : x_55 = 5 * r_54) (ex_56 : x_56 = p1 - p1 / 5 * 5) (ex_57 : x_57 = da - da / 5 * 5) (ex_58 : x_58 = x_56 - x_57) (ex_60 : x_60 = x_55 + r_59) (ex_78 : x_78 = da + x_60) (ex_79 : x_79 = 2 * ds) (ex_80 : x_80 = r_1 - x_79) (ex_81 : x_81 = x_80 + 8) (ex_82 : x_82 = x_81 - x_81 / 8 * 8) : x_82 = cz_tn r_1 ds := by subst_vars; rfl
theorem c_X7_isGuiltyAt_a21 (p1 : Int32) (da : Int32) (ds : Int32) (r_1 : Int32) (x_51 : Int32) (x_52 : Int32) (x_53 : Int32) (r_54 : Int32) (x_55 : Int32) (x_56 : Int32) (x_57 : Int32) (x_58 : Int32) (r_59 : Int32) (x_60 : Int32) (x_78 : Int32) (x_79 : Int32) (x_80 : Int32) (x_81 : Int32) (x_82 : Int32) (ex_51 : x_51 = p1 / 5) (ex_52 : x_52 = da / 5) (ex_53 : x_53 = x_51 - x_52) (ex_55 : x_55 = 5 * r_54) (ex_56 : x_56 = p1 - p1 / 5 * 5) (ex_57 : x_57 = da - da / 5 * 5) (ex_58 : x_58 = x_56 - x_57) (ex_60 : x_60 = x_55 + r_59) (ex_78 : x_78 = da + x_60) (ex_79 : x_79 = 2 * ds) (ex_80 : x_80 = r_1 - x_79) (ex_81 : x_81 = x_80 + 8) (ex_82 : x_82 = x_81 - x_81 / 8 * 8) : x_82 = cz_tn r_1 ds := by subst_vars; rfl
theorem c_X7_isGuiltyAt_a22 (p1 : Int32) (da : Int32) (ds : Int32) (r_1 : Int32) (x_51 : Int32) (x_52 : Int32) (x_53 : Int32) (r_54 : Int32) (x_55 : Int32) (x_56 : Int32) (x_57 : Int32) (x_58 : Int32) (r_59 : Int32) (x_60 : Int32) (x_78 : Int32) (x_79 : Int32) (x_80 : Int32) (x_81 : Int32) (x_82 : Int32) (ex_51 : x_51 = p1 / 5) (ex_52 : x_52 = da / 5) (ex_53 : x_53 = x_51 - x_52) (ex_55 : x_55 = 5 * r_54) (ex_56 : x_56 = p1 - p1 / 5 * 5) (ex_57 : x_57 = da - da / 5 * 5) (ex_58 : x_58 = x_56 - x_57) (ex_60 : x_60 = x_55 + r_59) (ex_78 : x_78 = da + x_60) (ex_79 : x_79 = 2 * ds) (ex_80 : x_80 = r_1 - x_79) (ex_81 : x_81 = x_80 + 8) (ex_82 : x_82 = x_81 - x_81 / 8 * 8) : x_82 = cz_tn r_1 ds := by subst_vars; rfl
theorem c_X7_isGuiltyAt_a23 (p1 : Int32) (fl : Int32) (da : Int32) (kc : Nat) (g2 : Nat → Int32) (r_1 : Int32) (r_49 : Int32) (x_51 : Int32) (x_52 : Int32) (x_53 : Int32) (r_54 : Int32) (x_55 : Int32) (x_56 : Int32) (x_57 : Int32) (x_58 : Int32) (r_59 : Int32) (x_60 : Int32) (r_77 : Int32) (x_78 : Int32) (nL : Nat) (hr_1 : r_1 = cz_wt da p1) (hr_1b : r_1 = -1 ∨ cz_line da p1) (hr_49 : r_49 = cz_far da p1) (ex_51 : x_51 = p1 / 5) (ex_52 : x_52 = da / 5) (ex_53 : x_53 = x_51 - x_52) (hr_54 : r_54 = cz_sgn x_53) (ex_55 : x_55 = 5 * r_54) (ex_56 : x_56 = p1 - p1 / 5 * 5) (ex_57 : x_57 = da - da / 5 * 5) (ex_58 : x_58 = x_56 - x_57) (hr_59 : r_59 = cz_sgn x_58) (ex_60 : x_60 = x_55 + r_59) (hr_77 : r_77 = cz_cl fl da g2 kc 1 da p1) (ex_78 : x_78 = da + x_60) (hn3 : nL ≤ 3) (hnL : da + cz_step da p1 + nI nL * cz_step da p1 = p1) : x_78 + nI nL * x_60 = p1 := by subst_vars; exact hnL
theorem c_X7_isGuiltyAt_a24 (p0 : Int32) (p1 : Int32) (t0 : Nat) (fl : Int32) (da : Int32) (kc : Nat) (g2 : Nat → Int32) (g6 : Nat → Int32) (r_1 : Int32) (r_49 : Int32) (x_51 : Int32) (x_52 : Int32) (x_53 : Int32) (r_54 : Int32) (x_55 : Int32) (x_56 : Int32) (x_57 : Int32) (x_58 : Int32) (r_59 : Int32) (x_60 : Int32) (r_77 : Int32) (x_78 : Int32) (nL : Nat) (hr_1 : r_1 = cz_wt da p1) (hr_1b : r_1 = -1 ∨ cz_line da p1) (hr_49 : r_49 = cz_far da p1) (ex_51 : x_51 = p1 / 5) (ex_52 : x_52 = da / 5) (ex_53 : x_53 = x_51 - x_52) (hr_54 : r_54 = cz_sgn x_53) (ex_55 : x_55 = 5 * r_54) (ex_56 : x_56 = p1 - p1 / 5 * 5) (ex_57 : x_57 = da - da / 5 * 5) (ex_58 : x_58 = x_56 - x_57) (hr_59 : r_59 = cz_sgn x_58) (ex_60 : x_60 = x_55 + r_59) (hr_77 : r_77 = cz_cl fl da g2 kc 1 da p1) (ex_78 : x_78 = da + x_60) (hn3 : nL ≤ 3) (hnL : da + cz_step da p1 + nI nL * cz_step da p1 = p1) : ∀ m : Nat, nL ≤ m → cm_clr (cm_C p0 g6 t0) x_60 p1 m x_78 r_77 = cm_clr (cm_C p0 g6 t0) (cz_step da p1) p1 4 (da + cz_step da p1) r_77 := by subst_vars; exact cm_clr_i hn3 hnL
set_option maxHeartbeats 4000000 in
set_option maxRecDepth 100000 in
theorem c_X7_isGuiltyAt (l : Launch) (dC : Nat → ClassId) (dI : Nat → Nat → Nat) (cI cB : ClassId) (h0 : Nat) (p0 : Int32) (p1 : Int32) (t0 : Nat) (ih : Int32) (hn : Int32) (fl : Int32) (da : Int32) (ds : Int32) (ac : Int32) (kc : Nat) (m1 : Nat) (m2 : Nat) (m3 : Nat) (m4 : Nat) (m5 : Nat) (pl : Nat) (pg : Nat) (fa : Int32) (nf : Int32) (m6 : Nat) (m7 : Nat) (m8 : Nat) (sd : Int64) (ik : Int32) (kh : Int32) (km : Nat) (ka : Int32) (ks : Int32) (kac : Int32) (m9 : Nat) (m10 : Nat) (m11 : Nat) (m12 : Nat) (hv : Int64) (g2 : Nat → Int32) (g6 : Nat → Int32) (hkc : kc ≤ 6) (hda : cz_in 0 da 19) (ht3 : t0 ≤ 3) (hp1 : cz_in 0 p1 19) : Met l yX7_isGuiltyAt wsX7_isGuiltyAt ({ frames := 2, cells := 0, slots := 0, locals := 49 }) (cz_Pp dC dI cI cB [.ref h0, .int p0, .int p1, .int (nI t0)] [(h0, .inr (7, [.int ih, .int hn, .int fl, .int da, .int ds, .int ac, .int (nI kc), .ref m1, .ref m2, .ref m3, .ref m4, .ref m5, .int (nI pl), .ref pg, .int fa, .int nf, .ref m6, .ref m7, .ref m8, .long sd, .int ik, .int kh, .int (nI km), .int ka, .int ks, .int kac, .ref m9, .ref m10, .ref m11, .ref m12, .long hv])), (m2, .inl (cI, 6, .inl g2)), (m6, .inl (cI, 3, .inl g6))]) (vp_Si (fun r : Int32 => (r = 0 ∧ ¬ cm_ga p0 p1 g6 t0 da ds fl g2 kc) ∨ (r = 1 ∧ cm_ga p0 p1 g6 t0 da ds fl g2 kc))) 0 0 (fun _ => False) := by
  refine cz_of (cc := cX7_isGuiltyAt) (maxL := 8) (ret := (some .boolean)) (by decide) rfl ?_
  intro p e s m args below meth c s₁ Q B hml hv hQ
  obtain ⟨rfl, hP, hN⟩ := hv
  have hx := B.exec
  have hb := B.bytes
  have hr := B.returns
  have hts := atoms_spec (ws := wsX7_isGuiltyAt) B.pre
  have hown : s.vm.findClass RX7 = some m.cls := findClass_of_methodNamed B.named
  have hlocks := B.notSynchronized
  have hK := hN.1
  have hiX7 : ∀ w ∈ wsX70, w ∈ wsX7_isGuiltyAt := (fun _ h => List.mem_cons_of_mem _ (List.mem_append_right _ h))
  have hl := lv_entry ([.ref h0, .int p0, .int p1, .int (nI t0)]) (n := 8) (Nat.le_of_ble_eq_true rfl)
  rw [lg_entry_eq]
  generalize (lg_sl ([.ref h0, .int p0, .int p1, .int (nI t0)]) ++ List.replicate (8 - (lg_sl ([.ref h0, .int p0, .int p1, .int (nI t0)])).length) Slot.unset).toArray = ls at hl ⊢
  have hl : lv_has ls 8 [(0, .ref h0), (1, .int p0), (2, .int p1), (3, .int (nI t0))] := hl
  refine lv_aload_n hx hb dX7_isGuiltyAt_0 rfl (lv_at hl 0 rfl) ?_
  refine va_get (D := (dC, dI)) (ci := 7) (v := .int da) (C := RX7) (T := TX7) (N := 31) hx hb hts hiX7 hown hK hP 0 rfl rfl 3 (by decide) (hts (.fieldLink RX7 7 "LeftProfileModel" "dukeAt" "I") (List.mem_of_getElem? (i := 1) rfl)) (fun _ h9 => h9) rfl dX7_isGuiltyAt_1 ?_
  refine lv_iload_n hx hb dX7_isGuiltyAt_4 rfl (lv_at hl 2 rfl) ?_
  refine vp_callSi (cz_run (va_runS (As := [.int da, .int p1]) (rest := []) ⟨hx, hb, hml, hown, hts⟩ (c_X7_wayTo l dC dI cI cB da p1 hda hp1) (va_cwS 2 hts gX7_isGuiltyAt_X7_wayTo rfl rfl rfl (by decide +kernel) ⟨Nat.le_of_ble_eq_true rfl, Nat.le_of_ble_eq_true rfl⟩) (cz_pS (hP.sub (ws' := []) [] rfl) hN) rfl rfl hl.1 rfl (lv_room (Nat.le_of_ble_eq_true rfl)) dX7_isGuiltyAt_5 ⟨Nat.le_of_ble_eq_true rfl, Nat.le_of_ble_eq_true rfl⟩)) (fun r_1 hr_1 => ?_)
  obtain ⟨hr_1, hr_1b⟩ := hr_1
  refine lv_istore (lv' := [(4, .int r_1), (0, .ref h0), (1, .int p0), (2, .int p1), (3, .int (nI t0))]) hx hb dX7_isGuiltyAt_8 hl (by decide) rfl (fun ls hl => ?_)
  refine lv_iload hx hb dX7_isGuiltyAt_10 (lv_at hl 0 rfl) ?_
  refine lv_iconst (v := (-1)) hx hb dX7_isGuiltyAt_12 (by decide) ?_
  refine lv_icmp_eq (tgt := 38) hx hb dX7_isGuiltyAt_13 (by decide) (fun c_2 => ?_) (fun c_2 => ?_)
  · refine lv_iconst (v := 0) hx hb dX7_isGuiltyAt_38 (by decide) ?_
    rw [hQ]; exact W.zret (v := 0) hx hb hr (by decide) (fun t ht hW => ⟨0, rfl, (Or.inl ⟨rfl, (cm_ga_n1 hr_1 c_2)⟩), ht⟩) (fun _ h => absurd h List.not_mem_nil) dX7_isGuiltyAt_39
  · refine lv_iload_n hx hb dX7_isGuiltyAt_16 rfl (lv_at hl 2 rfl) ?_
    refine lv_iconst (v := 4) hx hb dX7_isGuiltyAt_17 (by decide) ?_
    refine lv_icmp_eq (tgt := 38) hx hb dX7_isGuiltyAt_18 (by decide) (fun c_3 => ?_) (fun c_3 => ?_)
    · refine lv_iconst (v := 0) hx hb dX7_isGuiltyAt_38 (by decide) ?_
      rw [hQ]; exact W.zret (v := 0) hx hb hr (by decide) (fun t ht hW => ⟨0, rfl, (Or.inl ⟨rfl, (cm_ga_n2 c_3)⟩), ht⟩) (fun _ h => absurd h List.not_mem_nil) dX7_isGuiltyAt_39
    · refine lv_iload_n hx hb dX7_isGuiltyAt_21 rfl (lv_at hl 2 rfl) ?_
      refine lv_iconst (v := 2) hx hb dX7_isGuiltyAt_22 (by decide) ?_
      refine lv_icmp_ne (tgt := 40) hx hb dX7_isGuiltyAt_23 (by decide) (fun c_4 => ?_) (fun c_4 => ?_)
      · refine lv_iconst (v := 5) hx hb dX7_isGuiltyAt_40 (by decide) ?_
        refine lv_iload_n hx hb dX7_isGuiltyAt_41 rfl (lv_at hl 3 rfl) ?_
        refine lv_iconst (v := 5) hx hb dX7_isGuiltyAt_42 (by decide) ?_
        refine lv_idiv hx hb dX7_isGuiltyAt_43 (by decide) ?_
        refine lv_topi (fun x_5 ex_5 => ?_)
        refine lv_aload_n hx hb dX7_isGuiltyAt_44 rfl (lv_at hl 1 rfl) ?_
        refine va_get (D := (dC, dI)) (ci := 7) (v := .int da) (C := RX7) (T := TX7) (N := 31) hx hb hts hiX7 hown hK hP 0 rfl rfl 3 (by decide) (hts (.fieldLink RX7 7 "LeftProfileModel" "dukeAt" "I") (List.mem_of_getElem? (i := 1) rfl)) (fun _ h9 => h9) rfl dX7_isGuiltyAt_45 ?_
        refine lv_iconst (v := 5) hx hb dX7_isGuiltyAt_48 (by decide) ?_
        refine lv_idiv hx hb dX7_isGuiltyAt_49 (by decide) ?_
        refine lv_topi (fun x_6 ex_6 => ?_)
        refine lv_isub hx hb dX7_isGuiltyAt_50 ?_
        refine lv_topi (fun x_7 ex_7 => ?_)
        refine vp_callSi (cz_run (va_runS (As := [.int x_7]) (rest := [.int 5]) ⟨hx, hb, hml, hown, hts⟩ (c_X7_sign l dC dI cI cB x_7 ) (va_cwS 1 hts gX7_isGuiltyAt_X7_sign rfl rfl rfl (by decide +kernel) ⟨Nat.le_of_ble_eq_true rfl, Nat.le_of_ble_eq_true rfl⟩) (cz_pS (hP.sub (ws' := []) [] rfl) hN) rfl rfl hl.1 rfl (lv_room (Nat.le_of_ble_eq_true rfl)) dX7_isGuiltyAt_51 ⟨Nat.le_of_ble_eq_true rfl, Nat.le_of_ble_eq_true rfl⟩)) (fun r_8 hr_8 => ?_)
        refine lv_imul hx hb dX7_isGuiltyAt_54 ?_
        refine lv_topi (fun x_9 ex_9 => ?_)
        refine lv_iload_n hx hb dX7_isGuiltyAt_55 rfl (lv_at hl 3 rfl) ?_
        refine lv_iconst (v := 5) hx hb dX7_isGuiltyAt_56 (by decide) ?_
        refine lv_irem hx hb dX7_isGuiltyAt_57 (by decide) ?_
        refine lv_topi (fun x_10 ex_10 => ?_)
        refine lv_aload_n hx hb dX7_isGuiltyAt_58 rfl (lv_at hl 1 rfl) ?_
        refine va_get (D := (dC, dI)) (ci := 7) (v := .int da) (C := RX7) (T := TX7) (N := 31) hx hb hts hiX7 hown hK hP 0 rfl rfl 3 (by decide) (hts (.fieldLink RX7 7 "LeftProfileModel" "dukeAt" "I") (List.mem_of_getElem? (i := 1) rfl)) (fun _ h9 => h9) rfl dX7_isGuiltyAt_59 ?_
        refine lv_iconst (v := 5) hx hb dX7_isGuiltyAt_62 (by decide) ?_
        refine lv_irem hx hb dX7_isGuiltyAt_63 (by decide) ?_
        refine lv_topi (fun x_11 ex_11 => ?_)
        refine lv_isub hx hb dX7_isGuiltyAt_64 ?_
        refine lv_topi (fun x_12 ex_12 => ?_)
        refine vp_callSi (cz_run (va_runS (As := [.int x_12]) (rest := [.int x_9]) ⟨hx, hb, hml, hown, hts⟩ (c_X7_sign l dC dI cI cB x_12 ) (va_cwS 1 hts gX7_isGuiltyAt_X7_sign rfl rfl rfl (by decide +kernel) ⟨Nat.le_of_ble_eq_true rfl, Nat.le_of_ble_eq_true rfl⟩) (cz_pS (hP.sub (ws' := []) [] rfl) hN) rfl rfl hl.1 rfl (lv_room (Nat.le_of_ble_eq_true rfl)) dX7_isGuiltyAt_65 ⟨Nat.le_of_ble_eq_true rfl, Nat.le_of_ble_eq_true rfl⟩)) (fun r_13 hr_13 => ?_)
        refine lv_iadd hx hb dX7_isGuiltyAt_68 ?_
        refine lv_topi (fun x_14 ex_14 => ?_)
        refine lv_istore (lv' := [(5, .int x_14), (4, .int r_1), (0, .ref h0), (1, .int p0), (2, .int p1), (3, .int (nI t0))]) hx hb dX7_isGuiltyAt_69 hl (by decide) rfl (fun ls hl => ?_)
        refine lv_aload_n hx hb dX7_isGuiltyAt_71 rfl (lv_at hl 2 rfl) ?_
        refine lv_aload_n hx hb dX7_isGuiltyAt_72 rfl (lv_at hl 2 rfl) ?_
        refine va_get (D := (dC, dI)) (ci := 7) (v := .int da) (C := RX7) (T := TX7) (N := 31) hx hb hts hiX7 hown hK hP 0 rfl rfl 3 (by decide) (hts (.fieldLink RX7 7 "LeftProfileModel" "dukeAt" "I") (List.mem_of_getElem? (i := 1) rfl)) (fun _ h9 => h9) rfl dX7_isGuiltyAt_73 ?_
        refine lv_iload_n hx hb dX7_isGuiltyAt_76 rfl (lv_at hl 4 rfl) ?_
        refine lv_iload_n hx hb dX7_isGuiltyAt_77 rfl (lv_at hl 3 rfl) ?_
        refine lv_iconst (v := 3) hx hb dX7_isGuiltyAt_78 (by decide) ?_
        refine lv_icmp_eq (tgt := 86) hx hb dX7_isGuiltyAt_79 (by decide) (fun c_15 => ?_) (fun c_15 => ?_)
        · refine lv_iconst (v := 0) hx hb dX7_isGuiltyAt_86 (by decide) ?_
          refine vp_callSi (cz_run (va_runV (As := [.int da, .int p1, .int 0]) (rest := []) ⟨hx, hb, hml, hown, hts⟩ (c_X7_isClear l dC dI cI cB h0 da p1 0 ih hn fl da ds ac kc m1 m2 m3 m4 m5 pl pg fa nf m6 m7 m8 sd ik kh km ka ks kac m9 m10 m11 m12 hv g2 hkc (hr_1b.resolve_left c_2)) (cwV 3 hts gX7_isGuiltyAt_X7_isClear rfl rfl rfl (by decide +kernel) ⟨Nat.le_of_ble_eq_true rfl, Nat.le_of_ble_eq_true rfl⟩) (cz_pV (hP.sub (ws' := [(h0, .inr (7, [.int ih, .int hn, .int fl, .int da, .int ds, .int ac, .int (nI kc), .ref m1, .ref m2, .ref m3, .ref m4, .ref m5, .int (nI pl), .ref pg, .int fa, .int nf, .ref m6, .ref m7, .ref m8, .long sd, .int ik, .int kh, .int (nI km), .int ka, .int ks, .int kac, .ref m9, .ref m10, .ref m11, .ref m12, .long hv])), (m2, .inl (cI, 6, .inl g2))]) [0, 1] rfl) hN (va_recv hK (hP.sub (ws' := [(h0, .inr (7, [.int ih, .int hn, .int fl, .int da, .int ds, .int ac, .int (nI kc), .ref m1, .ref m2, .ref m3, .ref m4, .ref m5, .int (nI pl), .ref pg, .int fa, .int nf, .ref m6, .ref m7, .ref m8, .long sd, .int ik, .int kh, .int (nI km), .int ka, .int ks, .int kac, .ref m9, .ref m10, .ref m11, .ref m12, .long hv])), (m2, .inl (cI, 6, .inl g2))]) [0, 1] rfl) (ci := 7) (q0 := 0) rfl rfl)) rfl rfl hl.1 rfl (lv_room (Nat.le_of_ble_eq_true rfl)) dX7_isGuiltyAt_87 ⟨Nat.le_of_ble_eq_true rfl, Nat.le_of_ble_eq_true rfl⟩)) (fun r_16 hr_16 => ?_)
          refine lv_istore (lv' := [(6, .int r_16), (5, .int x_14), (4, .int r_1), (0, .ref h0), (1, .int p0), (2, .int p1), (3, .int (nI t0))]) hx hb dX7_isGuiltyAt_90 hl (by decide) rfl (fun ls hl => ?_)
          refine lv_aload_n hx hb dX7_isGuiltyAt_92 rfl (lv_at hl 3 rfl) ?_
          refine va_get (D := (dC, dI)) (ci := 7) (v := .int da) (C := RX7) (T := TX7) (N := 31) hx hb hts hiX7 hown hK hP 0 rfl rfl 3 (by decide) (hts (.fieldLink RX7 7 "LeftProfileModel" "dukeAt" "I") (List.mem_of_getElem? (i := 1) rfl)) (fun _ h9 => h9) rfl dX7_isGuiltyAt_93 ?_
          refine lv_iload hx hb dX7_isGuiltyAt_96 (lv_at hl 1 rfl) ?_
          refine lv_iadd hx hb dX7_isGuiltyAt_98 ?_
          refine lv_topi (fun x_17 ex_17 => ?_)
          refine lv_istore (lv' := [(7, .int x_17), (6, .int r_16), (5, .int x_14), (4, .int r_1), (0, .ref h0), (1, .int p0), (2, .int p1), (3, .int (nI t0))]) hx hb dX7_isGuiltyAt_99 hl (by decide) rfl (fun ls hl => ?_)
          obtain ⟨nL, hn3, hnL⟩ := (hr_1b.resolve_left c_2)
          have hex144 : ∀ (yb : Int32) (ya : Int32) (ls : Array Slot), yb = cm_clr (cm_C p0 g6 t0) (cz_step da p1) p1 4 (da + cz_step da p1) r_16 → lv_has ls 8 [(0, .ref h0), (1, .int p0), (4, .int r_1), (6, .int yb)] → W p l e ({ frames := 2, cells := 0, slots := 0, locals := 49 } : Room) s m #[Value.ref h0, Value.int p0, Value.int p1, Value.int (nI t0)] below meth c s.heap [] 0 0 Q (F0 m 144 ls []) := by
            intro yb ya ls hres hl
            refine lv_iload hx hb dX7_isGuiltyAt_144 (lv_at hl 2 rfl) ?_
            refine lv_iconst (v := 2) hx hb dX7_isGuiltyAt_146 (by decide) ?_
            refine lv_aload_n hx hb dX7_isGuiltyAt_147 rfl (lv_at hl 0 rfl) ?_
            refine va_get (D := (dC, dI)) (ci := 7) (v := .int ds) (C := RX7) (T := TX7) (N := 31) hx hb hts hiX7 hown hK hP 0 rfl rfl 4 (by decide) (hts (.fieldLink RX7 13 "LeftProfileModel" "dukeSide" "I") (List.mem_of_getElem? (i := 2) rfl)) (fun _ h9 => h9) rfl dX7_isGuiltyAt_148 ?_
            refine lv_imul hx hb dX7_isGuiltyAt_151 ?_
            refine lv_topi (fun x_18 ex_18 => ?_)
            refine lv_isub hx hb dX7_isGuiltyAt_152 ?_
            refine lv_topi (fun x_19 ex_19 => ?_)
            refine lv_bipush (v := 8) hx hb dX7_isGuiltyAt_153 (by decide) ?_
            refine lv_iadd hx hb dX7_isGuiltyAt_155 ?_
            refine lv_topi (fun x_20 ex_20 => ?_)
            refine lv_bipush (v := 8) hx hb dX7_isGuiltyAt_156 (by decide) ?_
            refine lv_irem hx hb dX7_isGuiltyAt_158 (by decide) ?_
            refine lv_topi (fun x_21 ex_21 => ?_)
            refine lv_istore (lv' := [(7, .int x_21), (0, .ref h0), (1, .int p0), (4, .int r_1), (6, .int yb)]) hx hb dX7_isGuiltyAt_159 hl (by decide) rfl (fun ls hl => ?_)
            refine lv_iload hx hb dX7_isGuiltyAt_161 (lv_at hl 4 rfl) ?_
            refine lv_if_eq (tgt := 189) hx hb dX7_isGuiltyAt_163 (by decide) (fun c_22 => ?_) (fun c_22 => ?_)
            · refine lv_iconst (v := 0) hx hb dX7_isGuiltyAt_189 (by decide) ?_
              rw [hQ]; exact W.zret (v := 0) hx hb hr (by decide) (fun t ht hW => ⟨0, rfl, (Or.inl ⟨rfl, (cm_ga_n4 (cz_pe3 c_15) hr_16 hres c_22)⟩), ht⟩) (fun _ h => absurd h List.not_mem_nil) dX7_isGuiltyAt_190
            · refine lv_iload hx hb dX7_isGuiltyAt_166 (lv_at hl 0 rfl) ?_
              refine lv_if_ne (tgt := 179) hx hb dX7_isGuiltyAt_168 (by decide) (fun c_23 => ?_) (fun c_23 => ?_)
              · refine lv_iload hx hb dX7_isGuiltyAt_179 (lv_at hl 0 rfl) ?_
                refine lv_iconst (v := 4) hx hb dX7_isGuiltyAt_181 (by decide) ?_
                refine lv_icmp_ge (tgt := 189) hx hb dX7_isGuiltyAt_182 (by decide) (fun c_24 => ?_) (fun c_24 => ?_)
                · refine lv_iconst (v := 0) hx hb dX7_isGuiltyAt_189 (by decide) ?_
                  rw [hQ]; exact W.zret (v := 0) hx hb hr (by decide) (fun t ht hW => ⟨0, rfl, (Or.inl ⟨rfl, (cm_ga_n5 hr_1 (c_X7_isGuiltyAt_a1 p1 da ds r_1 x_5 x_6 x_7 r_8 x_9 x_10 x_11 x_12 r_13 x_14 x_17 x_18 x_19 x_20 x_21 ex_5 ex_6 ex_7 ex_9 ex_10 ex_11 ex_12 ex_14 ex_17 ex_18 ex_19 ex_20 ex_21) (cm_s3 c_23 c_24))⟩), ht⟩) (fun _ h => absurd h List.not_mem_nil) dX7_isGuiltyAt_190
                · refine lv_iconst (v := 1) hx hb dX7_isGuiltyAt_185 (by decide) ?_
                  refine lv_goto (tgt := 190) hx hb dX7_isGuiltyAt_186 (by decide) ?_
                  rw [hQ]; exact W.zret (v := 1) hx hb hr (by decide) (fun t ht hW => ⟨1, rfl, (Or.inr (⟨rfl, (cm_ga_y hr_1 c_2 c_3 (fun h => c_4 h.1) (cz_pe3 c_15) hr_16 hres c_22 (c_X7_isGuiltyAt_a2 p1 da ds r_1 x_5 x_6 x_7 r_8 x_9 x_10 x_11 x_12 r_13 x_14 x_17 x_18 x_19 x_20 x_21 ex_5 ex_6 ex_7 ex_9 ex_10 ex_11 ex_12 ex_14 ex_17 ex_18 ex_19 ex_20 ex_21) (cm_s2 c_23 c_24))⟩)), ht⟩) (fun _ h => absurd h List.not_mem_nil) dX7_isGuiltyAt_190
              · refine lv_iload_n hx hb dX7_isGuiltyAt_171 rfl (lv_at hl 2 rfl) ?_
                refine lv_iconst (v := 1) hx hb dX7_isGuiltyAt_172 (by decide) ?_
                refine lv_icmp_eq (tgt := 189) hx hb dX7_isGuiltyAt_173 (by decide) (fun c_25 => ?_) (fun c_25 => ?_)
                · refine lv_iconst (v := 0) hx hb dX7_isGuiltyAt_189 (by decide) ?_
                  rw [hQ]; exact W.zret (v := 0) hx hb hr (by decide) (fun t ht hW => ⟨0, rfl, (Or.inl ⟨rfl, (cm_ga_n5 hr_1 (c_X7_isGuiltyAt_a3 p1 da ds r_1 x_5 x_6 x_7 r_8 x_9 x_10 x_11 x_12 r_13 x_14 x_17 x_18 x_19 x_20 x_21 ex_5 ex_6 ex_7 ex_9 ex_10 ex_11 ex_12 ex_14 ex_17 ex_18 ex_19 ex_20 ex_21) (cm_s0 c_23 c_25))⟩), ht⟩) (fun _ h => absurd h List.not_mem_nil) dX7_isGuiltyAt_190
                · refine lv_goto (tgt := 185) hx hb dX7_isGuiltyAt_176 (by decide) ?_
                  refine lv_iconst (v := 1) hx hb dX7_isGuiltyAt_185 (by decide) ?_
                  refine lv_goto (tgt := 190) hx hb dX7_isGuiltyAt_186 (by decide) ?_
                  rw [hQ]; exact W.zret (v := 1) hx hb hr (by decide) (fun t ht hW => ⟨1, rfl, (Or.inr (⟨rfl, (cm_ga_y hr_1 c_2 c_3 (fun h => c_4 h.1) (cz_pe3 c_15) hr_16 hres c_22 (c_X7_isGuiltyAt_a4 p1 da ds r_1 x_5 x_6 x_7 r_8 x_9 x_10 x_11 x_12 r_13 x_14 x_17 x_18 x_19 x_20 x_21 ex_5 ex_6 ex_7 ex_9 ex_10 ex_11 ex_12 ex_14 ex_17 ex_18 ex_19 ex_20 ex_21) (cm_s1 c_23 c_25))⟩)), ht⟩) (fun _ h => absurd h List.not_mem_nil) dX7_isGuiltyAt_190
          have lp101 : ∀ (n101 : Nat) (yb : Int32) (ya : Int32) (ls : Array Slot), ya + nI n101 * x_14 = p1 ∧ (∀ m : Nat, n101 ≤ m → cm_clr (cm_C p0 g6 t0) x_14 p1 m ya yb = cm_clr (cm_C p0 g6 t0) (cz_step da p1) p1 4 (da + cz_step da p1) r_16) → lv_has ls 8 [(0, .ref h0), (1, .int p0), (2, .int p1), (3, .int (nI t0)), (4, .int r_1), (5, .int x_14), (6, .int yb), (7, .int ya)] → W p l e ({ frames := 2, cells := 0, slots := 0, locals := 49 } : Room) s m #[Value.ref h0, Value.int p0, Value.int p1, Value.int (nI t0)] below meth c s.heap [] 0 0 Q (F0 m 101 ls []) := by
            intro n101
            induction n101 with
            | zero =>
              intro yb ya ls hi101  hl
              refine lv_iload hx hb dX7_isGuiltyAt_101 (lv_at hl 7 rfl) ?_
              refine lv_iload_n hx hb dX7_isGuiltyAt_103 rfl (lv_at hl 2 rfl) ?_
              refine lv_icmp_eq (tgt := 144) hx hb dX7_isGuiltyAt_104 (by decide) (fun c_26 => ?_) (fun c_26 => ?_)
              · exact hex144 yb ya ls (cm_clr_e hi101.2 c_26) (lv_sub hl [0, 1, 4, 6] rfl)
              · exact absurd (cz_mz hi101.1) c_26
            | succ n101 ih101 =>
              intro yb ya ls hi101  hl
              refine lv_iload hx hb dX7_isGuiltyAt_101 (lv_at hl 7 rfl) ?_
              refine lv_iload_n hx hb dX7_isGuiltyAt_103 rfl (lv_at hl 2 rfl) ?_
              refine lv_icmp_eq (tgt := 144) hx hb dX7_isGuiltyAt_104 (by decide) (fun c_27 => ?_) (fun c_27 => ?_)
              · exact hex144 yb ya ls (cm_clr_e hi101.2 c_27) (lv_sub hl [0, 1, 4, 6] rfl)
              · refine lv_iload hx hb dX7_isGuiltyAt_107 (lv_at hl 6 rfl) ?_
                refine lv_if_eq (tgt := 131) hx hb dX7_isGuiltyAt_109 (by decide) (fun c_28 => ?_) (fun c_28 => ?_)
                · refine lv_iconst (v := 0) hx hb dX7_isGuiltyAt_131 (by decide) ?_
                  refine lv_istore (lv' := [(6, .int 0), (0, .ref h0), (1, .int p0), (2, .int p1), (3, .int (nI t0)), (4, .int r_1), (5, .int x_14), (7, .int ya)]) hx hb dX7_isGuiltyAt_132 hl (by decide) rfl (fun ls hl => ?_)
                  refine lv_iload hx hb dX7_isGuiltyAt_134 (lv_at hl 7 rfl) ?_
                  refine lv_iload hx hb dX7_isGuiltyAt_136 (lv_at hl 6 rfl) ?_
                  refine lv_iadd hx hb dX7_isGuiltyAt_138 ?_
                  refine lv_topi (fun x_29 ex_29 => ?_)
                  refine lv_istore (lv' := [(7, .int x_29), (6, .int 0), (0, .ref h0), (1, .int p0), (2, .int p1), (3, .int (nI t0)), (4, .int r_1), (5, .int x_14)]) hx hb dX7_isGuiltyAt_139 hl (by decide) rfl (fun ls hl => ?_)
                  refine lv_goto (tgt := 101) hx hb dX7_isGuiltyAt_141 (by decide) ?_
                  exact ih101 0 x_29 ls ⟨cz_ms hi101.1 ex_29, cm_clr_b hi101.2 c_27 (cm_v0 c_28) ex_29⟩  (lv_sub hl [2, 3, 4, 5, 6, 7, 1, 0] rfl)
                · refine lv_iload_n hx hb dX7_isGuiltyAt_112 rfl (lv_at hl 1 rfl) ?_
                  refine lv_iconst (v := 3) hx hb dX7_isGuiltyAt_113 (by decide) ?_
                  refine lv_icmp_eq (tgt := 127) hx hb dX7_isGuiltyAt_114 (by decide) (fun _ => ?_) (fun c => absurd c_15 c)
                  refine lv_iconst (v := 1) hx hb dX7_isGuiltyAt_127 (by decide) ?_
                  refine lv_goto (tgt := 132) hx hb dX7_isGuiltyAt_128 (by decide) ?_
                  refine lv_istore (lv' := [(6, .int 1), (0, .ref h0), (1, .int p0), (2, .int p1), (3, .int (nI t0)), (4, .int r_1), (5, .int x_14), (7, .int ya)]) hx hb dX7_isGuiltyAt_132 hl (by decide) rfl (fun ls hl => ?_)
                  refine lv_iload hx hb dX7_isGuiltyAt_134 (lv_at hl 7 rfl) ?_
                  refine lv_iload hx hb dX7_isGuiltyAt_136 (lv_at hl 6 rfl) ?_
                  refine lv_iadd hx hb dX7_isGuiltyAt_138 ?_
                  refine lv_topi (fun x_30 ex_30 => ?_)
                  refine lv_istore (lv' := [(7, .int x_30), (6, .int 1), (0, .ref h0), (1, .int p0), (2, .int p1), (3, .int (nI t0)), (4, .int r_1), (5, .int x_14)]) hx hb dX7_isGuiltyAt_139 hl (by decide) rfl (fun ls hl => ?_)
                  refine lv_goto (tgt := 101) hx hb dX7_isGuiltyAt_141 (by decide) ?_
                  exact ih101 1 x_30 ls ⟨cz_ms hi101.1 ex_30, cm_clr_b hi101.2 c_27 (cm_v1 c_28 (cm_C3 c_15)) ex_30⟩  (lv_sub hl [2, 3, 4, 5, 6, 7, 1, 0] rfl)
          exact lp101 nL r_16 x_17 ls ⟨(c_X7_isGuiltyAt_a5 p1 fl da kc g2 r_1 x_5 x_6 x_7 r_8 x_9 x_10 x_11 x_12 r_13 x_14 r_16 x_17 nL hr_1 hr_1b ex_5 ex_6 ex_7 hr_8 ex_9 ex_10 ex_11 ex_12 hr_13 ex_14 hr_16 ex_17 hn3 hnL), (c_X7_isGuiltyAt_a6 p0 p1 t0 fl da kc g2 g6 r_1 x_5 x_6 x_7 r_8 x_9 x_10 x_11 x_12 r_13 x_14 r_16 x_17 nL hr_1 hr_1b ex_5 ex_6 ex_7 hr_8 ex_9 ex_10 ex_11 ex_12 hr_13 ex_14 hr_16 ex_17 hn3 hnL)⟩  (lv_sub hl [4, 5, 6, 7, 3, 2, 1, 0] rfl)
        · refine lv_iconst (v := 1) hx hb dX7_isGuiltyAt_82 (by decide) ?_
          refine lv_goto (tgt := 87) hx hb dX7_isGuiltyAt_83 (by decide) ?_
          refine vp_callSi (cz_run (va_runV (As := [.int da, .int p1, .int 1]) (rest := []) ⟨hx, hb, hml, hown, hts⟩ (c_X7_isClear l dC dI cI cB h0 da p1 1 ih hn fl da ds ac kc m1 m2 m3 m4 m5 pl pg fa nf m6 m7 m8 sd ik kh km ka ks kac m9 m10 m11 m12 hv g2 hkc (hr_1b.resolve_left c_2)) (cwV 3 hts gX7_isGuiltyAt_X7_isClear rfl rfl rfl (by decide +kernel) ⟨Nat.le_of_ble_eq_true rfl, Nat.le_of_ble_eq_true rfl⟩) (cz_pV (hP.sub (ws' := [(h0, .inr (7, [.int ih, .int hn, .int fl, .int da, .int ds, .int ac, .int (nI kc), .ref m1, .ref m2, .ref m3, .ref m4, .ref m5, .int (nI pl), .ref pg, .int fa, .int nf, .ref m6, .ref m7, .ref m8, .long sd, .int ik, .int kh, .int (nI km), .int ka, .int ks, .int kac, .ref m9, .ref m10, .ref m11, .ref m12, .long hv])), (m2, .inl (cI, 6, .inl g2))]) [0, 1] rfl) hN (va_recv hK (hP.sub (ws' := [(h0, .inr (7, [.int ih, .int hn, .int fl, .int da, .int ds, .int ac, .int (nI kc), .ref m1, .ref m2, .ref m3, .ref m4, .ref m5, .int (nI pl), .ref pg, .int fa, .int nf, .ref m6, .ref m7, .ref m8, .long sd, .int ik, .int kh, .int (nI km), .int ka, .int ks, .int kac, .ref m9, .ref m10, .ref m11, .ref m12, .long hv])), (m2, .inl (cI, 6, .inl g2))]) [0, 1] rfl) (ci := 7) (q0 := 0) rfl rfl)) rfl rfl hl.1 rfl (lv_room (Nat.le_of_ble_eq_true rfl)) dX7_isGuiltyAt_87 ⟨Nat.le_of_ble_eq_true rfl, Nat.le_of_ble_eq_true rfl⟩)) (fun r_31 hr_31 => ?_)
          refine lv_istore (lv' := [(6, .int r_31), (5, .int x_14), (4, .int r_1), (0, .ref h0), (1, .int p0), (2, .int p1), (3, .int (nI t0))]) hx hb dX7_isGuiltyAt_90 hl (by decide) rfl (fun ls hl => ?_)
          refine lv_aload_n hx hb dX7_isGuiltyAt_92 rfl (lv_at hl 3 rfl) ?_
          refine va_get (D := (dC, dI)) (ci := 7) (v := .int da) (C := RX7) (T := TX7) (N := 31) hx hb hts hiX7 hown hK hP 0 rfl rfl 3 (by decide) (hts (.fieldLink RX7 7 "LeftProfileModel" "dukeAt" "I") (List.mem_of_getElem? (i := 1) rfl)) (fun _ h9 => h9) rfl dX7_isGuiltyAt_93 ?_
          refine lv_iload hx hb dX7_isGuiltyAt_96 (lv_at hl 1 rfl) ?_
          refine lv_iadd hx hb dX7_isGuiltyAt_98 ?_
          refine lv_topi (fun x_32 ex_32 => ?_)
          refine lv_istore (lv' := [(7, .int x_32), (6, .int r_31), (5, .int x_14), (4, .int r_1), (0, .ref h0), (1, .int p0), (2, .int p1), (3, .int (nI t0))]) hx hb dX7_isGuiltyAt_99 hl (by decide) rfl (fun ls hl => ?_)
          obtain ⟨nL, hn3, hnL⟩ := (hr_1b.resolve_left c_2)
          have hex144 : ∀ (yb : Int32) (ya : Int32) (ls : Array Slot), yb = cm_clr (cm_C p0 g6 t0) (cz_step da p1) p1 4 (da + cz_step da p1) r_31 → lv_has ls 8 [(0, .ref h0), (1, .int p0), (4, .int r_1), (6, .int yb)] → W p l e ({ frames := 2, cells := 0, slots := 0, locals := 49 } : Room) s m #[Value.ref h0, Value.int p0, Value.int p1, Value.int (nI t0)] below meth c s.heap [] 0 0 Q (F0 m 144 ls []) := by
            intro yb ya ls hres hl
            refine lv_iload hx hb dX7_isGuiltyAt_144 (lv_at hl 2 rfl) ?_
            refine lv_iconst (v := 2) hx hb dX7_isGuiltyAt_146 (by decide) ?_
            refine lv_aload_n hx hb dX7_isGuiltyAt_147 rfl (lv_at hl 0 rfl) ?_
            refine va_get (D := (dC, dI)) (ci := 7) (v := .int ds) (C := RX7) (T := TX7) (N := 31) hx hb hts hiX7 hown hK hP 0 rfl rfl 4 (by decide) (hts (.fieldLink RX7 13 "LeftProfileModel" "dukeSide" "I") (List.mem_of_getElem? (i := 2) rfl)) (fun _ h9 => h9) rfl dX7_isGuiltyAt_148 ?_
            refine lv_imul hx hb dX7_isGuiltyAt_151 ?_
            refine lv_topi (fun x_33 ex_33 => ?_)
            refine lv_isub hx hb dX7_isGuiltyAt_152 ?_
            refine lv_topi (fun x_34 ex_34 => ?_)
            refine lv_bipush (v := 8) hx hb dX7_isGuiltyAt_153 (by decide) ?_
            refine lv_iadd hx hb dX7_isGuiltyAt_155 ?_
            refine lv_topi (fun x_35 ex_35 => ?_)
            refine lv_bipush (v := 8) hx hb dX7_isGuiltyAt_156 (by decide) ?_
            refine lv_irem hx hb dX7_isGuiltyAt_158 (by decide) ?_
            refine lv_topi (fun x_36 ex_36 => ?_)
            refine lv_istore (lv' := [(7, .int x_36), (0, .ref h0), (1, .int p0), (4, .int r_1), (6, .int yb)]) hx hb dX7_isGuiltyAt_159 hl (by decide) rfl (fun ls hl => ?_)
            refine lv_iload hx hb dX7_isGuiltyAt_161 (lv_at hl 4 rfl) ?_
            refine lv_if_eq (tgt := 189) hx hb dX7_isGuiltyAt_163 (by decide) (fun c_37 => ?_) (fun c_37 => ?_)
            · refine lv_iconst (v := 0) hx hb dX7_isGuiltyAt_189 (by decide) ?_
              rw [hQ]; exact W.zret (v := 0) hx hb hr (by decide) (fun t ht hW => ⟨0, rfl, (Or.inl ⟨rfl, (cm_ga_n4 (cz_pe1 c_15 c_3) hr_31 hres c_37)⟩), ht⟩) (fun _ h => absurd h List.not_mem_nil) dX7_isGuiltyAt_190
            · refine lv_iload hx hb dX7_isGuiltyAt_166 (lv_at hl 0 rfl) ?_
              refine lv_if_ne (tgt := 179) hx hb dX7_isGuiltyAt_168 (by decide) (fun c_38 => ?_) (fun c_38 => ?_)
              · refine lv_iload hx hb dX7_isGuiltyAt_179 (lv_at hl 0 rfl) ?_
                refine lv_iconst (v := 4) hx hb dX7_isGuiltyAt_181 (by decide) ?_
                refine lv_icmp_ge (tgt := 189) hx hb dX7_isGuiltyAt_182 (by decide) (fun c_39 => ?_) (fun c_39 => ?_)
                · refine lv_iconst (v := 0) hx hb dX7_isGuiltyAt_189 (by decide) ?_
                  rw [hQ]; exact W.zret (v := 0) hx hb hr (by decide) (fun t ht hW => ⟨0, rfl, (Or.inl ⟨rfl, (cm_ga_n5 hr_1 (c_X7_isGuiltyAt_a7 p1 da ds r_1 x_5 x_6 x_7 r_8 x_9 x_10 x_11 x_12 r_13 x_14 x_32 x_33 x_34 x_35 x_36 ex_5 ex_6 ex_7 ex_9 ex_10 ex_11 ex_12 ex_14 ex_32 ex_33 ex_34 ex_35 ex_36) (cm_s3 c_38 c_39))⟩), ht⟩) (fun _ h => absurd h List.not_mem_nil) dX7_isGuiltyAt_190
                · refine lv_iconst (v := 1) hx hb dX7_isGuiltyAt_185 (by decide) ?_
                  refine lv_goto (tgt := 190) hx hb dX7_isGuiltyAt_186 (by decide) ?_
                  rw [hQ]; exact W.zret (v := 1) hx hb hr (by decide) (fun t ht hW => ⟨1, rfl, (Or.inr (⟨rfl, (cm_ga_y hr_1 c_2 c_3 (fun h => c_4 h.1) (cz_pe1 c_15 c_3) hr_31 hres c_37 (c_X7_isGuiltyAt_a8 p1 da ds r_1 x_5 x_6 x_7 r_8 x_9 x_10 x_11 x_12 r_13 x_14 x_32 x_33 x_34 x_35 x_36 ex_5 ex_6 ex_7 ex_9 ex_10 ex_11 ex_12 ex_14 ex_32 ex_33 ex_34 ex_35 ex_36) (cm_s2 c_38 c_39))⟩)), ht⟩) (fun _ h => absurd h List.not_mem_nil) dX7_isGuiltyAt_190
              · refine lv_iload_n hx hb dX7_isGuiltyAt_171 rfl (lv_at hl 2 rfl) ?_
                refine lv_iconst (v := 1) hx hb dX7_isGuiltyAt_172 (by decide) ?_
                refine lv_icmp_eq (tgt := 189) hx hb dX7_isGuiltyAt_173 (by decide) (fun c_40 => ?_) (fun c_40 => ?_)
                · refine lv_iconst (v := 0) hx hb dX7_isGuiltyAt_189 (by decide) ?_
                  rw [hQ]; exact W.zret (v := 0) hx hb hr (by decide) (fun t ht hW => ⟨0, rfl, (Or.inl ⟨rfl, (cm_ga_n5 hr_1 (c_X7_isGuiltyAt_a9 p1 da ds r_1 x_5 x_6 x_7 r_8 x_9 x_10 x_11 x_12 r_13 x_14 x_32 x_33 x_34 x_35 x_36 ex_5 ex_6 ex_7 ex_9 ex_10 ex_11 ex_12 ex_14 ex_32 ex_33 ex_34 ex_35 ex_36) (cm_s0 c_38 c_40))⟩), ht⟩) (fun _ h => absurd h List.not_mem_nil) dX7_isGuiltyAt_190
                · refine lv_goto (tgt := 185) hx hb dX7_isGuiltyAt_176 (by decide) ?_
                  refine lv_iconst (v := 1) hx hb dX7_isGuiltyAt_185 (by decide) ?_
                  refine lv_goto (tgt := 190) hx hb dX7_isGuiltyAt_186 (by decide) ?_
                  rw [hQ]; exact W.zret (v := 1) hx hb hr (by decide) (fun t ht hW => ⟨1, rfl, (Or.inr (⟨rfl, (cm_ga_y hr_1 c_2 c_3 (fun h => c_4 h.1) (cz_pe1 c_15 c_3) hr_31 hres c_37 (c_X7_isGuiltyAt_a10 p1 da ds r_1 x_5 x_6 x_7 r_8 x_9 x_10 x_11 x_12 r_13 x_14 x_32 x_33 x_34 x_35 x_36 ex_5 ex_6 ex_7 ex_9 ex_10 ex_11 ex_12 ex_14 ex_32 ex_33 ex_34 ex_35 ex_36) (cm_s1 c_38 c_40))⟩)), ht⟩) (fun _ h => absurd h List.not_mem_nil) dX7_isGuiltyAt_190
          have lp101 : ∀ (n101 : Nat) (yb : Int32) (ya : Int32) (ls : Array Slot), ya + nI n101 * x_14 = p1 ∧ (∀ m : Nat, n101 ≤ m → cm_clr (cm_C p0 g6 t0) x_14 p1 m ya yb = cm_clr (cm_C p0 g6 t0) (cz_step da p1) p1 4 (da + cz_step da p1) r_31) → lv_has ls 8 [(0, .ref h0), (1, .int p0), (2, .int p1), (3, .int (nI t0)), (4, .int r_1), (5, .int x_14), (6, .int yb), (7, .int ya)] → W p l e ({ frames := 2, cells := 0, slots := 0, locals := 49 } : Room) s m #[Value.ref h0, Value.int p0, Value.int p1, Value.int (nI t0)] below meth c s.heap [] 0 0 Q (F0 m 101 ls []) := by
            intro n101
            induction n101 with
            | zero =>
              intro yb ya ls hi101  hl
              refine lv_iload hx hb dX7_isGuiltyAt_101 (lv_at hl 7 rfl) ?_
              refine lv_iload_n hx hb dX7_isGuiltyAt_103 rfl (lv_at hl 2 rfl) ?_
              refine lv_icmp_eq (tgt := 144) hx hb dX7_isGuiltyAt_104 (by decide) (fun c_41 => ?_) (fun c_41 => ?_)
              · exact hex144 yb ya ls (cm_clr_e hi101.2 c_41) (lv_sub hl [0, 1, 4, 6] rfl)
              · exact absurd (cz_mz hi101.1) c_41
            | succ n101 ih101 =>
              intro yb ya ls hi101  hl
              refine lv_iload hx hb dX7_isGuiltyAt_101 (lv_at hl 7 rfl) ?_
              refine lv_iload_n hx hb dX7_isGuiltyAt_103 rfl (lv_at hl 2 rfl) ?_
              refine lv_icmp_eq (tgt := 144) hx hb dX7_isGuiltyAt_104 (by decide) (fun c_42 => ?_) (fun c_42 => ?_)
              · exact hex144 yb ya ls (cm_clr_e hi101.2 c_42) (lv_sub hl [0, 1, 4, 6] rfl)
              · refine lv_iload hx hb dX7_isGuiltyAt_107 (lv_at hl 6 rfl) ?_
                refine lv_if_eq (tgt := 131) hx hb dX7_isGuiltyAt_109 (by decide) (fun c_43 => ?_) (fun c_43 => ?_)
                · refine lv_iconst (v := 0) hx hb dX7_isGuiltyAt_131 (by decide) ?_
                  refine lv_istore (lv' := [(6, .int 0), (0, .ref h0), (1, .int p0), (2, .int p1), (3, .int (nI t0)), (4, .int r_1), (5, .int x_14), (7, .int ya)]) hx hb dX7_isGuiltyAt_132 hl (by decide) rfl (fun ls hl => ?_)
                  refine lv_iload hx hb dX7_isGuiltyAt_134 (lv_at hl 7 rfl) ?_
                  refine lv_iload hx hb dX7_isGuiltyAt_136 (lv_at hl 6 rfl) ?_
                  refine lv_iadd hx hb dX7_isGuiltyAt_138 ?_
                  refine lv_topi (fun x_44 ex_44 => ?_)
                  refine lv_istore (lv' := [(7, .int x_44), (6, .int 0), (0, .ref h0), (1, .int p0), (2, .int p1), (3, .int (nI t0)), (4, .int r_1), (5, .int x_14)]) hx hb dX7_isGuiltyAt_139 hl (by decide) rfl (fun ls hl => ?_)
                  refine lv_goto (tgt := 101) hx hb dX7_isGuiltyAt_141 (by decide) ?_
                  exact ih101 0 x_44 ls ⟨cz_ms hi101.1 ex_44, cm_clr_b hi101.2 c_42 (cm_v0 c_43) ex_44⟩  (lv_sub hl [2, 3, 4, 5, 6, 7, 1, 0] rfl)
                · refine lv_iload_n hx hb dX7_isGuiltyAt_112 rfl (lv_at hl 1 rfl) ?_
                  refine lv_iconst (v := 3) hx hb dX7_isGuiltyAt_113 (by decide) ?_
                  refine lv_icmp_eq (tgt := 127) hx hb dX7_isGuiltyAt_114 (by decide) (fun c => absurd c c_15) (fun _ => ?_)
                  refine lv_aload_n hx hb dX7_isGuiltyAt_117 rfl (lv_at hl 0 rfl) ?_
                  refine lv_iload hx hb dX7_isGuiltyAt_118 (lv_at hl 7 rfl) ?_
                  refine lv_iload_n hx hb dX7_isGuiltyAt_120 rfl (lv_at hl 3 rfl) ?_
                  refine vp_callSi (cz_run (va_runV (As := [.int ya, .int (nI t0)]) (rest := []) ⟨hx, hb, hml, hown, hts⟩ (c_X7_isMore l dC dI cI cB h0 ya t0 ih hn fl da ds ac kc m1 m2 m3 m4 m5 pl pg fa nf m6 m7 m8 sd ik kh km ka ks kac m9 m10 m11 m12 hv g6 ht3) (cwV 2 hts gX7_isGuiltyAt_X7_isMore rfl rfl rfl (by decide +kernel) ⟨Nat.le_of_ble_eq_true rfl, Nat.le_of_ble_eq_true rfl⟩) (cz_pV (hP.sub (ws' := [(h0, .inr (7, [.int ih, .int hn, .int fl, .int da, .int ds, .int ac, .int (nI kc), .ref m1, .ref m2, .ref m3, .ref m4, .ref m5, .int (nI pl), .ref pg, .int fa, .int nf, .ref m6, .ref m7, .ref m8, .long sd, .int ik, .int kh, .int (nI km), .int ka, .int ks, .int kac, .ref m9, .ref m10, .ref m11, .ref m12, .long hv])), (m6, .inl (cI, 3, .inl g6))]) [0, 2] rfl) hN (va_recv hK (hP.sub (ws' := [(h0, .inr (7, [.int ih, .int hn, .int fl, .int da, .int ds, .int ac, .int (nI kc), .ref m1, .ref m2, .ref m3, .ref m4, .ref m5, .int (nI pl), .ref pg, .int fa, .int nf, .ref m6, .ref m7, .ref m8, .long sd, .int ik, .int kh, .int (nI km), .int ka, .int ks, .int kac, .ref m9, .ref m10, .ref m11, .ref m12, .long hv])), (m6, .inl (cI, 3, .inl g6))]) [0, 2] rfl) (ci := 7) (q0 := 0) rfl rfl)) rfl rfl hl.1 rfl (lv_room (Nat.le_of_ble_eq_true rfl)) dX7_isGuiltyAt_121 ⟨Nat.le_of_ble_eq_true rfl, Nat.le_of_ble_eq_true rfl⟩)) (fun r_45 hr_45 => ?_)
                  refine lv_if_ne (tgt := 131) hx hb dX7_isGuiltyAt_124 (by decide) (fun c_46 => ?_) (fun c_46 => ?_)
                  · refine lv_iconst (v := 0) hx hb dX7_isGuiltyAt_131 (by decide) ?_
                    refine lv_istore (lv' := [(6, .int 0), (0, .ref h0), (1, .int p0), (2, .int p1), (3, .int (nI t0)), (4, .int r_1), (5, .int x_14), (7, .int ya)]) hx hb dX7_isGuiltyAt_132 hl (by decide) rfl (fun ls hl => ?_)
                    refine lv_iload hx hb dX7_isGuiltyAt_134 (lv_at hl 7 rfl) ?_
                    refine lv_iload hx hb dX7_isGuiltyAt_136 (lv_at hl 6 rfl) ?_
                    refine lv_iadd hx hb dX7_isGuiltyAt_138 ?_
                    refine lv_topi (fun x_47 ex_47 => ?_)
                    refine lv_istore (lv' := [(7, .int x_47), (6, .int 0), (0, .ref h0), (1, .int p0), (2, .int p1), (3, .int (nI t0)), (4, .int r_1), (5, .int x_14)]) hx hb dX7_isGuiltyAt_139 hl (by decide) rfl (fun ls hl => ?_)
                    refine lv_goto (tgt := 101) hx hb dX7_isGuiltyAt_141 (by decide) ?_
                    exact ih101 0 x_47 ls ⟨cz_ms hi101.1 ex_47, cm_clr_b hi101.2 c_42 (cm_v2 (cm_Cm c_15 hr_45 c_46)) ex_47⟩  (lv_sub hl [2, 3, 4, 5, 6, 7, 1, 0] rfl)
                  · refine lv_iconst (v := 1) hx hb dX7_isGuiltyAt_127 (by decide) ?_
                    refine lv_goto (tgt := 132) hx hb dX7_isGuiltyAt_128 (by decide) ?_
                    refine lv_istore (lv' := [(6, .int 1), (0, .ref h0), (1, .int p0), (2, .int p1), (3, .int (nI t0)), (4, .int r_1), (5, .int x_14), (7, .int ya)]) hx hb dX7_isGuiltyAt_132 hl (by decide) rfl (fun ls hl => ?_)
                    refine lv_iload hx hb dX7_isGuiltyAt_134 (lv_at hl 7 rfl) ?_
                    refine lv_iload hx hb dX7_isGuiltyAt_136 (lv_at hl 6 rfl) ?_
                    refine lv_iadd hx hb dX7_isGuiltyAt_138 ?_
                    refine lv_topi (fun x_48 ex_48 => ?_)
                    refine lv_istore (lv' := [(7, .int x_48), (6, .int 1), (0, .ref h0), (1, .int p0), (2, .int p1), (3, .int (nI t0)), (4, .int r_1), (5, .int x_14)]) hx hb dX7_isGuiltyAt_139 hl (by decide) rfl (fun ls hl => ?_)
                    refine lv_goto (tgt := 101) hx hb dX7_isGuiltyAt_141 (by decide) ?_
                    exact ih101 1 x_48 ls ⟨cz_ms hi101.1 ex_48, cm_clr_b hi101.2 c_42 (cm_v1 c_43 (cm_Cn hr_45 c_46)) ex_48⟩  (lv_sub hl [2, 3, 4, 5, 6, 7, 1, 0] rfl)
          exact lp101 nL r_31 x_32 ls ⟨(c_X7_isGuiltyAt_a11 p1 fl da kc g2 r_1 x_5 x_6 x_7 r_8 x_9 x_10 x_11 x_12 r_13 x_14 r_31 x_32 nL hr_1 hr_1b ex_5 ex_6 ex_7 hr_8 ex_9 ex_10 ex_11 ex_12 hr_13 ex_14 hr_31 ex_32 hn3 hnL), (c_X7_isGuiltyAt_a12 p0 p1 t0 fl da kc g2 g6 r_1 x_5 x_6 x_7 r_8 x_9 x_10 x_11 x_12 r_13 x_14 r_31 x_32 nL hr_1 hr_1b ex_5 ex_6 ex_7 hr_8 ex_9 ex_10 ex_11 ex_12 hr_13 ex_14 hr_31 ex_32 hn3 hnL)⟩  (lv_sub hl [4, 5, 6, 7, 3, 2, 1, 0] rfl)
      · refine lv_aload_n hx hb dX7_isGuiltyAt_26 rfl (lv_at hl 1 rfl) ?_
        refine va_get (D := (dC, dI)) (ci := 7) (v := .int da) (C := RX7) (T := TX7) (N := 31) hx hb hts hiX7 hown hK hP 0 rfl rfl 3 (by decide) (hts (.fieldLink RX7 7 "LeftProfileModel" "dukeAt" "I") (List.mem_of_getElem? (i := 1) rfl)) (fun _ h9 => h9) rfl dX7_isGuiltyAt_27 ?_
        refine lv_iload_n hx hb dX7_isGuiltyAt_30 rfl (lv_at hl 3 rfl) ?_
        refine vp_callSi (cz_run (va_runS (As := [.int da, .int p1]) (rest := []) ⟨hx, hb, hml, hown, hts⟩ (c_X7_far l dC dI cI cB da p1 ) (va_cwS 2 hts gX7_isGuiltyAt_X7_far rfl rfl rfl (by decide +kernel) ⟨Nat.le_of_ble_eq_true rfl, Nat.le_of_ble_eq_true rfl⟩) (cz_pS (hP.sub (ws' := []) [] rfl) hN) rfl rfl hl.1 rfl (lv_room (Nat.le_of_ble_eq_true rfl)) dX7_isGuiltyAt_31 ⟨Nat.le_of_ble_eq_true rfl, Nat.le_of_ble_eq_true rfl⟩)) (fun r_49 hr_49 => ?_)
        refine lv_iconst (v := 2) hx hb dX7_isGuiltyAt_34 (by decide) ?_
        refine lv_icmp_le (tgt := 40) hx hb dX7_isGuiltyAt_35 (by decide) (fun c_50 => ?_) (fun c_50 => ?_)
        · refine lv_iconst (v := 5) hx hb dX7_isGuiltyAt_40 (by decide) ?_
          refine lv_iload_n hx hb dX7_isGuiltyAt_41 rfl (lv_at hl 3 rfl) ?_
          refine lv_iconst (v := 5) hx hb dX7_isGuiltyAt_42 (by decide) ?_
          refine lv_idiv hx hb dX7_isGuiltyAt_43 (by decide) ?_
          refine lv_topi (fun x_51 ex_51 => ?_)
          refine lv_aload_n hx hb dX7_isGuiltyAt_44 rfl (lv_at hl 1 rfl) ?_
          refine va_get (D := (dC, dI)) (ci := 7) (v := .int da) (C := RX7) (T := TX7) (N := 31) hx hb hts hiX7 hown hK hP 0 rfl rfl 3 (by decide) (hts (.fieldLink RX7 7 "LeftProfileModel" "dukeAt" "I") (List.mem_of_getElem? (i := 1) rfl)) (fun _ h9 => h9) rfl dX7_isGuiltyAt_45 ?_
          refine lv_iconst (v := 5) hx hb dX7_isGuiltyAt_48 (by decide) ?_
          refine lv_idiv hx hb dX7_isGuiltyAt_49 (by decide) ?_
          refine lv_topi (fun x_52 ex_52 => ?_)
          refine lv_isub hx hb dX7_isGuiltyAt_50 ?_
          refine lv_topi (fun x_53 ex_53 => ?_)
          refine vp_callSi (cz_run (va_runS (As := [.int x_53]) (rest := [.int 5]) ⟨hx, hb, hml, hown, hts⟩ (c_X7_sign l dC dI cI cB x_53 ) (va_cwS 1 hts gX7_isGuiltyAt_X7_sign rfl rfl rfl (by decide +kernel) ⟨Nat.le_of_ble_eq_true rfl, Nat.le_of_ble_eq_true rfl⟩) (cz_pS (hP.sub (ws' := []) [] rfl) hN) rfl rfl hl.1 rfl (lv_room (Nat.le_of_ble_eq_true rfl)) dX7_isGuiltyAt_51 ⟨Nat.le_of_ble_eq_true rfl, Nat.le_of_ble_eq_true rfl⟩)) (fun r_54 hr_54 => ?_)
          refine lv_imul hx hb dX7_isGuiltyAt_54 ?_
          refine lv_topi (fun x_55 ex_55 => ?_)
          refine lv_iload_n hx hb dX7_isGuiltyAt_55 rfl (lv_at hl 3 rfl) ?_
          refine lv_iconst (v := 5) hx hb dX7_isGuiltyAt_56 (by decide) ?_
          refine lv_irem hx hb dX7_isGuiltyAt_57 (by decide) ?_
          refine lv_topi (fun x_56 ex_56 => ?_)
          refine lv_aload_n hx hb dX7_isGuiltyAt_58 rfl (lv_at hl 1 rfl) ?_
          refine va_get (D := (dC, dI)) (ci := 7) (v := .int da) (C := RX7) (T := TX7) (N := 31) hx hb hts hiX7 hown hK hP 0 rfl rfl 3 (by decide) (hts (.fieldLink RX7 7 "LeftProfileModel" "dukeAt" "I") (List.mem_of_getElem? (i := 1) rfl)) (fun _ h9 => h9) rfl dX7_isGuiltyAt_59 ?_
          refine lv_iconst (v := 5) hx hb dX7_isGuiltyAt_62 (by decide) ?_
          refine lv_irem hx hb dX7_isGuiltyAt_63 (by decide) ?_
          refine lv_topi (fun x_57 ex_57 => ?_)
          refine lv_isub hx hb dX7_isGuiltyAt_64 ?_
          refine lv_topi (fun x_58 ex_58 => ?_)
          refine vp_callSi (cz_run (va_runS (As := [.int x_58]) (rest := [.int x_55]) ⟨hx, hb, hml, hown, hts⟩ (c_X7_sign l dC dI cI cB x_58 ) (va_cwS 1 hts gX7_isGuiltyAt_X7_sign rfl rfl rfl (by decide +kernel) ⟨Nat.le_of_ble_eq_true rfl, Nat.le_of_ble_eq_true rfl⟩) (cz_pS (hP.sub (ws' := []) [] rfl) hN) rfl rfl hl.1 rfl (lv_room (Nat.le_of_ble_eq_true rfl)) dX7_isGuiltyAt_65 ⟨Nat.le_of_ble_eq_true rfl, Nat.le_of_ble_eq_true rfl⟩)) (fun r_59 hr_59 => ?_)
          refine lv_iadd hx hb dX7_isGuiltyAt_68 ?_
          refine lv_topi (fun x_60 ex_60 => ?_)
          refine lv_istore (lv' := [(5, .int x_60), (4, .int r_1), (0, .ref h0), (1, .int p0), (2, .int p1), (3, .int (nI t0))]) hx hb dX7_isGuiltyAt_69 hl (by decide) rfl (fun ls hl => ?_)
          refine lv_aload_n hx hb dX7_isGuiltyAt_71 rfl (lv_at hl 2 rfl) ?_
          refine lv_aload_n hx hb dX7_isGuiltyAt_72 rfl (lv_at hl 2 rfl) ?_
          refine va_get (D := (dC, dI)) (ci := 7) (v := .int da) (C := RX7) (T := TX7) (N := 31) hx hb hts hiX7 hown hK hP 0 rfl rfl 3 (by decide) (hts (.fieldLink RX7 7 "LeftProfileModel" "dukeAt" "I") (List.mem_of_getElem? (i := 1) rfl)) (fun _ h9 => h9) rfl dX7_isGuiltyAt_73 ?_
          refine lv_iload_n hx hb dX7_isGuiltyAt_76 rfl (lv_at hl 4 rfl) ?_
          refine lv_iload_n hx hb dX7_isGuiltyAt_77 rfl (lv_at hl 3 rfl) ?_
          refine lv_iconst (v := 3) hx hb dX7_isGuiltyAt_78 (by decide) ?_
          refine lv_icmp_eq (tgt := 86) hx hb dX7_isGuiltyAt_79 (by decide) (fun c_61 => ?_) (fun c_61 => ?_)
          · refine lv_iconst (v := 0) hx hb dX7_isGuiltyAt_86 (by decide) ?_
            refine vp_callSi (cz_run (va_runV (As := [.int da, .int p1, .int 0]) (rest := []) ⟨hx, hb, hml, hown, hts⟩ (c_X7_isClear l dC dI cI cB h0 da p1 0 ih hn fl da ds ac kc m1 m2 m3 m4 m5 pl pg fa nf m6 m7 m8 sd ik kh km ka ks kac m9 m10 m11 m12 hv g2 hkc (hr_1b.resolve_left c_2)) (cwV 3 hts gX7_isGuiltyAt_X7_isClear rfl rfl rfl (by decide +kernel) ⟨Nat.le_of_ble_eq_true rfl, Nat.le_of_ble_eq_true rfl⟩) (cz_pV (hP.sub (ws' := [(h0, .inr (7, [.int ih, .int hn, .int fl, .int da, .int ds, .int ac, .int (nI kc), .ref m1, .ref m2, .ref m3, .ref m4, .ref m5, .int (nI pl), .ref pg, .int fa, .int nf, .ref m6, .ref m7, .ref m8, .long sd, .int ik, .int kh, .int (nI km), .int ka, .int ks, .int kac, .ref m9, .ref m10, .ref m11, .ref m12, .long hv])), (m2, .inl (cI, 6, .inl g2))]) [0, 1] rfl) hN (va_recv hK (hP.sub (ws' := [(h0, .inr (7, [.int ih, .int hn, .int fl, .int da, .int ds, .int ac, .int (nI kc), .ref m1, .ref m2, .ref m3, .ref m4, .ref m5, .int (nI pl), .ref pg, .int fa, .int nf, .ref m6, .ref m7, .ref m8, .long sd, .int ik, .int kh, .int (nI km), .int ka, .int ks, .int kac, .ref m9, .ref m10, .ref m11, .ref m12, .long hv])), (m2, .inl (cI, 6, .inl g2))]) [0, 1] rfl) (ci := 7) (q0 := 0) rfl rfl)) rfl rfl hl.1 rfl (lv_room (Nat.le_of_ble_eq_true rfl)) dX7_isGuiltyAt_87 ⟨Nat.le_of_ble_eq_true rfl, Nat.le_of_ble_eq_true rfl⟩)) (fun r_62 hr_62 => ?_)
            refine lv_istore (lv' := [(6, .int r_62), (5, .int x_60), (4, .int r_1), (0, .ref h0), (1, .int p0), (2, .int p1), (3, .int (nI t0))]) hx hb dX7_isGuiltyAt_90 hl (by decide) rfl (fun ls hl => ?_)
            refine lv_aload_n hx hb dX7_isGuiltyAt_92 rfl (lv_at hl 3 rfl) ?_
            refine va_get (D := (dC, dI)) (ci := 7) (v := .int da) (C := RX7) (T := TX7) (N := 31) hx hb hts hiX7 hown hK hP 0 rfl rfl 3 (by decide) (hts (.fieldLink RX7 7 "LeftProfileModel" "dukeAt" "I") (List.mem_of_getElem? (i := 1) rfl)) (fun _ h9 => h9) rfl dX7_isGuiltyAt_93 ?_
            refine lv_iload hx hb dX7_isGuiltyAt_96 (lv_at hl 1 rfl) ?_
            refine lv_iadd hx hb dX7_isGuiltyAt_98 ?_
            refine lv_topi (fun x_63 ex_63 => ?_)
            refine lv_istore (lv' := [(7, .int x_63), (6, .int r_62), (5, .int x_60), (4, .int r_1), (0, .ref h0), (1, .int p0), (2, .int p1), (3, .int (nI t0))]) hx hb dX7_isGuiltyAt_99 hl (by decide) rfl (fun ls hl => ?_)
            obtain ⟨nL, hn3, hnL⟩ := (hr_1b.resolve_left c_2)
            have hex144 : ∀ (yb : Int32) (ya : Int32) (ls : Array Slot), yb = cm_clr (cm_C p0 g6 t0) (cz_step da p1) p1 4 (da + cz_step da p1) r_62 → lv_has ls 8 [(0, .ref h0), (1, .int p0), (4, .int r_1), (6, .int yb)] → W p l e ({ frames := 2, cells := 0, slots := 0, locals := 49 } : Room) s m #[Value.ref h0, Value.int p0, Value.int p1, Value.int (nI t0)] below meth c s.heap [] 0 0 Q (F0 m 144 ls []) := by
              intro yb ya ls hres hl
              refine lv_iload hx hb dX7_isGuiltyAt_144 (lv_at hl 2 rfl) ?_
              refine lv_iconst (v := 2) hx hb dX7_isGuiltyAt_146 (by decide) ?_
              refine lv_aload_n hx hb dX7_isGuiltyAt_147 rfl (lv_at hl 0 rfl) ?_
              refine va_get (D := (dC, dI)) (ci := 7) (v := .int ds) (C := RX7) (T := TX7) (N := 31) hx hb hts hiX7 hown hK hP 0 rfl rfl 4 (by decide) (hts (.fieldLink RX7 13 "LeftProfileModel" "dukeSide" "I") (List.mem_of_getElem? (i := 2) rfl)) (fun _ h9 => h9) rfl dX7_isGuiltyAt_148 ?_
              refine lv_imul hx hb dX7_isGuiltyAt_151 ?_
              refine lv_topi (fun x_64 ex_64 => ?_)
              refine lv_isub hx hb dX7_isGuiltyAt_152 ?_
              refine lv_topi (fun x_65 ex_65 => ?_)
              refine lv_bipush (v := 8) hx hb dX7_isGuiltyAt_153 (by decide) ?_
              refine lv_iadd hx hb dX7_isGuiltyAt_155 ?_
              refine lv_topi (fun x_66 ex_66 => ?_)
              refine lv_bipush (v := 8) hx hb dX7_isGuiltyAt_156 (by decide) ?_
              refine lv_irem hx hb dX7_isGuiltyAt_158 (by decide) ?_
              refine lv_topi (fun x_67 ex_67 => ?_)
              refine lv_istore (lv' := [(7, .int x_67), (0, .ref h0), (1, .int p0), (4, .int r_1), (6, .int yb)]) hx hb dX7_isGuiltyAt_159 hl (by decide) rfl (fun ls hl => ?_)
              refine lv_iload hx hb dX7_isGuiltyAt_161 (lv_at hl 4 rfl) ?_
              refine lv_if_eq (tgt := 189) hx hb dX7_isGuiltyAt_163 (by decide) (fun c_68 => ?_) (fun c_68 => ?_)
              · refine lv_iconst (v := 0) hx hb dX7_isGuiltyAt_189 (by decide) ?_
                rw [hQ]; exact W.zret (v := 0) hx hb hr (by decide) (fun t ht hW => ⟨0, rfl, (Or.inl ⟨rfl, (cm_ga_n4 (cz_pe3 c_61) hr_62 hres c_68)⟩), ht⟩) (fun _ h => absurd h List.not_mem_nil) dX7_isGuiltyAt_190
              · refine lv_iload hx hb dX7_isGuiltyAt_166 (lv_at hl 0 rfl) ?_
                refine lv_if_ne (tgt := 179) hx hb dX7_isGuiltyAt_168 (by decide) (fun c_69 => ?_) (fun c_69 => ?_)
                · refine lv_iload hx hb dX7_isGuiltyAt_179 (lv_at hl 0 rfl) ?_
                  refine lv_iconst (v := 4) hx hb dX7_isGuiltyAt_181 (by decide) ?_
                  refine lv_icmp_ge (tgt := 189) hx hb dX7_isGuiltyAt_182 (by decide) (fun c_70 => ?_) (fun c_70 => ?_)
                  · refine lv_iconst (v := 0) hx hb dX7_isGuiltyAt_189 (by decide) ?_
                    rw [hQ]; exact W.zret (v := 0) hx hb hr (by decide) (fun t ht hW => ⟨0, rfl, (Or.inl ⟨rfl, (cm_ga_n5 hr_1 (c_X7_isGuiltyAt_a13 p1 da ds r_1 x_51 x_52 x_53 r_54 x_55 x_56 x_57 x_58 r_59 x_60 x_63 x_64 x_65 x_66 x_67 ex_51 ex_52 ex_53 ex_55 ex_56 ex_57 ex_58 ex_60 ex_63 ex_64 ex_65 ex_66 ex_67) (cm_s3 c_69 c_70))⟩), ht⟩) (fun _ h => absurd h List.not_mem_nil) dX7_isGuiltyAt_190
                  · refine lv_iconst (v := 1) hx hb dX7_isGuiltyAt_185 (by decide) ?_
                    refine lv_goto (tgt := 190) hx hb dX7_isGuiltyAt_186 (by decide) ?_
                    rw [hQ]; exact W.zret (v := 1) hx hb hr (by decide) (fun t ht hW => ⟨1, rfl, (Or.inr (⟨rfl, (cm_ga_y hr_1 c_2 c_3 (fun h => cz_nlt c_50 hr_49 h.2) (cz_pe3 c_61) hr_62 hres c_68 (c_X7_isGuiltyAt_a14 p1 da ds r_1 x_51 x_52 x_53 r_54 x_55 x_56 x_57 x_58 r_59 x_60 x_63 x_64 x_65 x_66 x_67 ex_51 ex_52 ex_53 ex_55 ex_56 ex_57 ex_58 ex_60 ex_63 ex_64 ex_65 ex_66 ex_67) (cm_s2 c_69 c_70))⟩)), ht⟩) (fun _ h => absurd h List.not_mem_nil) dX7_isGuiltyAt_190
                · refine lv_iload_n hx hb dX7_isGuiltyAt_171 rfl (lv_at hl 2 rfl) ?_
                  refine lv_iconst (v := 1) hx hb dX7_isGuiltyAt_172 (by decide) ?_
                  refine lv_icmp_eq (tgt := 189) hx hb dX7_isGuiltyAt_173 (by decide) (fun c_71 => ?_) (fun c_71 => ?_)
                  · refine lv_iconst (v := 0) hx hb dX7_isGuiltyAt_189 (by decide) ?_
                    rw [hQ]; exact W.zret (v := 0) hx hb hr (by decide) (fun t ht hW => ⟨0, rfl, (Or.inl ⟨rfl, (cm_ga_n5 hr_1 (c_X7_isGuiltyAt_a15 p1 da ds r_1 x_51 x_52 x_53 r_54 x_55 x_56 x_57 x_58 r_59 x_60 x_63 x_64 x_65 x_66 x_67 ex_51 ex_52 ex_53 ex_55 ex_56 ex_57 ex_58 ex_60 ex_63 ex_64 ex_65 ex_66 ex_67) (cm_s0 c_69 c_71))⟩), ht⟩) (fun _ h => absurd h List.not_mem_nil) dX7_isGuiltyAt_190
                  · refine lv_goto (tgt := 185) hx hb dX7_isGuiltyAt_176 (by decide) ?_
                    refine lv_iconst (v := 1) hx hb dX7_isGuiltyAt_185 (by decide) ?_
                    refine lv_goto (tgt := 190) hx hb dX7_isGuiltyAt_186 (by decide) ?_
                    rw [hQ]; exact W.zret (v := 1) hx hb hr (by decide) (fun t ht hW => ⟨1, rfl, (Or.inr (⟨rfl, (cm_ga_y hr_1 c_2 c_3 (fun h => cz_nlt c_50 hr_49 h.2) (cz_pe3 c_61) hr_62 hres c_68 (c_X7_isGuiltyAt_a16 p1 da ds r_1 x_51 x_52 x_53 r_54 x_55 x_56 x_57 x_58 r_59 x_60 x_63 x_64 x_65 x_66 x_67 ex_51 ex_52 ex_53 ex_55 ex_56 ex_57 ex_58 ex_60 ex_63 ex_64 ex_65 ex_66 ex_67) (cm_s1 c_69 c_71))⟩)), ht⟩) (fun _ h => absurd h List.not_mem_nil) dX7_isGuiltyAt_190
            have lp101 : ∀ (n101 : Nat) (yb : Int32) (ya : Int32) (ls : Array Slot), ya + nI n101 * x_60 = p1 ∧ (∀ m : Nat, n101 ≤ m → cm_clr (cm_C p0 g6 t0) x_60 p1 m ya yb = cm_clr (cm_C p0 g6 t0) (cz_step da p1) p1 4 (da + cz_step da p1) r_62) → lv_has ls 8 [(0, .ref h0), (1, .int p0), (2, .int p1), (3, .int (nI t0)), (4, .int r_1), (5, .int x_60), (6, .int yb), (7, .int ya)] → W p l e ({ frames := 2, cells := 0, slots := 0, locals := 49 } : Room) s m #[Value.ref h0, Value.int p0, Value.int p1, Value.int (nI t0)] below meth c s.heap [] 0 0 Q (F0 m 101 ls []) := by
              intro n101
              induction n101 with
              | zero =>
                intro yb ya ls hi101  hl
                refine lv_iload hx hb dX7_isGuiltyAt_101 (lv_at hl 7 rfl) ?_
                refine lv_iload_n hx hb dX7_isGuiltyAt_103 rfl (lv_at hl 2 rfl) ?_
                refine lv_icmp_eq (tgt := 144) hx hb dX7_isGuiltyAt_104 (by decide) (fun c_72 => ?_) (fun c_72 => ?_)
                · exact hex144 yb ya ls (cm_clr_e hi101.2 c_72) (lv_sub hl [0, 1, 4, 6] rfl)
                · exact absurd (cz_mz hi101.1) c_72
              | succ n101 ih101 =>
                intro yb ya ls hi101  hl
                refine lv_iload hx hb dX7_isGuiltyAt_101 (lv_at hl 7 rfl) ?_
                refine lv_iload_n hx hb dX7_isGuiltyAt_103 rfl (lv_at hl 2 rfl) ?_
                refine lv_icmp_eq (tgt := 144) hx hb dX7_isGuiltyAt_104 (by decide) (fun c_73 => ?_) (fun c_73 => ?_)
                · exact hex144 yb ya ls (cm_clr_e hi101.2 c_73) (lv_sub hl [0, 1, 4, 6] rfl)
                · refine lv_iload hx hb dX7_isGuiltyAt_107 (lv_at hl 6 rfl) ?_
                  refine lv_if_eq (tgt := 131) hx hb dX7_isGuiltyAt_109 (by decide) (fun c_74 => ?_) (fun c_74 => ?_)
                  · refine lv_iconst (v := 0) hx hb dX7_isGuiltyAt_131 (by decide) ?_
                    refine lv_istore (lv' := [(6, .int 0), (0, .ref h0), (1, .int p0), (2, .int p1), (3, .int (nI t0)), (4, .int r_1), (5, .int x_60), (7, .int ya)]) hx hb dX7_isGuiltyAt_132 hl (by decide) rfl (fun ls hl => ?_)
                    refine lv_iload hx hb dX7_isGuiltyAt_134 (lv_at hl 7 rfl) ?_
                    refine lv_iload hx hb dX7_isGuiltyAt_136 (lv_at hl 6 rfl) ?_
                    refine lv_iadd hx hb dX7_isGuiltyAt_138 ?_
                    refine lv_topi (fun x_75 ex_75 => ?_)
                    refine lv_istore (lv' := [(7, .int x_75), (6, .int 0), (0, .ref h0), (1, .int p0), (2, .int p1), (3, .int (nI t0)), (4, .int r_1), (5, .int x_60)]) hx hb dX7_isGuiltyAt_139 hl (by decide) rfl (fun ls hl => ?_)
                    refine lv_goto (tgt := 101) hx hb dX7_isGuiltyAt_141 (by decide) ?_
                    exact ih101 0 x_75 ls ⟨cz_ms hi101.1 ex_75, cm_clr_b hi101.2 c_73 (cm_v0 c_74) ex_75⟩  (lv_sub hl [2, 3, 4, 5, 6, 7, 1, 0] rfl)
                  · refine lv_iload_n hx hb dX7_isGuiltyAt_112 rfl (lv_at hl 1 rfl) ?_
                    refine lv_iconst (v := 3) hx hb dX7_isGuiltyAt_113 (by decide) ?_
                    refine lv_icmp_eq (tgt := 127) hx hb dX7_isGuiltyAt_114 (by decide) (fun _ => ?_) (fun c => absurd c_61 c)
                    refine lv_iconst (v := 1) hx hb dX7_isGuiltyAt_127 (by decide) ?_
                    refine lv_goto (tgt := 132) hx hb dX7_isGuiltyAt_128 (by decide) ?_
                    refine lv_istore (lv' := [(6, .int 1), (0, .ref h0), (1, .int p0), (2, .int p1), (3, .int (nI t0)), (4, .int r_1), (5, .int x_60), (7, .int ya)]) hx hb dX7_isGuiltyAt_132 hl (by decide) rfl (fun ls hl => ?_)
                    refine lv_iload hx hb dX7_isGuiltyAt_134 (lv_at hl 7 rfl) ?_
                    refine lv_iload hx hb dX7_isGuiltyAt_136 (lv_at hl 6 rfl) ?_
                    refine lv_iadd hx hb dX7_isGuiltyAt_138 ?_
                    refine lv_topi (fun x_76 ex_76 => ?_)
                    refine lv_istore (lv' := [(7, .int x_76), (6, .int 1), (0, .ref h0), (1, .int p0), (2, .int p1), (3, .int (nI t0)), (4, .int r_1), (5, .int x_60)]) hx hb dX7_isGuiltyAt_139 hl (by decide) rfl (fun ls hl => ?_)
                    refine lv_goto (tgt := 101) hx hb dX7_isGuiltyAt_141 (by decide) ?_
                    exact ih101 1 x_76 ls ⟨cz_ms hi101.1 ex_76, cm_clr_b hi101.2 c_73 (cm_v1 c_74 (cm_C3 c_61)) ex_76⟩  (lv_sub hl [2, 3, 4, 5, 6, 7, 1, 0] rfl)
            exact lp101 nL r_62 x_63 ls ⟨(c_X7_isGuiltyAt_a17 p1 fl da kc g2 r_1 r_49 x_51 x_52 x_53 r_54 x_55 x_56 x_57 x_58 r_59 x_60 r_62 x_63 nL hr_1 hr_1b hr_49 ex_51 ex_52 ex_53 hr_54 ex_55 ex_56 ex_57 ex_58 hr_59 ex_60 hr_62 ex_63 hn3 hnL), (c_X7_isGuiltyAt_a18 p0 p1 t0 fl da kc g2 g6 r_1 r_49 x_51 x_52 x_53 r_54 x_55 x_56 x_57 x_58 r_59 x_60 r_62 x_63 nL hr_1 hr_1b hr_49 ex_51 ex_52 ex_53 hr_54 ex_55 ex_56 ex_57 ex_58 hr_59 ex_60 hr_62 ex_63 hn3 hnL)⟩  (lv_sub hl [4, 5, 6, 7, 3, 2, 1, 0] rfl)
          · refine lv_iconst (v := 1) hx hb dX7_isGuiltyAt_82 (by decide) ?_
            refine lv_goto (tgt := 87) hx hb dX7_isGuiltyAt_83 (by decide) ?_
            refine vp_callSi (cz_run (va_runV (As := [.int da, .int p1, .int 1]) (rest := []) ⟨hx, hb, hml, hown, hts⟩ (c_X7_isClear l dC dI cI cB h0 da p1 1 ih hn fl da ds ac kc m1 m2 m3 m4 m5 pl pg fa nf m6 m7 m8 sd ik kh km ka ks kac m9 m10 m11 m12 hv g2 hkc (hr_1b.resolve_left c_2)) (cwV 3 hts gX7_isGuiltyAt_X7_isClear rfl rfl rfl (by decide +kernel) ⟨Nat.le_of_ble_eq_true rfl, Nat.le_of_ble_eq_true rfl⟩) (cz_pV (hP.sub (ws' := [(h0, .inr (7, [.int ih, .int hn, .int fl, .int da, .int ds, .int ac, .int (nI kc), .ref m1, .ref m2, .ref m3, .ref m4, .ref m5, .int (nI pl), .ref pg, .int fa, .int nf, .ref m6, .ref m7, .ref m8, .long sd, .int ik, .int kh, .int (nI km), .int ka, .int ks, .int kac, .ref m9, .ref m10, .ref m11, .ref m12, .long hv])), (m2, .inl (cI, 6, .inl g2))]) [0, 1] rfl) hN (va_recv hK (hP.sub (ws' := [(h0, .inr (7, [.int ih, .int hn, .int fl, .int da, .int ds, .int ac, .int (nI kc), .ref m1, .ref m2, .ref m3, .ref m4, .ref m5, .int (nI pl), .ref pg, .int fa, .int nf, .ref m6, .ref m7, .ref m8, .long sd, .int ik, .int kh, .int (nI km), .int ka, .int ks, .int kac, .ref m9, .ref m10, .ref m11, .ref m12, .long hv])), (m2, .inl (cI, 6, .inl g2))]) [0, 1] rfl) (ci := 7) (q0 := 0) rfl rfl)) rfl rfl hl.1 rfl (lv_room (Nat.le_of_ble_eq_true rfl)) dX7_isGuiltyAt_87 ⟨Nat.le_of_ble_eq_true rfl, Nat.le_of_ble_eq_true rfl⟩)) (fun r_77 hr_77 => ?_)
            refine lv_istore (lv' := [(6, .int r_77), (5, .int x_60), (4, .int r_1), (0, .ref h0), (1, .int p0), (2, .int p1), (3, .int (nI t0))]) hx hb dX7_isGuiltyAt_90 hl (by decide) rfl (fun ls hl => ?_)
            refine lv_aload_n hx hb dX7_isGuiltyAt_92 rfl (lv_at hl 3 rfl) ?_
            refine va_get (D := (dC, dI)) (ci := 7) (v := .int da) (C := RX7) (T := TX7) (N := 31) hx hb hts hiX7 hown hK hP 0 rfl rfl 3 (by decide) (hts (.fieldLink RX7 7 "LeftProfileModel" "dukeAt" "I") (List.mem_of_getElem? (i := 1) rfl)) (fun _ h9 => h9) rfl dX7_isGuiltyAt_93 ?_
            refine lv_iload hx hb dX7_isGuiltyAt_96 (lv_at hl 1 rfl) ?_
            refine lv_iadd hx hb dX7_isGuiltyAt_98 ?_
            refine lv_topi (fun x_78 ex_78 => ?_)
            refine lv_istore (lv' := [(7, .int x_78), (6, .int r_77), (5, .int x_60), (4, .int r_1), (0, .ref h0), (1, .int p0), (2, .int p1), (3, .int (nI t0))]) hx hb dX7_isGuiltyAt_99 hl (by decide) rfl (fun ls hl => ?_)
            obtain ⟨nL, hn3, hnL⟩ := (hr_1b.resolve_left c_2)
            have hex144 : ∀ (yb : Int32) (ya : Int32) (ls : Array Slot), yb = cm_clr (cm_C p0 g6 t0) (cz_step da p1) p1 4 (da + cz_step da p1) r_77 → lv_has ls 8 [(0, .ref h0), (1, .int p0), (4, .int r_1), (6, .int yb)] → W p l e ({ frames := 2, cells := 0, slots := 0, locals := 49 } : Room) s m #[Value.ref h0, Value.int p0, Value.int p1, Value.int (nI t0)] below meth c s.heap [] 0 0 Q (F0 m 144 ls []) := by
              intro yb ya ls hres hl
              refine lv_iload hx hb dX7_isGuiltyAt_144 (lv_at hl 2 rfl) ?_
              refine lv_iconst (v := 2) hx hb dX7_isGuiltyAt_146 (by decide) ?_
              refine lv_aload_n hx hb dX7_isGuiltyAt_147 rfl (lv_at hl 0 rfl) ?_
              refine va_get (D := (dC, dI)) (ci := 7) (v := .int ds) (C := RX7) (T := TX7) (N := 31) hx hb hts hiX7 hown hK hP 0 rfl rfl 4 (by decide) (hts (.fieldLink RX7 13 "LeftProfileModel" "dukeSide" "I") (List.mem_of_getElem? (i := 2) rfl)) (fun _ h9 => h9) rfl dX7_isGuiltyAt_148 ?_
              refine lv_imul hx hb dX7_isGuiltyAt_151 ?_
              refine lv_topi (fun x_79 ex_79 => ?_)
              refine lv_isub hx hb dX7_isGuiltyAt_152 ?_
              refine lv_topi (fun x_80 ex_80 => ?_)
              refine lv_bipush (v := 8) hx hb dX7_isGuiltyAt_153 (by decide) ?_
              refine lv_iadd hx hb dX7_isGuiltyAt_155 ?_
              refine lv_topi (fun x_81 ex_81 => ?_)
              refine lv_bipush (v := 8) hx hb dX7_isGuiltyAt_156 (by decide) ?_
              refine lv_irem hx hb dX7_isGuiltyAt_158 (by decide) ?_
              refine lv_topi (fun x_82 ex_82 => ?_)
              refine lv_istore (lv' := [(7, .int x_82), (0, .ref h0), (1, .int p0), (4, .int r_1), (6, .int yb)]) hx hb dX7_isGuiltyAt_159 hl (by decide) rfl (fun ls hl => ?_)
              refine lv_iload hx hb dX7_isGuiltyAt_161 (lv_at hl 4 rfl) ?_
              refine lv_if_eq (tgt := 189) hx hb dX7_isGuiltyAt_163 (by decide) (fun c_83 => ?_) (fun c_83 => ?_)
              · refine lv_iconst (v := 0) hx hb dX7_isGuiltyAt_189 (by decide) ?_
                rw [hQ]; exact W.zret (v := 0) hx hb hr (by decide) (fun t ht hW => ⟨0, rfl, (Or.inl ⟨rfl, (cm_ga_n4 (cz_pe1 c_61 c_3) hr_77 hres c_83)⟩), ht⟩) (fun _ h => absurd h List.not_mem_nil) dX7_isGuiltyAt_190
              · refine lv_iload hx hb dX7_isGuiltyAt_166 (lv_at hl 0 rfl) ?_
                refine lv_if_ne (tgt := 179) hx hb dX7_isGuiltyAt_168 (by decide) (fun c_84 => ?_) (fun c_84 => ?_)
                · refine lv_iload hx hb dX7_isGuiltyAt_179 (lv_at hl 0 rfl) ?_
                  refine lv_iconst (v := 4) hx hb dX7_isGuiltyAt_181 (by decide) ?_
                  refine lv_icmp_ge (tgt := 189) hx hb dX7_isGuiltyAt_182 (by decide) (fun c_85 => ?_) (fun c_85 => ?_)
                  · refine lv_iconst (v := 0) hx hb dX7_isGuiltyAt_189 (by decide) ?_
                    rw [hQ]; exact W.zret (v := 0) hx hb hr (by decide) (fun t ht hW => ⟨0, rfl, (Or.inl ⟨rfl, (cm_ga_n5 hr_1 (c_X7_isGuiltyAt_a19 p1 da ds r_1 x_51 x_52 x_53 r_54 x_55 x_56 x_57 x_58 r_59 x_60 x_78 x_79 x_80 x_81 x_82 ex_51 ex_52 ex_53 ex_55 ex_56 ex_57 ex_58 ex_60 ex_78 ex_79 ex_80 ex_81 ex_82) (cm_s3 c_84 c_85))⟩), ht⟩) (fun _ h => absurd h List.not_mem_nil) dX7_isGuiltyAt_190
                  · refine lv_iconst (v := 1) hx hb dX7_isGuiltyAt_185 (by decide) ?_
                    refine lv_goto (tgt := 190) hx hb dX7_isGuiltyAt_186 (by decide) ?_
                    rw [hQ]; exact W.zret (v := 1) hx hb hr (by decide) (fun t ht hW => ⟨1, rfl, (Or.inr (⟨rfl, (cm_ga_y hr_1 c_2 c_3 (fun h => cz_nlt c_50 hr_49 h.2) (cz_pe1 c_61 c_3) hr_77 hres c_83 (c_X7_isGuiltyAt_a20 p1 da ds r_1 x_51 x_52 x_53 r_54 x_55 x_56 x_57 x_58 r_59 x_60 x_78 x_79 x_80 x_81 x_82 ex_51 ex_52 ex_53 ex_55 ex_56 ex_57 ex_58 ex_60 ex_78 ex_79 ex_80 ex_81 ex_82) (cm_s2 c_84 c_85))⟩)), ht⟩) (fun _ h => absurd h List.not_mem_nil) dX7_isGuiltyAt_190
                · refine lv_iload_n hx hb dX7_isGuiltyAt_171 rfl (lv_at hl 2 rfl) ?_
                  refine lv_iconst (v := 1) hx hb dX7_isGuiltyAt_172 (by decide) ?_
                  refine lv_icmp_eq (tgt := 189) hx hb dX7_isGuiltyAt_173 (by decide) (fun c_86 => ?_) (fun c_86 => ?_)
                  · refine lv_iconst (v := 0) hx hb dX7_isGuiltyAt_189 (by decide) ?_
                    rw [hQ]; exact W.zret (v := 0) hx hb hr (by decide) (fun t ht hW => ⟨0, rfl, (Or.inl ⟨rfl, (cm_ga_n5 hr_1 (c_X7_isGuiltyAt_a21 p1 da ds r_1 x_51 x_52 x_53 r_54 x_55 x_56 x_57 x_58 r_59 x_60 x_78 x_79 x_80 x_81 x_82 ex_51 ex_52 ex_53 ex_55 ex_56 ex_57 ex_58 ex_60 ex_78 ex_79 ex_80 ex_81 ex_82) (cm_s0 c_84 c_86))⟩), ht⟩) (fun _ h => absurd h List.not_mem_nil) dX7_isGuiltyAt_190
                  · refine lv_goto (tgt := 185) hx hb dX7_isGuiltyAt_176 (by decide) ?_
                    refine lv_iconst (v := 1) hx hb dX7_isGuiltyAt_185 (by decide) ?_
                    refine lv_goto (tgt := 190) hx hb dX7_isGuiltyAt_186 (by decide) ?_
                    rw [hQ]; exact W.zret (v := 1) hx hb hr (by decide) (fun t ht hW => ⟨1, rfl, (Or.inr (⟨rfl, (cm_ga_y hr_1 c_2 c_3 (fun h => cz_nlt c_50 hr_49 h.2) (cz_pe1 c_61 c_3) hr_77 hres c_83 (c_X7_isGuiltyAt_a22 p1 da ds r_1 x_51 x_52 x_53 r_54 x_55 x_56 x_57 x_58 r_59 x_60 x_78 x_79 x_80 x_81 x_82 ex_51 ex_52 ex_53 ex_55 ex_56 ex_57 ex_58 ex_60 ex_78 ex_79 ex_80 ex_81 ex_82) (cm_s1 c_84 c_86))⟩)), ht⟩) (fun _ h => absurd h List.not_mem_nil) dX7_isGuiltyAt_190
            have lp101 : ∀ (n101 : Nat) (yb : Int32) (ya : Int32) (ls : Array Slot), ya + nI n101 * x_60 = p1 ∧ (∀ m : Nat, n101 ≤ m → cm_clr (cm_C p0 g6 t0) x_60 p1 m ya yb = cm_clr (cm_C p0 g6 t0) (cz_step da p1) p1 4 (da + cz_step da p1) r_77) → lv_has ls 8 [(0, .ref h0), (1, .int p0), (2, .int p1), (3, .int (nI t0)), (4, .int r_1), (5, .int x_60), (6, .int yb), (7, .int ya)] → W p l e ({ frames := 2, cells := 0, slots := 0, locals := 49 } : Room) s m #[Value.ref h0, Value.int p0, Value.int p1, Value.int (nI t0)] below meth c s.heap [] 0 0 Q (F0 m 101 ls []) := by
              intro n101
              induction n101 with
              | zero =>
                intro yb ya ls hi101  hl
                refine lv_iload hx hb dX7_isGuiltyAt_101 (lv_at hl 7 rfl) ?_
                refine lv_iload_n hx hb dX7_isGuiltyAt_103 rfl (lv_at hl 2 rfl) ?_
                refine lv_icmp_eq (tgt := 144) hx hb dX7_isGuiltyAt_104 (by decide) (fun c_87 => ?_) (fun c_87 => ?_)
                · exact hex144 yb ya ls (cm_clr_e hi101.2 c_87) (lv_sub hl [0, 1, 4, 6] rfl)
                · exact absurd (cz_mz hi101.1) c_87
              | succ n101 ih101 =>
                intro yb ya ls hi101  hl
                refine lv_iload hx hb dX7_isGuiltyAt_101 (lv_at hl 7 rfl) ?_
                refine lv_iload_n hx hb dX7_isGuiltyAt_103 rfl (lv_at hl 2 rfl) ?_
                refine lv_icmp_eq (tgt := 144) hx hb dX7_isGuiltyAt_104 (by decide) (fun c_88 => ?_) (fun c_88 => ?_)
                · exact hex144 yb ya ls (cm_clr_e hi101.2 c_88) (lv_sub hl [0, 1, 4, 6] rfl)
                · refine lv_iload hx hb dX7_isGuiltyAt_107 (lv_at hl 6 rfl) ?_
                  refine lv_if_eq (tgt := 131) hx hb dX7_isGuiltyAt_109 (by decide) (fun c_89 => ?_) (fun c_89 => ?_)
                  · refine lv_iconst (v := 0) hx hb dX7_isGuiltyAt_131 (by decide) ?_
                    refine lv_istore (lv' := [(6, .int 0), (0, .ref h0), (1, .int p0), (2, .int p1), (3, .int (nI t0)), (4, .int r_1), (5, .int x_60), (7, .int ya)]) hx hb dX7_isGuiltyAt_132 hl (by decide) rfl (fun ls hl => ?_)
                    refine lv_iload hx hb dX7_isGuiltyAt_134 (lv_at hl 7 rfl) ?_
                    refine lv_iload hx hb dX7_isGuiltyAt_136 (lv_at hl 6 rfl) ?_
                    refine lv_iadd hx hb dX7_isGuiltyAt_138 ?_
                    refine lv_topi (fun x_90 ex_90 => ?_)
                    refine lv_istore (lv' := [(7, .int x_90), (6, .int 0), (0, .ref h0), (1, .int p0), (2, .int p1), (3, .int (nI t0)), (4, .int r_1), (5, .int x_60)]) hx hb dX7_isGuiltyAt_139 hl (by decide) rfl (fun ls hl => ?_)
                    refine lv_goto (tgt := 101) hx hb dX7_isGuiltyAt_141 (by decide) ?_
                    exact ih101 0 x_90 ls ⟨cz_ms hi101.1 ex_90, cm_clr_b hi101.2 c_88 (cm_v0 c_89) ex_90⟩  (lv_sub hl [2, 3, 4, 5, 6, 7, 1, 0] rfl)
                  · refine lv_iload_n hx hb dX7_isGuiltyAt_112 rfl (lv_at hl 1 rfl) ?_
                    refine lv_iconst (v := 3) hx hb dX7_isGuiltyAt_113 (by decide) ?_
                    refine lv_icmp_eq (tgt := 127) hx hb dX7_isGuiltyAt_114 (by decide) (fun c => absurd c c_61) (fun _ => ?_)
                    refine lv_aload_n hx hb dX7_isGuiltyAt_117 rfl (lv_at hl 0 rfl) ?_
                    refine lv_iload hx hb dX7_isGuiltyAt_118 (lv_at hl 7 rfl) ?_
                    refine lv_iload_n hx hb dX7_isGuiltyAt_120 rfl (lv_at hl 3 rfl) ?_
                    refine vp_callSi (cz_run (va_runV (As := [.int ya, .int (nI t0)]) (rest := []) ⟨hx, hb, hml, hown, hts⟩ (c_X7_isMore l dC dI cI cB h0 ya t0 ih hn fl da ds ac kc m1 m2 m3 m4 m5 pl pg fa nf m6 m7 m8 sd ik kh km ka ks kac m9 m10 m11 m12 hv g6 ht3) (cwV 2 hts gX7_isGuiltyAt_X7_isMore rfl rfl rfl (by decide +kernel) ⟨Nat.le_of_ble_eq_true rfl, Nat.le_of_ble_eq_true rfl⟩) (cz_pV (hP.sub (ws' := [(h0, .inr (7, [.int ih, .int hn, .int fl, .int da, .int ds, .int ac, .int (nI kc), .ref m1, .ref m2, .ref m3, .ref m4, .ref m5, .int (nI pl), .ref pg, .int fa, .int nf, .ref m6, .ref m7, .ref m8, .long sd, .int ik, .int kh, .int (nI km), .int ka, .int ks, .int kac, .ref m9, .ref m10, .ref m11, .ref m12, .long hv])), (m6, .inl (cI, 3, .inl g6))]) [0, 2] rfl) hN (va_recv hK (hP.sub (ws' := [(h0, .inr (7, [.int ih, .int hn, .int fl, .int da, .int ds, .int ac, .int (nI kc), .ref m1, .ref m2, .ref m3, .ref m4, .ref m5, .int (nI pl), .ref pg, .int fa, .int nf, .ref m6, .ref m7, .ref m8, .long sd, .int ik, .int kh, .int (nI km), .int ka, .int ks, .int kac, .ref m9, .ref m10, .ref m11, .ref m12, .long hv])), (m6, .inl (cI, 3, .inl g6))]) [0, 2] rfl) (ci := 7) (q0 := 0) rfl rfl)) rfl rfl hl.1 rfl (lv_room (Nat.le_of_ble_eq_true rfl)) dX7_isGuiltyAt_121 ⟨Nat.le_of_ble_eq_true rfl, Nat.le_of_ble_eq_true rfl⟩)) (fun r_91 hr_91 => ?_)
                    refine lv_if_ne (tgt := 131) hx hb dX7_isGuiltyAt_124 (by decide) (fun c_92 => ?_) (fun c_92 => ?_)
                    · refine lv_iconst (v := 0) hx hb dX7_isGuiltyAt_131 (by decide) ?_
                      refine lv_istore (lv' := [(6, .int 0), (0, .ref h0), (1, .int p0), (2, .int p1), (3, .int (nI t0)), (4, .int r_1), (5, .int x_60), (7, .int ya)]) hx hb dX7_isGuiltyAt_132 hl (by decide) rfl (fun ls hl => ?_)
                      refine lv_iload hx hb dX7_isGuiltyAt_134 (lv_at hl 7 rfl) ?_
                      refine lv_iload hx hb dX7_isGuiltyAt_136 (lv_at hl 6 rfl) ?_
                      refine lv_iadd hx hb dX7_isGuiltyAt_138 ?_
                      refine lv_topi (fun x_93 ex_93 => ?_)
                      refine lv_istore (lv' := [(7, .int x_93), (6, .int 0), (0, .ref h0), (1, .int p0), (2, .int p1), (3, .int (nI t0)), (4, .int r_1), (5, .int x_60)]) hx hb dX7_isGuiltyAt_139 hl (by decide) rfl (fun ls hl => ?_)
                      refine lv_goto (tgt := 101) hx hb dX7_isGuiltyAt_141 (by decide) ?_
                      exact ih101 0 x_93 ls ⟨cz_ms hi101.1 ex_93, cm_clr_b hi101.2 c_88 (cm_v2 (cm_Cm c_61 hr_91 c_92)) ex_93⟩  (lv_sub hl [2, 3, 4, 5, 6, 7, 1, 0] rfl)
                    · refine lv_iconst (v := 1) hx hb dX7_isGuiltyAt_127 (by decide) ?_
                      refine lv_goto (tgt := 132) hx hb dX7_isGuiltyAt_128 (by decide) ?_
                      refine lv_istore (lv' := [(6, .int 1), (0, .ref h0), (1, .int p0), (2, .int p1), (3, .int (nI t0)), (4, .int r_1), (5, .int x_60), (7, .int ya)]) hx hb dX7_isGuiltyAt_132 hl (by decide) rfl (fun ls hl => ?_)
                      refine lv_iload hx hb dX7_isGuiltyAt_134 (lv_at hl 7 rfl) ?_
                      refine lv_iload hx hb dX7_isGuiltyAt_136 (lv_at hl 6 rfl) ?_
                      refine lv_iadd hx hb dX7_isGuiltyAt_138 ?_
                      refine lv_topi (fun x_94 ex_94 => ?_)
                      refine lv_istore (lv' := [(7, .int x_94), (6, .int 1), (0, .ref h0), (1, .int p0), (2, .int p1), (3, .int (nI t0)), (4, .int r_1), (5, .int x_60)]) hx hb dX7_isGuiltyAt_139 hl (by decide) rfl (fun ls hl => ?_)
                      refine lv_goto (tgt := 101) hx hb dX7_isGuiltyAt_141 (by decide) ?_
                      exact ih101 1 x_94 ls ⟨cz_ms hi101.1 ex_94, cm_clr_b hi101.2 c_88 (cm_v1 c_89 (cm_Cn hr_91 c_92)) ex_94⟩  (lv_sub hl [2, 3, 4, 5, 6, 7, 1, 0] rfl)
            exact lp101 nL r_77 x_78 ls ⟨(c_X7_isGuiltyAt_a23 p1 fl da kc g2 r_1 r_49 x_51 x_52 x_53 r_54 x_55 x_56 x_57 x_58 r_59 x_60 r_77 x_78 nL hr_1 hr_1b hr_49 ex_51 ex_52 ex_53 hr_54 ex_55 ex_56 ex_57 ex_58 hr_59 ex_60 hr_77 ex_78 hn3 hnL), (c_X7_isGuiltyAt_a24 p0 p1 t0 fl da kc g2 g6 r_1 r_49 x_51 x_52 x_53 r_54 x_55 x_56 x_57 x_58 r_59 x_60 r_77 x_78 nL hr_1 hr_1b hr_49 ex_51 ex_52 ex_53 hr_54 ex_55 ex_56 ex_57 ex_58 hr_59 ex_60 hr_77 ex_78 hn3 hnL)⟩  (lv_sub hl [4, 5, 6, 7, 3, 2, 1, 0] rfl)
        · refine lv_iconst (v := 0) hx hb dX7_isGuiltyAt_38 (by decide) ?_
          rw [hQ]; exact W.zret (v := 0) hx hb hr (by decide) (fun t ht hW => ⟨0, rfl, (Or.inl ⟨rfl, (cm_ga_n3 c_4 hr_49 c_50)⟩), ht⟩) (fun _ h => absurd h List.not_mem_nil) dX7_isGuiltyAt_39
