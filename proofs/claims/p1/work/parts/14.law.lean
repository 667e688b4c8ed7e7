/-! THE CLAIM OUT OF ONE WALK OF THE LAW'S BODY. Your part is whole_start (and what it stands on); all else here is the same for every law, but numbers. -/
def R_law : String := "LeftProfileLaw"
def lw_P (b : Addr) (xs : List Int32) (args : Array Value) (s : State) : Prop := args = #[.ref b] ∧ s.IntsAt b xs ∧ xs.length ≤ 4 ∧ (Jvm.Cond.and given_1 narrow_1).before args s = true
def lw_Q (_ : Array Value) (s : State) (o : Outcome) (t : State) : Prop := o = .returned (some (.int 1)) ∧ Framed s o t [] 38 1433
def lw_Z (below : List Frame) (a : Array Value) (s : State) : State → Prop := fun t => ∃ o, t.status = .running ∧ Ended t below o ∧ lw_Q a s o t
/-- the law's own end, with 1 on the stack, nothing written that was there before, its room as the claim has it -/
theorem lw_ret {p : Program} {l : Launch} {e : Env} {s : State} {m : MethodId} {below : List Frame} {meth : Method} {c : Code} {b : Nat} (hx : p.tables.exec = Jvm.exec) (hb : c.code = code) (hr : meth.sig.returnType = ret) (hlocks : meth.locks = false) {pc : Nat} {H : Heap} {ls : Array Slot} (hdg : decode code pc = .ok (.ireturn, 1)) : W p l e room_1 s m #[Value.ref b] below meth c H [] 38 1433 (lw_Z below #[Value.ref b] s) (F0 m pc ls [.int 1]) := by
  intro T hT X
  obtain ⟨fs, hret, hrun, hended, hW, hframe⟩ := X.leave (v := some (.int 1)) (hlocks := hlocks) (fun h => by rw [hr] at h; cases h)
  have hmeth' : T.vm.method? m = some meth := X.method'
  refine ⟨T.setFrames fs, ?_, .returned (some (.int 1)), hrun, hended, rfl, ⟨_, rfl⟩, hW, hframe⟩
  jvm_step X.here [X.here.top, hx, hb, hdg, hmeth', hr, ret, narrow_b1]
  (try refine ⟨rfl, ?_⟩); (try refine ⟨rfl, ?_⟩)
  first | (intro acts; rw [hret _ acts rfl rfl rfl]) | rw [hret _ _ rfl rfl rfl]
  exact Steps.refl _
/-- what holds at the law's entry: the machine, the code, the tables' words (any of lw_tbl by 'hts w (by decide +kernel)'), the script of L ints xs at the cell b, what the Statement gives of the start (any of its parts by flat_of_before) -/
def lw_At (p : Program) (s : State) (m : MethodId) (meth : Method) (c : Code) (b L : Nat) (xs : Nat → Int32) : Prop :=
  p.tables.exec = Jvm.exec ∧ c.code = code ∧ meth.sig.returnType = ret ∧ c.maxLocals = 4 ∧ s.vm.findClass R_law = some m.cls ∧ (∀ w ∈ lw_tbl, w.before #[Value.ref b] s = true) ∧ va_X b L xs s s.heap ∧ b < s.heap.size ∧ meth.locks = false ∧ (Jvm.Cond.and given_1 narrow_1).before #[Value.ref b] s = true

set_option maxHeartbeats 4000000 in
set_option maxRecDepth 100000 in
theorem law_end {p : Program} {l : Launch} {e : Env} {s : State} {m : MethodId} {below : List Frame} {meth : Method} {c : Code} {dC : Nat → ClassId} {dI : Nat → Nat → Nat} {cI cB : ClassId} {A : Nat → Prop} {b : Nat} {xs : Nat → Int32} (hx : p.tables.exec = Jvm.exec) (hb : c.code = cL_law) (hr : meth.sig.returnType = ret) (hml : c.maxLocals = 4) (hown : s.vm.findClass RL = some m.cls) (hts : ∀ w ∈ wsL_law, w.before #[Value.ref b] s = true) (hX : va_X b 4 xs s s.heap) (hbl : b < s.heap.size) (hbA : ¬ A b) (hA : ∀ q : Nat, s.heap.size ≤ q → A q) (hAr : ∀ q : Nat, A q → s.heap.size ≤ q) (hlocks : meth.locks = false) (hN : cz_N dC dI cI cB s)  (H : Heap) (locs : List Loc) (ls : Array Slot) (hP : va_P (dC, dI) vwCl [] H) (hD : va_D A []) (hS : va_S A s.heap H locs) (hl : lv_has ls 4 [(0, .ref b), (3, .int 0)]) : W p l e room_1 s m #[Value.ref b] below meth c H locs 38 1433 (lw_Z below #[Value.ref b] s) (F0 m 673 ls []) := by
  have hK := hN.1
  refine lv_iinc (v := 4) (lv' := [(3, .int 4), (0, .ref b)]) hx hb dL_law_673 hl (k := 1) rfl (by decide) (by decide) rfl (fun ls hl => ?_)
  refine lv_goto (tgt := 18) hx hb dL_law_676 (by decide) ?_
  refine lv_iload_n hx hb dL_law_18 rfl (lv_at hl 0 rfl) ?_
  refine lv_aload_n hx hb dL_law_19 rfl (lv_at hl 1 rfl) ?_
  refine va_slen hx hb hX hbl hbA hS dL_law_20 ?_
  refine cz_i (y := 4) (by decide) ?_
  refine lv_iconst (v := 4) hx hb dL_law_21 (by decide) ?_
  refine lv_isub hx hb dL_law_22 ?_
  refine cz_i (y := 0) (by decide) ?_
  refine lv_icmp_gt (tgt := 679) hx hb dL_law_23 (by decide) (fun _ => ?_) (fun c => absurd (by decide) c)
  refine lv_iconst (v := 1) hx hb dL_law_679 (by decide) ?_
  refine va_forget (fun q hq => hAr _ (hS.2.2 q hq)) ?_
  exact lw_ret hx hb hr hlocks dL_law_680

set_option maxHeartbeats 4000000 in
set_option maxRecDepth 100000 in
theorem law_case0 {p : Program} {l : Launch} {e : Env} {s : State} {m : MethodId} {below : List Frame} {meth : Method} {c : Code} {dC : Nat → ClassId} {dI : Nat → Nat → Nat} {cI cB : ClassId} {A : Nat → Prop} {b : Nat} {xs : Nat → Int32} (hx : p.tables.exec = Jvm.exec) (hb : c.code = cL_law) (hr : meth.sig.returnType = ret) (hml : c.maxLocals = 4) (hown : s.vm.findClass RL = some m.cls) (hts : ∀ w ∈ wsL_law, w.before #[Value.ref b] s = true) (hX : va_X b 4 xs s s.heap) (hbl : b < s.heap.size) (hbA : ¬ A b) (hA : ∀ q : Nat, s.heap.size ≤ q → A q) (hAr : ∀ q : Nat, A q → s.heap.size ≤ q) (hlocks : meth.locks = false) (hN : cz_N dC dI cI cB s) (h0 : Nat) (hp : Nat) (hs : Nat) (hh : Nat) (hc : Nat) (kp : Nat) (rt : Nat) (cd : Nat) (si : Nat) (k1 : Nat) (k2 : Nat) (k3 : Nat) (k4 : Nat) (k5 : Nat) (mo : Nat) (m1 : Nat) (m2 : Nat) (m3 : Nat) (m4 : Nat) (m5 : Nat) (pg : Nat) (m6 : Nat) (m7 : Nat) (m8 : Nat) (m9 : Nat) (m10 : Nat) (m11 : Nat) (m12 : Nat) (H : Heap) (locs : List Loc) (ls : Array Slot) (hP : va_P (dC, dI) vwCl [(h0, .inr (6, [.ref hp, .ref hs, .ref hh, .ref hc, .ref kp, .ref rt, .int 0])), (hp, .inr (2, [.ref cd, .int 0])), (cd, .inl (cI, 24, .inl (fun _ => 0))), (hs, .inr (4, [.ref hh, .ref hc, .ref si])), (hh, .inr (1, [.int 0, .int 0, .int 0])), (hc, .inr (0, [.int (-1), .int 0, .int 0, .ref k1, .ref k2, .ref k3, .ref k4, .ref k5])), (mo, .inr (7, [.int 0, .int 0, .int 0, .int (-1), .int (-1), .int 0, .int 0, .ref m1, .ref m2, .ref m3, .ref m4, .ref m5, .int 0, .ref pg, .int 0, .int 0, .ref m6, .ref m7, .ref m8, .long 0, .int 0, .int 0, .int 0, .int 0, .int 0, .int 0, .ref m9, .ref m10, .ref m11, .ref m12, .long 0])), (pg, .inl (cB, 24, .inl (fun _ => 0)))] H) (hD : va_D A [(h0, .inr (6, [.ref hp, .ref hs, .ref hh, .ref hc, .ref kp, .ref rt, .int 0])), (hp, .inr (2, [.ref cd, .int 0])), (cd, .inl (cI, 24, .inl (fun _ => 0))), (hs, .inr (4, [.ref hh, .ref hc, .ref si])), (hh, .inr (1, [.int 0, .int 0, .int 0])), (hc, .inr (0, [.int (-1), .int 0, .int 0, .ref k1, .ref k2, .ref k3, .ref k4, .ref k5])), (mo, .inr (7, [.int 0, .int 0, .int 0, .int (-1), .int (-1), .int 0, .int 0, .ref m1, .ref m2, .ref m3, .ref m4, .ref m5, .int 0, .ref pg, .int 0, .int 0, .ref m6, .ref m7, .ref m8, .long 0, .int 0, .int 0, .int 0, .int 0, .int 0, .int 0, .ref m9, .ref m10, .ref m11, .ref m12, .long 0])), (pg, .inl (cB, 24, .inl (fun _ => 0)))]) (hS : va_S A s.heap H locs) (hl : lv_has ls 4 [(0, .ref b), (1, .ref h0), (2, .ref mo), (3, .int 0)]) : W p l e room_1 s m #[Value.ref b] below meth c H locs 38 1433 (lw_Z below #[Value.ref b] s) (F0 m 136 ls []) := by
  have hK := hN.1
  refine lv_aload_n hx hb dL_law_136 rfl (lv_at hl 1 rfl) ?_
  refine lv_aload_n hx hb dL_law_137 rfl (lv_at hl 0 rfl) ?_
  refine lv_iload_n hx hb dL_law_138 rfl (lv_at hl 3 rfl) ?_
  refine lv_iconst (v := 1) hx hb dL_law_139 (by decide) ?_
  refine lv_iadd hx hb dL_law_140 ?_
  refine cz_i (y := 1) (by decide) ?_
  refine va_sld hx hb hX hbl hbA hS (by unfold vp_in; decide) dL_law_141 ?_
  refine cz_i (y := xs 1) (congrArg xs (by decide)) ?_
  have hPc := hP.sub (ws' := [(h0, .inr (6, [.ref hp, .ref hs, .ref hh, .ref hc, .ref kp, .ref rt, .int 0])), (hp, .inr (2, [.ref cd, .int 0])), (cd, .inl (cI, 24, .inl (fun _ => 0)))]) [0, 1, 2] rfl
  have hDc := hD.sub (ws' := [(h0, .inr (6, [.ref hp, .ref hs, .ref hh, .ref hc, .ref kp, .ref rt, .int 0])), (hp, .inr (2, [.ref cd, .int 0])), (cd, .inl (cI, 24, .inl (fun _ => 0)))]) [0, 1, 2] (by decide) rfl
  have hFc := va_free (wc := [(h0, .inr (6, [.ref hp, .ref hs, .ref hh, .ref hc, .ref kp, .ref rt, .int 0])), (hp, .inr (2, [.ref cd, .int 0])), (cd, .inl (cI, 24, .inl (fun _ => 0)))]) hD hS hA [0, 1, 2] rfl
  refine va_calli (va_runV (As := [.int (xs 1)]) (rest := []) ⟨hx, hb, hml, hown, hts⟩ (c_X6_letter l dC dI cI cB h0 (xs 1) hp hs hh hc kp rt cd (fun _ => 0) H.size ) (cwV 1 hts gL_law_X6_letter rfl rfl rfl (by decide +kernel) ⟨Nat.le_of_ble_eq_true rfl, Nat.le_of_ble_eq_true rfl⟩) (cz_mV hPc hN hDc (va_recv hK hPc (ci := 6) (q0 := 0) rfl rfl)) rfl rfl hl.1 rfl (lv_room (Nat.le_of_ble_eq_true rfl)) dL_law_142 ⟨Nat.le_of_ble_eq_true rfl, Nat.le_of_ble_eq_true rfl⟩) hS (fun q _ h => hFc q h) hFc (fun r_1 u t H1 locs ht hvm hr_1 hB hz1 hk1 hS => ?_)
  have hP1 : va_P (dC, dI) vwCl [] H1 := fun k q h => by simp at h
  have hD1 : va_D (va_A [(h0, .inr (6, [.ref hp, .ref hs, .ref hh, .ref hc, .ref kp, .ref rt, .int 0])), (hp, .inr (2, [.ref cd, .int 0])), (cd, .inl (cI, 24, .inl (fun _ => 0)))] H.size) [] := ⟨fun i j p q h => by simp at h, fun k q h => by simp at h⟩
  obtain ⟨hP, hD⟩ := va_join (wr := [(hs, .inr (4, [.ref hh, .ref hc, .ref si])), (hh, .inr (1, [.int 0, .int 0, .int 0])), (hc, .inr (0, [.int (-1), .int 0, .int 0, .ref k1, .ref k2, .ref k3, .ref k4, .ref k5])), (mo, .inr (7, [.int 0, .int 0, .int 0, .int (-1), .int (-1), .int 0, .int 0, .ref m1, .ref m2, .ref m3, .ref m4, .ref m5, .int 0, .ref pg, .int 0, .int 0, .ref m6, .ref m7, .ref m8, .long 0, .int 0, .int 0, .int 0, .int 0, .int 0, .int 0, .ref m9, .ref m10, .ref m11, .ref m12, .long 0])), (pg, .inl (cB, 24, .inl (fun _ => 0)))]) (w1 := []) hP hD [0, 1, 2] [3, 4, 5, 6, 7] rfl rfl (by decide) (by decide) hk1 hFc hP1 hD1
  generalize H1 = H at hP hS ⊢
  have hP : va_P (dC, dI) vwCl [(hs, .inr (4, [.ref hh, .ref hc, .ref si])), (hh, .inr (1, [.int 0, .int 0, .int 0])), (hc, .inr (0, [.int (-1), .int 0, .int 0, .ref k1, .ref k2, .ref k3, .ref k4, .ref k5])), (mo, .inr (7, [.int 0, .int 0, .int 0, .int (-1), .int (-1), .int 0, .int 0, .ref m1, .ref m2, .ref m3, .ref m4, .ref m5, .int 0, .ref pg, .int 0, .int 0, .ref m6, .ref m7, .ref m8, .long 0, .int 0, .int 0, .int 0, .int 0, .int 0, .int 0, .ref m9, .ref m10, .ref m11, .ref m12, .long 0])), (pg, .inl (cB, 24, .inl (fun _ => 0)))] H := hP
  have hD : va_D A [(hs, .inr (4, [.ref hh, .ref hc, .ref si])), (hh, .inr (1, [.int 0, .int 0, .int 0])), (hc, .inr (0, [.int (-1), .int 0, .int 0, .ref k1, .ref k2, .ref k3, .ref k4, .ref k5])), (mo, .inr (7, [.int 0, .int 0, .int 0, .int (-1), .int (-1), .int 0, .int 0, .ref m1, .ref m2, .ref m3, .ref m4, .ref m5, .int 0, .ref pg, .int 0, .int 0, .ref m6, .ref m7, .ref m8, .long 0, .int 0, .int 0, .int 0, .int 0, .int 0, .int 0, .ref m9, .ref m10, .ref m11, .ref m12, .long 0])), (pg, .inl (cB, 24, .inl (fun _ => 0)))] := hD
  refine lv_aload_n hx hb dL_law_145 rfl (lv_at hl 2 rfl) ?_
  refine lv_aload_n hx hb dL_law_146 rfl (lv_at hl 0 rfl) ?_
  refine lv_iload_n hx hb dL_law_147 rfl (lv_at hl 3 rfl) ?_
  refine lv_iconst (v := 1) hx hb dL_law_148 (by decide) ?_
  refine lv_iadd hx hb dL_law_149 ?_
  refine cz_i (y := 1) (by decide) ?_
  refine va_sld hx hb hX hbl hbA hS (by unfold vp_in; decide) dL_law_150 ?_
  refine cz_i (y := xs 1) (congrArg xs (by decide)) ?_
  have hPc := hP.sub (ws' := [(mo, .inr (7, [.int 0, .int 0, .int 0, .int (-1), .int (-1), .int 0, .int 0, .ref m1, .ref m2, .ref m3, .ref m4, .ref m5, .int 0, .ref pg, .int 0, .int 0, .ref m6, .ref m7, .ref m8, .long 0, .int 0, .int 0, .int 0, .int 0, .int 0, .int 0, .ref m9, .ref m10, .ref m11, .ref m12, .long 0])), (pg, .inl (cB, 24, .inl (fun _ => 0)))]) [3, 4] rfl
  have hDc := hD.sub (ws' := [(mo, .inr (7, [.int 0, .int 0, .int 0, .int (-1), .int (-1), .int 0, .int 0, .ref m1, .ref m2, .ref m3, .ref m4, .ref m5, .int 0, .ref pg, .int 0, .int 0, .ref m6, .ref m7, .ref m8, .long 0, .int 0, .int 0, .int 0, .int 0, .int 0, .int 0, .ref m9, .ref m10, .ref m11, .ref m12, .long 0])), (pg, .inl (cB, 24, .inl (fun _ => 0)))]) [3, 4] (by decide) rfl
  have hFc := va_free (wc := [(mo, .inr (7, [.int 0, .int 0, .int 0, .int (-1), .int (-1), .int 0, .int 0, .ref m1, .ref m2, .ref m3, .ref m4, .ref m5, .int 0, .ref pg, .int 0, .int 0, .ref m6, .ref m7, .ref m8, .long 0, .int 0, .int 0, .int 0, .int 0, .int 0, .int 0, .ref m9, .ref m10, .ref m11, .ref m12, .long 0])), (pg, .inl (cB, 24, .inl (fun _ => 0)))]) hD hS hA [3, 4] rfl
  refine va_calli (va_runV (As := [.int (xs 1)]) (rest := [.int r_1]) ⟨hx, hb, hml, hown, hts⟩ (c_X7_letter l dC dI cI cB mo (xs 1) m1 m2 m3 m4 m5 pg m6 m7 m8 m9 m10 m11 m12 (fun _ => 0) H.size ) (cwV 1 hts gL_law_X7_letter rfl rfl rfl (by decide +kernel) ⟨Nat.le_of_ble_eq_true rfl, Nat.le_of_ble_eq_true rfl⟩) (cz_mV hPc hN hDc (va_recv hK hPc (ci := 7) (q0 := 0) rfl rfl)) rfl rfl hl.1 rfl (lv_room (Nat.le_of_ble_eq_true rfl)) dL_law_151 ⟨Nat.le_of_ble_eq_true rfl, Nat.le_of_ble_eq_true rfl⟩) hS (fun q _ h => hFc q h) hFc (fun r_2 u t H1 locs ht hvm hr_2 hB hz1 hk1 hS => ?_)
  have hP1 : va_P (dC, dI) vwCl [] H1 := fun k q h => by simp at h
  have hD1 : va_D (va_A [(mo, .inr (7, [.int 0, .int 0, .int 0, .int (-1), .int (-1), .int 0, .int 0, .ref m1, .ref m2, .ref m3, .ref m4, .ref m5, .int 0, .ref pg, .int 0, .int 0, .ref m6, .ref m7, .ref m8, .long 0, .int 0, .int 0, .int 0, .int 0, .int 0, .int 0, .ref m9, .ref m10, .ref m11, .ref m12, .long 0])), (pg, .inl (cB, 24, .inl (fun _ => 0)))] H.size) [] := ⟨fun i j p q h => by simp at h, fun k q h => by simp at h⟩
  obtain ⟨hP, hD⟩ := va_join (wr := [(hs, .inr (4, [.ref hh, .ref hc, .ref si])), (hh, .inr (1, [.int 0, .int 0, .int 0])), (hc, .inr (0, [.int (-1), .int 0, .int 0, .ref k1, .ref k2, .ref k3, .ref k4, .ref k5]))]) (w1 := []) hP hD [3, 4] [0, 1, 2] rfl rfl (by decide) (by decide) hk1 hFc hP1 hD1
  generalize H1 = H at hP hS ⊢
  have hP : va_P (dC, dI) vwCl [(hs, .inr (4, [.ref hh, .ref hc, .ref si])), (hh, .inr (1, [.int 0, .int 0, .int 0])), (hc, .inr (0, [.int (-1), .int 0, .int 0, .ref k1, .ref k2, .ref k3, .ref k4, .ref k5]))] H := hP
  have hD : va_D A [(hs, .inr (4, [.ref hh, .ref hc, .ref si])), (hh, .inr (1, [.int 0, .int 0, .int 0])), (hc, .inr (0, [.int (-1), .int 0, .int 0, .ref k1, .ref k2, .ref k3, .ref k4, .ref k5]))] := hD
  refine lv_icmp_eq (tgt := 673) hx hb dL_law_154 (by decide) (fun _ => ?_) (fun c => absurd (hr_1.trans hr_2.symm) c)
  have hP := hP.sub (ws' := []) [] rfl
  have hD := hD.sub (ws' := []) [] (by decide) rfl
  exact law_end hx hb hr hml hown hts hX hbl hbA hA hAr hlocks hN H locs ls hP hD hS (lv_sub hl [0, 3] rfl)

set_option maxHeartbeats 4000000 in
set_option maxRecDepth 100000 in
theorem law_case1 {p : Program} {l : Launch} {e : Env} {s : State} {m : MethodId} {below : List Frame} {meth : Method} {c : Code} {dC : Nat → ClassId} {dI : Nat → Nat → Nat} {cI cB : ClassId} {A : Nat → Prop} {b : Nat} {xs : Nat → Int32} (hx : p.tables.exec = Jvm.exec) (hb : c.code = cL_law) (hr : meth.sig.returnType = ret) (hml : c.maxLocals = 4) (hown : s.vm.findClass RL = some m.cls) (hts : ∀ w ∈ wsL_law, w.before #[Value.ref b] s = true) (hX : va_X b 4 xs s s.heap) (hbl : b < s.heap.size) (hbA : ¬ A b) (hA : ∀ q : Nat, s.heap.size ≤ q → A q) (hAr : ∀ q : Nat, A q → s.heap.size ≤ q) (hlocks : meth.locks = false) (hN : cz_N dC dI cI cB s) (h0 : Nat) (hp : Nat) (hs : Nat) (hh : Nat) (hc : Nat) (kp : Nat) (rt : Nat) (cd : Nat) (si : Nat) (k1 : Nat) (k2 : Nat) (k3 : Nat) (k4 : Nat) (k5 : Nat) (mo : Nat) (m1 : Nat) (m2 : Nat) (m3 : Nat) (m4 : Nat) (m5 : Nat) (pg : Nat) (m6 : Nat) (m7 : Nat) (m8 : Nat) (m9 : Nat) (m10 : Nat) (m11 : Nat) (m12 : Nat) (H : Heap) (locs : List Loc) (ls : Array Slot) (hP : va_P (dC, dI) vwCl [(h0, .inr (6, [.ref hp, .ref hs, .ref hh, .ref hc, .ref kp, .ref rt, .int 0])), (hp, .inr (2, [.ref cd, .int 0])), (cd, .inl (cI, 24, .inl (fun _ => 0))), (hs, .inr (4, [.ref hh, .ref hc, .ref si])), (hh, .inr (1, [.int 0, .int 0, .int 0])), (hc, .inr (0, [.int (-1), .int 0, .int 0, .ref k1, .ref k2, .ref k3, .ref k4, .ref k5])), (mo, .inr (7, [.int 0, .int 0, .int 0, .int (-1), .int (-1), .int 0, .int 0, .ref m1, .ref m2, .ref m3, .ref m4, .ref m5, .int 0, .ref pg, .int 0, .int 0, .ref m6, .ref m7, .ref m8, .long 0, .int 0, .int 0, .int 0, .int 0, .int 0, .int 0, .ref m9, .ref m10, .ref m11, .ref m12, .long 0])), (pg, .inl (cB, 24, .inl (fun _ => 0)))] H) (hD : va_D A [(h0, .inr (6, [.ref hp, .ref hs, .ref hh, .ref hc, .ref kp, .ref rt, .int 0])), (hp, .inr (2, [.ref cd, .int 0])), (cd, .inl (cI, 24, .inl (fun _ => 0))), (hs, .inr (4, [.ref hh, .ref hc, .ref si])), (hh, .inr (1, [.int 0, .int 0, .int 0])), (hc, .inr (0, [.int (-1), .int 0, .int 0, .ref k1, .ref k2, .ref k3, .ref k4, .ref k5])), (mo, .inr (7, [.int 0, .int 0, .int 0, .int (-1), .int (-1), .int 0, .int 0, .ref m1, .ref m2, .ref m3, .ref m4, .ref m5, .int 0, .ref pg, .int 0, .int 0, .ref m6, .ref m7, .ref m8, .long 0, .int 0, .int 0, .int 0, .int 0, .int 0, .int 0, .ref m9, .ref m10, .ref m11, .ref m12, .long 0])), (pg, .inl (cB, 24, .inl (fun _ => 0)))]) (hS : va_S A s.heap H locs) (hl : lv_has ls 4 [(0, .ref b), (1, .ref h0), (2, .ref mo), (3, .int 0)]) : W p l e room_1 s m #[Value.ref b] below meth c H locs 38 1433 (lw_Z below #[Value.ref b] s) (F0 m 159 ls []) := by
  have hK := hN.1
  refine lv_aload_n hx hb dL_law_159 rfl (lv_at hl 1 rfl) ?_
  have hPc := hP.sub (ws' := [(h0, .inr (6, [.ref hp, .ref hs, .ref hh, .ref hc, .ref kp, .ref rt, .int 0])), (hp, .inr (2, [.ref cd, .int 0]))]) [0, 1] rfl
  have hDc := hD.sub (ws' := [(h0, .inr (6, [.ref hp, .ref hs, .ref hh, .ref hc, .ref kp, .ref rt, .int 0])), (hp, .inr (2, [.ref cd, .int 0]))]) [0, 1] (by decide) rfl
  have hFc := va_free (wc := [(h0, .inr (6, [.ref hp, .ref hs, .ref hh, .ref hc, .ref kp, .ref rt, .int 0])), (hp, .inr (2, [.ref cd, .int 0]))]) hD hS hA [0, 1] rfl
  refine va_calli (va_runV (As := []) (rest := []) ⟨hx, hb, hml, hown, hts⟩ (c_X6_blank l dC dI cI cB h0 hp hs hh hc kp rt cd H.size ) (cwV 0 hts gL_law_X6_blank rfl rfl rfl (by decide +kernel) ⟨Nat.le_of_ble_eq_true rfl, Nat.le_of_ble_eq_true rfl⟩) (cz_mV hPc hN hDc (va_recv hK hPc (ci := 6) (q0 := 0) rfl rfl)) rfl rfl hl.1 rfl (lv_room (Nat.le_of_ble_eq_true rfl)) dL_law_160 ⟨Nat.le_of_ble_eq_true rfl, Nat.le_of_ble_eq_true rfl⟩) hS (fun q _ h => hFc q h) hFc (fun r_1 u t H1 locs ht hvm hr_1 hB hz1 hk1 hS => ?_)
  have hP1 : va_P (dC, dI) vwCl [] H1 := fun k q h => by simp at h
  have hD1 : va_D (va_A [(h0, .inr (6, [.ref hp, .ref hs, .ref hh, .ref hc, .ref kp, .ref rt, .int 0])), (hp, .inr (2, [.ref cd, .int 0]))] H.size) [] := ⟨fun i j p q h => by simp at h, fun k q h => by simp at h⟩
  obtain ⟨hP, hD⟩ := va_join (wr := [(cd, .inl (cI, 24, .inl (fun _ => 0))), (hs, .inr (4, [.ref hh, .ref hc, .ref si])), (hh, .inr (1, [.int 0, .int 0, .int 0])), (hc, .inr (0, [.int (-1), .int 0, .int 0, .ref k1, .ref k2, .ref k3, .ref k4, .ref k5])), (mo, .inr (7, [.int 0, .int 0, .int 0, .int (-1), .int (-1), .int 0, .int 0, .ref m1, .ref m2, .ref m3, .ref m4, .ref m5, .int 0, .ref pg, .int 0, .int 0, .ref m6, .ref m7, .ref m8, .long 0, .int 0, .int 0, .int 0, .int 0, .int 0, .int 0, .ref m9, .ref m10, .ref m11, .ref m12, .long 0])), (pg, .inl (cB, 24, .inl (fun _ => 0)))]) (w1 := []) hP hD [0, 1] [2, 3, 4, 5, 6, 7] rfl rfl (by decide) (by decide) hk1 hFc hP1 hD1
  generalize H1 = H at hP hS ⊢
  have hP : va_P (dC, dI) vwCl [(cd, .inl (cI, 24, .inl (fun _ => 0))), (hs, .inr (4, [.ref hh, .ref hc, .ref si])), (hh, .inr (1, [.int 0, .int 0, .int 0])), (hc, .inr (0, [.int (-1), .int 0, .int 0, .ref k1, .ref k2, .ref k3, .ref k4, .ref k5])), (mo, .inr (7, [.int 0, .int 0, .int 0, .int (-1), .int (-1), .int 0, .int 0, .ref m1, .ref m2, .ref m3, .ref m4, .ref m5, .int 0, .ref pg, .int 0, .int 0, .ref m6, .ref m7, .ref m8, .long 0, .int 0, .int 0, .int 0, .int 0, .int 0, .int 0, .ref m9, .ref m10, .ref m11, .ref m12, .long 0])), (pg, .inl (cB, 24, .inl (fun _ => 0)))] H := hP
  have hD : va_D A [(cd, .inl (cI, 24, .inl (fun _ => 0))), (hs, .inr (4, [.ref hh, .ref hc, .ref si])), (hh, .inr (1, [.int 0, .int 0, .int 0])), (hc, .inr (0, [.int (-1), .int 0, .int 0, .ref k1, .ref k2, .ref k3, .ref k4, .ref k5])), (mo, .inr (7, [.int 0, .int 0, .int 0, .int (-1), .int (-1), .int 0, .int 0, .ref m1, .ref m2, .ref m3, .ref m4, .ref m5, .int 0, .ref pg, .int 0, .int 0, .ref m6, .ref m7, .ref m8, .long 0, .int 0, .int 0, .int 0, .int 0, .int 0, .int 0, .ref m9, .ref m10, .ref m11, .ref m12, .long 0])), (pg, .inl (cB, 24, .inl (fun _ => 0)))] := hD
  obtain rfl : r_1 = 0 := hr_1
  refine lv_aload_n hx hb dL_law_163 rfl (lv_at hl 2 rfl) ?_
  have hPc := hP.sub (ws' := [(mo, .inr (7, [.int 0, .int 0, .int 0, .int (-1), .int (-1), .int 0, .int 0, .ref m1, .ref m2, .ref m3, .ref m4, .ref m5, .int 0, .ref pg, .int 0, .int 0, .ref m6, .ref m7, .ref m8, .long 0, .int 0, .int 0, .int 0, .int 0, .int 0, .int 0, .ref m9, .ref m10, .ref m11, .ref m12, .long 0]))]) [4] rfl
  have hDc := hD.sub (ws' := [(mo, .inr (7, [.int 0, .int 0, .int 0, .int (-1), .int (-1), .int 0, .int 0, .ref m1, .ref m2, .ref m3, .ref m4, .ref m5, .int 0, .ref pg, .int 0, .int 0, .ref m6, .ref m7, .ref m8, .long 0, .int 0, .int 0, .int 0, .int 0, .int 0, .int 0, .ref m9, .ref m10, .ref m11, .ref m12, .long 0]))]) [4] (by decide) rfl
  have hFc := va_free (wc := [(mo, .inr (7, [.int 0, .int 0, .int 0, .int (-1), .int (-1), .int 0, .int 0, .ref m1, .ref m2, .ref m3, .ref m4, .ref m5, .int 0, .ref pg, .int 0, .int 0, .ref m6, .ref m7, .ref m8, .long 0, .int 0, .int 0, .int 0, .int 0, .int 0, .int 0, .ref m9, .ref m10, .ref m11, .ref m12, .long 0]))]) hD hS hA [4] rfl
  refine va_calli (va_runV (As := []) (rest := [.int 0]) ⟨hx, hb, hml, hown, hts⟩ (c_X7_blank l dC dI cI cB mo m1 m2 m3 m4 m5 pg m6 m7 m8 m9 m10 m11 m12 H.size ) (cwV 0 hts gL_law_X7_blank rfl rfl rfl (by decide +kernel) ⟨Nat.le_of_ble_eq_true rfl, Nat.le_of_ble_eq_true rfl⟩) (cz_mV hPc hN hDc (va_recv hK hPc (ci := 7) (q0 := 0) rfl rfl)) rfl rfl hl.1 rfl (lv_room (Nat.le_of_ble_eq_true rfl)) dL_law_164 ⟨Nat.le_of_ble_eq_true rfl, Nat.le_of_ble_eq_true rfl⟩) hS (fun q _ h => hFc q h) hFc (fun r_2 u t H1 locs ht hvm hr_2 hB hz1 hk1 hS => ?_)
  have hP1 : va_P (dC, dI) vwCl [] H1 := fun k q h => by simp at h
  have hD1 : va_D (va_A [(mo, .inr (7, [.int 0, .int 0, .int 0, .int (-1), .int (-1), .int 0, .int 0, .ref m1, .ref m2, .ref m3, .ref m4, .ref m5, .int 0, .ref pg, .int 0, .int 0, .ref m6, .ref m7, .ref m8, .long 0, .int 0, .int 0, .int 0, .int 0, .int 0, .int 0, .ref m9, .ref m10, .ref m11, .ref m12, .long 0]))] H.size) [] := ⟨fun i j p q h => by simp at h, fun k q h => by simp at h⟩
  obtain ⟨hP, hD⟩ := va_join (wr := [(cd, .inl (cI, 24, .inl (fun _ => 0))), (hs, .inr (4, [.ref hh, .ref hc, .ref si])), (hh, .inr (1, [.int 0, .int 0, .int 0])), (hc, .inr (0, [.int (-1), .int 0, .int 0, .ref k1, .ref k2, .ref k3, .ref k4, .ref k5])), (pg, .inl (cB, 24, .inl (fun _ => 0)))]) (w1 := []) hP hD [4] [0, 1, 2, 3, 5] rfl rfl (by decide) (by decide) hk1 hFc hP1 hD1
  generalize H1 = H at hP hS ⊢
  have hP : va_P (dC, dI) vwCl [(cd, .inl (cI, 24, .inl (fun _ => 0))), (hs, .inr (4, [.ref hh, .ref hc, .ref si])), (hh, .inr (1, [.int 0, .int 0, .int 0])), (hc, .inr (0, [.int (-1), .int 0, .int 0, .ref k1, .ref k2, .ref k3, .ref k4, .ref k5])), (pg, .inl (cB, 24, .inl (fun _ => 0)))] H := hP
  have hD : va_D A [(cd, .inl (cI, 24, .inl (fun _ => 0))), (hs, .inr (4, [.ref hh, .ref hc, .ref si])), (hh, .inr (1, [.int 0, .int 0, .int 0])), (hc, .inr (0, [.int (-1), .int 0, .int 0, .ref k1, .ref k2, .ref k3, .ref k4, .ref k5])), (pg, .inl (cB, 24, .inl (fun _ => 0)))] := hD
  obtain rfl : r_2 = 0 := hr_2
  refine lv_icmp_eq (tgt := 673) hx hb dL_law_167 (by decide) (fun _ => ?_) (fun c => absurd (by decide) c)
  have hP := hP.sub (ws' := []) [] rfl
  have hD := hD.sub (ws' := []) [] (by decide) rfl
  exact law_end hx hb hr hml hown hts hX hbl hbA hA hAr hlocks hN H locs ls hP hD hS (lv_sub hl [0, 3] rfl)

set_option maxHeartbeats 4000000 in
set_option maxRecDepth 100000 in
theorem law_case2 {p : Program} {l : Launch} {e : Env} {s : State} {m : MethodId} {below : List Frame} {meth : Method} {c : Code} {dC : Nat → ClassId} {dI : Nat → Nat → Nat} {cI cB : ClassId} {A : Nat → Prop} {b : Nat} {xs : Nat → Int32} (hx : p.tables.exec = Jvm.exec) (hb : c.code = cL_law) (hr : meth.sig.returnType = ret) (hml : c.maxLocals = 4) (hown : s.vm.findClass RL = some m.cls) (hts : ∀ w ∈ wsL_law, w.before #[Value.ref b] s = true) (hX : va_X b 4 xs s s.heap) (hbl : b < s.heap.size) (hbA : ¬ A b) (hA : ∀ q : Nat, s.heap.size ≤ q → A q) (hAr : ∀ q : Nat, A q → s.heap.size ≤ q) (hlocks : meth.locks = false) (hN : cz_N dC dI cI cB s) (h0 : Nat) (hp : Nat) (hs : Nat) (hh : Nat) (hc : Nat) (kp : Nat) (rt : Nat) (cd : Nat) (si : Nat) (k1 : Nat) (k2 : Nat) (k3 : Nat) (k4 : Nat) (k5 : Nat) (mo : Nat) (m1 : Nat) (m2 : Nat) (m3 : Nat) (m4 : Nat) (m5 : Nat) (pg : Nat) (m6 : Nat) (m7 : Nat) (m8 : Nat) (m9 : Nat) (m10 : Nat) (m11 : Nat) (m12 : Nat) (H : Heap) (locs : List Loc) (ls : Array Slot) (hP : va_P (dC, dI) vwCl [(h0, .inr (6, [.ref hp, .ref hs, .ref hh, .ref hc, .ref kp, .ref rt, .int 0])), (hp, .inr (2, [.ref cd, .int 0])), (cd, .inl (cI, 24, .inl (fun _ => 0))), (hs, .inr (4, [.ref hh, .ref hc, .ref si])), (hh, .inr (1, [.int 0, .int 0, .int 0])), (hc, .inr (0, [.int (-1), .int 0, .int 0, .ref k1, .ref k2, .ref k3, .ref k4, .ref k5])), (mo, .inr (7, [.int 0, .int 0, .int 0, .int (-1), .int (-1), .int 0, .int 0, .ref m1, .ref m2, .ref m3, .ref m4, .ref m5, .int 0, .ref pg, .int 0, .int 0, .ref m6, .ref m7, .ref m8, .long 0, .int 0, .int 0, .int 0, .int 0, .int 0, .int 0, .ref m9, .ref m10, .ref m11, .ref m12, .long 0])), (pg, .inl (cB, 24, .inl (fun _ => 0)))] H) (hD : va_D A [(h0, .inr (6, [.ref hp, .ref hs, .ref hh, .ref hc, .ref kp, .ref rt, .int 0])), (hp, .inr (2, [.ref cd, .int 0])), (cd, .inl (cI, 24, .inl (fun _ => 0))), (hs, .inr (4, [.ref hh, .ref hc, .ref si])), (hh, .inr (1, [.int 0, .int 0, .int 0])), (hc, .inr (0, [.int (-1), .int 0, .int 0, .ref k1, .ref k2, .ref k3, .ref k4, .ref k5])), (mo, .inr (7, [.int 0, .int 0, .int 0, .int (-1), .int (-1), .int 0, .int 0, .ref m1, .ref m2, .ref m3, .ref m4, .ref m5, .int 0, .ref pg, .int 0, .int 0, .ref m6, .ref m7, .ref m8, .long 0, .int 0, .int 0, .int 0, .int 0, .int 0, .int 0, .ref m9, .ref m10, .ref m11, .ref m12, .long 0])), (pg, .inl (cB, 24, .inl (fun _ => 0)))]) (hS : va_S A s.heap H locs) (hl : lv_has ls 4 [(0, .ref b), (1, .ref h0), (2, .ref mo), (3, .int 0)]) : W p l e room_1 s m #[Value.ref b] below meth c H locs 38 1433 (lw_Z below #[Value.ref b] s) (F0 m 172 ls []) := by
  have hK := hN.1
  refine lv_aload_n hx hb dL_law_172 rfl (lv_at hl 1 rfl) ?_
  refine vp_callSi (cz_run (va_runV (As := []) (rest := []) ⟨hx, hb, hml, hown, hts⟩ (c_X6_fault l dC dI cI cB h0 hp hs hh hc kp rt cd ) (cwV 0 hts gL_law_X6_fault rfl rfl rfl (by decide +kernel) ⟨Nat.le_of_ble_eq_true rfl, Nat.le_of_ble_eq_true rfl⟩) (cz_pV (hP.sub (ws' := [(h0, .inr (6, [.ref hp, .ref hs, .ref hh, .ref hc, .ref kp, .ref rt, .int 0])), (hp, .inr (2, [.ref cd, .int 0]))]) [0, 1] rfl) hN (va_recv hK (hP.sub (ws' := [(h0, .inr (6, [.ref hp, .ref hs, .ref hh, .ref hc, .ref kp, .ref rt, .int 0])), (hp, .inr (2, [.ref cd, .int 0]))]) [0, 1] rfl) (ci := 6) (q0 := 0) rfl rfl)) rfl rfl hl.1 rfl (lv_room (Nat.le_of_ble_eq_true rfl)) dL_law_173 ⟨Nat.le_of_ble_eq_true rfl, Nat.le_of_ble_eq_true rfl⟩)) (fun r_1 hr_1 => ?_)
  obtain rfl : r_1 = 0 := hr_1
  refine lv_aload_n hx hb dL_law_176 rfl (lv_at hl 2 rfl) ?_
  have hPc := hP.sub (ws' := [(mo, .inr (7, [.int 0, .int 0, .int 0, .int (-1), .int (-1), .int 0, .int 0, .ref m1, .ref m2, .ref m3, .ref m4, .ref m5, .int 0, .ref pg, .int 0, .int 0, .ref m6, .ref m7, .ref m8, .long 0, .int 0, .int 0, .int 0, .int 0, .int 0, .int 0, .ref m9, .ref m10, .ref m11, .ref m12, .long 0]))]) [6] rfl
  have hDc := hD.sub (ws' := [(mo, .inr (7, [.int 0, .int 0, .int 0, .int (-1), .int (-1), .int 0, .int 0, .ref m1, .ref m2, .ref m3, .ref m4, .ref m5, .int 0, .ref pg, .int 0, .int 0, .ref m6, .ref m7, .ref m8, .long 0, .int 0, .int 0, .int 0, .int 0, .int 0, .int 0, .ref m9, .ref m10, .ref m11, .ref m12, .long 0]))]) [6] (by decide) rfl
  have hFc := va_free (wc := [(mo, .inr (7, [.int 0, .int 0, .int 0, .int (-1), .int (-1), .int 0, .int 0, .ref m1, .ref m2, .ref m3, .ref m4, .ref m5, .int 0, .ref pg, .int 0, .int 0, .ref m6, .ref m7, .ref m8, .long 0, .int 0, .int 0, .int 0, .int 0, .int 0, .int 0, .ref m9, .ref m10, .ref m11, .ref m12, .long 0]))]) hD hS hA [6] rfl
  refine va_calli (va_runV (As := []) (rest := [.int 0]) ⟨hx, hb, hml, hown, hts⟩ (c_X7_fault l dC dI cI cB mo m1 m2 m3 m4 m5 pg m6 m7 m8 m9 m10 m11 m12 H.size ) (cwV 0 hts gL_law_X7_fault rfl rfl rfl (by decide +kernel) ⟨Nat.le_of_ble_eq_true rfl, Nat.le_of_ble_eq_true rfl⟩) (cz_mV hPc hN hDc (va_recv hK hPc (ci := 7) (q0 := 0) rfl rfl)) rfl rfl hl.1 rfl (lv_room (Nat.le_of_ble_eq_true rfl)) dL_law_177 ⟨Nat.le_of_ble_eq_true rfl, Nat.le_of_ble_eq_true rfl⟩) hS (fun q _ h => hFc q h) hFc (fun r_2 u t H1 locs ht hvm hr_2 hB hz1 hk1 hS => ?_)
  have hP1 : va_P (dC, dI) vwCl [] H1 := fun k q h => by simp at h
  have hD1 : va_D (va_A [(mo, .inr (7, [.int 0, .int 0, .int 0, .int (-1), .int (-1), .int 0, .int 0, .ref m1, .ref m2, .ref m3, .ref m4, .ref m5, .int 0, .ref pg, .int 0, .int 0, .ref m6, .ref m7, .ref m8, .long 0, .int 0, .int 0, .int 0, .int 0, .int 0, .int 0, .ref m9, .ref m10, .ref m11, .ref m12, .long 0]))] H.size) [] := ⟨fun i j p q h => by simp at h, fun k q h => by simp at h⟩
  obtain ⟨hP, hD⟩ := va_join (wr := [(h0, .inr (6, [.ref hp, .ref hs, .ref hh, .ref hc, .ref kp, .ref rt, .int 0])), (hp, .inr (2, [.ref cd, .int 0])), (cd, .inl (cI, 24, .inl (fun _ => 0))), (hs, .inr (4, [.ref hh, .ref hc, .ref si])), (hh, .inr (1, [.int 0, .int 0, .int 0])), (hc, .inr (0, [.int (-1), .int 0, .int 0, .ref k1, .ref k2, .ref k3, .ref k4, .ref k5])), (pg, .inl (cB, 24, .inl (fun _ => 0)))]) (w1 := []) hP hD [6] [0, 1, 2, 3, 4, 5, 7] rfl rfl (by decide) (by decide) hk1 hFc hP1 hD1
  generalize H1 = H at hP hS ⊢
  have hP : va_P (dC, dI) vwCl [(h0, .inr (6, [.ref hp, .ref hs, .ref hh, .ref hc, .ref kp, .ref rt, .int 0])), (hp, .inr (2, [.ref cd, .int 0])), (cd, .inl (cI, 24, .inl (fun _ => 0))), (hs, .inr (4, [.ref hh, .ref hc, .ref si])), (hh, .inr (1, [.int 0, .int 0, .int 0])), (hc, .inr (0, [.int (-1), .int 0, .int 0, .ref k1, .ref k2, .ref k3, .ref k4, .ref k5])), (pg, .inl (cB, 24, .inl (fun _ => 0)))] H := hP
  have hD : va_D A [(h0, .inr (6, [.ref hp, .ref hs, .ref hh, .ref hc, .ref kp, .ref rt, .int 0])), (hp, .inr (2, [.ref cd, .int 0])), (cd, .inl (cI, 24, .inl (fun _ => 0))), (hs, .inr (4, [.ref hh, .ref hc, .ref si])), (hh, .inr (1, [.int 0, .int 0, .int 0])), (hc, .inr (0, [.int (-1), .int 0, .int 0, .ref k1, .ref k2, .ref k3, .ref k4, .ref k5])), (pg, .inl (cB, 24, .inl (fun _ => 0)))] := hD
  obtain rfl : r_2 = 0 := hr_2
  refine lv_icmp_eq (tgt := 673) hx hb dL_law_180 (by decide) (fun _ => ?_) (fun c => absurd (by decide) c)
  have hP := hP.sub (ws' := []) [] rfl
  have hD := hD.sub (ws' := []) [] (by decide) rfl
  exact law_end hx hb hr hml hown hts hX hbl hbA hA hAr hlocks hN H locs ls hP hD hS (lv_sub hl [0, 3] rfl)

set_option maxHeartbeats 4000000 in
set_option maxRecDepth 100000 in
theorem law_case3 {p : Program} {l : Launch} {e : Env} {s : State} {m : MethodId} {below : List Frame} {meth : Method} {c : Code} {dC : Nat → ClassId} {dI : Nat → Nat → Nat} {cI cB : ClassId} {A : Nat → Prop} {b : Nat} {xs : Nat → Int32} (hx : p.tables.exec = Jvm.exec) (hb : c.code = cL_law) (hr : meth.sig.returnType = ret) (hml : c.maxLocals = 4) (hown : s.vm.findClass RL = some m.cls) (hts : ∀ w ∈ wsL_law, w.before #[Value.ref b] s = true) (hX : va_X b 4 xs s s.heap) (hbl : b < s.heap.size) (hbA : ¬ A b) (hA : ∀ q : Nat, s.heap.size ≤ q → A q) (hAr : ∀ q : Nat, A q → s.heap.size ≤ q) (hlocks : meth.locks = false) (hN : cz_N dC dI cI cB s) (h0 : Nat) (hp : Nat) (hs : Nat) (hh : Nat) (hc : Nat) (kp : Nat) (rt : Nat) (cd : Nat) (si : Nat) (k1 : Nat) (k2 : Nat) (k3 : Nat) (k4 : Nat) (k5 : Nat) (mo : Nat) (m1 : Nat) (m2 : Nat) (m3 : Nat) (m4 : Nat) (m5 : Nat) (pg : Nat) (m6 : Nat) (m7 : Nat) (m8 : Nat) (m9 : Nat) (m10 : Nat) (m11 : Nat) (m12 : Nat) (H : Heap) (locs : List Loc) (ls : Array Slot) (hP : va_P (dC, dI) vwCl [(h0, .inr (6, [.ref hp, .ref hs, .ref hh, .ref hc, .ref kp, .ref rt, .int 0])), (hp, .inr (2, [.ref cd, .int 0])), (cd, .inl (cI, 24, .inl (fun _ => 0))), (hs, .inr (4, [.ref hh, .ref hc, .ref si])), (hh, .inr (1, [.int 0, .int 0, .int 0])), (hc, .inr (0, [.int (-1), .int 0, .int 0, .ref k1, .ref k2, .ref k3, .ref k4, .ref k5])), (mo, .inr (7, [.int 0, .int 0, .int 0, .int (-1), .int (-1), .int 0, .int 0, .ref m1, .ref m2, .ref m3, .ref m4, .ref m5, .int 0, .ref pg, .int 0, .int 0, .ref m6, .ref m7, .ref m8, .long 0, .int 0, .int 0, .int 0, .int 0, .int 0, .int 0, .ref m9, .ref m10, .ref m11, .ref m12, .long 0])), (pg, .inl (cB, 24, .inl (fun _ => 0)))] H) (hD : va_D A [(h0, .inr (6, [.ref hp, .ref hs, .ref hh, .ref hc, .ref kp, .ref rt, .int 0])), (hp, .inr (2, [.ref cd, .int 0])), (cd, .inl (cI, 24, .inl (fun _ => 0))), (hs, .inr (4, [.ref hh, .ref hc, .ref si])), (hh, .inr (1, [.int 0, .int 0, .int 0])), (hc, .inr (0, [.int (-1), .int 0, .int 0, .ref k1, .ref k2, .ref k3, .ref k4, .ref k5])), (mo, .inr (7, [.int 0, .int 0, .int 0, .int (-1), .int (-1), .int 0, .int 0, .ref m1, .ref m2, .ref m3, .ref m4, .ref m5, .int 0, .ref pg, .int 0, .int 0, .ref m6, .ref m7, .ref m8, .long 0, .int 0, .int 0, .int 0, .int 0, .int 0, .int 0, .ref m9, .ref m10, .ref m11, .ref m12, .long 0])), (pg, .inl (cB, 24, .inl (fun _ => 0)))]) (hS : va_S A s.heap H locs) (hl : lv_has ls 4 [(0, .ref b), (1, .ref h0), (2, .ref mo), (3, .int 0)]) : W p l e room_1 s m #[Value.ref b] below meth c H locs 38 1433 (lw_Z below #[Value.ref b] s) (F0 m 185 ls []) := by
  have hK := hN.1
  refine lv_aload_n hx hb dL_law_185 rfl (lv_at hl 1 rfl) ?_
  refine vp_callSi (cz_run (va_runV (As := []) (rest := []) ⟨hx, hb, hml, hown, hts⟩ (c_X6_hall l dC dI cI cB h0 hp hs hh hc kp rt cd ) (cwV 0 hts gL_law_X6_hall rfl rfl rfl (by decide +kernel) ⟨Nat.le_of_ble_eq_true rfl, Nat.le_of_ble_eq_true rfl⟩) (cz_pV (hP.sub (ws' := [(h0, .inr (6, [.ref hp, .ref hs, .ref hh, .ref hc, .ref kp, .ref rt, .int 0])), (hp, .inr (2, [.ref cd, .int 0]))]) [0, 1] rfl) hN (va_recv hK (hP.sub (ws' := [(h0, .inr (6, [.ref hp, .ref hs, .ref hh, .ref hc, .ref kp, .ref rt, .int 0])), (hp, .inr (2, [.ref cd, .int 0]))]) [0, 1] rfl) (ci := 6) (q0 := 0) rfl rfl)) rfl rfl hl.1 rfl (lv_room (Nat.le_of_ble_eq_true rfl)) dL_law_186 ⟨Nat.le_of_ble_eq_true rfl, Nat.le_of_ble_eq_true rfl⟩)) (fun r_1 hr_1 => ?_)
  obtain rfl : r_1 = (-103) := hr_1
  refine lv_aload_n hx hb dL_law_189 rfl (lv_at hl 2 rfl) ?_
  have hPc := hP.sub (ws' := [(mo, .inr (7, [.int 0, .int 0, .int 0, .int (-1), .int (-1), .int 0, .int 0, .ref m1, .ref m2, .ref m3, .ref m4, .ref m5, .int 0, .ref pg, .int 0, .int 0, .ref m6, .ref m7, .ref m8, .long 0, .int 0, .int 0, .int 0, .int 0, .int 0, .int 0, .ref m9, .ref m10, .ref m11, .ref m12, .long 0]))]) [6] rfl
  have hDc := hD.sub (ws' := [(mo, .inr (7, [.int 0, .int 0, .int 0, .int (-1), .int (-1), .int 0, .int 0, .ref m1, .ref m2, .ref m3, .ref m4, .ref m5, .int 0, .ref pg, .int 0, .int 0, .ref m6, .ref m7, .ref m8, .long 0, .int 0, .int 0, .int 0, .int 0, .int 0, .int 0, .ref m9, .ref m10, .ref m11, .ref m12, .long 0]))]) [6] (by decide) rfl
  have hFc := va_free (wc := [(mo, .inr (7, [.int 0, .int 0, .int 0, .int (-1), .int (-1), .int 0, .int 0, .ref m1, .ref m2, .ref m3, .ref m4, .ref m5, .int 0, .ref pg, .int 0, .int 0, .ref m6, .ref m7, .ref m8, .long 0, .int 0, .int 0, .int 0, .int 0, .int 0, .int 0, .ref m9, .ref m10, .ref m11, .ref m12, .long 0]))]) hD hS hA [6] rfl
  refine va_calli (va_runV (As := []) (rest := [.int (-103)]) ⟨hx, hb, hml, hown, hts⟩ (c_X7_hall l dC dI cI cB mo m1 m2 m3 m4 m5 pg m6 m7 m8 m9 m10 m11 m12 H.size ) (cwV 0 hts gL_law_X7_hall rfl rfl rfl (by decide +kernel) ⟨Nat.le_of_ble_eq_true rfl, Nat.le_of_ble_eq_true rfl⟩) (cz_mV hPc hN hDc (va_recv hK hPc (ci := 7) (q0 := 0) rfl rfl)) rfl rfl hl.1 rfl (lv_room (Nat.le_of_ble_eq_true rfl)) dL_law_190 ⟨Nat.le_of_ble_eq_true rfl, Nat.le_of_ble_eq_true rfl⟩) hS (fun q _ h => hFc q h) hFc (fun r_2 u t H1 locs ht hvm hr_2 hB hz1 hk1 hS => ?_)
  have hP1 : va_P (dC, dI) vwCl [] H1 := fun k q h => by simp at h
  have hD1 : va_D (va_A [(mo, .inr (7, [.int 0, .int 0, .int 0, .int (-1), .int (-1), .int 0, .int 0, .ref m1, .ref m2, .ref m3, .ref m4, .ref m5, .int 0, .ref pg, .int 0, .int 0, .ref m6, .ref m7, .ref m8, .long 0, .int 0, .int 0, .int 0, .int 0, .int 0, .int 0, .ref m9, .ref m10, .ref m11, .ref m12, .long 0]))] H.size) [] := ⟨fun i j p q h => by simp at h, fun k q h => by simp at h⟩
  obtain ⟨hP, hD⟩ := va_join (wr := [(h0, .inr (6, [.ref hp, .ref hs, .ref hh, .ref hc, .ref kp, .ref rt, .int 0])), (hp, .inr (2, [.ref cd, .int 0])), (cd, .inl (cI, 24, .inl (fun _ => 0))), (hs, .inr (4, [.ref hh, .ref hc, .ref si])), (hh, .inr (1, [.int 0, .int 0, .int 0])), (hc, .inr (0, [.int (-1), .int 0, .int 0, .ref k1, .ref k2, .ref k3, .ref k4, .ref k5])), (pg, .inl (cB, 24, .inl (fun _ => 0)))]) (w1 := []) hP hD [6] [0, 1, 2, 3, 4, 5, 7] rfl rfl (by decide) (by decide) hk1 hFc hP1 hD1
  generalize H1 = H at hP hS ⊢
  have hP : va_P (dC, dI) vwCl [(h0, .inr (6, [.ref hp, .ref hs, .ref hh, .ref hc, .ref kp, .ref rt, .int 0])), (hp, .inr (2, [.ref cd, .int 0])), (cd, .inl (cI, 24, .inl (fun _ => 0))), (hs, .inr (4, [.ref hh, .ref hc, .ref si])), (hh, .inr (1, [.int 0, .int 0, .int 0])), (hc, .inr (0, [.int (-1), .int 0, .int 0, .ref k1, .ref k2, .ref k3, .ref k4, .ref k5])), (pg, .inl (cB, 24, .inl (fun _ => 0)))] H := hP
  have hD : va_D A [(h0, .inr (6, [.ref hp, .ref hs, .ref hh, .ref hc, .ref kp, .ref rt, .int 0])), (hp, .inr (2, [.ref cd, .int 0])), (cd, .inl (cI, 24, .inl (fun _ => 0))), (hs, .inr (4, [.ref hh, .ref hc, .ref si])), (hh, .inr (1, [.int 0, .int 0, .int 0])), (hc, .inr (0, [.int (-1), .int 0, .int 0, .ref k1, .ref k2, .ref k3, .ref k4, .ref k5])), (pg, .inl (cB, 24, .inl (fun _ => 0)))] := hD
  obtain rfl : r_2 = (-103) := hr_2
  refine lv_icmp_eq (tgt := 673) hx hb dL_law_193 (by decide) (fun _ => ?_) (fun c => absurd (by decide) c)
  have hP := hP.sub (ws' := []) [] rfl
  have hD := hD.sub (ws' := []) [] (by decide) rfl
  exact law_end hx hb hr hml hown hts hX hbl hbA hA hAr hlocks hN H locs ls hP hD hS (lv_sub hl [0, 3] rfl)

set_option maxHeartbeats 4000000 in
set_option maxRecDepth 100000 in
theorem law_case4 {p : Program} {l : Launch} {e : Env} {s : State} {m : MethodId} {below : List Frame} {meth : Method} {c : Code} {dC : Nat → ClassId} {dI : Nat → Nat → Nat} {cI cB : ClassId} {A : Nat → Prop} {b : Nat} {xs : Nat → Int32} (hx : p.tables.exec = Jvm.exec) (hb : c.code = cL_law) (hr : meth.sig.returnType = ret) (hml : c.maxLocals = 4) (hown : s.vm.findClass RL = some m.cls) (hts : ∀ w ∈ wsL_law, w.before #[Value.ref b] s = true) (hX : va_X b 4 xs s s.heap) (hbl : b < s.heap.size) (hbA : ¬ A b) (hA : ∀ q : Nat, s.heap.size ≤ q → A q) (hAr : ∀ q : Nat, A q → s.heap.size ≤ q) (hlocks : meth.locks = false) (hN : cz_N dC dI cI cB s) (h0 : Nat) (hp : Nat) (hs : Nat) (hh : Nat) (hc : Nat) (kp : Nat) (rt : Nat) (cd : Nat) (si : Nat) (k1 : Nat) (k2 : Nat) (k3 : Nat) (k4 : Nat) (k5 : Nat) (mo : Nat) (m1 : Nat) (m2 : Nat) (m3 : Nat) (m4 : Nat) (m5 : Nat) (pg : Nat) (m6 : Nat) (m7 : Nat) (m8 : Nat) (m9 : Nat) (m10 : Nat) (m11 : Nat) (m12 : Nat) (H : Heap) (locs : List Loc) (ls : Array Slot) (hP : va_P (dC, dI) vwCl [(h0, .inr (6, [.ref hp, .ref hs, .ref hh, .ref hc, .ref kp, .ref rt, .int 0])), (hp, .inr (2, [.ref cd, .int 0])), (cd, .inl (cI, 24, .inl (fun _ => 0))), (hs, .inr (4, [.ref hh, .ref hc, .ref si])), (hh, .inr (1, [.int 0, .int 0, .int 0])), (hc, .inr (0, [.int (-1), .int 0, .int 0, .ref k1, .ref k2, .ref k3, .ref k4, .ref k5])), (mo, .inr (7, [.int 0, .int 0, .int 0, .int (-1), .int (-1), .int 0, .int 0, .ref m1, .ref m2, .ref m3, .ref m4, .ref m5, .int 0, .ref pg, .int 0, .int 0, .ref m6, .ref m7, .ref m8, .long 0, .int 0, .int 0, .int 0, .int 0, .int 0, .int 0, .ref m9, .ref m10, .ref m11, .ref m12, .long 0])), (pg, .inl (cB, 24, .inl (fun _ => 0)))] H) (hD : va_D A [(h0, .inr (6, [.ref hp, .ref hs, .ref hh, .ref hc, .ref kp, .ref rt, .int 0])), (hp, .inr (2, [.ref cd, .int 0])), (cd, .inl (cI, 24, .inl (fun _ => 0))), (hs, .inr (4, [.ref hh, .ref hc, .ref si])), (hh, .inr (1, [.int 0, .int 0, .int 0])), (hc, .inr (0, [.int (-1), .int 0, .int 0, .ref k1, .ref k2, .ref k3, .ref k4, .ref k5])), (mo, .inr (7, [.int 0, .int 0, .int 0, .int (-1), .int (-1), .int 0, .int 0, .ref m1, .ref m2, .ref m3, .ref m4, .ref m5, .int 0, .ref pg, .int 0, .int 0, .ref m6, .ref m7, .ref m8, .long 0, .int 0, .int 0, .int 0, .int 0, .int 0, .int 0, .ref m9, .ref m10, .ref m11, .ref m12, .long 0])), (pg, .inl (cB, 24, .inl (fun _ => 0)))]) (hS : va_S A s.heap H locs) (hl : lv_has ls 4 [(0, .ref b), (1, .ref h0), (2, .ref mo), (3, .int 0)]) : W p l e room_1 s m #[Value.ref b] below meth c H locs 38 1433 (lw_Z below #[Value.ref b] s) (F0 m 198 ls []) := by
  have hK := hN.1
  refine lv_aload_n hx hb dL_law_198 rfl (lv_at hl 1 rfl) ?_
  refine lv_aload_n hx hb dL_law_199 rfl (lv_at hl 0 rfl) ?_
  refine lv_iload_n hx hb dL_law_200 rfl (lv_at hl 3 rfl) ?_
  refine lv_iconst (v := 1) hx hb dL_law_201 (by decide) ?_
  refine lv_iadd hx hb dL_law_202 ?_
  refine cz_i (y := 1) (by decide) ?_
  refine va_sld hx hb hX hbl hbA hS (by unfold vp_in; decide) dL_law_203 ?_
  refine cz_i (y := xs 1) (congrArg xs (by decide)) ?_
  refine vp_callSi (cz_run (va_runV (As := [.int (xs 1)]) (rest := []) ⟨hx, hb, hml, hown, hts⟩ (c_X6_on l dC dI cI cB h0 (xs 1) hp hs hh hc kp rt ) (cwV 1 hts gL_law_X6_on rfl rfl rfl (by decide +kernel) ⟨Nat.le_of_ble_eq_true rfl, Nat.le_of_ble_eq_true rfl⟩) (cz_pV (hP.sub (ws' := [(h0, .inr (6, [.ref hp, .ref hs, .ref hh, .ref hc, .ref kp, .ref rt, .int 0])), (hh, .inr (1, [.int 0, .int 0, .int 0]))]) [0, 4] rfl) hN (va_recv hK (hP.sub (ws' := [(h0, .inr (6, [.ref hp, .ref hs, .ref hh, .ref hc, .ref kp, .ref rt, .int 0])), (hh, .inr (1, [.int 0, .int 0, .int 0]))]) [0, 4] rfl) (ci := 6) (q0 := 0) rfl rfl)) rfl rfl hl.1 rfl (lv_room (Nat.le_of_ble_eq_true rfl)) dL_law_204 ⟨Nat.le_of_ble_eq_true rfl, Nat.le_of_ble_eq_true rfl⟩)) (fun r_1 hr_1 => ?_)
  refine lv_aload_n hx hb dL_law_207 rfl (lv_at hl 2 rfl) ?_
  refine lv_aload_n hx hb dL_law_208 rfl (lv_at hl 0 rfl) ?_
  refine lv_iload_n hx hb dL_law_209 rfl (lv_at hl 3 rfl) ?_
  refine lv_iconst (v := 1) hx hb dL_law_210 (by decide) ?_
  refine lv_iadd hx hb dL_law_211 ?_
  refine cz_i (y := 1) (by decide) ?_
  refine va_sld hx hb hX hbl hbA hS (by unfold vp_in; decide) dL_law_212 ?_
  refine cz_i (y := xs 1) (congrArg xs (by decide)) ?_
  refine vp_callSi (cz_run (va_runV (As := [.int (xs 1)]) (rest := [.int r_1]) ⟨hx, hb, hml, hown, hts⟩ (c_X7_on l dC dI cI cB mo (xs 1) m1 m2 m3 m4 m5 pg m6 m7 m8 m9 m10 m11 m12 ) (cwV 1 hts gL_law_X7_on rfl rfl rfl (by decide +kernel) ⟨Nat.le_of_ble_eq_true rfl, Nat.le_of_ble_eq_true rfl⟩) (cz_pV (hP.sub (ws' := [(mo, .inr (7, [.int 0, .int 0, .int 0, .int (-1), .int (-1), .int 0, .int 0, .ref m1, .ref m2, .ref m3, .ref m4, .ref m5, .int 0, .ref pg, .int 0, .int 0, .ref m6, .ref m7, .ref m8, .long 0, .int 0, .int 0, .int 0, .int 0, .int 0, .int 0, .ref m9, .ref m10, .ref m11, .ref m12, .long 0]))]) [6] rfl) hN (va_recv hK (hP.sub (ws' := [(mo, .inr (7, [.int 0, .int 0, .int 0, .int (-1), .int (-1), .int 0, .int 0, .ref m1, .ref m2, .ref m3, .ref m4, .ref m5, .int 0, .ref pg, .int 0, .int 0, .ref m6, .ref m7, .ref m8, .long 0, .int 0, .int 0, .int 0, .int 0, .int 0, .int 0, .ref m9, .ref m10, .ref m11, .ref m12, .long 0]))]) [6] rfl) (ci := 7) (q0 := 0) rfl rfl)) rfl rfl hl.1 rfl (lv_room (Nat.le_of_ble_eq_true rfl)) dL_law_213 ⟨Nat.le_of_ble_eq_true rfl, Nat.le_of_ble_eq_true rfl⟩)) (fun r_2 hr_2 => ?_)
  refine lv_icmp_eq (tgt := 673) hx hb dL_law_216 (by decide) (fun _ => ?_) (fun c => absurd (hr_1.trans hr_2.symm) c)
  have hP := hP.sub (ws' := []) [] rfl
  have hD := hD.sub (ws' := []) [] (by decide) rfl
  exact law_end hx hb hr hml hown hts hX hbl hbA hA hAr hlocks hN H locs ls hP hD hS (lv_sub hl [0, 3] rfl)

set_option maxHeartbeats 4000000 in
set_option maxRecDepth 100000 in
theorem law_case5 {p : Program} {l : Launch} {e : Env} {s : State} {m : MethodId} {below : List Frame} {meth : Method} {c : Code} {dC : Nat → ClassId} {dI : Nat → Nat → Nat} {cI cB : ClassId} {A : Nat → Prop} {b : Nat} {xs : Nat → Int32} (hx : p.tables.exec = Jvm.exec) (hb : c.code = cL_law) (hr : meth.sig.returnType = ret) (hml : c.maxLocals = 4) (hown : s.vm.findClass RL = some m.cls) (hts : ∀ w ∈ wsL_law, w.before #[Value.ref b] s = true) (hX : va_X b 4 xs s s.heap) (hbl : b < s.heap.size) (hbA : ¬ A b) (hA : ∀ q : Nat, s.heap.size ≤ q → A q) (hAr : ∀ q : Nat, A q → s.heap.size ≤ q) (hlocks : meth.locks = false) (hN : cz_N dC dI cI cB s) (h0 : Nat) (hp : Nat) (hs : Nat) (hh : Nat) (hc : Nat) (kp : Nat) (rt : Nat) (cd : Nat) (si : Nat) (k1 : Nat) (k2 : Nat) (k3 : Nat) (k4 : Nat) (k5 : Nat) (mo : Nat) (m1 : Nat) (m2 : Nat) (m3 : Nat) (m4 : Nat) (m5 : Nat) (pg : Nat) (m6 : Nat) (m7 : Nat) (m8 : Nat) (m9 : Nat) (m10 : Nat) (m11 : Nat) (m12 : Nat) (H : Heap) (locs : List Loc) (ls : Array Slot) (hP : va_P (dC, dI) vwCl [(h0, .inr (6, [.ref hp, .ref hs, .ref hh, .ref hc, .ref kp, .ref rt, .int 0])), (hp, .inr (2, [.ref cd, .int 0])), (cd, .inl (cI, 24, .inl (fun _ => 0))), (hs, .inr (4, [.ref hh, .ref hc, .ref si])), (hh, .inr (1, [.int 0, .int 0, .int 0])), (hc, .inr (0, [.int (-1), .int 0, .int 0, .ref k1, .ref k2, .ref k3, .ref k4, .ref k5])), (mo, .inr (7, [.int 0, .int 0, .int 0, .int (-1), .int (-1), .int 0, .int 0, .ref m1, .ref m2, .ref m3, .ref m4, .ref m5, .int 0, .ref pg, .int 0, .int 0, .ref m6, .ref m7, .ref m8, .long 0, .int 0, .int 0, .int 0, .int 0, .int 0, .int 0, .ref m9, .ref m10, .ref m11, .ref m12, .long 0])), (pg, .inl (cB, 24, .inl (fun _ => 0)))] H) (hD : va_D A [(h0, .inr (6, [.ref hp, .ref hs, .ref hh, .ref hc, .ref kp, .ref rt, .int 0])), (hp, .inr (2, [.ref cd, .int 0])), (cd, .inl (cI, 24, .inl (fun _ => 0))), (hs, .inr (4, [.ref hh, .ref hc, .ref si])), (hh, .inr (1, [.int 0, .int 0, .int 0])), (hc, .inr (0, [.int (-1), .int 0, .int 0, .ref k1, .ref k2, .ref k3, .ref k4, .ref k5])), (mo, .inr (7, [.int 0, .int 0, .int 0, .int (-1), .int (-1), .int 0, .int 0, .ref m1, .ref m2, .ref m3, .ref m4, .ref m5, .int 0, .ref pg, .int 0, .int 0, .ref m6, .ref m7, .ref m8, .long 0, .int 0, .int 0, .int 0, .int 0, .int 0, .int 0, .ref m9, .ref m10, .ref m11, .ref m12, .long 0])), (pg, .inl (cB, 24, .inl (fun _ => 0)))]) (hS : va_S A s.heap H locs) (hl : lv_has ls 4 [(0, .ref b), (1, .ref h0), (2, .ref mo), (3, .int 0)]) : W p l e room_1 s m #[Value.ref b] below meth c H locs 38 1433 (lw_Z below #[Value.ref b] s) (F0 m 221 ls []) := by
  have hK := hN.1
  refine lv_aload_n hx hb dL_law_221 rfl (lv_at hl 1 rfl) ?_
  refine lv_aload_n hx hb dL_law_222 rfl (lv_at hl 0 rfl) ?_
  refine lv_iload_n hx hb dL_law_223 rfl (lv_at hl 3 rfl) ?_
  refine lv_iconst (v := 1) hx hb dL_law_224 (by decide) ?_
  refine lv_iadd hx hb dL_law_225 ?_
  refine cz_i (y := 1) (by decide) ?_
  refine va_sld hx hb hX hbl hbA hS (by unfold vp_in; decide) dL_law_226 ?_
  refine cz_i (y := xs 1) (congrArg xs (by decide)) ?_
  refine lv_aload_n hx hb dL_law_227 rfl (lv_at hl 0 rfl) ?_
  refine lv_iload_n hx hb dL_law_228 rfl (lv_at hl 3 rfl) ?_
  refine lv_iconst (v := 2) hx hb dL_law_229 (by decide) ?_
  refine lv_iadd hx hb dL_law_230 ?_
  refine cz_i (y := 2) (by decide) ?_
  refine va_sld hx hb hX hbl hbA hS (by unfold vp_in; decide) dL_law_231 ?_
  refine cz_i (y := xs 2) (congrArg xs (by decide)) ?_
  refine vp_callSi (cz_run (va_runV (As := [.int (xs 1), .int (xs 2)]) (rest := []) ⟨hx, hb, hml, hown, hts⟩ (c_X6_duke l dC dI cI cB h0 (xs 1) (xs 2) hp hs hh hc kp rt ) (cwV 2 hts gL_law_X6_duke rfl rfl rfl (by decide +kernel) ⟨Nat.le_of_ble_eq_true rfl, Nat.le_of_ble_eq_true rfl⟩) (cz_pV (hP.sub (ws' := [(h0, .inr (6, [.ref hp, .ref hs, .ref hh, .ref hc, .ref kp, .ref rt, .int 0])), (hh, .inr (1, [.int 0, .int 0, .int 0]))]) [0, 4] rfl) hN (va_recv hK (hP.sub (ws' := [(h0, .inr (6, [.ref hp, .ref hs, .ref hh, .ref hc, .ref kp, .ref rt, .int 0])), (hh, .inr (1, [.int 0, .int 0, .int 0]))]) [0, 4] rfl) (ci := 6) (q0 := 0) rfl rfl)) rfl rfl hl.1 rfl (lv_room (Nat.le_of_ble_eq_true rfl)) dL_law_232 ⟨Nat.le_of_ble_eq_true rfl, Nat.le_of_ble_eq_true rfl⟩)) (fun r_1 hr_1 => ?_)
  refine lv_aload_n hx hb dL_law_235 rfl (lv_at hl 2 rfl) ?_
  refine lv_aload_n hx hb dL_law_236 rfl (lv_at hl 0 rfl) ?_
  refine lv_iload_n hx hb dL_law_237 rfl (lv_at hl 3 rfl) ?_
  refine lv_iconst (v := 1) hx hb dL_law_238 (by decide) ?_
  refine lv_iadd hx hb dL_law_239 ?_
  refine cz_i (y := 1) (by decide) ?_
  refine va_sld hx hb hX hbl hbA hS (by unfold vp_in; decide) dL_law_240 ?_
  refine cz_i (y := xs 1) (congrArg xs (by decide)) ?_
  refine lv_aload_n hx hb dL_law_241 rfl (lv_at hl 0 rfl) ?_
  refine lv_iload_n hx hb dL_law_242 rfl (lv_at hl 3 rfl) ?_
  refine lv_iconst (v := 2) hx hb dL_law_243 (by decide) ?_
  refine lv_iadd hx hb dL_law_244 ?_
  refine cz_i (y := 2) (by decide) ?_
  refine va_sld hx hb hX hbl hbA hS (by unfold vp_in; decide) dL_law_245 ?_
  refine cz_i (y := xs 2) (congrArg xs (by decide)) ?_
  refine vp_callSi (cz_run (va_runV (As := [.int (xs 1), .int (xs 2)]) (rest := [.int r_1]) ⟨hx, hb, hml, hown, hts⟩ (c_X7_duke l dC dI cI cB mo (xs 1) (xs 2) m1 m2 m3 m4 m5 pg m6 m7 m8 m9 m10 m11 m12 ) (cwV 2 hts gL_law_X7_duke rfl rfl rfl (by decide +kernel) ⟨Nat.le_of_ble_eq_true rfl, Nat.le_of_ble_eq_true rfl⟩) (cz_pV (hP.sub (ws' := [(mo, .inr (7, [.int 0, .int 0, .int 0, .int (-1), .int (-1), .int 0, .int 0, .ref m1, .ref m2, .ref m3, .ref m4, .ref m5, .int 0, .ref pg, .int 0, .int 0, .ref m6, .ref m7, .ref m8, .long 0, .int 0, .int 0, .int 0, .int 0, .int 0, .int 0, .ref m9, .ref m10, .ref m11, .ref m12, .long 0]))]) [6] rfl) hN (va_recv hK (hP.sub (ws' := [(mo, .inr (7, [.int 0, .int 0, .int 0, .int (-1), .int (-1), .int 0, .int 0, .ref m1, .ref m2, .ref m3, .ref m4, .ref m5, .int 0, .ref pg, .int 0, .int 0, .ref m6, .ref m7, .ref m8, .long 0, .int 0, .int 0, .int 0, .int 0, .int 0, .int 0, .ref m9, .ref m10, .ref m11, .ref m12, .long 0]))]) [6] rfl) (ci := 7) (q0 := 0) rfl rfl)) rfl rfl hl.1 rfl (lv_room (Nat.le_of_ble_eq_true rfl)) dL_law_246 ⟨Nat.le_of_ble_eq_true rfl, Nat.le_of_ble_eq_true rfl⟩)) (fun r_2 hr_2 => ?_)
  refine lv_icmp_eq (tgt := 673) hx hb dL_law_249 (by decide) (fun _ => ?_) (fun c => absurd (hr_1.trans hr_2.symm) c)
  have hP := hP.sub (ws' := []) [] rfl
  have hD := hD.sub (ws' := []) [] (by decide) rfl
  exact law_end hx hb hr hml hown hts hX hbl hbA hA hAr hlocks hN H locs ls hP hD hS (lv_sub hl [0, 3] rfl)

set_option maxHeartbeats 4000000 in
set_option maxRecDepth 100000 in
theorem law_case6 {p : Program} {l : Launch} {e : Env} {s : State} {m : MethodId} {below : List Frame} {meth : Method} {c : Code} {dC : Nat → ClassId} {dI : Nat → Nat → Nat} {cI cB : ClassId} {A : Nat → Prop} {b : Nat} {xs : Nat → Int32} (hx : p.tables.exec = Jvm.exec) (hb : c.code = cL_law) (hr : meth.sig.returnType = ret) (hml : c.maxLocals = 4) (hown : s.vm.findClass RL = some m.cls) (hts : ∀ w ∈ wsL_law, w.before #[Value.ref b] s = true) (hX : va_X b 4 xs s s.heap) (hbl : b < s.heap.size) (hbA : ¬ A b) (hA : ∀ q : Nat, s.heap.size ≤ q → A q) (hAr : ∀ q : Nat, A q → s.heap.size ≤ q) (hlocks : meth.locks = false) (hN : cz_N dC dI cI cB s) (h0 : Nat) (hp : Nat) (hs : Nat) (hh : Nat) (hc : Nat) (kp : Nat) (rt : Nat) (cd : Nat) (si : Nat) (k1 : Nat) (k2 : Nat) (k3 : Nat) (k4 : Nat) (k5 : Nat) (mo : Nat) (m1 : Nat) (m2 : Nat) (m3 : Nat) (m4 : Nat) (m5 : Nat) (pg : Nat) (m6 : Nat) (m7 : Nat) (m8 : Nat) (m9 : Nat) (m10 : Nat) (m11 : Nat) (m12 : Nat) (H : Heap) (locs : List Loc) (ls : Array Slot) (hP : va_P (dC, dI) vwCl [(h0, .inr (6, [.ref hp, .ref hs, .ref hh, .ref hc, .ref kp, .ref rt, .int 0])), (hp, .inr (2, [.ref cd, .int 0])), (cd, .inl (cI, 24, .inl (fun _ => 0))), (hs, .inr (4, [.ref hh, .ref hc, .ref si])), (hh, .inr (1, [.int 0, .int 0, .int 0])), (hc, .inr (0, [.int (-1), .int 0, .int 0, .ref k1, .ref k2, .ref k3, .ref k4, .ref k5])), (mo, .inr (7, [.int 0, .int 0, .int 0, .int (-1), .int (-1), .int 0, .int 0, .ref m1, .ref m2, .ref m3, .ref m4, .ref m5, .int 0, .ref pg, .int 0, .int 0, .ref m6, .ref m7, .ref m8, .long 0, .int 0, .int 0, .int 0, .int 0, .int 0, .int 0, .ref m9, .ref m10, .ref m11, .ref m12, .long 0])), (pg, .inl (cB, 24, .inl (fun _ => 0)))] H) (hD : va_D A [(h0, .inr (6, [.ref hp, .ref hs, .ref hh, .ref hc, .ref kp, .ref rt, .int 0])), (hp, .inr (2, [.ref cd, .int 0])), (cd, .inl (cI, 24, .inl (fun _ => 0))), (hs, .inr (4, [.ref hh, .ref hc, .ref si])), (hh, .inr (1, [.int 0, .int 0, .int 0])), (hc, .inr (0, [.int (-1), .int 0, .int 0, .ref k1, .ref k2, .ref k3, .ref k4, .ref k5])), (mo, .inr (7, [.int 0, .int 0, .int 0, .int (-1), .int (-1), .int 0, .int 0, .ref m1, .ref m2, .ref m3, .ref m4, .ref m5, .int 0, .ref pg, .int 0, .int 0, .ref m6, .ref m7, .ref m8, .long 0, .int 0, .int 0, .int 0, .int 0, .int 0, .int 0, .ref m9, .ref m10, .ref m11, .ref m12, .long 0])), (pg, .inl (cB, 24, .inl (fun _ => 0)))]) (hS : va_S A s.heap H locs) (hl : lv_has ls 4 [(0, .ref b), (1, .ref h0), (2, .ref mo), (3, .int 0)]) : W p l e room_1 s m #[Value.ref b] below meth c H locs 38 1433 (lw_Z below #[Value.ref b] s) (F0 m 254 ls []) := by
  have hK := hN.1
  refine lv_aload_n hx hb dL_law_254 rfl (lv_at hl 1 rfl) ?_
  refine lv_aload_n hx hb dL_law_255 rfl (lv_at hl 0 rfl) ?_
  refine lv_iload_n hx hb dL_law_256 rfl (lv_at hl 3 rfl) ?_
  refine lv_iconst (v := 1) hx hb dL_law_257 (by decide) ?_
  refine lv_iadd hx hb dL_law_258 ?_
  refine cz_i (y := 1) (by decide) ?_
  refine va_sld hx hb hX hbl hbA hS (by unfold vp_in; decide) dL_law_259 ?_
  refine cz_i (y := xs 1) (congrArg xs (by decide)) ?_
  refine lv_aload_n hx hb dL_law_260 rfl (lv_at hl 0 rfl) ?_
  refine lv_iload_n hx hb dL_law_261 rfl (lv_at hl 3 rfl) ?_
  refine lv_iconst (v := 2) hx hb dL_law_262 (by decide) ?_
  refine lv_iadd hx hb dL_law_263 ?_
  refine cz_i (y := 2) (by decide) ?_
  refine va_sld hx hb hX hbl hbA hS (by unfold vp_in; decide) dL_law_264 ?_
  refine cz_i (y := xs 2) (congrArg xs (by decide)) ?_
  refine vp_callSi (cz_run (va_runV (As := [.int (xs 1), .int (xs 2)]) (rest := []) ⟨hx, hb, hml, hown, hts⟩ (c_X6_courtier l dC dI cI cB h0 (xs 1) (xs 2) hp hs hh hc kp rt ) (cwV 2 hts gL_law_X6_courtier rfl rfl rfl (by decide +kernel) ⟨Nat.le_of_ble_eq_true rfl, Nat.le_of_ble_eq_true rfl⟩) (cz_pV (hP.sub (ws' := [(h0, .inr (6, [.ref hp, .ref hs, .ref hh, .ref hc, .ref kp, .ref rt, .int 0])), (hh, .inr (1, [.int 0, .int 0, .int 0]))]) [0, 4] rfl) hN (va_recv hK (hP.sub (ws' := [(h0, .inr (6, [.ref hp, .ref hs, .ref hh, .ref hc, .ref kp, .ref rt, .int 0])), (hh, .inr (1, [.int 0, .int 0, .int 0]))]) [0, 4] rfl) (ci := 6) (q0 := 0) rfl rfl)) rfl rfl hl.1 rfl (lv_room (Nat.le_of_ble_eq_true rfl)) dL_law_265 ⟨Nat.le_of_ble_eq_true rfl, Nat.le_of_ble_eq_true rfl⟩)) (fun r_1 hr_1 => ?_)
  refine lv_aload_n hx hb dL_law_268 rfl (lv_at hl 2 rfl) ?_
  refine lv_aload_n hx hb dL_law_269 rfl (lv_at hl 0 rfl) ?_
  refine lv_iload_n hx hb dL_law_270 rfl (lv_at hl 3 rfl) ?_
  refine lv_iconst (v := 1) hx hb dL_law_271 (by decide) ?_
  refine lv_iadd hx hb dL_law_272 ?_
  refine cz_i (y := 1) (by decide) ?_
  refine va_sld hx hb hX hbl hbA hS (by unfold vp_in; decide) dL_law_273 ?_
  refine cz_i (y := xs 1) (congrArg xs (by decide)) ?_
  refine lv_aload_n hx hb dL_law_274 rfl (lv_at hl 0 rfl) ?_
  refine lv_iload_n hx hb dL_law_275 rfl (lv_at hl 3 rfl) ?_
  refine lv_iconst (v := 2) hx hb dL_law_276 (by decide) ?_
  refine lv_iadd hx hb dL_law_277 ?_
  refine cz_i (y := 2) (by decide) ?_
  refine va_sld hx hb hX hbl hbA hS (by unfold vp_in; decide) dL_law_278 ?_
  refine cz_i (y := xs 2) (congrArg xs (by decide)) ?_
  refine vp_callSi (cz_run (va_runV (As := [.int (xs 1), .int (xs 2)]) (rest := [.int r_1]) ⟨hx, hb, hml, hown, hts⟩ (c_X7_courtier l dC dI cI cB mo (xs 1) (xs 2) m1 m2 m3 m4 m5 pg m6 m7 m8 m9 m10 m11 m12 ) (cwV 2 hts gL_law_X7_courtier rfl rfl rfl (by decide +kernel) ⟨Nat.le_of_ble_eq_true rfl, Nat.le_of_ble_eq_true rfl⟩) (cz_pV (hP.sub (ws' := [(mo, .inr (7, [.int 0, .int 0, .int 0, .int (-1), .int (-1), .int 0, .int 0, .ref m1, .ref m2, .ref m3, .ref m4, .ref m5, .int 0, .ref pg, .int 0, .int 0, .ref m6, .ref m7, .ref m8, .long 0, .int 0, .int 0, .int 0, .int 0, .int 0, .int 0, .ref m9, .ref m10, .ref m11, .ref m12, .long 0]))]) [6] rfl) hN (va_recv hK (hP.sub (ws' := [(mo, .inr (7, [.int 0, .int 0, .int 0, .int (-1), .int (-1), .int 0, .int 0, .ref m1, .ref m2, .ref m3, .ref m4, .ref m5, .int 0, .ref pg, .int 0, .int 0, .ref m6, .ref m7, .ref m8, .long 0, .int 0, .int 0, .int 0, .int 0, .int 0, .int 0, .ref m9, .ref m10, .ref m11, .ref m12, .long 0]))]) [6] rfl) (ci := 7) (q0 := 0) rfl rfl)) rfl rfl hl.1 rfl (lv_room (Nat.le_of_ble_eq_true rfl)) dL_law_279 ⟨Nat.le_of_ble_eq_true rfl, Nat.le_of_ble_eq_true rfl⟩)) (fun r_2 hr_2 => ?_)
  refine lv_icmp_eq (tgt := 673) hx hb dL_law_282 (by decide) (fun _ => ?_) (fun c => absurd (hr_1.trans hr_2.symm) c)
  have hP := hP.sub (ws' := []) [] rfl
  have hD := hD.sub (ws' := []) [] (by decide) rfl
  exact law_end hx hb hr hml hown hts hX hbl hbA hA hAr hlocks hN H locs ls hP hD hS (lv_sub hl [0, 3] rfl)

set_option maxHeartbeats 4000000 in
set_option maxRecDepth 100000 in
theorem law_case7 {p : Program} {l : Launch} {e : Env} {s : State} {m : MethodId} {below : List Frame} {meth : Method} {c : Code} {dC : Nat → ClassId} {dI : Nat → Nat → Nat} {cI cB : ClassId} {A : Nat → Prop} {b : Nat} {xs : Nat → Int32} (hx : p.tables.exec = Jvm.exec) (hb : c.code = cL_law) (hr : meth.sig.returnType = ret) (hml : c.maxLocals = 4) (hown : s.vm.findClass RL = some m.cls) (hts : ∀ w ∈ wsL_law, w.before #[Value.ref b] s = true) (hX : va_X b 4 xs s s.heap) (hbl : b < s.heap.size) (hbA : ¬ A b) (hA : ∀ q : Nat, s.heap.size ≤ q → A q) (hAr : ∀ q : Nat, A q → s.heap.size ≤ q) (hlocks : meth.locks = false) (hN : cz_N dC dI cI cB s) (h0 : Nat) (hp : Nat) (hs : Nat) (hh : Nat) (hc : Nat) (kp : Nat) (rt : Nat) (cd : Nat) (si : Nat) (k1 : Nat) (k2 : Nat) (k3 : Nat) (k4 : Nat) (k5 : Nat) (mo : Nat) (m1 : Nat) (m2 : Nat) (m3 : Nat) (m4 : Nat) (m5 : Nat) (pg : Nat) (m6 : Nat) (m7 : Nat) (m8 : Nat) (m9 : Nat) (m10 : Nat) (m11 : Nat) (m12 : Nat) (H : Heap) (locs : List Loc) (ls : Array Slot) (hP : va_P (dC, dI) vwCl [(h0, .inr (6, [.ref hp, .ref hs, .ref hh, .ref hc, .ref kp, .ref rt, .int 0])), (hp, .inr (2, [.ref cd, .int 0])), (cd, .inl (cI, 24, .inl (fun _ => 0))), (hs, .inr (4, [.ref hh, .ref hc, .ref si])), (hh, .inr (1, [.int 0, .int 0, .int 0])), (hc, .inr (0, [.int (-1), .int 0, .int 0, .ref k1, .ref k2, .ref k3, .ref k4, .ref k5])), (mo, .inr (7, [.int 0, .int 0, .int 0, .int (-1), .int (-1), .int 0, .int 0, .ref m1, .ref m2, .ref m3, .ref m4, .ref m5, .int 0, .ref pg, .int 0, .int 0, .ref m6, .ref m7, .ref m8, .long 0, .int 0, .int 0, .int 0, .int 0, .int 0, .int 0, .ref m9, .ref m10, .ref m11, .ref m12, .long 0])), (pg, .inl (cB, 24, .inl (fun _ => 0)))] H) (hD : va_D A [(h0, .inr (6, [.ref hp, .ref hs, .ref hh, .ref hc, .ref kp, .ref rt, .int 0])), (hp, .inr (2, [.ref cd, .int 0])), (cd, .inl (cI, 24, .inl (fun _ => 0))), (hs, .inr (4, [.ref hh, .ref hc, .ref si])), (hh, .inr (1, [.int 0, .int 0, .int 0])), (hc, .inr (0, [.int (-1), .int 0, .int 0, .ref k1, .ref k2, .ref k3, .ref k4, .ref k5])), (mo, .inr (7, [.int 0, .int 0, .int 0, .int (-1), .int (-1), .int 0, .int 0, .ref m1, .ref m2, .ref m3, .ref m4, .ref m5, .int 0, .ref pg, .int 0, .int 0, .ref m6, .ref m7, .ref m8, .long 0, .int 0, .int 0, .int 0, .int 0, .int 0, .int 0, .ref m9, .ref m10, .ref m11, .ref m12, .long 0])), (pg, .inl (cB, 24, .inl (fun _ => 0)))]) (hS : va_S A s.heap H locs) (hl : lv_has ls 4 [(0, .ref b), (1, .ref h0), (2, .ref mo), (3, .int 0)]) : W p l e room_1 s m #[Value.ref b] below meth c H locs 38 1433 (lw_Z below #[Value.ref b] s) (F0 m 287 ls []) := by
  have hK := hN.1
  refine lv_aload_n hx hb dL_law_287 rfl (lv_at hl 1 rfl) ?_
  refine lv_aload_n hx hb dL_law_288 rfl (lv_at hl 0 rfl) ?_
  refine lv_iload_n hx hb dL_law_289 rfl (lv_at hl 3 rfl) ?_
  refine lv_iconst (v := 1) hx hb dL_law_290 (by decide) ?_
  refine lv_iadd hx hb dL_law_291 ?_
  refine cz_i (y := 1) (by decide) ?_
  refine va_sld hx hb hX hbl hbA hS (by unfold vp_in; decide) dL_law_292 ?_
  refine cz_i (y := xs 1) (congrArg xs (by decide)) ?_
  refine lv_aload_n hx hb dL_law_293 rfl (lv_at hl 0 rfl) ?_
  refine lv_iload_n hx hb dL_law_294 rfl (lv_at hl 3 rfl) ?_
  refine lv_iconst (v := 2) hx hb dL_law_295 (by decide) ?_
  refine lv_iadd hx hb dL_law_296 ?_
  refine cz_i (y := 2) (by decide) ?_
  refine va_sld hx hb hX hbl hbA hS (by unfold vp_in; decide) dL_law_297 ?_
  refine cz_i (y := xs 2) (congrArg xs (by decide)) ?_
  refine vp_callSi (cz_run (va_runV (As := [.int (xs 1), .int (xs 2)]) (rest := []) ⟨hx, hb, hml, hown, hts⟩ (c_X6_about l dC dI cI cB h0 (xs 1) (xs 2) hp hs hh hc kp rt k1 k2 k3 k4 k5 ) (cwV 2 hts gL_law_X6_about rfl rfl rfl (by decide +kernel) ⟨Nat.le_of_ble_eq_true rfl, Nat.le_of_ble_eq_true rfl⟩) (cz_pV (hP.sub (ws' := [(h0, .inr (6, [.ref hp, .ref hs, .ref hh, .ref hc, .ref kp, .ref rt, .int 0])), (hc, .inr (0, [.int (-1), .int 0, .int 0, .ref k1, .ref k2, .ref k3, .ref k4, .ref k5]))]) [0, 5] rfl) hN (va_recv hK (hP.sub (ws' := [(h0, .inr (6, [.ref hp, .ref hs, .ref hh, .ref hc, .ref kp, .ref rt, .int 0])), (hc, .inr (0, [.int (-1), .int 0, .int 0, .ref k1, .ref k2, .ref k3, .ref k4, .ref k5]))]) [0, 5] rfl) (ci := 6) (q0 := 0) rfl rfl)) rfl rfl hl.1 rfl (lv_room (Nat.le_of_ble_eq_true rfl)) dL_law_298 ⟨Nat.le_of_ble_eq_true rfl, Nat.le_of_ble_eq_true rfl⟩)) (fun r_1 hr_1 => ?_)
  obtain rfl : r_1 = (-101) := hr_1
  refine lv_aload_n hx hb dL_law_301 rfl (lv_at hl 2 rfl) ?_
  refine lv_aload_n hx hb dL_law_302 rfl (lv_at hl 0 rfl) ?_
  refine lv_iload_n hx hb dL_law_303 rfl (lv_at hl 3 rfl) ?_
  refine lv_iconst (v := 1) hx hb dL_law_304 (by decide) ?_
  refine lv_iadd hx hb dL_law_305 ?_
  refine cz_i (y := 1) (by decide) ?_
  refine va_sld hx hb hX hbl hbA hS (by unfold vp_in; decide) dL_law_306 ?_
  refine cz_i (y := xs 1) (congrArg xs (by decide)) ?_
  refine lv_aload_n hx hb dL_law_307 rfl (lv_at hl 0 rfl) ?_
  refine lv_iload_n hx hb dL_law_308 rfl (lv_at hl 3 rfl) ?_
  refine lv_iconst (v := 2) hx hb dL_law_309 (by decide) ?_
  refine lv_iadd hx hb dL_law_310 ?_
  refine cz_i (y := 2) (by decide) ?_
  refine va_sld hx hb hX hbl hbA hS (by unfold vp_in; decide) dL_law_311 ?_
  refine cz_i (y := xs 2) (congrArg xs (by decide)) ?_
  refine vp_callSi (cz_run (va_runV (As := [.int (xs 1), .int (xs 2)]) (rest := [.int (-101)]) ⟨hx, hb, hml, hown, hts⟩ (c_X7_about l dC dI cI cB mo (xs 1) (xs 2) m1 m2 m3 m4 m5 pg m6 m7 m8 m9 m10 m11 m12 ) (cwV 2 hts gL_law_X7_about rfl rfl rfl (by decide +kernel) ⟨Nat.le_of_ble_eq_true rfl, Nat.le_of_ble_eq_true rfl⟩) (cz_pV (hP.sub (ws' := [(mo, .inr (7, [.int 0, .int 0, .int 0, .int (-1), .int (-1), .int 0, .int 0, .ref m1, .ref m2, .ref m3, .ref m4, .ref m5, .int 0, .ref pg, .int 0, .int 0, .ref m6, .ref m7, .ref m8, .long 0, .int 0, .int 0, .int 0, .int 0, .int 0, .int 0, .ref m9, .ref m10, .ref m11, .ref m12, .long 0]))]) [6] rfl) hN (va_recv hK (hP.sub (ws' := [(mo, .inr (7, [.int 0, .int 0, .int 0, .int (-1), .int (-1), .int 0, .int 0, .ref m1, .ref m2, .ref m3, .ref m4, .ref m5, .int 0, .ref pg, .int 0, .int 0, .ref m6, .ref m7, .ref m8, .long 0, .int 0, .int 0, .int 0, .int 0, .int 0, .int 0, .ref m9, .ref m10, .ref m11, .ref m12, .long 0]))]) [6] rfl) (ci := 7) (q0 := 0) rfl rfl)) rfl rfl hl.1 rfl (lv_room (Nat.le_of_ble_eq_true rfl)) dL_law_312 ⟨Nat.le_of_ble_eq_true rfl, Nat.le_of_ble_eq_true rfl⟩)) (fun r_2 hr_2 => ?_)
  obtain rfl : r_2 = (-101) := hr_2
  refine lv_icmp_eq (tgt := 673) hx hb dL_law_315 (by decide) (fun _ => ?_) (fun c => absurd (by decide) c)
  have hP := hP.sub (ws' := []) [] rfl
  have hD := hD.sub (ws' := []) [] (by decide) rfl
  exact law_end hx hb hr hml hown hts hX hbl hbA hA hAr hlocks hN H locs ls hP hD hS (lv_sub hl [0, 3] rfl)

set_option maxHeartbeats 4000000 in
set_option maxRecDepth 100000 in
theorem law_case8 {p : Program} {l : Launch} {e : Env} {s : State} {m : MethodId} {below : List Frame} {meth : Method} {c : Code} {dC : Nat → ClassId} {dI : Nat → Nat → Nat} {cI cB : ClassId} {A : Nat → Prop} {b : Nat} {xs : Nat → Int32} (hx : p.tables.exec = Jvm.exec) (hb : c.code = cL_law) (hr : meth.sig.returnType = ret) (hml : c.maxLocals = 4) (hown : s.vm.findClass RL = some m.cls) (hts : ∀ w ∈ wsL_law, w.before #[Value.ref b] s = true) (hX : va_X b 4 xs s s.heap) (hbl : b < s.heap.size) (hbA : ¬ A b) (hA : ∀ q : Nat, s.heap.size ≤ q → A q) (hAr : ∀ q : Nat, A q → s.heap.size ≤ q) (hlocks : meth.locks = false) (hN : cz_N dC dI cI cB s) (h0 : Nat) (hp : Nat) (hs : Nat) (hh : Nat) (hc : Nat) (kp : Nat) (rt : Nat) (cd : Nat) (si : Nat) (k1 : Nat) (k2 : Nat) (k3 : Nat) (k4 : Nat) (k5 : Nat) (mo : Nat) (m1 : Nat) (m2 : Nat) (m3 : Nat) (m4 : Nat) (m5 : Nat) (pg : Nat) (m6 : Nat) (m7 : Nat) (m8 : Nat) (m9 : Nat) (m10 : Nat) (m11 : Nat) (m12 : Nat) (H : Heap) (locs : List Loc) (ls : Array Slot) (hP : va_P (dC, dI) vwCl [(h0, .inr (6, [.ref hp, .ref hs, .ref hh, .ref hc, .ref kp, .ref rt, .int 0])), (hp, .inr (2, [.ref cd, .int 0])), (cd, .inl (cI, 24, .inl (fun _ => 0))), (hs, .inr (4, [.ref hh, .ref hc, .ref si])), (hh, .inr (1, [.int 0, .int 0, .int 0])), (hc, .inr (0, [.int (-1), .int 0, .int 0, .ref k1, .ref k2, .ref k3, .ref k4, .ref k5])), (mo, .inr (7, [.int 0, .int 0, .int 0, .int (-1), .int (-1), .int 0, .int 0, .ref m1, .ref m2, .ref m3, .ref m4, .ref m5, .int 0, .ref pg, .int 0, .int 0, .ref m6, .ref m7, .ref m8, .long 0, .int 0, .int 0, .int 0, .int 0, .int 0, .int 0, .ref m9, .ref m10, .ref m11, .ref m12, .long 0])), (pg, .inl (cB, 24, .inl (fun _ => 0)))] H) (hD : va_D A [(h0, .inr (6, [.ref hp, .ref hs, .ref hh, .ref hc, .ref kp, .ref rt, .int 0])), (hp, .inr (2, [.ref cd, .int 0])), (cd, .inl (cI, 24, .inl (fun _ => 0))), (hs, .inr (4, [.ref hh, .ref hc, .ref si])), (hh, .inr (1, [.int 0, .int 0, .int 0])), (hc, .inr (0, [.int (-1), .int 0, .int 0, .ref k1, .ref k2, .ref k3, .ref k4, .ref k5])), (mo, .inr (7, [.int 0, .int 0, .int 0, .int (-1), .int (-1), .int 0, .int 0, .ref m1, .ref m2, .ref m3, .ref m4, .ref m5, .int 0, .ref pg, .int 0, .int 0, .ref m6, .ref m7, .ref m8, .long 0, .int 0, .int 0, .int 0, .int 0, .int 0, .int 0, .ref m9, .ref m10, .ref m11, .ref m12, .long 0])), (pg, .inl (cB, 24, .inl (fun _ => 0)))]) (hS : va_S A s.heap H locs) (hl : lv_has ls 4 [(0, .ref b), (1, .ref h0), (2, .ref mo), (3, .int 0)]) : W p l e room_1 s m #[Value.ref b] below meth c H locs 38 1433 (lw_Z below #[Value.ref b] s) (F0 m 320 ls []) := by
  have hK := hN.1
  refine lv_aload_n hx hb dL_law_320 rfl (lv_at hl 1 rfl) ?_
  refine lv_aload_n hx hb dL_law_321 rfl (lv_at hl 0 rfl) ?_
  refine lv_iload_n hx hb dL_law_322 rfl (lv_at hl 3 rfl) ?_
  refine lv_iconst (v := 1) hx hb dL_law_323 (by decide) ?_
  refine lv_iadd hx hb dL_law_324 ?_
  refine cz_i (y := 1) (by decide) ?_
  refine va_sld hx hb hX hbl hbA hS (by unfold vp_in; decide) dL_law_325 ?_
  refine cz_i (y := xs 1) (congrArg xs (by decide)) ?_
  refine lv_aload_n hx hb dL_law_326 rfl (lv_at hl 0 rfl) ?_
  refine lv_iload_n hx hb dL_law_327 rfl (lv_at hl 3 rfl) ?_
  refine lv_iconst (v := 2) hx hb dL_law_328 (by decide) ?_
  refine lv_iadd hx hb dL_law_329 ?_
  refine cz_i (y := 2) (by decide) ?_
  refine va_sld hx hb hX hbl hbA hS (by unfold vp_in; decide) dL_law_330 ?_
  refine cz_i (y := xs 2) (congrArg xs (by decide)) ?_
  refine vp_callSi (cz_run (va_runV (As := [.int (xs 1), .int (xs 2)]) (rest := []) ⟨hx, hb, hml, hown, hts⟩ (c_X6_as l dC dI cI cB h0 (xs 1) (xs 2) hp hs hh hc kp rt k1 k2 k3 k4 k5 ) (cwV 2 hts gL_law_X6_as rfl rfl rfl (by decide +kernel) ⟨Nat.le_of_ble_eq_true rfl, Nat.le_of_ble_eq_true rfl⟩) (cz_pV (hP.sub (ws' := [(h0, .inr (6, [.ref hp, .ref hs, .ref hh, .ref hc, .ref kp, .ref rt, .int 0])), (hc, .inr (0, [.int (-1), .int 0, .int 0, .ref k1, .ref k2, .ref k3, .ref k4, .ref k5]))]) [0, 5] rfl) hN (va_recv hK (hP.sub (ws' := [(h0, .inr (6, [.ref hp, .ref hs, .ref hh, .ref hc, .ref kp, .ref rt, .int 0])), (hc, .inr (0, [.int (-1), .int 0, .int 0, .ref k1, .ref k2, .ref k3, .ref k4, .ref k5]))]) [0, 5] rfl) (ci := 6) (q0 := 0) rfl rfl)) rfl rfl hl.1 rfl (lv_room (Nat.le_of_ble_eq_true rfl)) dL_law_331 ⟨Nat.le_of_ble_eq_true rfl, Nat.le_of_ble_eq_true rfl⟩)) (fun r_1 hr_1 => ?_)
  obtain rfl : r_1 = (-101) := hr_1
  refine lv_aload_n hx hb dL_law_334 rfl (lv_at hl 2 rfl) ?_
  refine lv_aload_n hx hb dL_law_335 rfl (lv_at hl 0 rfl) ?_
  refine lv_iload_n hx hb dL_law_336 rfl (lv_at hl 3 rfl) ?_
  refine lv_iconst (v := 1) hx hb dL_law_337 (by decide) ?_
  refine lv_iadd hx hb dL_law_338 ?_
  refine cz_i (y := 1) (by decide) ?_
  refine va_sld hx hb hX hbl hbA hS (by unfold vp_in; decide) dL_law_339 ?_
  refine cz_i (y := xs 1) (congrArg xs (by decide)) ?_
  refine lv_aload_n hx hb dL_law_340 rfl (lv_at hl 0 rfl) ?_
  refine lv_iload_n hx hb dL_law_341 rfl (lv_at hl 3 rfl) ?_
  refine lv_iconst (v := 2) hx hb dL_law_342 (by decide) ?_
  refine lv_iadd hx hb dL_law_343 ?_
  refine cz_i (y := 2) (by decide) ?_
  refine va_sld hx hb hX hbl hbA hS (by unfold vp_in; decide) dL_law_344 ?_
  refine cz_i (y := xs 2) (congrArg xs (by decide)) ?_
  refine vp_callSi (cz_run (va_runV (As := [.int (xs 1), .int (xs 2)]) (rest := [.int (-101)]) ⟨hx, hb, hml, hown, hts⟩ (c_X7_as l dC dI cI cB mo (xs 1) (xs 2) m1 m2 m3 m4 m5 pg m6 m7 m8 m9 m10 m11 m12 ) (cwV 2 hts gL_law_X7_as rfl rfl rfl (by decide +kernel) ⟨Nat.le_of_ble_eq_true rfl, Nat.le_of_ble_eq_true rfl⟩) (cz_pV (hP.sub (ws' := [(mo, .inr (7, [.int 0, .int 0, .int 0, .int (-1), .int (-1), .int 0, .int 0, .ref m1, .ref m2, .ref m3, .ref m4, .ref m5, .int 0, .ref pg, .int 0, .int 0, .ref m6, .ref m7, .ref m8, .long 0, .int 0, .int 0, .int 0, .int 0, .int 0, .int 0, .ref m9, .ref m10, .ref m11, .ref m12, .long 0]))]) [6] rfl) hN (va_recv hK (hP.sub (ws' := [(mo, .inr (7, [.int 0, .int 0, .int 0, .int (-1), .int (-1), .int 0, .int 0, .ref m1, .ref m2, .ref m3, .ref m4, .ref m5, .int 0, .ref pg, .int 0, .int 0, .ref m6, .ref m7, .ref m8, .long 0, .int 0, .int 0, .int 0, .int 0, .int 0, .int 0, .ref m9, .ref m10, .ref m11, .ref m12, .long 0]))]) [6] rfl) (ci := 7) (q0 := 0) rfl rfl)) rfl rfl hl.1 rfl (lv_room (Nat.le_of_ble_eq_true rfl)) dL_law_345 ⟨Nat.le_of_ble_eq_true rfl, Nat.le_of_ble_eq_true rfl⟩)) (fun r_2 hr_2 => ?_)
  obtain rfl : r_2 = (-101) := hr_2
  refine lv_icmp_eq (tgt := 673) hx hb dL_law_348 (by decide) (fun _ => ?_) (fun c => absurd (by decide) c)
  have hP := hP.sub (ws' := []) [] rfl
  have hD := hD.sub (ws' := []) [] (by decide) rfl
  exact law_end hx hb hr hml hown hts hX hbl hbA hA hAr hlocks hN H locs ls hP hD hS (lv_sub hl [0, 3] rfl)

set_option maxHeartbeats 4000000 in
set_option maxRecDepth 100000 in
theorem law_case9 {p : Program} {l : Launch} {e : Env} {s : State} {m : MethodId} {below : List Frame} {meth : Method} {c : Code} {dC : Nat → ClassId} {dI : Nat → Nat → Nat} {cI cB : ClassId} {A : Nat → Prop} {b : Nat} {xs : Nat → Int32} (hx : p.tables.exec = Jvm.exec) (hb : c.code = cL_law) (hr : meth.sig.returnType = ret) (hml : c.maxLocals = 4) (hown : s.vm.findClass RL = some m.cls) (hts : ∀ w ∈ wsL_law, w.before #[Value.ref b] s = true) (hX : va_X b 4 xs s s.heap) (hbl : b < s.heap.size) (hbA : ¬ A b) (hA : ∀ q : Nat, s.heap.size ≤ q → A q) (hAr : ∀ q : Nat, A q → s.heap.size ≤ q) (hlocks : meth.locks = false) (hN : cz_N dC dI cI cB s) (h0 : Nat) (hp : Nat) (hs : Nat) (hh : Nat) (hc : Nat) (kp : Nat) (rt : Nat) (cd : Nat) (si : Nat) (k1 : Nat) (k2 : Nat) (k3 : Nat) (k4 : Nat) (k5 : Nat) (mo : Nat) (m1 : Nat) (m2 : Nat) (m3 : Nat) (m4 : Nat) (m5 : Nat) (pg : Nat) (m6 : Nat) (m7 : Nat) (m8 : Nat) (m9 : Nat) (m10 : Nat) (m11 : Nat) (m12 : Nat) (H : Heap) (locs : List Loc) (ls : Array Slot) (hP : va_P (dC, dI) vwCl [(h0, .inr (6, [.ref hp, .ref hs, .ref hh, .ref hc, .ref kp, .ref rt, .int 0])), (hp, .inr (2, [.ref cd, .int 0])), (cd, .inl (cI, 24, .inl (fun _ => 0))), (hs, .inr (4, [.ref hh, .ref hc, .ref si])), (hh, .inr (1, [.int 0, .int 0, .int 0])), (hc, .inr (0, [.int (-1), .int 0, .int 0, .ref k1, .ref k2, .ref k3, .ref k4, .ref k5])), (mo, .inr (7, [.int 0, .int 0, .int 0, .int (-1), .int (-1), .int 0, .int 0, .ref m1, .ref m2, .ref m3, .ref m4, .ref m5, .int 0, .ref pg, .int 0, .int 0, .ref m6, .ref m7, .ref m8, .long 0, .int 0, .int 0, .int 0, .int 0, .int 0, .int 0, .ref m9, .ref m10, .ref m11, .ref m12, .long 0])), (pg, .inl (cB, 24, .inl (fun _ => 0)))] H) (hD : va_D A [(h0, .inr (6, [.ref hp, .ref hs, .ref hh, .ref hc, .ref kp, .ref rt, .int 0])), (hp, .inr (2, [.ref cd, .int 0])), (cd, .inl (cI, 24, .inl (fun _ => 0))), (hs, .inr (4, [.ref hh, .ref hc, .ref si])), (hh, .inr (1, [.int 0, .int 0, .int 0])), (hc, .inr (0, [.int (-1), .int 0, .int 0, .ref k1, .ref k2, .ref k3, .ref k4, .ref k5])), (mo, .inr (7, [.int 0, .int 0, .int 0, .int (-1), .int (-1), .int 0, .int 0, .ref m1, .ref m2, .ref m3, .ref m4, .ref m5, .int 0, .ref pg, .int 0, .int 0, .ref m6, .ref m7, .ref m8, .long 0, .int 0, .int 0, .int 0, .int 0, .int 0, .int 0, .ref m9, .ref m10, .ref m11, .ref m12, .long 0])), (pg, .inl (cB, 24, .inl (fun _ => 0)))]) (hS : va_S A s.heap H locs) (hl : lv_has ls 4 [(0, .ref b), (1, .ref h0), (2, .ref mo), (3, .int 0)]) : W p l e room_1 s m #[Value.ref b] below meth c H locs 38 1433 (lw_Z below #[Value.ref b] s) (F0 m 353 ls []) := by
  have hK := hN.1
  refine lv_aload_n hx hb dL_law_353 rfl (lv_at hl 1 rfl) ?_
  refine lv_aload_n hx hb dL_law_354 rfl (lv_at hl 0 rfl) ?_
  refine lv_iload_n hx hb dL_law_355 rfl (lv_at hl 3 rfl) ?_
  refine lv_iconst (v := 1) hx hb dL_law_356 (by decide) ?_
  refine lv_iadd hx hb dL_law_357 ?_
  refine cz_i (y := 1) (by decide) ?_
  refine va_sld hx hb hX hbl hbA hS (by unfold vp_in; decide) dL_law_358 ?_
  refine cz_i (y := xs 1) (congrArg xs (by decide)) ?_
  refine lv_aload_n hx hb dL_law_359 rfl (lv_at hl 0 rfl) ?_
  refine lv_iload_n hx hb dL_law_360 rfl (lv_at hl 3 rfl) ?_
  refine lv_iconst (v := 2) hx hb dL_law_361 (by decide) ?_
  refine lv_iadd hx hb dL_law_362 ?_
  refine cz_i (y := 2) (by decide) ?_
  refine va_sld hx hb hX hbl hbA hS (by unfold vp_in; decide) dL_law_363 ?_
  refine cz_i (y := xs 2) (congrArg xs (by decide)) ?_
  refine vp_callSi (cz_run (va_runV (As := [.int (xs 1), .int (xs 2)]) (rest := []) ⟨hx, hb, hml, hown, hts⟩ (c_X6_go l dC dI cI cB h0 (xs 1) (xs 2) hp hs hh hc kp rt k1 k2 k3 k4 k5 ) (cwV 2 hts gL_law_X6_go rfl rfl rfl (by decide +kernel) ⟨Nat.le_of_ble_eq_true rfl, Nat.le_of_ble_eq_true rfl⟩) (cz_pV (hP.sub (ws' := [(h0, .inr (6, [.ref hp, .ref hs, .ref hh, .ref hc, .ref kp, .ref rt, .int 0])), (hc, .inr (0, [.int (-1), .int 0, .int 0, .ref k1, .ref k2, .ref k3, .ref k4, .ref k5]))]) [0, 5] rfl) hN (va_recv hK (hP.sub (ws' := [(h0, .inr (6, [.ref hp, .ref hs, .ref hh, .ref hc, .ref kp, .ref rt, .int 0])), (hc, .inr (0, [.int (-1), .int 0, .int 0, .ref k1, .ref k2, .ref k3, .ref k4, .ref k5]))]) [0, 5] rfl) (ci := 6) (q0 := 0) rfl rfl)) rfl rfl hl.1 rfl (lv_room (Nat.le_of_ble_eq_true rfl)) dL_law_364 ⟨Nat.le_of_ble_eq_true rfl, Nat.le_of_ble_eq_true rfl⟩)) (fun r_1 hr_1 => ?_)
  obtain rfl : r_1 = (-101) := hr_1
  refine lv_aload_n hx hb dL_law_367 rfl (lv_at hl 2 rfl) ?_
  refine lv_aload_n hx hb dL_law_368 rfl (lv_at hl 0 rfl) ?_
  refine lv_iload_n hx hb dL_law_369 rfl (lv_at hl 3 rfl) ?_
  refine lv_iconst (v := 1) hx hb dL_law_370 (by decide) ?_
  refine lv_iadd hx hb dL_law_371 ?_
  refine cz_i (y := 1) (by decide) ?_
  refine va_sld hx hb hX hbl hbA hS (by unfold vp_in; decide) dL_law_372 ?_
  refine cz_i (y := xs 1) (congrArg xs (by decide)) ?_
  refine lv_aload_n hx hb dL_law_373 rfl (lv_at hl 0 rfl) ?_
  refine lv_iload_n hx hb dL_law_374 rfl (lv_at hl 3 rfl) ?_
  refine lv_iconst (v := 2) hx hb dL_law_375 (by decide) ?_
  refine lv_iadd hx hb dL_law_376 ?_
  refine cz_i (y := 2) (by decide) ?_
  refine va_sld hx hb hX hbl hbA hS (by unfold vp_in; decide) dL_law_377 ?_
  refine cz_i (y := xs 2) (congrArg xs (by decide)) ?_
  refine vp_callSi (cz_run (va_runV (As := [.int (xs 1), .int (xs 2)]) (rest := [.int (-101)]) ⟨hx, hb, hml, hown, hts⟩ (c_X7_go l dC dI cI cB mo (xs 1) (xs 2) m1 m2 m3 m4 m5 pg m6 m7 m8 m9 m10 m11 m12 ) (cwV 2 hts gL_law_X7_go rfl rfl rfl (by decide +kernel) ⟨Nat.le_of_ble_eq_true rfl, Nat.le_of_ble_eq_true rfl⟩) (cz_pV (hP.sub (ws' := [(mo, .inr (7, [.int 0, .int 0, .int 0, .int (-1), .int (-1), .int 0, .int 0, .ref m1, .ref m2, .ref m3, .ref m4, .ref m5, .int 0, .ref pg, .int 0, .int 0, .ref m6, .ref m7, .ref m8, .long 0, .int 0, .int 0, .int 0, .int 0, .int 0, .int 0, .ref m9, .ref m10, .ref m11, .ref m12, .long 0]))]) [6] rfl) hN (va_recv hK (hP.sub (ws' := [(mo, .inr (7, [.int 0, .int 0, .int 0, .int (-1), .int (-1), .int 0, .int 0, .ref m1, .ref m2, .ref m3, .ref m4, .ref m5, .int 0, .ref pg, .int 0, .int 0, .ref m6, .ref m7, .ref m8, .long 0, .int 0, .int 0, .int 0, .int 0, .int 0, .int 0, .ref m9, .ref m10, .ref m11, .ref m12, .long 0]))]) [6] rfl) (ci := 7) (q0 := 0) rfl rfl)) rfl rfl hl.1 rfl (lv_room (Nat.le_of_ble_eq_true rfl)) dL_law_378 ⟨Nat.le_of_ble_eq_true rfl, Nat.le_of_ble_eq_true rfl⟩)) (fun r_2 hr_2 => ?_)
  obtain rfl : r_2 = (-101) := hr_2
  refine lv_icmp_eq (tgt := 673) hx hb dL_law_381 (by decide) (fun _ => ?_) (fun c => absurd (by decide) c)
  have hP := hP.sub (ws' := []) [] rfl
  have hD := hD.sub (ws' := []) [] (by decide) rfl
  exact law_end hx hb hr hml hown hts hX hbl hbA hA hAr hlocks hN H locs ls hP hD hS (lv_sub hl [0, 3] rfl)

set_option maxHeartbeats 4000000 in
set_option maxRecDepth 100000 in
theorem law_case10 {p : Program} {l : Launch} {e : Env} {s : State} {m : MethodId} {below : List Frame} {meth : Method} {c : Code} {dC : Nat → ClassId} {dI : Nat → Nat → Nat} {cI cB : ClassId} {A : Nat → Prop} {b : Nat} {xs : Nat → Int32} (hx : p.tables.exec = Jvm.exec) (hb : c.code = cL_law) (hr : meth.sig.returnType = ret) (hml : c.maxLocals = 4) (hown : s.vm.findClass RL = some m.cls) (hts : ∀ w ∈ wsL_law, w.before #[Value.ref b] s = true) (hX : va_X b 4 xs s s.heap) (hbl : b < s.heap.size) (hbA : ¬ A b) (hA : ∀ q : Nat, s.heap.size ≤ q → A q) (hAr : ∀ q : Nat, A q → s.heap.size ≤ q) (hlocks : meth.locks = false) (hN : cz_N dC dI cI cB s) (h0 : Nat) (hp : Nat) (hs : Nat) (hh : Nat) (hc : Nat) (kp : Nat) (rt : Nat) (cd : Nat) (si : Nat) (k1 : Nat) (k2 : Nat) (k3 : Nat) (k4 : Nat) (k5 : Nat) (mo : Nat) (m1 : Nat) (m2 : Nat) (m3 : Nat) (m4 : Nat) (m5 : Nat) (pg : Nat) (m6 : Nat) (m7 : Nat) (m8 : Nat) (m9 : Nat) (m10 : Nat) (m11 : Nat) (m12 : Nat) (H : Heap) (locs : List Loc) (ls : Array Slot) (hP : va_P (dC, dI) vwCl [(h0, .inr (6, [.ref hp, .ref hs, .ref hh, .ref hc, .ref kp, .ref rt, .int 0])), (hp, .inr (2, [.ref cd, .int 0])), (cd, .inl (cI, 24, .inl (fun _ => 0))), (hs, .inr (4, [.ref hh, .ref hc, .ref si])), (hh, .inr (1, [.int 0, .int 0, .int 0])), (hc, .inr (0, [.int (-1), .int 0, .int 0, .ref k1, .ref k2, .ref k3, .ref k4, .ref k5])), (mo, .inr (7, [.int 0, .int 0, .int 0, .int (-1), .int (-1), .int 0, .int 0, .ref m1, .ref m2, .ref m3, .ref m4, .ref m5, .int 0, .ref pg, .int 0, .int 0, .ref m6, .ref m7, .ref m8, .long 0, .int 0, .int 0, .int 0, .int 0, .int 0, .int 0, .ref m9, .ref m10, .ref m11, .ref m12, .long 0])), (pg, .inl (cB, 24, .inl (fun _ => 0)))] H) (hD : va_D A [(h0, .inr (6, [.ref hp, .ref hs, .ref hh, .ref hc, .ref kp, .ref rt, .int 0])), (hp, .inr (2, [.ref cd, .int 0])), (cd, .inl (cI, 24, .inl (fun _ => 0))), (hs, .inr (4, [.ref hh, .ref hc, .ref si])), (hh, .inr (1, [.int 0, .int 0, .int 0])), (hc, .inr (0, [.int (-1), .int 0, .int 0, .ref k1, .ref k2, .ref k3, .ref k4, .ref k5])), (mo, .inr (7, [.int 0, .int 0, .int 0, .int (-1), .int (-1), .int 0, .int 0, .ref m1, .ref m2, .ref m3, .ref m4, .ref m5, .int 0, .ref pg, .int 0, .int 0, .ref m6, .ref m7, .ref m8, .long 0, .int 0, .int 0, .int 0, .int 0, .int 0, .int 0, .ref m9, .ref m10, .ref m11, .ref m12, .long 0])), (pg, .inl (cB, 24, .inl (fun _ => 0)))]) (hS : va_S A s.heap H locs) (hl : lv_has ls 4 [(0, .ref b), (1, .ref h0), (2, .ref mo), (3, .int 0)]) : W p l e room_1 s m #[Value.ref b] below meth c H locs 38 1433 (lw_Z below #[Value.ref b] s) (F0 m 386 ls []) := by
  have hK := hN.1
  refine lv_aload_n hx hb dL_law_386 rfl (lv_at hl 1 rfl) ?_
  refine lv_aload_n hx hb dL_law_387 rfl (lv_at hl 0 rfl) ?_
  refine lv_iload_n hx hb dL_law_388 rfl (lv_at hl 3 rfl) ?_
  refine lv_iconst (v := 1) hx hb dL_law_389 (by decide) ?_
  refine lv_iadd hx hb dL_law_390 ?_
  refine cz_i (y := 1) (by decide) ?_
  refine va_sld hx hb hX hbl hbA hS (by unfold vp_in; decide) dL_law_391 ?_
  refine cz_i (y := xs 1) (congrArg xs (by decide)) ?_
  refine vp_callSi (cz_run (va_runV (As := [.int (xs 1)]) (rest := []) ⟨hx, hb, hml, hown, hts⟩ (c_X6_act l dC dI cI cB h0 (xs 1) hp hs hh hc kp rt si k1 k2 k3 k4 k5 ) (cwV 1 hts gL_law_X6_act rfl rfl rfl (by decide +kernel) ⟨Nat.le_of_ble_eq_true rfl, Nat.le_of_ble_eq_true rfl⟩) (cz_pV (hP.sub (ws' := [(h0, .inr (6, [.ref hp, .ref hs, .ref hh, .ref hc, .ref kp, .ref rt, .int 0])), (hs, .inr (4, [.ref hh, .ref hc, .ref si])), (hc, .inr (0, [.int (-1), .int 0, .int 0, .ref k1, .ref k2, .ref k3, .ref k4, .ref k5]))]) [0, 3, 5] rfl) hN (va_recv hK (hP.sub (ws' := [(h0, .inr (6, [.ref hp, .ref hs, .ref hh, .ref hc, .ref kp, .ref rt, .int 0])), (hs, .inr (4, [.ref hh, .ref hc, .ref si])), (hc, .inr (0, [.int (-1), .int 0, .int 0, .ref k1, .ref k2, .ref k3, .ref k4, .ref k5]))]) [0, 3, 5] rfl) (ci := 6) (q0 := 0) rfl rfl)) rfl rfl hl.1 rfl (lv_room (Nat.le_of_ble_eq_true rfl)) dL_law_392 ⟨Nat.le_of_ble_eq_true rfl, Nat.le_of_ble_eq_true rfl⟩)) (fun r_1 hr_1 => ?_)
  refine lv_aload_n hx hb dL_law_395 rfl (lv_at hl 2 rfl) ?_
  refine lv_aload_n hx hb dL_law_396 rfl (lv_at hl 0 rfl) ?_
  refine lv_iload_n hx hb dL_law_397 rfl (lv_at hl 3 rfl) ?_
  refine lv_iconst (v := 1) hx hb dL_law_398 (by decide) ?_
  refine lv_iadd hx hb dL_law_399 ?_
  refine cz_i (y := 1) (by decide) ?_
  refine va_sld hx hb hX hbl hbA hS (by unfold vp_in; decide) dL_law_400 ?_
  refine cz_i (y := xs 1) (congrArg xs (by decide)) ?_
  refine vp_callSi (cz_run (va_runV (As := [.int (xs 1)]) (rest := [.int r_1]) ⟨hx, hb, hml, hown, hts⟩ (c_X7_act l dC dI cI cB mo (xs 1) m1 m2 m3 m4 m5 pg m6 m7 m8 m9 m10 m11 m12 ) (cwV 1 hts gL_law_X7_act rfl rfl rfl (by decide +kernel) ⟨Nat.le_of_ble_eq_true rfl, Nat.le_of_ble_eq_true rfl⟩) (cz_pV (hP.sub (ws' := [(mo, .inr (7, [.int 0, .int 0, .int 0, .int (-1), .int (-1), .int 0, .int 0, .ref m1, .ref m2, .ref m3, .ref m4, .ref m5, .int 0, .ref pg, .int 0, .int 0, .ref m6, .ref m7, .ref m8, .long 0, .int 0, .int 0, .int 0, .int 0, .int 0, .int 0, .ref m9, .ref m10, .ref m11, .ref m12, .long 0]))]) [6] rfl) hN (va_recv hK (hP.sub (ws' := [(mo, .inr (7, [.int 0, .int 0, .int 0, .int (-1), .int (-1), .int 0, .int 0, .ref m1, .ref m2, .ref m3, .ref m4, .ref m5, .int 0, .ref pg, .int 0, .int 0, .ref m6, .ref m7, .ref m8, .long 0, .int 0, .int 0, .int 0, .int 0, .int 0, .int 0, .ref m9, .ref m10, .ref m11, .ref m12, .long 0]))]) [6] rfl) (ci := 7) (q0 := 0) rfl rfl)) rfl rfl hl.1 rfl (lv_room (Nat.le_of_ble_eq_true rfl)) dL_law_401 ⟨Nat.le_of_ble_eq_true rfl, Nat.le_of_ble_eq_true rfl⟩)) (fun r_2 hr_2 => ?_)
  refine lv_icmp_eq (tgt := 673) hx hb dL_law_404 (by decide) (fun _ => ?_) (fun c => absurd (hr_1.trans hr_2.symm) c)
  have hP := hP.sub (ws' := []) [] rfl
  have hD := hD.sub (ws' := []) [] (by decide) rfl
  exact law_end hx hb hr hml hown hts hX hbl hbA hA hAr hlocks hN H locs ls hP hD hS (lv_sub hl [0, 3] rfl)

set_option maxHeartbeats 4000000 in
set_option maxRecDepth 100000 in
theorem law_case11 {p : Program} {l : Launch} {e : Env} {s : State} {m : MethodId} {below : List Frame} {meth : Method} {c : Code} {dC : Nat → ClassId} {dI : Nat → Nat → Nat} {cI cB : ClassId} {A : Nat → Prop} {b : Nat} {xs : Nat → Int32} (hx : p.tables.exec = Jvm.exec) (hb : c.code = cL_law) (hr : meth.sig.returnType = ret) (hml : c.maxLocals = 4) (hown : s.vm.findClass RL = some m.cls) (hts : ∀ w ∈ wsL_law, w.before #[Value.ref b] s = true) (hX : va_X b 4 xs s s.heap) (hbl : b < s.heap.size) (hbA : ¬ A b) (hA : ∀ q : Nat, s.heap.size ≤ q → A q) (hAr : ∀ q : Nat, A q → s.heap.size ≤ q) (hlocks : meth.locks = false) (hN : cz_N dC dI cI cB s) (h0 : Nat) (hp : Nat) (hs : Nat) (hh : Nat) (hc : Nat) (kp : Nat) (rt : Nat) (cd : Nat) (si : Nat) (k1 : Nat) (k2 : Nat) (k3 : Nat) (k4 : Nat) (k5 : Nat) (mo : Nat) (m1 : Nat) (m2 : Nat) (m3 : Nat) (m4 : Nat) (m5 : Nat) (pg : Nat) (m6 : Nat) (m7 : Nat) (m8 : Nat) (m9 : Nat) (m10 : Nat) (m11 : Nat) (m12 : Nat) (H : Heap) (locs : List Loc) (ls : Array Slot) (hP : va_P (dC, dI) vwCl [(h0, .inr (6, [.ref hp, .ref hs, .ref hh, .ref hc, .ref kp, .ref rt, .int 0])), (hp, .inr (2, [.ref cd, .int 0])), (cd, .inl (cI, 24, .inl (fun _ => 0))), (hs, .inr (4, [.ref hh, .ref hc, .ref si])), (hh, .inr (1, [.int 0, .int 0, .int 0])), (hc, .inr (0, [.int (-1), .int 0, .int 0, .ref k1, .ref k2, .ref k3, .ref k4, .ref k5])), (mo, .inr (7, [.int 0, .int 0, .int 0, .int (-1), .int (-1), .int 0, .int 0, .ref m1, .ref m2, .ref m3, .ref m4, .ref m5, .int 0, .ref pg, .int 0, .int 0, .ref m6, .ref m7, .ref m8, .long 0, .int 0, .int 0, .int 0, .int 0, .int 0, .int 0, .ref m9, .ref m10, .ref m11, .ref m12, .long 0])), (pg, .inl (cB, 24, .inl (fun _ => 0)))] H) (hD : va_D A [(h0, .inr (6, [.ref hp, .ref hs, .ref hh, .ref hc, .ref kp, .ref rt, .int 0])), (hp, .inr (2, [.ref cd, .int 0])), (cd, .inl (cI, 24, .inl (fun _ => 0))), (hs, .inr (4, [.ref hh, .ref hc, .ref si])), (hh, .inr (1, [.int 0, .int 0, .int 0])), (hc, .inr (0, [.int (-1), .int 0, .int 0, .ref k1, .ref k2, .ref k3, .ref k4, .ref k5])), (mo, .inr (7, [.int 0, .int 0, .int 0, .int (-1), .int (-1), .int 0, .int 0, .ref m1, .ref m2, .ref m3, .ref m4, .ref m5, .int 0, .ref pg, .int 0, .int 0, .ref m6, .ref m7, .ref m8, .long 0, .int 0, .int 0, .int 0, .int 0, .int 0, .int 0, .ref m9, .ref m10, .ref m11, .ref m12, .long 0])), (pg, .inl (cB, 24, .inl (fun _ => 0)))]) (hS : va_S A s.heap H locs) (hl : lv_has ls 4 [(0, .ref b), (1, .ref h0), (2, .ref mo), (3, .int 0)]) : W p l e room_1 s m #[Value.ref b] below meth c H locs 38 1433 (lw_Z below #[Value.ref b] s) (F0 m 409 ls []) := by
  have hK := hN.1
  refine lv_aload_n hx hb dL_law_409 rfl (lv_at hl 1 rfl) ?_
  refine vp_callSi (cz_run (va_runV (As := []) (rest := []) ⟨hx, hb, hml, hown, hts⟩ (c_X6_guilty l dC dI cI cB h0 hp hs hh hc kp rt si k1 k2 k3 k4 k5 ) (cwV 0 hts gL_law_X6_guilty rfl rfl rfl (by decide +kernel) ⟨Nat.le_of_ble_eq_true rfl, Nat.le_of_ble_eq_true rfl⟩) (cz_pV (hP.sub (ws' := [(h0, .inr (6, [.ref hp, .ref hs, .ref hh, .ref hc, .ref kp, .ref rt, .int 0])), (hs, .inr (4, [.ref hh, .ref hc, .ref si])), (hc, .inr (0, [.int (-1), .int 0, .int 0, .ref k1, .ref k2, .ref k3, .ref k4, .ref k5])), (hh, .inr (1, [.int 0, .int 0, .int 0]))]) [0, 3, 5, 4] rfl) hN (va_recv hK (hP.sub (ws' := [(h0, .inr (6, [.ref hp, .ref hs, .ref hh, .ref hc, .ref kp, .ref rt, .int 0])), (hs, .inr (4, [.ref hh, .ref hc, .ref si])), (hc, .inr (0, [.int (-1), .int 0, .int 0, .ref k1, .ref k2, .ref k3, .ref k4, .ref k5])), (hh, .inr (1, [.int 0, .int 0, .int 0]))]) [0, 3, 5, 4] rfl) (ci := 6) (q0 := 0) rfl rfl)) rfl rfl hl.1 rfl (lv_room (Nat.le_of_ble_eq_true rfl)) dL_law_410 ⟨Nat.le_of_ble_eq_true rfl, Nat.le_of_ble_eq_true rfl⟩)) (fun r_1 hr_1 => ?_)
  obtain rfl : r_1 = 0 := hr_1
  refine lv_aload_n hx hb dL_law_413 rfl (lv_at hl 2 rfl) ?_
  refine vp_callSi (cz_run (va_runV (As := []) (rest := [.int 0]) ⟨hx, hb, hml, hown, hts⟩ (c_X7_guilty l dC dI cI cB mo m1 m2 m3 m4 m5 pg m6 m7 m8 m9 m10 m11 m12 ) (cwV 0 hts gL_law_X7_guilty rfl rfl rfl (by decide +kernel) ⟨Nat.le_of_ble_eq_true rfl, Nat.le_of_ble_eq_true rfl⟩) (cz_pV (hP.sub (ws' := [(mo, .inr (7, [.int 0, .int 0, .int 0, .int (-1), .int (-1), .int 0, .int 0, .ref m1, .ref m2, .ref m3, .ref m4, .ref m5, .int 0, .ref pg, .int 0, .int 0, .ref m6, .ref m7, .ref m8, .long 0, .int 0, .int 0, .int 0, .int 0, .int 0, .int 0, .ref m9, .ref m10, .ref m11, .ref m12, .long 0]))]) [6] rfl) hN (va_recv hK (hP.sub (ws' := [(mo, .inr (7, [.int 0, .int 0, .int 0, .int (-1), .int (-1), .int 0, .int 0, .ref m1, .ref m2, .ref m3, .ref m4, .ref m5, .int 0, .ref pg, .int 0, .int 0, .ref m6, .ref m7, .ref m8, .long 0, .int 0, .int 0, .int 0, .int 0, .int 0, .int 0, .ref m9, .ref m10, .ref m11, .ref m12, .long 0]))]) [6] rfl) (ci := 7) (q0 := 0) rfl rfl)) rfl rfl hl.1 rfl (lv_room (Nat.le_of_ble_eq_true rfl)) dL_law_414 ⟨Nat.le_of_ble_eq_true rfl, Nat.le_of_ble_eq_true rfl⟩)) (fun r_2 hr_2 => ?_)
  obtain rfl : r_2 = 0 := hr_2
  refine lv_icmp_eq (tgt := 673) hx hb dL_law_417 (by decide) (fun _ => ?_) (fun c => absurd (by decide) c)
  have hP := hP.sub (ws' := []) [] rfl
  have hD := hD.sub (ws' := []) [] (by decide) rfl
  exact law_end hx hb hr hml hown hts hX hbl hbA hA hAr hlocks hN H locs ls hP hD hS (lv_sub hl [0, 3] rfl)

set_option maxHeartbeats 4000000 in
set_option maxRecDepth 100000 in
theorem law_case12 {p : Program} {l : Launch} {e : Env} {s : State} {m : MethodId} {below : List Frame} {meth : Method} {c : Code} {dC : Nat → ClassId} {dI : Nat → Nat → Nat} {cI cB : ClassId} {A : Nat → Prop} {b : Nat} {xs : Nat → Int32} (hx : p.tables.exec = Jvm.exec) (hb : c.code = cL_law) (hr : meth.sig.returnType = ret) (hml : c.maxLocals = 4) (hown : s.vm.findClass RL = some m.cls) (hts : ∀ w ∈ wsL_law, w.before #[Value.ref b] s = true) (hX : va_X b 4 xs s s.heap) (hbl : b < s.heap.size) (hbA : ¬ A b) (hA : ∀ q : Nat, s.heap.size ≤ q → A q) (hAr : ∀ q : Nat, A q → s.heap.size ≤ q) (hlocks : meth.locks = false) (hN : cz_N dC dI cI cB s) (h0 : Nat) (hp : Nat) (hs : Nat) (hh : Nat) (hc : Nat) (kp : Nat) (rt : Nat) (cd : Nat) (si : Nat) (k1 : Nat) (k2 : Nat) (k3 : Nat) (k4 : Nat) (k5 : Nat) (mo : Nat) (m1 : Nat) (m2 : Nat) (m3 : Nat) (m4 : Nat) (m5 : Nat) (pg : Nat) (m6 : Nat) (m7 : Nat) (m8 : Nat) (m9 : Nat) (m10 : Nat) (m11 : Nat) (m12 : Nat) (H : Heap) (locs : List Loc) (ls : Array Slot) (hP : va_P (dC, dI) vwCl [(h0, .inr (6, [.ref hp, .ref hs, .ref hh, .ref hc, .ref kp, .ref rt, .int 0])), (hp, .inr (2, [.ref cd, .int 0])), (cd, .inl (cI, 24, .inl (fun _ => 0))), (hs, .inr (4, [.ref hh, .ref hc, .ref si])), (hh, .inr (1, [.int 0, .int 0, .int 0])), (hc, .inr (0, [.int (-1), .int 0, .int 0, .ref k1, .ref k2, .ref k3, .ref k4, .ref k5])), (mo, .inr (7, [.int 0, .int 0, .int 0, .int (-1), .int (-1), .int 0, .int 0, .ref m1, .ref m2, .ref m3, .ref m4, .ref m5, .int 0, .ref pg, .int 0, .int 0, .ref m6, .ref m7, .ref m8, .long 0, .int 0, .int 0, .int 0, .int 0, .int 0, .int 0, .ref m9, .ref m10, .ref m11, .ref m12, .long 0])), (pg, .inl (cB, 24, .inl (fun _ => 0)))] H) (hD : va_D A [(h0, .inr (6, [.ref hp, .ref hs, .ref hh, .ref hc, .ref kp, .ref rt, .int 0])), (hp, .inr (2, [.ref cd, .int 0])), (cd, .inl (cI, 24, .inl (fun _ => 0))), (hs, .inr (4, [.ref hh, .ref hc, .ref si])), (hh, .inr (1, [.int 0, .int 0, .int 0])), (hc, .inr (0, [.int (-1), .int 0, .int 0, .ref k1, .ref k2, .ref k3, .ref k4, .ref k5])), (mo, .inr (7, [.int 0, .int 0, .int 0, .int (-1), .int (-1), .int 0, .int 0, .ref m1, .ref m2, .ref m3, .ref m4, .ref m5, .int 0, .ref pg, .int 0, .int 0, .ref m6, .ref m7, .ref m8, .long 0, .int 0, .int 0, .int 0, .int 0, .int 0, .int 0, .ref m9, .ref m10, .ref m11, .ref m12, .long 0])), (pg, .inl (cB, 24, .inl (fun _ => 0)))]) (hS : va_S A s.heap H locs) (hl : lv_has ls 4 [(0, .ref b), (1, .ref h0), (2, .ref mo), (3, .int 0)]) : W p l e room_1 s m #[Value.ref b] below meth c H locs 38 1433 (lw_Z below #[Value.ref b] s) (F0 m 422 ls []) := by
  have hK := hN.1
  refine lv_aload_n hx hb dL_law_422 rfl (lv_at hl 1 rfl) ?_
  refine lv_aload_n hx hb dL_law_423 rfl (lv_at hl 0 rfl) ?_
  refine lv_iload_n hx hb dL_law_424 rfl (lv_at hl 3 rfl) ?_
  refine lv_iconst (v := 1) hx hb dL_law_425 (by decide) ?_
  refine lv_iadd hx hb dL_law_426 ?_
  refine cz_i (y := 1) (by decide) ?_
  refine va_sld hx hb hX hbl hbA hS (by unfold vp_in; decide) dL_law_427 ?_
  refine cz_i (y := xs 1) (congrArg xs (by decide)) ?_
  refine lv_aload_n hx hb dL_law_428 rfl (lv_at hl 0 rfl) ?_
  refine lv_iload_n hx hb dL_law_429 rfl (lv_at hl 3 rfl) ?_
  refine lv_iconst (v := 2) hx hb dL_law_430 (by decide) ?_
  refine lv_iadd hx hb dL_law_431 ?_
  refine cz_i (y := 2) (by decide) ?_
  refine va_sld hx hb hX hbl hbA hS (by unfold vp_in; decide) dL_law_432 ?_
  refine cz_i (y := xs 2) (congrArg xs (by decide)) ?_
  refine vp_callSi (cz_run (va_runV (As := [.int (xs 1), .int (xs 2)]) (rest := []) ⟨hx, hb, hml, hown, hts⟩ (c_X6_room l dC dI cI cB h0 (xs 1) (xs 2) hp hs hh hc kp rt k1 k2 k3 k4 k5 ) (cwV 2 hts gL_law_X6_room rfl rfl rfl (by decide +kernel) ⟨Nat.le_of_ble_eq_true rfl, Nat.le_of_ble_eq_true rfl⟩) (cz_pV (hP.sub (ws' := [(h0, .inr (6, [.ref hp, .ref hs, .ref hh, .ref hc, .ref kp, .ref rt, .int 0])), (hc, .inr (0, [.int (-1), .int 0, .int 0, .ref k1, .ref k2, .ref k3, .ref k4, .ref k5]))]) [0, 5] rfl) hN (va_recv hK (hP.sub (ws' := [(h0, .inr (6, [.ref hp, .ref hs, .ref hh, .ref hc, .ref kp, .ref rt, .int 0])), (hc, .inr (0, [.int (-1), .int 0, .int 0, .ref k1, .ref k2, .ref k3, .ref k4, .ref k5]))]) [0, 5] rfl) (ci := 6) (q0 := 0) rfl rfl)) rfl rfl hl.1 rfl (lv_room (Nat.le_of_ble_eq_true rfl)) dL_law_433 ⟨Nat.le_of_ble_eq_true rfl, Nat.le_of_ble_eq_true rfl⟩)) (fun r_1 hr_1 => ?_)
  refine lv_aload_n hx hb dL_law_436 rfl (lv_at hl 2 rfl) ?_
  refine lv_aload_n hx hb dL_law_437 rfl (lv_at hl 0 rfl) ?_
  refine lv_iload_n hx hb dL_law_438 rfl (lv_at hl 3 rfl) ?_
  refine lv_iconst (v := 1) hx hb dL_law_439 (by decide) ?_
  refine lv_iadd hx hb dL_law_440 ?_
  refine cz_i (y := 1) (by decide) ?_
  refine va_sld hx hb hX hbl hbA hS (by unfold vp_in; decide) dL_law_441 ?_
  refine cz_i (y := xs 1) (congrArg xs (by decide)) ?_
  refine lv_aload_n hx hb dL_law_442 rfl (lv_at hl 0 rfl) ?_
  refine lv_iload_n hx hb dL_law_443 rfl (lv_at hl 3 rfl) ?_
  refine lv_iconst (v := 2) hx hb dL_law_444 (by decide) ?_
  refine lv_iadd hx hb dL_law_445 ?_
  refine cz_i (y := 2) (by decide) ?_
  refine va_sld hx hb hX hbl hbA hS (by unfold vp_in; decide) dL_law_446 ?_
  refine cz_i (y := xs 2) (congrArg xs (by decide)) ?_
  refine vp_callSi (cz_run (va_runV (As := [.int (xs 1), .int (xs 2)]) (rest := [.int r_1]) ⟨hx, hb, hml, hown, hts⟩ (c_X7_room l dC dI cI cB mo (xs 1) (xs 2) m1 m2 m3 m4 m5 pg m6 m7 m8 m9 m10 m11 m12 ) (cwV 2 hts gL_law_X7_room rfl rfl rfl (by decide +kernel) ⟨Nat.le_of_ble_eq_true rfl, Nat.le_of_ble_eq_true rfl⟩) (cz_pV (hP.sub (ws' := [(mo, .inr (7, [.int 0, .int 0, .int 0, .int (-1), .int (-1), .int 0, .int 0, .ref m1, .ref m2, .ref m3, .ref m4, .ref m5, .int 0, .ref pg, .int 0, .int 0, .ref m6, .ref m7, .ref m8, .long 0, .int 0, .int 0, .int 0, .int 0, .int 0, .int 0, .ref m9, .ref m10, .ref m11, .ref m12, .long 0]))]) [6] rfl) hN (va_recv hK (hP.sub (ws' := [(mo, .inr (7, [.int 0, .int 0, .int 0, .int (-1), .int (-1), .int 0, .int 0, .ref m1, .ref m2, .ref m3, .ref m4, .ref m5, .int 0, .ref pg, .int 0, .int 0, .ref m6, .ref m7, .ref m8, .long 0, .int 0, .int 0, .int 0, .int 0, .int 0, .int 0, .ref m9, .ref m10, .ref m11, .ref m12, .long 0]))]) [6] rfl) (ci := 7) (q0 := 0) rfl rfl)) rfl rfl hl.1 rfl (lv_room (Nat.le_of_ble_eq_true rfl)) dL_law_447 ⟨Nat.le_of_ble_eq_true rfl, Nat.le_of_ble_eq_true rfl⟩)) (fun r_2 hr_2 => ?_)
  refine lv_icmp_eq (tgt := 673) hx hb dL_law_450 (by decide) (fun _ => ?_) (fun c => absurd (hr_1.trans hr_2.symm) c)
  have hP := hP.sub (ws' := []) [] rfl
  have hD := hD.sub (ws' := []) [] (by decide) rfl
  exact law_end hx hb hr hml hown hts hX hbl hbA hA hAr hlocks hN H locs ls hP hD hS (lv_sub hl [0, 3] rfl)

set_option maxHeartbeats 4000000 in
set_option maxRecDepth 100000 in
theorem law_case13 {p : Program} {l : Launch} {e : Env} {s : State} {m : MethodId} {below : List Frame} {meth : Method} {c : Code} {dC : Nat → ClassId} {dI : Nat → Nat → Nat} {cI cB : ClassId} {A : Nat → Prop} {b : Nat} {xs : Nat → Int32} (hx : p.tables.exec = Jvm.exec) (hb : c.code = cL_law) (hr : meth.sig.returnType = ret) (hml : c.maxLocals = 4) (hown : s.vm.findClass RL = some m.cls) (hts : ∀ w ∈ wsL_law, w.before #[Value.ref b] s = true) (hX : va_X b 4 xs s s.heap) (hbl : b < s.heap.size) (hbA : ¬ A b) (hA : ∀ q : Nat, s.heap.size ≤ q → A q) (hAr : ∀ q : Nat, A q → s.heap.size ≤ q) (hlocks : meth.locks = false) (hN : cz_N dC dI cI cB s) (h0 : Nat) (hp : Nat) (hs : Nat) (hh : Nat) (hc : Nat) (kp : Nat) (rt : Nat) (cd : Nat) (si : Nat) (k1 : Nat) (k2 : Nat) (k3 : Nat) (k4 : Nat) (k5 : Nat) (mo : Nat) (m1 : Nat) (m2 : Nat) (m3 : Nat) (m4 : Nat) (m5 : Nat) (pg : Nat) (m6 : Nat) (m7 : Nat) (m8 : Nat) (m9 : Nat) (m10 : Nat) (m11 : Nat) (m12 : Nat) (H : Heap) (locs : List Loc) (ls : Array Slot) (hP : va_P (dC, dI) vwCl [(h0, .inr (6, [.ref hp, .ref hs, .ref hh, .ref hc, .ref kp, .ref rt, .int 0])), (hp, .inr (2, [.ref cd, .int 0])), (cd, .inl (cI, 24, .inl (fun _ => 0))), (hs, .inr (4, [.ref hh, .ref hc, .ref si])), (hh, .inr (1, [.int 0, .int 0, .int 0])), (hc, .inr (0, [.int (-1), .int 0, .int 0, .ref k1, .ref k2, .ref k3, .ref k4, .ref k5])), (mo, .inr (7, [.int 0, .int 0, .int 0, .int (-1), .int (-1), .int 0, .int 0, .ref m1, .ref m2, .ref m3, .ref m4, .ref m5, .int 0, .ref pg, .int 0, .int 0, .ref m6, .ref m7, .ref m8, .long 0, .int 0, .int 0, .int 0, .int 0, .int 0, .int 0, .ref m9, .ref m10, .ref m11, .ref m12, .long 0])), (pg, .inl (cB, 24, .inl (fun _ => 0)))] H) (hD : va_D A [(h0, .inr (6, [.ref hp, .ref hs, .ref hh, .ref hc, .ref kp, .ref rt, .int 0])), (hp, .inr (2, [.ref cd, .int 0])), (cd, .inl (cI, 24, .inl (fun _ => 0))), (hs, .inr (4, [.ref hh, .ref hc, .ref si])), (hh, .inr (1, [.int 0, .int 0, .int 0])), (hc, .inr (0, [.int (-1), .int 0, .int 0, .ref k1, .ref k2, .ref k3, .ref k4, .ref k5])), (mo, .inr (7, [.int 0, .int 0, .int 0, .int (-1), .int (-1), .int 0, .int 0, .ref m1, .ref m2, .ref m3, .ref m4, .ref m5, .int 0, .ref pg, .int 0, .int 0, .ref m6, .ref m7, .ref m8, .long 0, .int 0, .int 0, .int 0, .int 0, .int 0, .int 0, .ref m9, .ref m10, .ref m11, .ref m12, .long 0])), (pg, .inl (cB, 24, .inl (fun _ => 0)))]) (hS : va_S A s.heap H locs) (hl : lv_has ls 4 [(0, .ref b), (1, .ref h0), (2, .ref mo), (3, .int 0)]) : W p l e room_1 s m #[Value.ref b] below meth c H locs 38 1433 (lw_Z below #[Value.ref b] s) (F0 m 455 ls []) := by
  have hK := hN.1
  refine lv_aload_n hx hb dL_law_455 rfl (lv_at hl 1 rfl) ?_
  refine lv_aload_n hx hb dL_law_456 rfl (lv_at hl 0 rfl) ?_
  refine lv_iload_n hx hb dL_law_457 rfl (lv_at hl 3 rfl) ?_
  refine lv_iconst (v := 1) hx hb dL_law_458 (by decide) ?_
  refine lv_iadd hx hb dL_law_459 ?_
  refine cz_i (y := 1) (by decide) ?_
  refine va_sld hx hb hX hbl hbA hS (by unfold vp_in; decide) dL_law_460 ?_
  refine cz_i (y := xs 1) (congrArg xs (by decide)) ?_
  refine vp_callSi (cz_run (va_runV (As := [.int (xs 1)]) (rest := []) ⟨hx, hb, hml, hown, hts⟩ (c_X6_brick l dC dI cI cB h0 (xs 1) hp hs hh hc kp rt k1 k2 k3 k4 k5 ) (cwV 1 hts gL_law_X6_brick rfl rfl rfl (by decide +kernel) ⟨Nat.le_of_ble_eq_true rfl, Nat.le_of_ble_eq_true rfl⟩) (cz_pV (hP.sub (ws' := [(h0, .inr (6, [.ref hp, .ref hs, .ref hh, .ref hc, .ref kp, .ref rt, .int 0])), (hc, .inr (0, [.int (-1), .int 0, .int 0, .ref k1, .ref k2, .ref k3, .ref k4, .ref k5]))]) [0, 5] rfl) hN (va_recv hK (hP.sub (ws' := [(h0, .inr (6, [.ref hp, .ref hs, .ref hh, .ref hc, .ref kp, .ref rt, .int 0])), (hc, .inr (0, [.int (-1), .int 0, .int 0, .ref k1, .ref k2, .ref k3, .ref k4, .ref k5]))]) [0, 5] rfl) (ci := 6) (q0 := 0) rfl rfl)) rfl rfl hl.1 rfl (lv_room (Nat.le_of_ble_eq_true rfl)) dL_law_461 ⟨Nat.le_of_ble_eq_true rfl, Nat.le_of_ble_eq_true rfl⟩)) (fun r_1 hr_1 => ?_)
  refine lv_aload_n hx hb dL_law_464 rfl (lv_at hl 2 rfl) ?_
  refine lv_aload_n hx hb dL_law_465 rfl (lv_at hl 0 rfl) ?_
  refine lv_iload_n hx hb dL_law_466 rfl (lv_at hl 3 rfl) ?_
  refine lv_iconst (v := 1) hx hb dL_law_467 (by decide) ?_
  refine lv_iadd hx hb dL_law_468 ?_
  refine cz_i (y := 1) (by decide) ?_
  refine va_sld hx hb hX hbl hbA hS (by unfold vp_in; decide) dL_law_469 ?_
  refine cz_i (y := xs 1) (congrArg xs (by decide)) ?_
  refine vp_callSi (cz_run (va_runV (As := [.int (xs 1)]) (rest := [.int r_1]) ⟨hx, hb, hml, hown, hts⟩ (c_X7_brick l dC dI cI cB mo (xs 1) m1 m2 m3 m4 m5 pg m6 m7 m8 m9 m10 m11 m12 ) (cwV 1 hts gL_law_X7_brick rfl rfl rfl (by decide +kernel) ⟨Nat.le_of_ble_eq_true rfl, Nat.le_of_ble_eq_true rfl⟩) (cz_pV (hP.sub (ws' := [(mo, .inr (7, [.int 0, .int 0, .int 0, .int (-1), .int (-1), .int 0, .int 0, .ref m1, .ref m2, .ref m3, .ref m4, .ref m5, .int 0, .ref pg, .int 0, .int 0, .ref m6, .ref m7, .ref m8, .long 0, .int 0, .int 0, .int 0, .int 0, .int 0, .int 0, .ref m9, .ref m10, .ref m11, .ref m12, .long 0]))]) [6] rfl) hN (va_recv hK (hP.sub (ws' := [(mo, .inr (7, [.int 0, .int 0, .int 0, .int (-1), .int (-1), .int 0, .int 0, .ref m1, .ref m2, .ref m3, .ref m4, .ref m5, .int 0, .ref pg, .int 0, .int 0, .ref m6, .ref m7, .ref m8, .long 0, .int 0, .int 0, .int 0, .int 0, .int 0, .int 0, .ref m9, .ref m10, .ref m11, .ref m12, .long 0]))]) [6] rfl) (ci := 7) (q0 := 0) rfl rfl)) rfl rfl hl.1 rfl (lv_room (Nat.le_of_ble_eq_true rfl)) dL_law_470 ⟨Nat.le_of_ble_eq_true rfl, Nat.le_of_ble_eq_true rfl⟩)) (fun r_2 hr_2 => ?_)
  refine lv_icmp_eq (tgt := 673) hx hb dL_law_473 (by decide) (fun _ => ?_) (fun c => absurd (hr_1.trans hr_2.symm) c)
  have hP := hP.sub (ws' := []) [] rfl
  have hD := hD.sub (ws' := []) [] (by decide) rfl
  exact law_end hx hb hr hml hown hts hX hbl hbA hA hAr hlocks hN H locs ls hP hD hS (lv_sub hl [0, 3] rfl)

set_option maxHeartbeats 4000000 in
set_option maxRecDepth 100000 in
theorem law_case14 {p : Program} {l : Launch} {e : Env} {s : State} {m : MethodId} {below : List Frame} {meth : Method} {c : Code} {dC : Nat → ClassId} {dI : Nat → Nat → Nat} {cI cB : ClassId} {A : Nat → Prop} {b : Nat} {xs : Nat → Int32} (hx : p.tables.exec = Jvm.exec) (hb : c.code = cL_law) (hr : meth.sig.returnType = ret) (hml : c.maxLocals = 4) (hown : s.vm.findClass RL = some m.cls) (hts : ∀ w ∈ wsL_law, w.before #[Value.ref b] s = true) (hX : va_X b 4 xs s s.heap) (hbl : b < s.heap.size) (hbA : ¬ A b) (hA : ∀ q : Nat, s.heap.size ≤ q → A q) (hAr : ∀ q : Nat, A q → s.heap.size ≤ q) (hlocks : meth.locks = false) (hN : cz_N dC dI cI cB s) (h0 : Nat) (hp : Nat) (hs : Nat) (hh : Nat) (hc : Nat) (kp : Nat) (rt : Nat) (cd : Nat) (si : Nat) (k1 : Nat) (k2 : Nat) (k3 : Nat) (k4 : Nat) (k5 : Nat) (mo : Nat) (m1 : Nat) (m2 : Nat) (m3 : Nat) (m4 : Nat) (m5 : Nat) (pg : Nat) (m6 : Nat) (m7 : Nat) (m8 : Nat) (m9 : Nat) (m10 : Nat) (m11 : Nat) (m12 : Nat) (H : Heap) (locs : List Loc) (ls : Array Slot) (hP : va_P (dC, dI) vwCl [(h0, .inr (6, [.ref hp, .ref hs, .ref hh, .ref hc, .ref kp, .ref rt, .int 0])), (hp, .inr (2, [.ref cd, .int 0])), (cd, .inl (cI, 24, .inl (fun _ => 0))), (hs, .inr (4, [.ref hh, .ref hc, .ref si])), (hh, .inr (1, [.int 0, .int 0, .int 0])), (hc, .inr (0, [.int (-1), .int 0, .int 0, .ref k1, .ref k2, .ref k3, .ref k4, .ref k5])), (mo, .inr (7, [.int 0, .int 0, .int 0, .int (-1), .int (-1), .int 0, .int 0, .ref m1, .ref m2, .ref m3, .ref m4, .ref m5, .int 0, .ref pg, .int 0, .int 0, .ref m6, .ref m7, .ref m8, .long 0, .int 0, .int 0, .int 0, .int 0, .int 0, .int 0, .ref m9, .ref m10, .ref m11, .ref m12, .long 0])), (pg, .inl (cB, 24, .inl (fun _ => 0)))] H) (hD : va_D A [(h0, .inr (6, [.ref hp, .ref hs, .ref hh, .ref hc, .ref kp, .ref rt, .int 0])), (hp, .inr (2, [.ref cd, .int 0])), (cd, .inl (cI, 24, .inl (fun _ => 0))), (hs, .inr (4, [.ref hh, .ref hc, .ref si])), (hh, .inr (1, [.int 0, .int 0, .int 0])), (hc, .inr (0, [.int (-1), .int 0, .int 0, .ref k1, .ref k2, .ref k3, .ref k4, .ref k5])), (mo, .inr (7, [.int 0, .int 0, .int 0, .int (-1), .int (-1), .int 0, .int 0, .ref m1, .ref m2, .ref m3, .ref m4, .ref m5, .int 0, .ref pg, .int 0, .int 0, .ref m6, .ref m7, .ref m8, .long 0, .int 0, .int 0, .int 0, .int 0, .int 0, .int 0, .ref m9, .ref m10, .ref m11, .ref m12, .long 0])), (pg, .inl (cB, 24, .inl (fun _ => 0)))]) (hS : va_S A s.heap H locs) (hl : lv_has ls 4 [(0, .ref b), (1, .ref h0), (2, .ref mo), (3, .int 0)]) : W p l e room_1 s m #[Value.ref b] below meth c H locs 38 1433 (lw_Z below #[Value.ref b] s) (F0 m 478 ls []) := by
  have hK := hN.1
  refine lv_aload_n hx hb dL_law_478 rfl (lv_at hl 1 rfl) ?_
  refine lv_aload_n hx hb dL_law_479 rfl (lv_at hl 0 rfl) ?_
  refine lv_iload_n hx hb dL_law_480 rfl (lv_at hl 3 rfl) ?_
  refine lv_iconst (v := 1) hx hb dL_law_481 (by decide) ?_
  refine lv_iadd hx hb dL_law_482 ?_
  refine cz_i (y := 1) (by decide) ?_
  refine va_sld hx hb hX hbl hbA hS (by unfold vp_in; decide) dL_law_483 ?_
  refine cz_i (y := xs 1) (congrArg xs (by decide)) ?_
  refine lv_aload_n hx hb dL_law_484 rfl (lv_at hl 0 rfl) ?_
  refine lv_iload_n hx hb dL_law_485 rfl (lv_at hl 3 rfl) ?_
  refine lv_iconst (v := 2) hx hb dL_law_486 (by decide) ?_
  refine lv_iadd hx hb dL_law_487 ?_
  refine cz_i (y := 2) (by decide) ?_
  refine va_sld hx hb hX hbl hbA hS (by unfold vp_in; decide) dL_law_488 ?_
  refine cz_i (y := xs 2) (congrArg xs (by decide)) ?_
  refine vp_callSi (cz_run (va_runV (As := [.int (xs 1), .int (xs 2)]) (rest := []) ⟨hx, hb, hml, hown, hts⟩ (c_X6_way l dC dI cI cB h0 (xs 1) (xs 2) hp hs hh hc kp rt k1 k2 k3 k4 k5 ) (cwV 2 hts gL_law_X6_way rfl rfl rfl (by decide +kernel) ⟨Nat.le_of_ble_eq_true rfl, Nat.le_of_ble_eq_true rfl⟩) (cz_pV (hP.sub (ws' := [(h0, .inr (6, [.ref hp, .ref hs, .ref hh, .ref hc, .ref kp, .ref rt, .int 0])), (hc, .inr (0, [.int (-1), .int 0, .int 0, .ref k1, .ref k2, .ref k3, .ref k4, .ref k5]))]) [0, 5] rfl) hN (va_recv hK (hP.sub (ws' := [(h0, .inr (6, [.ref hp, .ref hs, .ref hh, .ref hc, .ref kp, .ref rt, .int 0])), (hc, .inr (0, [.int (-1), .int 0, .int 0, .ref k1, .ref k2, .ref k3, .ref k4, .ref k5]))]) [0, 5] rfl) (ci := 6) (q0 := 0) rfl rfl)) rfl rfl hl.1 rfl (lv_room (Nat.le_of_ble_eq_true rfl)) dL_law_489 ⟨Nat.le_of_ble_eq_true rfl, Nat.le_of_ble_eq_true rfl⟩)) (fun r_1 hr_1 => ?_)
  refine lv_aload_n hx hb dL_law_492 rfl (lv_at hl 2 rfl) ?_
  refine lv_aload_n hx hb dL_law_493 rfl (lv_at hl 0 rfl) ?_
  refine lv_iload_n hx hb dL_law_494 rfl (lv_at hl 3 rfl) ?_
  refine lv_iconst (v := 1) hx hb dL_law_495 (by decide) ?_
  refine lv_iadd hx hb dL_law_496 ?_
  refine cz_i (y := 1) (by decide) ?_
  refine va_sld hx hb hX hbl hbA hS (by unfold vp_in; decide) dL_law_497 ?_
  refine cz_i (y := xs 1) (congrArg xs (by decide)) ?_
  refine lv_aload_n hx hb dL_law_498 rfl (lv_at hl 0 rfl) ?_
  refine lv_iload_n hx hb dL_law_499 rfl (lv_at hl 3 rfl) ?_
  refine lv_iconst (v := 2) hx hb dL_law_500 (by decide) ?_
  refine lv_iadd hx hb dL_law_501 ?_
  refine cz_i (y := 2) (by decide) ?_
  refine va_sld hx hb hX hbl hbA hS (by unfold vp_in; decide) dL_law_502 ?_
  refine cz_i (y := xs 2) (congrArg xs (by decide)) ?_
  refine vp_callSi (cz_run (va_runV (As := [.int (xs 1), .int (xs 2)]) (rest := [.int r_1]) ⟨hx, hb, hml, hown, hts⟩ (c_X7_way l dC dI cI cB mo (xs 1) (xs 2) m1 m2 m3 m4 m5 pg m6 m7 m8 m9 m10 m11 m12 ) (cwV 2 hts gL_law_X7_way rfl rfl rfl (by decide +kernel) ⟨Nat.le_of_ble_eq_true rfl, Nat.le_of_ble_eq_true rfl⟩) (cz_pV (hP.sub (ws' := [(mo, .inr (7, [.int 0, .int 0, .int 0, .int (-1), .int (-1), .int 0, .int 0, .ref m1, .ref m2, .ref m3, .ref m4, .ref m5, .int 0, .ref pg, .int 0, .int 0, .ref m6, .ref m7, .ref m8, .long 0, .int 0, .int 0, .int 0, .int 0, .int 0, .int 0, .ref m9, .ref m10, .ref m11, .ref m12, .long 0]))]) [6] rfl) hN (va_recv hK (hP.sub (ws' := [(mo, .inr (7, [.int 0, .int 0, .int 0, .int (-1), .int (-1), .int 0, .int 0, .ref m1, .ref m2, .ref m3, .ref m4, .ref m5, .int 0, .ref pg, .int 0, .int 0, .ref m6, .ref m7, .ref m8, .long 0, .int 0, .int 0, .int 0, .int 0, .int 0, .int 0, .ref m9, .ref m10, .ref m11, .ref m12, .long 0]))]) [6] rfl) (ci := 7) (q0 := 0) rfl rfl)) rfl rfl hl.1 rfl (lv_room (Nat.le_of_ble_eq_true rfl)) dL_law_503 ⟨Nat.le_of_ble_eq_true rfl, Nat.le_of_ble_eq_true rfl⟩)) (fun r_2 hr_2 => ?_)
  refine lv_icmp_eq (tgt := 673) hx hb dL_law_506 (by decide) (fun _ => ?_) (fun c => absurd (hr_1.trans hr_2.symm) c)
  have hP := hP.sub (ws' := []) [] rfl
  have hD := hD.sub (ws' := []) [] (by decide) rfl
  exact law_end hx hb hr hml hown hts hX hbl hbA hA hAr hlocks hN H locs ls hP hD hS (lv_sub hl [0, 3] rfl)

set_option maxHeartbeats 4000000 in
set_option maxRecDepth 100000 in
theorem law_case15 {p : Program} {l : Launch} {e : Env} {s : State} {m : MethodId} {below : List Frame} {meth : Method} {c : Code} {dC : Nat → ClassId} {dI : Nat → Nat → Nat} {cI cB : ClassId} {A : Nat → Prop} {b : Nat} {xs : Nat → Int32} (hx : p.tables.exec = Jvm.exec) (hb : c.code = cL_law) (hr : meth.sig.returnType = ret) (hml : c.maxLocals = 4) (hown : s.vm.findClass RL = some m.cls) (hts : ∀ w ∈ wsL_law, w.before #[Value.ref b] s = true) (hX : va_X b 4 xs s s.heap) (hbl : b < s.heap.size) (hbA : ¬ A b) (hA : ∀ q : Nat, s.heap.size ≤ q → A q) (hAr : ∀ q : Nat, A q → s.heap.size ≤ q) (hlocks : meth.locks = false) (hN : cz_N dC dI cI cB s) (h0 : Nat) (hp : Nat) (hs : Nat) (hh : Nat) (hc : Nat) (kp : Nat) (rt : Nat) (cd : Nat) (si : Nat) (k1 : Nat) (k2 : Nat) (k3 : Nat) (k4 : Nat) (k5 : Nat) (mo : Nat) (m1 : Nat) (m2 : Nat) (m3 : Nat) (m4 : Nat) (m5 : Nat) (pg : Nat) (m6 : Nat) (m7 : Nat) (m8 : Nat) (m9 : Nat) (m10 : Nat) (m11 : Nat) (m12 : Nat) (H : Heap) (locs : List Loc) (ls : Array Slot) (hP : va_P (dC, dI) vwCl [(h0, .inr (6, [.ref hp, .ref hs, .ref hh, .ref hc, .ref kp, .ref rt, .int 0])), (hp, .inr (2, [.ref cd, .int 0])), (cd, .inl (cI, 24, .inl (fun _ => 0))), (hs, .inr (4, [.ref hh, .ref hc, .ref si])), (hh, .inr (1, [.int 0, .int 0, .int 0])), (hc, .inr (0, [.int (-1), .int 0, .int 0, .ref k1, .ref k2, .ref k3, .ref k4, .ref k5])), (mo, .inr (7, [.int 0, .int 0, .int 0, .int (-1), .int (-1), .int 0, .int 0, .ref m1, .ref m2, .ref m3, .ref m4, .ref m5, .int 0, .ref pg, .int 0, .int 0, .ref m6, .ref m7, .ref m8, .long 0, .int 0, .int 0, .int 0, .int 0, .int 0, .int 0, .ref m9, .ref m10, .ref m11, .ref m12, .long 0])), (pg, .inl (cB, 24, .inl (fun _ => 0)))] H) (hD : va_D A [(h0, .inr (6, [.ref hp, .ref hs, .ref hh, .ref hc, .ref kp, .ref rt, .int 0])), (hp, .inr (2, [.ref cd, .int 0])), (cd, .inl (cI, 24, .inl (fun _ => 0))), (hs, .inr (4, [.ref hh, .ref hc, .ref si])), (hh, .inr (1, [.int 0, .int 0, .int 0])), (hc, .inr (0, [.int (-1), .int 0, .int 0, .ref k1, .ref k2, .ref k3, .ref k4, .ref k5])), (mo, .inr (7, [.int 0, .int 0, .int 0, .int (-1), .int (-1), .int 0, .int 0, .ref m1, .ref m2, .ref m3, .ref m4, .ref m5, .int 0, .ref pg, .int 0, .int 0, .ref m6, .ref m7, .ref m8, .long 0, .int 0, .int 0, .int 0, .int 0, .int 0, .int 0, .ref m9, .ref m10, .ref m11, .ref m12, .long 0])), (pg, .inl (cB, 24, .inl (fun _ => 0)))]) (hS : va_S A s.heap H locs) (hl : lv_has ls 4 [(0, .ref b), (1, .ref h0), (2, .ref mo), (3, .int 0)]) : W p l e room_1 s m #[Value.ref b] below meth c H locs 38 1433 (lw_Z below #[Value.ref b] s) (F0 m 511 ls []) := by
  have hK := hN.1
  refine lv_aload_n hx hb dL_law_511 rfl (lv_at hl 1 rfl) ?_
  refine lv_aload_n hx hb dL_law_512 rfl (lv_at hl 0 rfl) ?_
  refine lv_iload_n hx hb dL_law_513 rfl (lv_at hl 3 rfl) ?_
  refine lv_iconst (v := 1) hx hb dL_law_514 (by decide) ?_
  refine lv_iadd hx hb dL_law_515 ?_
  refine cz_i (y := 1) (by decide) ?_
  refine va_sld hx hb hX hbl hbA hS (by unfold vp_in; decide) dL_law_516 ?_
  refine cz_i (y := xs 1) (congrArg xs (by decide)) ?_
  refine lv_aload_n hx hb dL_law_517 rfl (lv_at hl 0 rfl) ?_
  refine lv_iload_n hx hb dL_law_518 rfl (lv_at hl 3 rfl) ?_
  refine lv_iconst (v := 2) hx hb dL_law_519 (by decide) ?_
  refine lv_iadd hx hb dL_law_520 ?_
  refine cz_i (y := 2) (by decide) ?_
  refine va_sld hx hb hX hbl hbA hS (by unfold vp_in; decide) dL_law_521 ?_
  refine cz_i (y := xs 2) (congrArg xs (by decide)) ?_
  refine vp_callSi (cz_run (va_runV (As := [.int (xs 1), .int (xs 2)]) (rest := []) ⟨hx, hb, hml, hown, hts⟩ (c_X6_told l dC dI cI cB h0 (xs 1) (xs 2) hp hs hh hc kp rt k1 k2 k3 k4 k5 ) (cwV 2 hts gL_law_X6_told rfl rfl rfl (by decide +kernel) ⟨Nat.le_of_ble_eq_true rfl, Nat.le_of_ble_eq_true rfl⟩) (cz_pV (hP.sub (ws' := [(h0, .inr (6, [.ref hp, .ref hs, .ref hh, .ref hc, .ref kp, .ref rt, .int 0])), (hc, .inr (0, [.int (-1), .int 0, .int 0, .ref k1, .ref k2, .ref k3, .ref k4, .ref k5]))]) [0, 5] rfl) hN (va_recv hK (hP.sub (ws' := [(h0, .inr (6, [.ref hp, .ref hs, .ref hh, .ref hc, .ref kp, .ref rt, .int 0])), (hc, .inr (0, [.int (-1), .int 0, .int 0, .ref k1, .ref k2, .ref k3, .ref k4, .ref k5]))]) [0, 5] rfl) (ci := 6) (q0 := 0) rfl rfl)) rfl rfl hl.1 rfl (lv_room (Nat.le_of_ble_eq_true rfl)) dL_law_522 ⟨Nat.le_of_ble_eq_true rfl, Nat.le_of_ble_eq_true rfl⟩)) (fun r_1 hr_1 => ?_)
  obtain rfl : r_1 = (-101) := hr_1
  refine lv_aload_n hx hb dL_law_525 rfl (lv_at hl 2 rfl) ?_
  refine lv_aload_n hx hb dL_law_526 rfl (lv_at hl 0 rfl) ?_
  refine lv_iload_n hx hb dL_law_527 rfl (lv_at hl 3 rfl) ?_
  refine lv_iconst (v := 1) hx hb dL_law_528 (by decide) ?_
  refine lv_iadd hx hb dL_law_529 ?_
  refine cz_i (y := 1) (by decide) ?_
  refine va_sld hx hb hX hbl hbA hS (by unfold vp_in; decide) dL_law_530 ?_
  refine cz_i (y := xs 1) (congrArg xs (by decide)) ?_
  refine lv_aload_n hx hb dL_law_531 rfl (lv_at hl 0 rfl) ?_
  refine lv_iload_n hx hb dL_law_532 rfl (lv_at hl 3 rfl) ?_
  refine lv_iconst (v := 2) hx hb dL_law_533 (by decide) ?_
  refine lv_iadd hx hb dL_law_534 ?_
  refine cz_i (y := 2) (by decide) ?_
  refine va_sld hx hb hX hbl hbA hS (by unfold vp_in; decide) dL_law_535 ?_
  refine cz_i (y := xs 2) (congrArg xs (by decide)) ?_
  refine vp_callSi (cz_run (va_runV (As := [.int (xs 1), .int (xs 2)]) (rest := [.int (-101)]) ⟨hx, hb, hml, hown, hts⟩ (c_X7_told l dC dI cI cB mo (xs 1) (xs 2) m1 m2 m3 m4 m5 pg m6 m7 m8 m9 m10 m11 m12 ) (cwV 2 hts gL_law_X7_told rfl rfl rfl (by decide +kernel) ⟨Nat.le_of_ble_eq_true rfl, Nat.le_of_ble_eq_true rfl⟩) (cz_pV (hP.sub (ws' := [(mo, .inr (7, [.int 0, .int 0, .int 0, .int (-1), .int (-1), .int 0, .int 0, .ref m1, .ref m2, .ref m3, .ref m4, .ref m5, .int 0, .ref pg, .int 0, .int 0, .ref m6, .ref m7, .ref m8, .long 0, .int 0, .int 0, .int 0, .int 0, .int 0, .int 0, .ref m9, .ref m10, .ref m11, .ref m12, .long 0]))]) [6] rfl) hN (va_recv hK (hP.sub (ws' := [(mo, .inr (7, [.int 0, .int 0, .int 0, .int (-1), .int (-1), .int 0, .int 0, .ref m1, .ref m2, .ref m3, .ref m4, .ref m5, .int 0, .ref pg, .int 0, .int 0, .ref m6, .ref m7, .ref m8, .long 0, .int 0, .int 0, .int 0, .int 0, .int 0, .int 0, .ref m9, .ref m10, .ref m11, .ref m12, .long 0]))]) [6] rfl) (ci := 7) (q0 := 0) rfl rfl)) rfl rfl hl.1 rfl (lv_room (Nat.le_of_ble_eq_true rfl)) dL_law_536 ⟨Nat.le_of_ble_eq_true rfl, Nat.le_of_ble_eq_true rfl⟩)) (fun r_2 hr_2 => ?_)
  obtain rfl : r_2 = (-101) := hr_2
  refine lv_icmp_eq (tgt := 673) hx hb dL_law_539 (by decide) (fun _ => ?_) (fun c => absurd (by decide) c)
  have hP := hP.sub (ws' := []) [] rfl
  have hD := hD.sub (ws' := []) [] (by decide) rfl
  exact law_end hx hb hr hml hown hts hX hbl hbA hA hAr hlocks hN H locs ls hP hD hS (lv_sub hl [0, 3] rfl)

set_option maxHeartbeats 4000000 in
set_option maxRecDepth 100000 in
theorem law_case16 {p : Program} {l : Launch} {e : Env} {s : State} {m : MethodId} {below : List Frame} {meth : Method} {c : Code} {dC : Nat → ClassId} {dI : Nat → Nat → Nat} {cI cB : ClassId} {A : Nat → Prop} {b : Nat} {xs : Nat → Int32} (hx : p.tables.exec = Jvm.exec) (hb : c.code = cL_law) (hr : meth.sig.returnType = ret) (hml : c.maxLocals = 4) (hown : s.vm.findClass RL = some m.cls) (hts : ∀ w ∈ wsL_law, w.before #[Value.ref b] s = true) (hX : va_X b 4 xs s s.heap) (hbl : b < s.heap.size) (hbA : ¬ A b) (hA : ∀ q : Nat, s.heap.size ≤ q → A q) (hAr : ∀ q : Nat, A q → s.heap.size ≤ q) (hlocks : meth.locks = false) (hN : cz_N dC dI cI cB s) (h0 : Nat) (hp : Nat) (hs : Nat) (hh : Nat) (hc : Nat) (kp : Nat) (rt : Nat) (cd : Nat) (si : Nat) (k1 : Nat) (k2 : Nat) (k3 : Nat) (k4 : Nat) (k5 : Nat) (mo : Nat) (m1 : Nat) (m2 : Nat) (m3 : Nat) (m4 : Nat) (m5 : Nat) (pg : Nat) (m6 : Nat) (m7 : Nat) (m8 : Nat) (m9 : Nat) (m10 : Nat) (m11 : Nat) (m12 : Nat) (H : Heap) (locs : List Loc) (ls : Array Slot) (hP : va_P (dC, dI) vwCl [(h0, .inr (6, [.ref hp, .ref hs, .ref hh, .ref hc, .ref kp, .ref rt, .int 0])), (hp, .inr (2, [.ref cd, .int 0])), (cd, .inl (cI, 24, .inl (fun _ => 0))), (hs, .inr (4, [.ref hh, .ref hc, .ref si])), (hh, .inr (1, [.int 0, .int 0, .int 0])), (hc, .inr (0, [.int (-1), .int 0, .int 0, .ref k1, .ref k2, .ref k3, .ref k4, .ref k5])), (mo, .inr (7, [.int 0, .int 0, .int 0, .int (-1), .int (-1), .int 0, .int 0, .ref m1, .ref m2, .ref m3, .ref m4, .ref m5, .int 0, .ref pg, .int 0, .int 0, .ref m6, .ref m7, .ref m8, .long 0, .int 0, .int 0, .int 0, .int 0, .int 0, .int 0, .ref m9, .ref m10, .ref m11, .ref m12, .long 0])), (pg, .inl (cB, 24, .inl (fun _ => 0)))] H) (hD : va_D A [(h0, .inr (6, [.ref hp, .ref hs, .ref hh, .ref hc, .ref kp, .ref rt, .int 0])), (hp, .inr (2, [.ref cd, .int 0])), (cd, .inl (cI, 24, .inl (fun _ => 0))), (hs, .inr (4, [.ref hh, .ref hc, .ref si])), (hh, .inr (1, [.int 0, .int 0, .int 0])), (hc, .inr (0, [.int (-1), .int 0, .int 0, .ref k1, .ref k2, .ref k3, .ref k4, .ref k5])), (mo, .inr (7, [.int 0, .int 0, .int 0, .int (-1), .int (-1), .int 0, .int 0, .ref m1, .ref m2, .ref m3, .ref m4, .ref m5, .int 0, .ref pg, .int 0, .int 0, .ref m6, .ref m7, .ref m8, .long 0, .int 0, .int 0, .int 0, .int 0, .int 0, .int 0, .ref m9, .ref m10, .ref m11, .ref m12, .long 0])), (pg, .inl (cB, 24, .inl (fun _ => 0)))]) (hS : va_S A s.heap H locs) (hl : lv_has ls 4 [(0, .ref b), (1, .ref h0), (2, .ref mo), (3, .int 0)]) : W p l e room_1 s m #[Value.ref b] below meth c H locs 38 1433 (lw_Z below #[Value.ref b] s) (F0 m 544 ls []) := by
  have hK := hN.1
  refine lv_aload_n hx hb dL_law_544 rfl (lv_at hl 1 rfl) ?_
  refine lv_aload_n hx hb dL_law_545 rfl (lv_at hl 0 rfl) ?_
  refine lv_iload_n hx hb dL_law_546 rfl (lv_at hl 3 rfl) ?_
  refine lv_iconst (v := 1) hx hb dL_law_547 (by decide) ?_
  refine lv_iadd hx hb dL_law_548 ?_
  refine cz_i (y := 1) (by decide) ?_
  refine va_sld hx hb hX hbl hbA hS (by unfold vp_in; decide) dL_law_549 ?_
  refine cz_i (y := xs 1) (congrArg xs (by decide)) ?_
  refine vp_callSi (cz_run (va_runV (As := [.int (xs 1)]) (rest := []) ⟨hx, hb, hml, hown, hts⟩ (c_X6_stood l dC dI cI cB h0 (xs 1) hp hs hh hc kp rt ) (cwV 1 hts gL_law_X6_stood rfl rfl rfl (by decide +kernel) ⟨Nat.le_of_ble_eq_true rfl, Nat.le_of_ble_eq_true rfl⟩) (cz_pV (hP.sub (ws' := [(h0, .inr (6, [.ref hp, .ref hs, .ref hh, .ref hc, .ref kp, .ref rt, .int 0])), (hh, .inr (1, [.int 0, .int 0, .int 0]))]) [0, 4] rfl) hN (va_recv hK (hP.sub (ws' := [(h0, .inr (6, [.ref hp, .ref hs, .ref hh, .ref hc, .ref kp, .ref rt, .int 0])), (hh, .inr (1, [.int 0, .int 0, .int 0]))]) [0, 4] rfl) (ci := 6) (q0 := 0) rfl rfl)) rfl rfl hl.1 rfl (lv_room (Nat.le_of_ble_eq_true rfl)) dL_law_550 ⟨Nat.le_of_ble_eq_true rfl, Nat.le_of_ble_eq_true rfl⟩)) (fun r_1 hr_1 => ?_)
  refine lv_aload_n hx hb dL_law_553 rfl (lv_at hl 2 rfl) ?_
  refine lv_aload_n hx hb dL_law_554 rfl (lv_at hl 0 rfl) ?_
  refine lv_iload_n hx hb dL_law_555 rfl (lv_at hl 3 rfl) ?_
  refine lv_iconst (v := 1) hx hb dL_law_556 (by decide) ?_
  refine lv_iadd hx hb dL_law_557 ?_
  refine cz_i (y := 1) (by decide) ?_
  refine va_sld hx hb hX hbl hbA hS (by unfold vp_in; decide) dL_law_558 ?_
  refine cz_i (y := xs 1) (congrArg xs (by decide)) ?_
  refine vp_callSi (cz_run (va_runV (As := [.int (xs 1)]) (rest := [.int r_1]) ⟨hx, hb, hml, hown, hts⟩ (c_X7_stood l dC dI cI cB mo (xs 1) m1 m2 m3 m4 m5 pg m6 m7 m8 m9 m10 m11 m12 ) (cwV 1 hts gL_law_X7_stood rfl rfl rfl (by decide +kernel) ⟨Nat.le_of_ble_eq_true rfl, Nat.le_of_ble_eq_true rfl⟩) (cz_pV (hP.sub (ws' := [(mo, .inr (7, [.int 0, .int 0, .int 0, .int (-1), .int (-1), .int 0, .int 0, .ref m1, .ref m2, .ref m3, .ref m4, .ref m5, .int 0, .ref pg, .int 0, .int 0, .ref m6, .ref m7, .ref m8, .long 0, .int 0, .int 0, .int 0, .int 0, .int 0, .int 0, .ref m9, .ref m10, .ref m11, .ref m12, .long 0]))]) [6] rfl) hN (va_recv hK (hP.sub (ws' := [(mo, .inr (7, [.int 0, .int 0, .int 0, .int (-1), .int (-1), .int 0, .int 0, .ref m1, .ref m2, .ref m3, .ref m4, .ref m5, .int 0, .ref pg, .int 0, .int 0, .ref m6, .ref m7, .ref m8, .long 0, .int 0, .int 0, .int 0, .int 0, .int 0, .int 0, .ref m9, .ref m10, .ref m11, .ref m12, .long 0]))]) [6] rfl) (ci := 7) (q0 := 0) rfl rfl)) rfl rfl hl.1 rfl (lv_room (Nat.le_of_ble_eq_true rfl)) dL_law_559 ⟨Nat.le_of_ble_eq_true rfl, Nat.le_of_ble_eq_true rfl⟩)) (fun r_2 hr_2 => ?_)
  refine lv_icmp_eq (tgt := 673) hx hb dL_law_562 (by decide) (fun _ => ?_) (fun c => absurd (hr_1.trans hr_2.symm) c)
  have hP := hP.sub (ws' := []) [] rfl
  have hD := hD.sub (ws' := []) [] (by decide) rfl
  exact law_end hx hb hr hml hown hts hX hbl hbA hA hAr hlocks hN H locs ls hP hD hS (lv_sub hl [0, 3] rfl)

set_option maxHeartbeats 4000000 in
set_option maxRecDepth 100000 in
theorem law_case17 {p : Program} {l : Launch} {e : Env} {s : State} {m : MethodId} {below : List Frame} {meth : Method} {c : Code} {dC : Nat → ClassId} {dI : Nat → Nat → Nat} {cI cB : ClassId} {A : Nat → Prop} {b : Nat} {xs : Nat → Int32} (hx : p.tables.exec = Jvm.exec) (hb : c.code = cL_law) (hr : meth.sig.returnType = ret) (hml : c.maxLocals = 4) (hown : s.vm.findClass RL = some m.cls) (hts : ∀ w ∈ wsL_law, w.before #[Value.ref b] s = true) (hX : va_X b 4 xs s s.heap) (hbl : b < s.heap.size) (hbA : ¬ A b) (hA : ∀ q : Nat, s.heap.size ≤ q → A q) (hAr : ∀ q : Nat, A q → s.heap.size ≤ q) (hlocks : meth.locks = false) (hN : cz_N dC dI cI cB s) (h0 : Nat) (hp : Nat) (hs : Nat) (hh : Nat) (hc : Nat) (kp : Nat) (rt : Nat) (cd : Nat) (si : Nat) (k1 : Nat) (k2 : Nat) (k3 : Nat) (k4 : Nat) (k5 : Nat) (mo : Nat) (m1 : Nat) (m2 : Nat) (m3 : Nat) (m4 : Nat) (m5 : Nat) (pg : Nat) (m6 : Nat) (m7 : Nat) (m8 : Nat) (m9 : Nat) (m10 : Nat) (m11 : Nat) (m12 : Nat) (H : Heap) (locs : List Loc) (ls : Array Slot) (hP : va_P (dC, dI) vwCl [(h0, .inr (6, [.ref hp, .ref hs, .ref hh, .ref hc, .ref kp, .ref rt, .int 0])), (hp, .inr (2, [.ref cd, .int 0])), (cd, .inl (cI, 24, .inl (fun _ => 0))), (hs, .inr (4, [.ref hh, .ref hc, .ref si])), (hh, .inr (1, [.int 0, .int 0, .int 0])), (hc, .inr (0, [.int (-1), .int 0, .int 0, .ref k1, .ref k2, .ref k3, .ref k4, .ref k5])), (mo, .inr (7, [.int 0, .int 0, .int 0, .int (-1), .int (-1), .int 0, .int 0, .ref m1, .ref m2, .ref m3, .ref m4, .ref m5, .int 0, .ref pg, .int 0, .int 0, .ref m6, .ref m7, .ref m8, .long 0, .int 0, .int 0, .int 0, .int 0, .int 0, .int 0, .ref m9, .ref m10, .ref m11, .ref m12, .long 0])), (pg, .inl (cB, 24, .inl (fun _ => 0)))] H) (hD : va_D A [(h0, .inr (6, [.ref hp, .ref hs, .ref hh, .ref hc, .ref kp, .ref rt, .int 0])), (hp, .inr (2, [.ref cd, .int 0])), (cd, .inl (cI, 24, .inl (fun _ => 0))), (hs, .inr (4, [.ref hh, .ref hc, .ref si])), (hh, .inr (1, [.int 0, .int 0, .int 0])), (hc, .inr (0, [.int (-1), .int 0, .int 0, .ref k1, .ref k2, .ref k3, .ref k4, .ref k5])), (mo, .inr (7, [.int 0, .int 0, .int 0, .int (-1), .int (-1), .int 0, .int 0, .ref m1, .ref m2, .ref m3, .ref m4, .ref m5, .int 0, .ref pg, .int 0, .int 0, .ref m6, .ref m7, .ref m8, .long 0, .int 0, .int 0, .int 0, .int 0, .int 0, .int 0, .ref m9, .ref m10, .ref m11, .ref m12, .long 0])), (pg, .inl (cB, 24, .inl (fun _ => 0)))]) (hS : va_S A s.heap H locs) (hl : lv_has ls 4 [(0, .ref b), (1, .ref h0), (2, .ref mo), (3, .int 0)]) : W p l e room_1 s m #[Value.ref b] below meth c H locs 38 1433 (lw_Z below #[Value.ref b] s) (F0 m 567 ls []) := by
  have hK := hN.1
  refine lv_aload_n hx hb dL_law_567 rfl (lv_at hl 1 rfl) ?_
  refine lv_aload_n hx hb dL_law_568 rfl (lv_at hl 0 rfl) ?_
  refine lv_iload_n hx hb dL_law_569 rfl (lv_at hl 3 rfl) ?_
  refine lv_iconst (v := 1) hx hb dL_law_570 (by decide) ?_
  refine lv_iadd hx hb dL_law_571 ?_
  refine cz_i (y := 1) (by decide) ?_
  refine va_sld hx hb hX hbl hbA hS (by unfold vp_in; decide) dL_law_572 ?_
  refine cz_i (y := xs 1) (congrArg xs (by decide)) ?_
  refine lv_aload_n hx hb dL_law_573 rfl (lv_at hl 0 rfl) ?_
  refine lv_iload_n hx hb dL_law_574 rfl (lv_at hl 3 rfl) ?_
  refine lv_iconst (v := 2) hx hb dL_law_575 (by decide) ?_
  refine lv_iadd hx hb dL_law_576 ?_
  refine cz_i (y := 2) (by decide) ?_
  refine va_sld hx hb hX hbl hbA hS (by unfold vp_in; decide) dL_law_577 ?_
  refine cz_i (y := xs 2) (congrArg xs (by decide)) ?_
  refine lv_aload_n hx hb dL_law_578 rfl (lv_at hl 0 rfl) ?_
  refine lv_iload_n hx hb dL_law_579 rfl (lv_at hl 3 rfl) ?_
  refine lv_iconst (v := 3) hx hb dL_law_580 (by decide) ?_
  refine lv_iadd hx hb dL_law_581 ?_
  refine cz_i (y := 3) (by decide) ?_
  refine va_sld hx hb hX hbl hbA hS (by unfold vp_in; decide) dL_law_582 ?_
  refine cz_i (y := xs 3) (congrArg xs (by decide)) ?_
  refine vp_callSi (cz_run (va_runV (As := [.int (xs 1), .int (xs 2), .int (xs 3)]) (rest := []) ⟨hx, hb, hml, hown, hts⟩ (c_X6_walk l dC dI cI cB h0 (xs 1) (xs 2) (xs 3) hp hs hh hc kp rt k1 k2 k3 k4 k5 ) (cwV 3 hts gL_law_X6_walk rfl rfl rfl (by decide +kernel) ⟨Nat.le_of_ble_eq_true rfl, Nat.le_of_ble_eq_true rfl⟩) (cz_pV (hP.sub (ws' := [(h0, .inr (6, [.ref hp, .ref hs, .ref hh, .ref hc, .ref kp, .ref rt, .int 0])), (hc, .inr (0, [.int (-1), .int 0, .int 0, .ref k1, .ref k2, .ref k3, .ref k4, .ref k5]))]) [0, 5] rfl) hN (va_recv hK (hP.sub (ws' := [(h0, .inr (6, [.ref hp, .ref hs, .ref hh, .ref hc, .ref kp, .ref rt, .int 0])), (hc, .inr (0, [.int (-1), .int 0, .int 0, .ref k1, .ref k2, .ref k3, .ref k4, .ref k5]))]) [0, 5] rfl) (ci := 6) (q0 := 0) rfl rfl)) rfl rfl hl.1 rfl (lv_room (Nat.le_of_ble_eq_true rfl)) dL_law_583 ⟨Nat.le_of_ble_eq_true rfl, Nat.le_of_ble_eq_true rfl⟩)) (fun r_1 hr_1 => ?_)
  refine lv_aload_n hx hb dL_law_586 rfl (lv_at hl 2 rfl) ?_
  refine lv_aload_n hx hb dL_law_587 rfl (lv_at hl 0 rfl) ?_
  refine lv_iload_n hx hb dL_law_588 rfl (lv_at hl 3 rfl) ?_
  refine lv_iconst (v := 1) hx hb dL_law_589 (by decide) ?_
  refine lv_iadd hx hb dL_law_590 ?_
  refine cz_i (y := 1) (by decide) ?_
  refine va_sld hx hb hX hbl hbA hS (by unfold vp_in; decide) dL_law_591 ?_
  refine cz_i (y := xs 1) (congrArg xs (by decide)) ?_
  refine lv_aload_n hx hb dL_law_592 rfl (lv_at hl 0 rfl) ?_
  refine lv_iload_n hx hb dL_law_593 rfl (lv_at hl 3 rfl) ?_
  refine lv_iconst (v := 2) hx hb dL_law_594 (by decide) ?_
  refine lv_iadd hx hb dL_law_595 ?_
  refine cz_i (y := 2) (by decide) ?_
  refine va_sld hx hb hX hbl hbA hS (by unfold vp_in; decide) dL_law_596 ?_
  refine cz_i (y := xs 2) (congrArg xs (by decide)) ?_
  refine lv_aload_n hx hb dL_law_597 rfl (lv_at hl 0 rfl) ?_
  refine lv_iload_n hx hb dL_law_598 rfl (lv_at hl 3 rfl) ?_
  refine lv_iconst (v := 3) hx hb dL_law_599 (by decide) ?_
  refine lv_iadd hx hb dL_law_600 ?_
  refine cz_i (y := 3) (by decide) ?_
  refine va_sld hx hb hX hbl hbA hS (by unfold vp_in; decide) dL_law_601 ?_
  refine cz_i (y := xs 3) (congrArg xs (by decide)) ?_
  refine vp_callSi (cz_run (va_runV (As := [.int (xs 1), .int (xs 2), .int (xs 3)]) (rest := [.int r_1]) ⟨hx, hb, hml, hown, hts⟩ (c_X7_walk l dC dI cI cB mo (xs 1) (xs 2) (xs 3) m1 m2 m3 m4 m5 pg m6 m7 m8 m9 m10 m11 m12 ) (cwV 3 hts gL_law_X7_walk rfl rfl rfl (by decide +kernel) ⟨Nat.le_of_ble_eq_true rfl, Nat.le_of_ble_eq_true rfl⟩) (cz_pV (hP.sub (ws' := [(mo, .inr (7, [.int 0, .int 0, .int 0, .int (-1), .int (-1), .int 0, .int 0, .ref m1, .ref m2, .ref m3, .ref m4, .ref m5, .int 0, .ref pg, .int 0, .int 0, .ref m6, .ref m7, .ref m8, .long 0, .int 0, .int 0, .int 0, .int 0, .int 0, .int 0, .ref m9, .ref m10, .ref m11, .ref m12, .long 0]))]) [6] rfl) hN (va_recv hK (hP.sub (ws' := [(mo, .inr (7, [.int 0, .int 0, .int 0, .int (-1), .int (-1), .int 0, .int 0, .ref m1, .ref m2, .ref m3, .ref m4, .ref m5, .int 0, .ref pg, .int 0, .int 0, .ref m6, .ref m7, .ref m8, .long 0, .int 0, .int 0, .int 0, .int 0, .int 0, .int 0, .ref m9, .ref m10, .ref m11, .ref m12, .long 0]))]) [6] rfl) (ci := 7) (q0 := 0) rfl rfl)) rfl rfl hl.1 rfl (lv_room (Nat.le_of_ble_eq_true rfl)) dL_law_602 ⟨Nat.le_of_ble_eq_true rfl, Nat.le_of_ble_eq_true rfl⟩)) (fun r_2 hr_2 => ?_)
  refine lv_icmp_eq (tgt := 673) hx hb dL_law_605 (by decide) (fun _ => ?_) (fun c => absurd (hr_1.trans hr_2.symm) c)
  have hP := hP.sub (ws' := []) [] rfl
  have hD := hD.sub (ws' := []) [] (by decide) rfl
  exact law_end hx hb hr hml hown hts hX hbl hbA hA hAr hlocks hN H locs ls hP hD hS (lv_sub hl [0, 3] rfl)

set_option maxHeartbeats 4000000 in
set_option maxRecDepth 100000 in
theorem law_case18 {p : Program} {l : Launch} {e : Env} {s : State} {m : MethodId} {below : List Frame} {meth : Method} {c : Code} {dC : Nat → ClassId} {dI : Nat → Nat → Nat} {cI cB : ClassId} {A : Nat → Prop} {b : Nat} {xs : Nat → Int32} (hx : p.tables.exec = Jvm.exec) (hb : c.code = cL_law) (hr : meth.sig.returnType = ret) (hml : c.maxLocals = 4) (hown : s.vm.findClass RL = some m.cls) (hts : ∀ w ∈ wsL_law, w.before #[Value.ref b] s = true) (hX : va_X b 4 xs s s.heap) (hbl : b < s.heap.size) (hbA : ¬ A b) (hA : ∀ q : Nat, s.heap.size ≤ q → A q) (hAr : ∀ q : Nat, A q → s.heap.size ≤ q) (hlocks : meth.locks = false) (hN : cz_N dC dI cI cB s) (h0 : Nat) (hp : Nat) (hs : Nat) (hh : Nat) (hc : Nat) (kp : Nat) (rt : Nat) (cd : Nat) (si : Nat) (k1 : Nat) (k2 : Nat) (k3 : Nat) (k4 : Nat) (k5 : Nat) (mo : Nat) (m1 : Nat) (m2 : Nat) (m3 : Nat) (m4 : Nat) (m5 : Nat) (pg : Nat) (m6 : Nat) (m7 : Nat) (m8 : Nat) (m9 : Nat) (m10 : Nat) (m11 : Nat) (m12 : Nat) (H : Heap) (locs : List Loc) (ls : Array Slot) (hP : va_P (dC, dI) vwCl [(h0, .inr (6, [.ref hp, .ref hs, .ref hh, .ref hc, .ref kp, .ref rt, .int 0])), (hp, .inr (2, [.ref cd, .int 0])), (cd, .inl (cI, 24, .inl (fun _ => 0))), (hs, .inr (4, [.ref hh, .ref hc, .ref si])), (hh, .inr (1, [.int 0, .int 0, .int 0])), (hc, .inr (0, [.int (-1), .int 0, .int 0, .ref k1, .ref k2, .ref k3, .ref k4, .ref k5])), (mo, .inr (7, [.int 0, .int 0, .int 0, .int (-1), .int (-1), .int 0, .int 0, .ref m1, .ref m2, .ref m3, .ref m4, .ref m5, .int 0, .ref pg, .int 0, .int 0, .ref m6, .ref m7, .ref m8, .long 0, .int 0, .int 0, .int 0, .int 0, .int 0, .int 0, .ref m9, .ref m10, .ref m11, .ref m12, .long 0])), (pg, .inl (cB, 24, .inl (fun _ => 0)))] H) (hD : va_D A [(h0, .inr (6, [.ref hp, .ref hs, .ref hh, .ref hc, .ref kp, .ref rt, .int 0])), (hp, .inr (2, [.ref cd, .int 0])), (cd, .inl (cI, 24, .inl (fun _ => 0))), (hs, .inr (4, [.ref hh, .ref hc, .ref si])), (hh, .inr (1, [.int 0, .int 0, .int 0])), (hc, .inr (0, [.int (-1), .int 0, .int 0, .ref k1, .ref k2, .ref k3, .ref k4, .ref k5])), (mo, .inr (7, [.int 0, .int 0, .int 0, .int (-1), .int (-1), .int 0, .int 0, .ref m1, .ref m2, .ref m3, .ref m4, .ref m5, .int 0, .ref pg, .int 0, .int 0, .ref m6, .ref m7, .ref m8, .long 0, .int 0, .int 0, .int 0, .int 0, .int 0, .int 0, .ref m9, .ref m10, .ref m11, .ref m12, .long 0])), (pg, .inl (cB, 24, .inl (fun _ => 0)))]) (hS : va_S A s.heap H locs) (hl : lv_has ls 4 [(0, .ref b), (1, .ref h0), (2, .ref mo), (3, .int 0)]) : W p l e room_1 s m #[Value.ref b] below meth c H locs 38 1433 (lw_Z below #[Value.ref b] s) (F0 m 610 ls []) := by
  have hK := hN.1
  refine lv_aload_n hx hb dL_law_610 rfl (lv_at hl 1 rfl) ?_
  refine vp_callSi (cz_run (va_runV (As := []) (rest := []) ⟨hx, hb, hml, hown, hts⟩ (c_X6_image l dC dI cI cB h0 hp hs hh hc kp rt ) (cwV 0 hts gL_law_X6_image rfl rfl rfl (by decide +kernel) ⟨Nat.le_of_ble_eq_true rfl, Nat.le_of_ble_eq_true rfl⟩) (cz_pV (hP.sub (ws' := [(h0, .inr (6, [.ref hp, .ref hs, .ref hh, .ref hc, .ref kp, .ref rt, .int 0])), (hh, .inr (1, [.int 0, .int 0, .int 0]))]) [0, 4] rfl) hN (va_recv hK (hP.sub (ws' := [(h0, .inr (6, [.ref hp, .ref hs, .ref hh, .ref hc, .ref kp, .ref rt, .int 0])), (hh, .inr (1, [.int 0, .int 0, .int 0]))]) [0, 4] rfl) (ci := 6) (q0 := 0) rfl rfl)) rfl rfl hl.1 rfl (lv_room (Nat.le_of_ble_eq_true rfl)) dL_law_611 ⟨Nat.le_of_ble_eq_true rfl, Nat.le_of_ble_eq_true rfl⟩)) (fun r_1 hr_1 => ?_)
  obtain rfl : r_1 = (-103) := hr_1
  refine lv_aload_n hx hb dL_law_614 rfl (lv_at hl 2 rfl) ?_
  refine vp_callSi (cz_run (va_runV (As := []) (rest := [.int (-103)]) ⟨hx, hb, hml, hown, hts⟩ (c_X7_image l dC dI cI cB mo m1 m2 m3 m4 m5 pg m6 m7 m8 m9 m10 m11 m12 ) (cwV 0 hts gL_law_X7_image rfl rfl rfl (by decide +kernel) ⟨Nat.le_of_ble_eq_true rfl, Nat.le_of_ble_eq_true rfl⟩) (cz_pV (hP.sub (ws' := [(mo, .inr (7, [.int 0, .int 0, .int 0, .int (-1), .int (-1), .int 0, .int 0, .ref m1, .ref m2, .ref m3, .ref m4, .ref m5, .int 0, .ref pg, .int 0, .int 0, .ref m6, .ref m7, .ref m8, .long 0, .int 0, .int 0, .int 0, .int 0, .int 0, .int 0, .ref m9, .ref m10, .ref m11, .ref m12, .long 0]))]) [6] rfl) hN (va_recv hK (hP.sub (ws' := [(mo, .inr (7, [.int 0, .int 0, .int 0, .int (-1), .int (-1), .int 0, .int 0, .ref m1, .ref m2, .ref m3, .ref m4, .ref m5, .int 0, .ref pg, .int 0, .int 0, .ref m6, .ref m7, .ref m8, .long 0, .int 0, .int 0, .int 0, .int 0, .int 0, .int 0, .ref m9, .ref m10, .ref m11, .ref m12, .long 0]))]) [6] rfl) (ci := 7) (q0 := 0) rfl rfl)) rfl rfl hl.1 rfl (lv_room (Nat.le_of_ble_eq_true rfl)) dL_law_615 ⟨Nat.le_of_ble_eq_true rfl, Nat.le_of_ble_eq_true rfl⟩)) (fun r_2 hr_2 => ?_)
  obtain rfl : r_2 = (-103) := hr_2
  refine lv_icmp_eq (tgt := 673) hx hb dL_law_618 (by decide) (fun _ => ?_) (fun c => absurd (by decide) c)
  have hP := hP.sub (ws' := []) [] rfl
  have hD := hD.sub (ws' := []) [] (by decide) rfl
  exact law_end hx hb hr hml hown hts hX hbl hbA hA hAr hlocks hN H locs ls hP hD hS (lv_sub hl [0, 3] rfl)

set_option maxHeartbeats 4000000 in
set_option maxRecDepth 100000 in
theorem law_case19 {p : Program} {l : Launch} {e : Env} {s : State} {m : MethodId} {below : List Frame} {meth : Method} {c : Code} {dC : Nat → ClassId} {dI : Nat → Nat → Nat} {cI cB : ClassId} {A : Nat → Prop} {b : Nat} {xs : Nat → Int32} (hx : p.tables.exec = Jvm.exec) (hb : c.code = cL_law) (hr : meth.sig.returnType = ret) (hml : c.maxLocals = 4) (hown : s.vm.findClass RL = some m.cls) (hts : ∀ w ∈ wsL_law, w.before #[Value.ref b] s = true) (hX : va_X b 4 xs s s.heap) (hbl : b < s.heap.size) (hbA : ¬ A b) (hA : ∀ q : Nat, s.heap.size ≤ q → A q) (hAr : ∀ q : Nat, A q → s.heap.size ≤ q) (hlocks : meth.locks = false) (hN : cz_N dC dI cI cB s) (h0 : Nat) (hp : Nat) (hs : Nat) (hh : Nat) (hc : Nat) (kp : Nat) (rt : Nat) (cd : Nat) (si : Nat) (k1 : Nat) (k2 : Nat) (k3 : Nat) (k4 : Nat) (k5 : Nat) (mo : Nat) (m1 : Nat) (m2 : Nat) (m3 : Nat) (m4 : Nat) (m5 : Nat) (pg : Nat) (m6 : Nat) (m7 : Nat) (m8 : Nat) (m9 : Nat) (m10 : Nat) (m11 : Nat) (m12 : Nat) (H : Heap) (locs : List Loc) (ls : Array Slot) (hP : va_P (dC, dI) vwCl [(h0, .inr (6, [.ref hp, .ref hs, .ref hh, .ref hc, .ref kp, .ref rt, .int 0])), (hp, .inr (2, [.ref cd, .int 0])), (cd, .inl (cI, 24, .inl (fun _ => 0))), (hs, .inr (4, [.ref hh, .ref hc, .ref si])), (hh, .inr (1, [.int 0, .int 0, .int 0])), (hc, .inr (0, [.int (-1), .int 0, .int 0, .ref k1, .ref k2, .ref k3, .ref k4, .ref k5])), (mo, .inr (7, [.int 0, .int 0, .int 0, .int (-1), .int (-1), .int 0, .int 0, .ref m1, .ref m2, .ref m3, .ref m4, .ref m5, .int 0, .ref pg, .int 0, .int 0, .ref m6, .ref m7, .ref m8, .long 0, .int 0, .int 0, .int 0, .int 0, .int 0, .int 0, .ref m9, .ref m10, .ref m11, .ref m12, .long 0])), (pg, .inl (cB, 24, .inl (fun _ => 0)))] H) (hD : va_D A [(h0, .inr (6, [.ref hp, .ref hs, .ref hh, .ref hc, .ref kp, .ref rt, .int 0])), (hp, .inr (2, [.ref cd, .int 0])), (cd, .inl (cI, 24, .inl (fun _ => 0))), (hs, .inr (4, [.ref hh, .ref hc, .ref si])), (hh, .inr (1, [.int 0, .int 0, .int 0])), (hc, .inr (0, [.int (-1), .int 0, .int 0, .ref k1, .ref k2, .ref k3, .ref k4, .ref k5])), (mo, .inr (7, [.int 0, .int 0, .int 0, .int (-1), .int (-1), .int 0, .int 0, .ref m1, .ref m2, .ref m3, .ref m4, .ref m5, .int 0, .ref pg, .int 0, .int 0, .ref m6, .ref m7, .ref m8, .long 0, .int 0, .int 0, .int 0, .int 0, .int 0, .int 0, .ref m9, .ref m10, .ref m11, .ref m12, .long 0])), (pg, .inl (cB, 24, .inl (fun _ => 0)))]) (hS : va_S A s.heap H locs) (hl : lv_has ls 4 [(0, .ref b), (1, .ref h0), (2, .ref mo), (3, .int 0)]) : W p l e room_1 s m #[Value.ref b] below meth c H locs 38 1433 (lw_Z below #[Value.ref b] s) (F0 m 623 ls []) := by
  have hK := hN.1
  refine lv_aload_n hx hb dL_law_623 rfl (lv_at hl 1 rfl) ?_
  refine vp_callSi (cz_run (va_runV (As := []) (rest := []) ⟨hx, hb, hml, hown, hts⟩ (c_X6_restore l dC dI cI cB h0 hp hs hh hc kp rt ) (cwV 0 hts gL_law_X6_restore rfl rfl rfl (by decide +kernel) ⟨Nat.le_of_ble_eq_true rfl, Nat.le_of_ble_eq_true rfl⟩) (cz_pV (hP.sub (ws' := [(h0, .inr (6, [.ref hp, .ref hs, .ref hh, .ref hc, .ref kp, .ref rt, .int 0]))]) [0] rfl) hN (va_recv hK (hP.sub (ws' := [(h0, .inr (6, [.ref hp, .ref hs, .ref hh, .ref hc, .ref kp, .ref rt, .int 0]))]) [0] rfl) (ci := 6) (q0 := 0) rfl rfl)) rfl rfl hl.1 rfl (lv_room (Nat.le_of_ble_eq_true rfl)) dL_law_624 ⟨Nat.le_of_ble_eq_true rfl, Nat.le_of_ble_eq_true rfl⟩)) (fun r_1 hr_1 => ?_)
  obtain rfl : r_1 = (-103) := hr_1
  refine lv_aload_n hx hb dL_law_627 rfl (lv_at hl 2 rfl) ?_
  refine vp_callSi (cz_run (va_runV (As := []) (rest := [.int (-103)]) ⟨hx, hb, hml, hown, hts⟩ (c_X7_restore l dC dI cI cB mo m1 m2 m3 m4 m5 pg m6 m7 m8 m9 m10 m11 m12 ) (cwV 0 hts gL_law_X7_restore rfl rfl rfl (by decide +kernel) ⟨Nat.le_of_ble_eq_true rfl, Nat.le_of_ble_eq_true rfl⟩) (cz_pV (hP.sub (ws' := [(mo, .inr (7, [.int 0, .int 0, .int 0, .int (-1), .int (-1), .int 0, .int 0, .ref m1, .ref m2, .ref m3, .ref m4, .ref m5, .int 0, .ref pg, .int 0, .int 0, .ref m6, .ref m7, .ref m8, .long 0, .int 0, .int 0, .int 0, .int 0, .int 0, .int 0, .ref m9, .ref m10, .ref m11, .ref m12, .long 0]))]) [6] rfl) hN (va_recv hK (hP.sub (ws' := [(mo, .inr (7, [.int 0, .int 0, .int 0, .int (-1), .int (-1), .int 0, .int 0, .ref m1, .ref m2, .ref m3, .ref m4, .ref m5, .int 0, .ref pg, .int 0, .int 0, .ref m6, .ref m7, .ref m8, .long 0, .int 0, .int 0, .int 0, .int 0, .int 0, .int 0, .ref m9, .ref m10, .ref m11, .ref m12, .long 0]))]) [6] rfl) (ci := 7) (q0 := 0) rfl rfl)) rfl rfl hl.1 rfl (lv_room (Nat.le_of_ble_eq_true rfl)) dL_law_628 ⟨Nat.le_of_ble_eq_true rfl, Nat.le_of_ble_eq_true rfl⟩)) (fun r_2 hr_2 => ?_)
  obtain rfl : r_2 = (-103) := hr_2
  refine lv_icmp_eq (tgt := 673) hx hb dL_law_631 (by decide) (fun _ => ?_) (fun c => absurd (by decide) c)
  have hP := hP.sub (ws' := []) [] rfl
  have hD := hD.sub (ws' := []) [] (by decide) rfl
  exact law_end hx hb hr hml hown hts hX hbl hbA hA hAr hlocks hN H locs ls hP hD hS (lv_sub hl [0, 3] rfl)

set_option maxHeartbeats 4000000 in
set_option maxRecDepth 100000 in
theorem law_case20 {p : Program} {l : Launch} {e : Env} {s : State} {m : MethodId} {below : List Frame} {meth : Method} {c : Code} {dC : Nat → ClassId} {dI : Nat → Nat → Nat} {cI cB : ClassId} {A : Nat → Prop} {b : Nat} {xs : Nat → Int32} (hx : p.tables.exec = Jvm.exec) (hb : c.code = cL_law) (hr : meth.sig.returnType = ret) (hml : c.maxLocals = 4) (hown : s.vm.findClass RL = some m.cls) (hts : ∀ w ∈ wsL_law, w.before #[Value.ref b] s = true) (hX : va_X b 4 xs s s.heap) (hbl : b < s.heap.size) (hbA : ¬ A b) (hA : ∀ q : Nat, s.heap.size ≤ q → A q) (hAr : ∀ q : Nat, A q → s.heap.size ≤ q) (hlocks : meth.locks = false) (hN : cz_N dC dI cI cB s) (h0 : Nat) (hp : Nat) (hs : Nat) (hh : Nat) (hc : Nat) (kp : Nat) (rt : Nat) (cd : Nat) (si : Nat) (k1 : Nat) (k2 : Nat) (k3 : Nat) (k4 : Nat) (k5 : Nat) (mo : Nat) (m1 : Nat) (m2 : Nat) (m3 : Nat) (m4 : Nat) (m5 : Nat) (pg : Nat) (m6 : Nat) (m7 : Nat) (m8 : Nat) (m9 : Nat) (m10 : Nat) (m11 : Nat) (m12 : Nat) (H : Heap) (locs : List Loc) (ls : Array Slot) (hP : va_P (dC, dI) vwCl [(h0, .inr (6, [.ref hp, .ref hs, .ref hh, .ref hc, .ref kp, .ref rt, .int 0])), (hp, .inr (2, [.ref cd, .int 0])), (cd, .inl (cI, 24, .inl (fun _ => 0))), (hs, .inr (4, [.ref hh, .ref hc, .ref si])), (hh, .inr (1, [.int 0, .int 0, .int 0])), (hc, .inr (0, [.int (-1), .int 0, .int 0, .ref k1, .ref k2, .ref k3, .ref k4, .ref k5])), (mo, .inr (7, [.int 0, .int 0, .int 0, .int (-1), .int (-1), .int 0, .int 0, .ref m1, .ref m2, .ref m3, .ref m4, .ref m5, .int 0, .ref pg, .int 0, .int 0, .ref m6, .ref m7, .ref m8, .long 0, .int 0, .int 0, .int 0, .int 0, .int 0, .int 0, .ref m9, .ref m10, .ref m11, .ref m12, .long 0])), (pg, .inl (cB, 24, .inl (fun _ => 0)))] H) (hD : va_D A [(h0, .inr (6, [.ref hp, .ref hs, .ref hh, .ref hc, .ref kp, .ref rt, .int 0])), (hp, .inr (2, [.ref cd, .int 0])), (cd, .inl (cI, 24, .inl (fun _ => 0))), (hs, .inr (4, [.ref hh, .ref hc, .ref si])), (hh, .inr (1, [.int 0, .int 0, .int 0])), (hc, .inr (0, [.int (-1), .int 0, .int 0, .ref k1, .ref k2, .ref k3, .ref k4, .ref k5])), (mo, .inr (7, [.int 0, .int 0, .int 0, .int (-1), .int (-1), .int 0, .int 0, .ref m1, .ref m2, .ref m3, .ref m4, .ref m5, .int 0, .ref pg, .int 0, .int 0, .ref m6, .ref m7, .ref m8, .long 0, .int 0, .int 0, .int 0, .int 0, .int 0, .int 0, .ref m9, .ref m10, .ref m11, .ref m12, .long 0])), (pg, .inl (cB, 24, .inl (fun _ => 0)))]) (hS : va_S A s.heap H locs) (hl : lv_has ls 4 [(0, .ref b), (1, .ref h0), (2, .ref mo), (3, .int 0)]) : W p l e room_1 s m #[Value.ref b] below meth c H locs 38 1433 (lw_Z below #[Value.ref b] s) (F0 m 636 ls []) := by
  have hK := hN.1
  refine lv_aload_n hx hb dL_law_636 rfl (lv_at hl 1 rfl) ?_
  refine lv_aload_n hx hb dL_law_637 rfl (lv_at hl 0 rfl) ?_
  refine lv_iload_n hx hb dL_law_638 rfl (lv_at hl 3 rfl) ?_
  refine lv_iconst (v := 1) hx hb dL_law_639 (by decide) ?_
  refine lv_iadd hx hb dL_law_640 ?_
  refine cz_i (y := 1) (by decide) ?_
  refine va_sld hx hb hX hbl hbA hS (by unfold vp_in; decide) dL_law_641 ?_
  refine cz_i (y := xs 1) (congrArg xs (by decide)) ?_
  refine vp_callSi (cz_run (va_runV (As := [.int (xs 1)]) (rest := []) ⟨hx, hb, hml, hown, hts⟩ (c_X6_count l dC dI cI cB h0 (xs 1) hp hs hh hc kp rt k1 k2 k3 k4 k5 si cd ) (cwV 1 hts gL_law_X6_count rfl rfl rfl (by decide +kernel) ⟨Nat.le_of_ble_eq_true rfl, Nat.le_of_ble_eq_true rfl⟩) (cz_pV (hP.sub (ws' := [(h0, .inr (6, [.ref hp, .ref hs, .ref hh, .ref hc, .ref kp, .ref rt, .int 0])), (hh, .inr (1, [.int 0, .int 0, .int 0])), (hc, .inr (0, [.int (-1), .int 0, .int 0, .ref k1, .ref k2, .ref k3, .ref k4, .ref k5])), (hs, .inr (4, [.ref hh, .ref hc, .ref si])), (hp, .inr (2, [.ref cd, .int 0]))]) [0, 4, 5, 3, 1] rfl) hN (va_recv hK (hP.sub (ws' := [(h0, .inr (6, [.ref hp, .ref hs, .ref hh, .ref hc, .ref kp, .ref rt, .int 0])), (hh, .inr (1, [.int 0, .int 0, .int 0])), (hc, .inr (0, [.int (-1), .int 0, .int 0, .ref k1, .ref k2, .ref k3, .ref k4, .ref k5])), (hs, .inr (4, [.ref hh, .ref hc, .ref si])), (hp, .inr (2, [.ref cd, .int 0]))]) [0, 4, 5, 3, 1] rfl) (ci := 6) (q0 := 0) rfl rfl)) rfl rfl hl.1 rfl (lv_room (Nat.le_of_ble_eq_true rfl)) dL_law_642 ⟨Nat.le_of_ble_eq_true rfl, Nat.le_of_ble_eq_true rfl⟩)) (fun r_1 hr_1 => ?_)
  refine lv_aload_n hx hb dL_law_645 rfl (lv_at hl 2 rfl) ?_
  refine lv_aload_n hx hb dL_law_646 rfl (lv_at hl 0 rfl) ?_
  refine lv_iload_n hx hb dL_law_647 rfl (lv_at hl 3 rfl) ?_
  refine lv_iconst (v := 1) hx hb dL_law_648 (by decide) ?_
  refine lv_iadd hx hb dL_law_649 ?_
  refine cz_i (y := 1) (by decide) ?_
  refine va_sld hx hb hX hbl hbA hS (by unfold vp_in; decide) dL_law_650 ?_
  refine cz_i (y := xs 1) (congrArg xs (by decide)) ?_
  refine vp_callSi (cz_run (va_runV (As := [.int (xs 1)]) (rest := [.int r_1]) ⟨hx, hb, hml, hown, hts⟩ (c_X7_count l dC dI cI cB mo (xs 1) m1 m2 m3 m4 m5 pg m6 m7 m8 m9 m10 m11 m12 ) (cwV 1 hts gL_law_X7_count rfl rfl rfl (by decide +kernel) ⟨Nat.le_of_ble_eq_true rfl, Nat.le_of_ble_eq_true rfl⟩) (cz_pV (hP.sub (ws' := [(mo, .inr (7, [.int 0, .int 0, .int 0, .int (-1), .int (-1), .int 0, .int 0, .ref m1, .ref m2, .ref m3, .ref m4, .ref m5, .int 0, .ref pg, .int 0, .int 0, .ref m6, .ref m7, .ref m8, .long 0, .int 0, .int 0, .int 0, .int 0, .int 0, .int 0, .ref m9, .ref m10, .ref m11, .ref m12, .long 0]))]) [6] rfl) hN (va_recv hK (hP.sub (ws' := [(mo, .inr (7, [.int 0, .int 0, .int 0, .int (-1), .int (-1), .int 0, .int 0, .ref m1, .ref m2, .ref m3, .ref m4, .ref m5, .int 0, .ref pg, .int 0, .int 0, .ref m6, .ref m7, .ref m8, .long 0, .int 0, .int 0, .int 0, .int 0, .int 0, .int 0, .ref m9, .ref m10, .ref m11, .ref m12, .long 0]))]) [6] rfl) (ci := 7) (q0 := 0) rfl rfl)) rfl rfl hl.1 rfl (lv_room (Nat.le_of_ble_eq_true rfl)) dL_law_651 ⟨Nat.le_of_ble_eq_true rfl, Nat.le_of_ble_eq_true rfl⟩)) (fun r_2 hr_2 => ?_)
  refine lv_icmp_eq (tgt := 673) hx hb dL_law_654 (by decide) (fun _ => ?_) (fun c => absurd (hr_1.trans hr_2.symm) c)
  have hP := hP.sub (ws' := []) [] rfl
  have hD := hD.sub (ws' := []) [] (by decide) rfl
  exact law_end hx hb hr hml hown hts hX hbl hbA hA hAr hlocks hN H locs ls hP hD hS (lv_sub hl [0, 3] rfl)

set_option maxHeartbeats 4000000 in
set_option maxRecDepth 100000 in
theorem law_case21 {p : Program} {l : Launch} {e : Env} {s : State} {m : MethodId} {below : List Frame} {meth : Method} {c : Code} {dC : Nat → ClassId} {dI : Nat → Nat → Nat} {cI cB : ClassId} {A : Nat → Prop} {b : Nat} {xs : Nat → Int32} (hx : p.tables.exec = Jvm.exec) (hb : c.code = cL_law) (hr : meth.sig.returnType = ret) (hml : c.maxLocals = 4) (hown : s.vm.findClass RL = some m.cls) (hts : ∀ w ∈ wsL_law, w.before #[Value.ref b] s = true) (hX : va_X b 4 xs s s.heap) (hbl : b < s.heap.size) (hbA : ¬ A b) (hA : ∀ q : Nat, s.heap.size ≤ q → A q) (hAr : ∀ q : Nat, A q → s.heap.size ≤ q) (hlocks : meth.locks = false) (hN : cz_N dC dI cI cB s) (h0 : Nat) (hp : Nat) (hs : Nat) (hh : Nat) (hc : Nat) (kp : Nat) (rt : Nat) (cd : Nat) (si : Nat) (k1 : Nat) (k2 : Nat) (k3 : Nat) (k4 : Nat) (k5 : Nat) (mo : Nat) (m1 : Nat) (m2 : Nat) (m3 : Nat) (m4 : Nat) (m5 : Nat) (pg : Nat) (m6 : Nat) (m7 : Nat) (m8 : Nat) (m9 : Nat) (m10 : Nat) (m11 : Nat) (m12 : Nat) (H : Heap) (locs : List Loc) (ls : Array Slot) (hP : va_P (dC, dI) vwCl [(h0, .inr (6, [.ref hp, .ref hs, .ref hh, .ref hc, .ref kp, .ref rt, .int 0])), (hp, .inr (2, [.ref cd, .int 0])), (cd, .inl (cI, 24, .inl (fun _ => 0))), (hs, .inr (4, [.ref hh, .ref hc, .ref si])), (hh, .inr (1, [.int 0, .int 0, .int 0])), (hc, .inr (0, [.int (-1), .int 0, .int 0, .ref k1, .ref k2, .ref k3, .ref k4, .ref k5])), (mo, .inr (7, [.int 0, .int 0, .int 0, .int (-1), .int (-1), .int 0, .int 0, .ref m1, .ref m2, .ref m3, .ref m4, .ref m5, .int 0, .ref pg, .int 0, .int 0, .ref m6, .ref m7, .ref m8, .long 0, .int 0, .int 0, .int 0, .int 0, .int 0, .int 0, .ref m9, .ref m10, .ref m11, .ref m12, .long 0])), (pg, .inl (cB, 24, .inl (fun _ => 0)))] H) (hD : va_D A [(h0, .inr (6, [.ref hp, .ref hs, .ref hh, .ref hc, .ref kp, .ref rt, .int 0])), (hp, .inr (2, [.ref cd, .int 0])), (cd, .inl (cI, 24, .inl (fun _ => 0))), (hs, .inr (4, [.ref hh, .ref hc, .ref si])), (hh, .inr (1, [.int 0, .int 0, .int 0])), (hc, .inr (0, [.int (-1), .int 0, .int 0, .ref k1, .ref k2, .ref k3, .ref k4, .ref k5])), (mo, .inr (7, [.int 0, .int 0, .int 0, .int (-1), .int (-1), .int 0, .int 0, .ref m1, .ref m2, .ref m3, .ref m4, .ref m5, .int 0, .ref pg, .int 0, .int 0, .ref m6, .ref m7, .ref m8, .long 0, .int 0, .int 0, .int 0, .int 0, .int 0, .int 0, .ref m9, .ref m10, .ref m11, .ref m12, .long 0])), (pg, .inl (cB, 24, .inl (fun _ => 0)))]) (hS : va_S A s.heap H locs) (hl : lv_has ls 4 [(0, .ref b), (1, .ref h0), (2, .ref mo), (3, .int 0)]) : W p l e room_1 s m #[Value.ref b] below meth c H locs 38 1433 (lw_Z below #[Value.ref b] s) (F0 m 659 ls []) := by
  have hK := hN.1
  refine lv_aload_n hx hb dL_law_659 rfl (lv_at hl 1 rfl) ?_
  refine vp_callSl (cz_run (va_runV (As := []) (rest := []) ⟨hx, hb, hml, hown, hts⟩ (c_X6_digest l dC dI cI cB h0 hp hs hh hc kp rt k1 k2 k3 k4 k5 si cd ) (cwV 0 hts gL_law_X6_digest rfl rfl rfl (by decide +kernel) ⟨Nat.le_of_ble_eq_true rfl, Nat.le_of_ble_eq_true rfl⟩) (cz_pV (hP.sub (ws' := [(h0, .inr (6, [.ref hp, .ref hs, .ref hh, .ref hc, .ref kp, .ref rt, .int 0])), (hh, .inr (1, [.int 0, .int 0, .int 0])), (hc, .inr (0, [.int (-1), .int 0, .int 0, .ref k1, .ref k2, .ref k3, .ref k4, .ref k5])), (hs, .inr (4, [.ref hh, .ref hc, .ref si])), (hp, .inr (2, [.ref cd, .int 0]))]) [0, 4, 5, 3, 1] rfl) hN (va_recv hK (hP.sub (ws' := [(h0, .inr (6, [.ref hp, .ref hs, .ref hh, .ref hc, .ref kp, .ref rt, .int 0])), (hh, .inr (1, [.int 0, .int 0, .int 0])), (hc, .inr (0, [.int (-1), .int 0, .int 0, .ref k1, .ref k2, .ref k3, .ref k4, .ref k5])), (hs, .inr (4, [.ref hh, .ref hc, .ref si])), (hp, .inr (2, [.ref cd, .int 0]))]) [0, 4, 5, 3, 1] rfl) (ci := 6) (q0 := 0) rfl rfl)) rfl rfl hl.1 rfl (lv_room (Nat.le_of_ble_eq_true rfl)) dL_law_660 ⟨Nat.le_of_ble_eq_true rfl, Nat.le_of_ble_eq_true rfl⟩)) (fun r_1 hr_1 => ?_)
  obtain rfl : r_1 = 19010087417389617 := hr_1
  refine lv_aload_n hx hb dL_law_663 rfl (lv_at hl 2 rfl) ?_
  have hPc := hP.sub (ws' := [(mo, .inr (7, [.int 0, .int 0, .int 0, .int (-1), .int (-1), .int 0, .int 0, .ref m1, .ref m2, .ref m3, .ref m4, .ref m5, .int 0, .ref pg, .int 0, .int 0, .ref m6, .ref m7, .ref m8, .long 0, .int 0, .int 0, .int 0, .int 0, .int 0, .int 0, .ref m9, .ref m10, .ref m11, .ref m12, .long 0]))]) [6] rfl
  have hDc := hD.sub (ws' := [(mo, .inr (7, [.int 0, .int 0, .int 0, .int (-1), .int (-1), .int 0, .int 0, .ref m1, .ref m2, .ref m3, .ref m4, .ref m5, .int 0, .ref pg, .int 0, .int 0, .ref m6, .ref m7, .ref m8, .long 0, .int 0, .int 0, .int 0, .int 0, .int 0, .int 0, .ref m9, .ref m10, .ref m11, .ref m12, .long 0]))]) [6] (by decide) rfl
  have hFc := va_free (wc := [(mo, .inr (7, [.int 0, .int 0, .int 0, .int (-1), .int (-1), .int 0, .int 0, .ref m1, .ref m2, .ref m3, .ref m4, .ref m5, .int 0, .ref pg, .int 0, .int 0, .ref m6, .ref m7, .ref m8, .long 0, .int 0, .int 0, .int 0, .int 0, .int 0, .int 0, .ref m9, .ref m10, .ref m11, .ref m12, .long 0]))]) hD hS hA [6] rfl
  refine va_calll (va_runV (As := []) (rest := [.long 19010087417389617]) ⟨hx, hb, hml, hown, hts⟩ (c_X7_digest l dC dI cI cB mo m1 m2 m3 m4 m5 pg m6 m7 m8 m9 m10 m11 m12 H.size ) (cwV 0 hts gL_law_X7_digest rfl rfl rfl (by decide +kernel) ⟨Nat.le_of_ble_eq_true rfl, Nat.le_of_ble_eq_true rfl⟩) (cz_mV hPc hN hDc (va_recv hK hPc (ci := 7) (q0 := 0) rfl rfl)) rfl rfl hl.1 rfl (lv_room (Nat.le_of_ble_eq_true rfl)) dL_law_664 ⟨Nat.le_of_ble_eq_true rfl, Nat.le_of_ble_eq_true rfl⟩) hS (fun q _ h => hFc q h) hFc (fun r_2 u t H1 locs ht hvm hr_2 hB hz1 hk1 hS => ?_)
  have hP1 : va_P (dC, dI) vwCl [] H1 := fun k q h => by simp at h
  have hD1 : va_D (va_A [(mo, .inr (7, [.int 0, .int 0, .int 0, .int (-1), .int (-1), .int 0, .int 0, .ref m1, .ref m2, .ref m3, .ref m4, .ref m5, .int 0, .ref pg, .int 0, .int 0, .ref m6, .ref m7, .ref m8, .long 0, .int 0, .int 0, .int 0, .int 0, .int 0, .int 0, .ref m9, .ref m10, .ref m11, .ref m12, .long 0]))] H.size) [] := ⟨fun i j p q h => by simp at h, fun k q h => by simp at h⟩
  obtain ⟨hP, hD⟩ := va_join (wr := [(h0, .inr (6, [.ref hp, .ref hs, .ref hh, .ref hc, .ref kp, .ref rt, .int 0])), (hp, .inr (2, [.ref cd, .int 0])), (cd, .inl (cI, 24, .inl (fun _ => 0))), (hs, .inr (4, [.ref hh, .ref hc, .ref si])), (hh, .inr (1, [.int 0, .int 0, .int 0])), (hc, .inr (0, [.int (-1), .int 0, .int 0, .ref k1, .ref k2, .ref k3, .ref k4, .ref k5])), (pg, .inl (cB, 24, .inl (fun _ => 0)))]) (w1 := []) hP hD [6] [0, 1, 2, 3, 4, 5, 7] rfl rfl (by decide) (by decide) hk1 hFc hP1 hD1
  generalize H1 = H at hP hS ⊢
  have hP : va_P (dC, dI) vwCl [(h0, .inr (6, [.ref hp, .ref hs, .ref hh, .ref hc, .ref kp, .ref rt, .int 0])), (hp, .inr (2, [.ref cd, .int 0])), (cd, .inl (cI, 24, .inl (fun _ => 0))), (hs, .inr (4, [.ref hh, .ref hc, .ref si])), (hh, .inr (1, [.int 0, .int 0, .int 0])), (hc, .inr (0, [.int (-1), .int 0, .int 0, .ref k1, .ref k2, .ref k3, .ref k4, .ref k5])), (pg, .inl (cB, 24, .inl (fun _ => 0)))] H := hP
  have hD : va_D A [(h0, .inr (6, [.ref hp, .ref hs, .ref hh, .ref hc, .ref kp, .ref rt, .int 0])), (hp, .inr (2, [.ref cd, .int 0])), (cd, .inl (cI, 24, .inl (fun _ => 0))), (hs, .inr (4, [.ref hh, .ref hc, .ref si])), (hh, .inr (1, [.int 0, .int 0, .int 0])), (hc, .inr (0, [.int (-1), .int 0, .int 0, .ref k1, .ref k2, .ref k3, .ref k4, .ref k5])), (pg, .inl (cB, 24, .inl (fun _ => 0)))] := hD
  obtain rfl : r_2 = 19010087417389617 := hr_2
  refine W.lcmp hx hb dL_law_667 ?_
  refine cz_i (y := 0) (by decide) ?_
  refine lv_if_eq (tgt := 673) hx hb dL_law_668 (by decide) (fun _ => ?_) (fun c => absurd (by decide) c)
  have hP := hP.sub (ws' := []) [] rfl
  have hD := hD.sub (ws' := []) [] (by decide) rfl
  exact law_end hx hb hr hml hown hts hX hbl hbA hA hAr hlocks hN H locs ls hP hD hS (lv_sub hl [0, 3] rfl)

set_option maxHeartbeats 4000000 in
set_option maxRecDepth 100000 in
theorem law_switch {p : Program} {l : Launch} {e : Env} {s : State} {m : MethodId} {below : List Frame} {meth : Method} {c : Code} {dC : Nat → ClassId} {dI : Nat → Nat → Nat} {cI cB : ClassId} {A : Nat → Prop} {b : Nat} {xs : Nat → Int32} (hx : p.tables.exec = Jvm.exec) (hb : c.code = cL_law) (hr : meth.sig.returnType = ret) (hml : c.maxLocals = 4) (hown : s.vm.findClass RL = some m.cls) (hts : ∀ w ∈ wsL_law, w.before #[Value.ref b] s = true) (hX : va_X b 4 xs s s.heap) (hbl : b < s.heap.size) (hbA : ¬ A b) (hA : ∀ q : Nat, s.heap.size ≤ q → A q) (hAr : ∀ q : Nat, A q → s.heap.size ≤ q) (hlocks : meth.locks = false) (hN : cz_N dC dI cI cB s) (h0 : Nat) (hp : Nat) (hs : Nat) (hh : Nat) (hc : Nat) (kp : Nat) (rt : Nat) (cd : Nat) (si : Nat) (k1 : Nat) (k2 : Nat) (k3 : Nat) (k4 : Nat) (k5 : Nat) (mo : Nat) (m1 : Nat) (m2 : Nat) (m3 : Nat) (m4 : Nat) (m5 : Nat) (pg : Nat) (m6 : Nat) (m7 : Nat) (m8 : Nat) (m9 : Nat) (m10 : Nat) (m11 : Nat) (m12 : Nat) (H : Heap) (locs : List Loc) (ls : Array Slot) (hP : va_P (dC, dI) vwCl [(h0, .inr (6, [.ref hp, .ref hs, .ref hh, .ref hc, .ref kp, .ref rt, .int 0])), (hp, .inr (2, [.ref cd, .int 0])), (cd, .inl (cI, 24, .inl (fun _ => 0))), (hs, .inr (4, [.ref hh, .ref hc, .ref si])), (hh, .inr (1, [.int 0, .int 0, .int 0])), (hc, .inr (0, [.int (-1), .int 0, .int 0, .ref k1, .ref k2, .ref k3, .ref k4, .ref k5])), (mo, .inr (7, [.int 0, .int 0, .int 0, .int (-1), .int (-1), .int 0, .int 0, .ref m1, .ref m2, .ref m3, .ref m4, .ref m5, .int 0, .ref pg, .int 0, .int 0, .ref m6, .ref m7, .ref m8, .long 0, .int 0, .int 0, .int 0, .int 0, .int 0, .int 0, .ref m9, .ref m10, .ref m11, .ref m12, .long 0])), (pg, .inl (cB, 24, .inl (fun _ => 0)))] H) (hD : va_D A [(h0, .inr (6, [.ref hp, .ref hs, .ref hh, .ref hc, .ref kp, .ref rt, .int 0])), (hp, .inr (2, [.ref cd, .int 0])), (cd, .inl (cI, 24, .inl (fun _ => 0))), (hs, .inr (4, [.ref hh, .ref hc, .ref si])), (hh, .inr (1, [.int 0, .int 0, .int 0])), (hc, .inr (0, [.int (-1), .int 0, .int 0, .ref k1, .ref k2, .ref k3, .ref k4, .ref k5])), (mo, .inr (7, [.int 0, .int 0, .int 0, .int (-1), .int (-1), .int 0, .int 0, .ref m1, .ref m2, .ref m3, .ref m4, .ref m5, .int 0, .ref pg, .int 0, .int 0, .ref m6, .ref m7, .ref m8, .long 0, .int 0, .int 0, .int 0, .int 0, .int 0, .int 0, .ref m9, .ref m10, .ref m11, .ref m12, .long 0])), (pg, .inl (cB, 24, .inl (fun _ => 0)))]) (hS : va_S A s.heap H locs) (hl : lv_has ls 4 [(0, .ref b), (1, .ref h0), (2, .ref mo), (3, .int 0)]) : W p l e room_1 s m #[Value.ref b] below meth c H locs 38 1433 (lw_Z below #[Value.ref b] s) (F0 m 18 ls []) := by
  have hK := hN.1
  refine lv_iload_n hx hb dL_law_18 rfl (lv_at hl 3 rfl) ?_
  refine lv_aload_n hx hb dL_law_19 rfl (lv_at hl 0 rfl) ?_
  refine va_slen hx hb hX hbl hbA hS dL_law_20 ?_
  refine cz_i (y := 4) (by decide) ?_
  refine lv_iconst (v := 4) hx hb dL_law_21 (by decide) ?_
  refine lv_isub hx hb dL_law_22 ?_
  refine cz_i (y := 0) (by decide) ?_
  refine lv_icmp_gt (tgt := 679) hx hb dL_law_23 (by decide) (fun c => absurd c (by decide)) (fun _ => ?_)
  refine lv_aload_n hx hb dL_law_26 rfl (lv_at hl 0 rfl) ?_
  refine lv_iload_n hx hb dL_law_27 rfl (lv_at hl 3 rfl) ?_
  refine va_sld hx hb hX hbl hbA hS (by unfold vp_in; decide) dL_law_28 ?_
  refine cz_i (y := xs 0) (congrArg xs (by decide)) ?_
  refine lv_bipush (v := 31) hx hb dL_law_29 (by decide) ?_
  refine lv_iand hx hb dL_law_31 ?_
  obtain ⟨j, hj, ej⟩ := pk_andE (xs 0) (m := 31) 5 (by decide)
  rw [ej]
  have hj : j < 32 := hj
  have hjI : (nI j).toInt = (j : Int) := nI_toInt (by omega)
  rcases (show j = 0 ∨ j = 1 ∨ j = 2 ∨ j = 3 ∨ j = 4 ∨ j = 5 ∨ j = 6 ∨ j = 7 ∨ j = 8 ∨ j = 9 ∨ j = 10 ∨ j = 11 ∨ j = 12 ∨ j = 13 ∨ j = 14 ∨ j = 15 ∨ j = 16 ∨ j = 17 ∨ j = 18 ∨ j = 19 ∨ j = 20 ∨ j = 21 ∨ 22 ≤ j by omega) with rfl | rfl | rfl | rfl | rfl | rfl | rfl | rfl | rfl | rfl | rfl | rfl | rfl | rfl | rfl | rfl | rfl | rfl | rfl | rfl | rfl | rfl | h22
  · refine lv_tableIn (off := 104) (tgt := 136) hx hb dL_law_32 (by decide) (by decide) (by decide) (by decide) ?_
    exact law_case0 hx hb hr hml hown hts hX hbl hbA hA hAr hlocks hN h0 hp hs hh hc kp rt cd si k1 k2 k3 k4 k5 mo m1 m2 m3 m4 m5 pg m6 m7 m8 m9 m10 m11 m12 H locs ls hP hD hS hl
  · refine lv_tableIn (off := 127) (tgt := 159) hx hb dL_law_32 (by decide) (by decide) (by decide) (by decide) ?_
    exact law_case1 hx hb hr hml hown hts hX hbl hbA hA hAr hlocks hN h0 hp hs hh hc kp rt cd si k1 k2 k3 k4 k5 mo m1 m2 m3 m4 m5 pg m6 m7 m8 m9 m10 m11 m12 H locs ls hP hD hS hl
  · refine lv_tableIn (off := 140) (tgt := 172) hx hb dL_law_32 (by decide) (by decide) (by decide) (by decide) ?_
    exact law_case2 hx hb hr hml hown hts hX hbl hbA hA hAr hlocks hN h0 hp hs hh hc kp rt cd si k1 k2 k3 k4 k5 mo m1 m2 m3 m4 m5 pg m6 m7 m8 m9 m10 m11 m12 H locs ls hP hD hS hl
  · refine lv_tableIn (off := 153) (tgt := 185) hx hb dL_law_32 (by decide) (by decide) (by decide) (by decide) ?_
    exact law_case3 hx hb hr hml hown hts hX hbl hbA hA hAr hlocks hN h0 hp hs hh hc kp rt cd si k1 k2 k3 k4 k5 mo m1 m2 m3 m4 m5 pg m6 m7 m8 m9 m10 m11 m12 H locs ls hP hD hS hl
  · refine lv_tableIn (off := 166) (tgt := 198) hx hb dL_law_32 (by decide) (by decide) (by decide) (by decide) ?_
    exact law_case4 hx hb hr hml hown hts hX hbl hbA hA hAr hlocks hN h0 hp hs hh hc kp rt cd si k1 k2 k3 k4 k5 mo m1 m2 m3 m4 m5 pg m6 m7 m8 m9 m10 m11 m12 H locs ls hP hD hS hl
  · refine lv_tableIn (off := 189) (tgt := 221) hx hb dL_law_32 (by decide) (by decide) (by decide) (by decide) ?_
    exact law_case5 hx hb hr hml hown hts hX hbl hbA hA hAr hlocks hN h0 hp hs hh hc kp rt cd si k1 k2 k3 k4 k5 mo m1 m2 m3 m4 m5 pg m6 m7 m8 m9 m10 m11 m12 H locs ls hP hD hS hl
  · refine lv_tableIn (off := 222) (tgt := 254) hx hb dL_law_32 (by decide) (by decide) (by decide) (by decide) ?_
    exact law_case6 hx hb hr hml hown hts hX hbl hbA hA hAr hlocks hN h0 hp hs hh hc kp rt cd si k1 k2 k3 k4 k5 mo m1 m2 m3 m4 m5 pg m6 m7 m8 m9 m10 m11 m12 H locs ls hP hD hS hl
  · refine lv_tableIn (off := 255) (tgt := 287) hx hb dL_law_32 (by decide) (by decide) (by decide) (by decide) ?_
    exact law_case7 hx hb hr hml hown hts hX hbl hbA hA hAr hlocks hN h0 hp hs hh hc kp rt cd si k1 k2 k3 k4 k5 mo m1 m2 m3 m4 m5 pg m6 m7 m8 m9 m10 m11 m12 H locs ls hP hD hS hl
  · refine lv_tableIn (off := 288) (tgt := 320) hx hb dL_law_32 (by decide) (by decide) (by decide) (by decide) ?_
    exact law_case8 hx hb hr hml hown hts hX hbl hbA hA hAr hlocks hN h0 hp hs hh hc kp rt cd si k1 k2 k3 k4 k5 mo m1 m2 m3 m4 m5 pg m6 m7 m8 m9 m10 m11 m12 H locs ls hP hD hS hl
  · refine lv_tableIn (off := 321) (tgt := 353) hx hb dL_law_32 (by decide) (by decide) (by decide) (by decide) ?_
    exact law_case9 hx hb hr hml hown hts hX hbl hbA hA hAr hlocks hN h0 hp hs hh hc kp rt cd si k1 k2 k3 k4 k5 mo m1 m2 m3 m4 m5 pg m6 m7 m8 m9 m10 m11 m12 H locs ls hP hD hS hl
  · refine lv_tableIn (off := 354) (tgt := 386) hx hb dL_law_32 (by decide) (by decide) (by decide) (by decide) ?_
    exact law_case10 hx hb hr hml hown hts hX hbl hbA hA hAr hlocks hN h0 hp hs hh hc kp rt cd si k1 k2 k3 k4 k5 mo m1 m2 m3 m4 m5 pg m6 m7 m8 m9 m10 m11 m12 H locs ls hP hD hS hl
  · refine lv_tableIn (off := 377) (tgt := 409) hx hb dL_law_32 (by decide) (by decide) (by decide) (by decide) ?_
    exact law_case11 hx hb hr hml hown hts hX hbl hbA hA hAr hlocks hN h0 hp hs hh hc kp rt cd si k1 k2 k3 k4 k5 mo m1 m2 m3 m4 m5 pg m6 m7 m8 m9 m10 m11 m12 H locs ls hP hD hS hl
  · refine lv_tableIn (off := 390) (tgt := 422) hx hb dL_law_32 (by decide) (by decide) (by decide) (by decide) ?_
    exact law_case12 hx hb hr hml hown hts hX hbl hbA hA hAr hlocks hN h0 hp hs hh hc kp rt cd si k1 k2 k3 k4 k5 mo m1 m2 m3 m4 m5 pg m6 m7 m8 m9 m10 m11 m12 H locs ls hP hD hS hl
  · refine lv_tableIn (off := 423) (tgt := 455) hx hb dL_law_32 (by decide) (by decide) (by decide) (by decide) ?_
    exact law_case13 hx hb hr hml hown hts hX hbl hbA hA hAr hlocks hN h0 hp hs hh hc kp rt cd si k1 k2 k3 k4 k5 mo m1 m2 m3 m4 m5 pg m6 m7 m8 m9 m10 m11 m12 H locs ls hP hD hS hl
  · refine lv_tableIn (off := 446) (tgt := 478) hx hb dL_law_32 (by decide) (by decide) (by decide) (by decide) ?_
    exact law_case14 hx hb hr hml hown hts hX hbl hbA hA hAr hlocks hN h0 hp hs hh hc kp rt cd si k1 k2 k3 k4 k5 mo m1 m2 m3 m4 m5 pg m6 m7 m8 m9 m10 m11 m12 H locs ls hP hD hS hl
  · refine lv_tableIn (off := 479) (tgt := 511) hx hb dL_law_32 (by decide) (by decide) (by decide) (by decide) ?_
    exact law_case15 hx hb hr hml hown hts hX hbl hbA hA hAr hlocks hN h0 hp hs hh hc kp rt cd si k1 k2 k3 k4 k5 mo m1 m2 m3 m4 m5 pg m6 m7 m8 m9 m10 m11 m12 H locs ls hP hD hS hl
  · refine lv_tableIn (off := 512) (tgt := 544) hx hb dL_law_32 (by decide) (by decide) (by decide) (by decide) ?_
    exact law_case16 hx hb hr hml hown hts hX hbl hbA hA hAr hlocks hN h0 hp hs hh hc kp rt cd si k1 k2 k3 k4 k5 mo m1 m2 m3 m4 m5 pg m6 m7 m8 m9 m10 m11 m12 H locs ls hP hD hS hl
  · refine lv_tableIn (off := 535) (tgt := 567) hx hb dL_law_32 (by decide) (by decide) (by decide) (by decide) ?_
    exact law_case17 hx hb hr hml hown hts hX hbl hbA hA hAr hlocks hN h0 hp hs hh hc kp rt cd si k1 k2 k3 k4 k5 mo m1 m2 m3 m4 m5 pg m6 m7 m8 m9 m10 m11 m12 H locs ls hP hD hS hl
  · refine lv_tableIn (off := 578) (tgt := 610) hx hb dL_law_32 (by decide) (by decide) (by decide) (by decide) ?_
    exact law_case18 hx hb hr hml hown hts hX hbl hbA hA hAr hlocks hN h0 hp hs hh hc kp rt cd si k1 k2 k3 k4 k5 mo m1 m2 m3 m4 m5 pg m6 m7 m8 m9 m10 m11 m12 H locs ls hP hD hS hl
  · refine lv_tableIn (off := 591) (tgt := 623) hx hb dL_law_32 (by decide) (by decide) (by decide) (by decide) ?_
    exact law_case19 hx hb hr hml hown hts hX hbl hbA hA hAr hlocks hN h0 hp hs hh hc kp rt cd si k1 k2 k3 k4 k5 mo m1 m2 m3 m4 m5 pg m6 m7 m8 m9 m10 m11 m12 H locs ls hP hD hS hl
  · refine lv_tableIn (off := 604) (tgt := 636) hx hb dL_law_32 (by decide) (by decide) (by decide) (by decide) ?_
    exact law_case20 hx hb hr hml hown hts hX hbl hbA hA hAr hlocks hN h0 hp hs hh hc kp rt cd si k1 k2 k3 k4 k5 mo m1 m2 m3 m4 m5 pg m6 m7 m8 m9 m10 m11 m12 H locs ls hP hD hS hl
  · refine lv_tableIn (off := 627) (tgt := 659) hx hb dL_law_32 (by decide) (by decide) (by decide) (by decide) ?_
    exact law_case21 hx hb hr hml hown hts hX hbl hbA hA hAr hlocks hN h0 hp hs hh hc kp rt cd si k1 k2 k3 k4 k5 mo m1 m2 m3 m4 m5 pg m6 m7 m8 m9 m10 m11 m12 H locs ls hP hD hS hl
  · refine lv_tableOut (tgt := 673) hx hb dL_law_32 (by rw [hjI]; omega) (by decide) ?_
    have hP := hP.sub (ws' := []) [] rfl
    have hD := hD.sub (ws' := []) [] (by decide) rfl
    exact law_end hx hb hr hml hown hts hX hbl hbA hA hAr hlocks hN H locs ls hP hD hS (lv_sub hl [0, 3] rfl)
