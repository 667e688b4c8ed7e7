theorem cz_arr {args : Array Value} {s : State} {ty : FieldType} (h : (Cond.arrayClass ty).before args s = true) : ∃ cA : ClassId, ArrOfT s cA ty ∧ s.vm.findClass ("[" ++ ty.toString) = some cA := by
  obtain ⟨c, k, comp, h1, h2, h3⟩ := Cond.arrayClass_spec h
  exact ⟨c, fun n z => ⟨fun k h => (by cases h), k, h2, comp, h3⟩, h1⟩
set_option maxRecDepth 100000 in
theorem cz_stat {args : Array Value} {s : State} {A : Nat → Prop} (hs : ∀ w ∈ lw_tbl, w.before args s = true) (hg : (Jvm.Cond.and given_1 narrow_1).before args s = true) (hnA : ∀ a : Nat, a < s.heap.size → ¬ A a) : ∃ tR tC : Nat, cz_St tR tC A s s.heap := by
  have hf := flat_of_before _ hg
  have hltR : ∀ j : Nat, j < 8 → (Term.elem (.static "LeftProfile" "ROWS_ON" "[I") (.int (Int32.ofNat j))).eval args s none [] s = some (.int (cz_fR j)) := by
    intro j hj
    rcases (show j = 0 ∨ j = 1 ∨ j = 2 ∨ j = 3 ∨ j = 4 ∨ j = 5 ∨ j = 6 ∨ j = 7 by omega) with rfl | rfl | rfl | rfl | rfl | rfl | rfl | rfl
    · exact va_eqt (hf (Cond.eq (.elem (.static "LeftProfile" "ROWS_ON" "[I") (.int 0)) (.int (-1))) (by decide +kernel))
    · exact va_eqt (hf (Cond.eq (.elem (.static "LeftProfile" "ROWS_ON" "[I") (.int 1)) (.int (-1))) (by decide +kernel))
    · exact va_eqt (hf (Cond.eq (.elem (.static "LeftProfile" "ROWS_ON" "[I") (.int 2)) (.int 0)) (by decide +kernel))
    · exact va_eqt (hf (Cond.eq (.elem (.static "LeftProfile" "ROWS_ON" "[I") (.int 3)) (.int 1)) (by decide +kernel))
    · exact va_eqt (hf (Cond.eq (.elem (.static "LeftProfile" "ROWS_ON" "[I") (.int 4)) (.int 1)) (by decide +kernel))
    · exact va_eqt (hf (Cond.eq (.elem (.static "LeftProfile" "ROWS_ON" "[I") (.int 5)) (.int 1)) (by decide +kernel))
    · exact va_eqt (hf (Cond.eq (.elem (.static "LeftProfile" "ROWS_ON" "[I") (.int 6)) (.int 0)) (by decide +kernel))
    · exact va_eqt (hf (Cond.eq (.elem (.static "LeftProfile" "ROWS_ON" "[I") (.int 7)) (.int (-1))) (by decide +kernel))
  obtain ⟨tR, etR, htR⟩ := va_Tof (tm := (.static "LeftProfile" "ROWS_ON" "[I")) (ty := .int) (N := 8) (f := fun j => .int (cz_fR j)) (A := A) (by decide) (hf (Cond.arrayOf (.static "LeftProfile" "ROWS_ON" "[I") .int) (by decide +kernel)) (va_eqt (hf (Cond.eq (.length (.static "LeftProfile" "ROWS_ON" "[I")) (.int 8)) (by decide +kernel))) hltR hnA
  have hltC : ∀ j : Nat, j < 8 → (Term.elem (.static "LeftProfile" "COLUMNS_ON" "[I") (.int (Int32.ofNat j))).eval args s none [] s = some (.int (cz_fC j)) := by
    intro j hj
    rcases (show j = 0 ∨ j = 1 ∨ j = 2 ∨ j = 3 ∨ j = 4 ∨ j = 5 ∨ j = 6 ∨ j = 7 by omega) with rfl | rfl | rfl | rfl | rfl | rfl | rfl | rfl
    · exact va_eqt (hf (Cond.eq (.elem (.static "LeftProfile" "COLUMNS_ON" "[I") (.int 0)) (.int 0)) (by decide +kernel))
    · exact va_eqt (hf (Cond.eq (.elem (.static "LeftProfile" "COLUMNS_ON" "[I") (.int 1)) (.int 1)) (by decide +kernel))
    · exact va_eqt (hf (Cond.eq (.elem (.static "LeftProfile" "COLUMNS_ON" "[I") (.int 2)) (.int 1)) (by decide +kernel))
    · exact va_eqt (hf (Cond.eq (.elem (.static "LeftProfile" "COLUMNS_ON" "[I") (.int 3)) (.int 1)) (by decide +kernel))
    · exact va_eqt (hf (Cond.eq (.elem (.static "LeftProfile" "COLUMNS_ON" "[I") (.int 4)) (.int 0)) (by decide +kernel))
    · exact va_eqt (hf (Cond.eq (.elem (.static "LeftProfile" "COLUMNS_ON" "[I") (.int 5)) (.int (-1))) (by decide +kernel))
    · exact va_eqt (hf (Cond.eq (.elem (.static "LeftProfile" "COLUMNS_ON" "[I") (.int 6)) (.int (-1))) (by decide +kernel))
    · exact va_eqt (hf (Cond.eq (.elem (.static "LeftProfile" "COLUMNS_ON" "[I") (.int 7)) (.int (-1))) (by decide +kernel))
  obtain ⟨tC, etC, htC⟩ := va_Tof (tm := (.static "LeftProfile" "COLUMNS_ON" "[I")) (ty := .int) (N := 8) (f := fun j => .int (cz_fC j)) (A := A) (by decide) (hf (Cond.arrayOf (.static "LeftProfile" "COLUMNS_ON" "[I") .int) (by decide +kernel)) (va_eqt (hf (Cond.eq (.length (.static "LeftProfile" "COLUMNS_ON" "[I")) (.int 8)) (by decide +kernel))) hltC hnA
  exact ⟨tR, tC, va_Zof (hs (.laysStatic "LeftProfile" "ROWS_ON" "[I") (List.mem_of_getElem? (i := 161) (by decide +kernel))) (hs (.initialized "LeftProfile") (List.mem_of_getElem? (i := 35) (by decide +kernel))) etR hnA, htR, va_Zof (hs (.laysStatic "LeftProfile" "COLUMNS_ON" "[I") (List.mem_of_getElem? (i := 163) (by decide +kernel))) (hs (.initialized "LeftProfile") (List.mem_of_getElem? (i := 35) (by decide +kernel))) etC hnA, htC⟩
set_option maxRecDepth 100000 in
theorem cz_nest {args : Array Value} {s : State} (hs : ∀ w ∈ lw_tbl, w.before args s = true) : ∀ q ∈ cz_links, va_Nw (.methodLinkNest q.1 q.2.1 q.2.2 "LeftProfile") s := by
  exact List.forall_mem_cons.mpr ⟨va_Nw.of rfl (hs (.methodLinkNest RX6 11 yX2_init "LeftProfile") (List.mem_of_getElem? (i := 57) (by decide +kernel))), List.forall_mem_cons.mpr ⟨va_Nw.of rfl (hs (.methodLinkNest RX6 18 yX4_init "LeftProfile") (List.mem_of_getElem? (i := 72) (by decide +kernel))), List.forall_mem_cons.mpr ⟨va_Nw.of rfl (hs (.methodLinkNest RX4 11 yX1_init "LeftProfile") (List.mem_of_getElem? (i := 78) (by decide +kernel))), List.forall_mem_cons.mpr ⟨va_Nw.of rfl (hs (.methodLinkNest RX4 20 yX0_init "LeftProfile") (List.mem_of_getElem? (i := 99) (by decide +kernel))), List.forall_mem_cons.mpr ⟨va_Nw.of rfl (hs (.methodLinkNest RX5 28 yX6_neighbour "LeftProfile") (List.mem_of_getElem? (i := 154) (by decide +kernel))), List.forall_mem_cons.mpr ⟨va_Nw.of rfl (hs (.methodLinkNest RX5 32 yX6_isPlace "LeftProfile") (List.mem_of_getElem? (i := 164) (by decide +kernel))), List.forall_mem_cons.mpr ⟨va_Nw.of rfl (hs (.methodLinkNest RX5 36 yX6_bit "LeftProfile") (List.mem_of_getElem? (i := 165) (by decide +kernel))), List.forall_mem_cons.mpr ⟨va_Nw.of rfl (hs (.methodLinkNest RX6 35 yX0_init "LeftProfile") (List.mem_of_getElem? (i := 189) (by decide +kernel))), List.forall_mem_cons.mpr ⟨va_Nw.of rfl (hs (.methodLinkNest RX6 41 yX3_init "LeftProfile") (List.mem_of_getElem? (i := 192) (by decide +kernel))), List.forall_mem_cons.mpr ⟨va_Nw.of rfl (hs (.methodLinkNest RX1 27 yX6_bit "LeftProfile") (List.mem_of_getElem? (i := 280) (by decide +kernel))), List.forall_mem_cons.mpr ⟨va_Nw.of rfl (hs (.methodLinkNest RX0 43 yX6_bit "LeftProfile") (List.mem_of_getElem? (i := 318) (by decide +kernel))), List.forall_mem_cons.mpr ⟨va_Nw.of rfl (hs (.methodLinkNest RX4 43 yX6_placeOf "LeftProfile") (List.mem_of_getElem? (i := 334) (by decide +kernel))), List.forall_mem_cons.mpr ⟨va_Nw.of rfl (hs (.methodLinkNest RX4 47 yX6_bit "LeftProfile") (List.mem_of_getElem? (i := 335) (by decide +kernel))), List.forall_mem_cons.mpr ⟨va_Nw.of rfl (hs (.methodLinkNest RX5 40 yX6_placeOf "LeftProfile") (List.mem_of_getElem? (i := 361) (by decide +kernel))), List.forall_mem_cons.mpr ⟨va_Nw.of rfl (hs (.methodLinkNest RX5 67 yX6_isOfKind "LeftProfile") (List.mem_of_getElem? (i := 366) (by decide +kernel))), List.forall_mem_cons.mpr ⟨va_Nw.of rfl (hs (.methodLinkNest RX5 47 yX6_sideOf "LeftProfile") (List.mem_of_getElem? (i := 369) (by decide +kernel))), List.forall_mem_cons.mpr ⟨va_Nw.of rfl (hs (.methodLinkNest RX4 80 yX6_sideOf "LeftProfile") (List.mem_of_getElem? (i := 404) (by decide +kernel))), List.forall_mem_cons.mpr ⟨va_Nw.of rfl (hs (.methodLinkNest RX4 83 yX6_stanceOf "LeftProfile") (List.mem_of_getElem? (i := 405) (by decide +kernel))), List.forall_mem_cons.mpr ⟨va_Nw.of rfl (hs (.methodLinkNest RX4 87 yX6_neighbour "LeftProfile") (List.mem_of_getElem? (i := 406) (by decide +kernel))), List.forall_mem_cons.mpr ⟨va_Nw.of rfl (hs (.methodLinkNest RX4 90 yX6_isOpen "LeftProfile") (List.mem_of_getElem? (i := 407) (by decide +kernel))), List.forall_mem_cons.mpr ⟨va_Nw.of rfl (hs (.methodLinkNest RX3 35 yX6_placeOf "LeftProfile") (List.mem_of_getElem? (i := 460) (by decide +kernel))), fun _ h => absurd h List.not_mem_nil⟩⟩⟩⟩⟩⟩⟩⟩⟩⟩⟩⟩⟩⟩⟩⟩⟩⟩⟩⟩⟩
set_option maxHeartbeats 4000000 in
set_option maxRecDepth 100000 in
theorem law_short {p : Program} {l : Launch} {e : Env} {s : State} {m : MethodId} {below : List Frame} {meth : Method} {c : Code} {dC : Nat → ClassId} {dI : Nat → Nat → Nat} {cI cB : ClassId} {A : Nat → Prop} {b : Nat} {xs : Nat → Int32} (hx : p.tables.exec = Jvm.exec) (hb : c.code = cL_law) (hr : meth.sig.returnType = ret) (hml : c.maxLocals = 4) (hown : s.vm.findClass RL = some m.cls) (hts : ∀ w ∈ wsL_law, w.before #[Value.ref b] s = true) {L : Nat} (hL : L < 4) (hX : va_X b L xs s s.heap) (hbl : b < s.heap.size) (hbA : ¬ A b) (hA : ∀ q : Nat, s.heap.size ≤ q → A q) (hAr : ∀ q : Nat, A q → s.heap.size ≤ q) (hlocks : meth.locks = false) (hN : cz_N dC dI cI cB s) (H : Heap) (locs : List Loc) (ls : Array Slot) (hS : va_S A s.heap H locs) (hl : lv_has ls 4 [(0, .ref b), (3, .int 0)]) : W p l e room_1 s m #[Value.ref b] below meth c H locs 38 1433 (lw_Z below #[Value.ref b] s) (F0 m 18 ls []) := by
  refine lv_iload_n hx hb dL_law_18 rfl (lv_at hl 1 rfl) ?_
  refine lv_aload_n hx hb dL_law_19 rfl (lv_at hl 0 rfl) ?_
  refine va_slen hx hb hX hbl hbA hS dL_law_20 ?_
  refine lv_iconst (v := 4) hx hb dL_law_21 (by decide) ?_
  refine lv_isub hx hb dL_law_22 ?_
  refine lv_icmp_gt (tgt := 679) hx hb dL_law_23 (by decide) (fun _ => ?_) (fun c => absurd (by rcases (show L = 0 ∨ L = 1 ∨ L = 2 ∨ L = 3 by omega) with rfl | rfl | rfl | rfl <;> decide) c)
  refine lv_iconst (v := 1) hx hb dL_law_679 (by decide) ?_
  refine va_forget (fun q hq => hAr _ (hS.2.2 q hq)) ?_
  exact lw_ret hx hb hr hlocks dL_law_680
set_option maxHeartbeats 4000000 in
set_option maxRecDepth 100000 in
/-- THE LAW, from its entry -/
theorem whole_start {p : Program} {e : Env} {s : State} {m : MethodId} {below : List Frame} {meth : Method} {c : Code} (l : Launch) {b L : Nat} {xs : Nat → Int32} (hL : L ≤ 4) (C0 : lw_At p s m meth c b L xs) : W p l e room_1 s m #[Value.ref b] below meth c s.heap [] 0 0 (lw_Z below #[Value.ref b] s) (entryFrame m ([Value.ref b] : List Value).toArray 4) := by
  obtain ⟨hx, hb, hr, hml, hown, hts0, hX, hbl, hlocks, hgv⟩ := id C0
  have hts : ∀ w ∈ wsL_law, w.before #[Value.ref b] s = true := fun w h => hts0 w (wsL_law_in w h)
  have hown : s.vm.findClass RL = some m.cls := hown
  obtain ⟨A, hAe⟩ : ∃ A : Nat → Prop, A = fun q => s.heap.size ≤ q := ⟨_, rfl⟩
  have hA : ∀ q : Nat, s.heap.size ≤ q → A q := fun q h => by rw [hAe]; exact h
  have hAr : ∀ q : Nat, A q → s.heap.size ≤ q := fun q h => by rw [hAe] at h; exact h
  have hbA : ¬ A b := fun h => absurd (hAr b h) (Nat.not_le.mpr hbl)
  have hnA : ∀ a : Nat, a < s.heap.size → ¬ A a := fun a h h2 => absurd (hAr a h2) (Nat.not_le.mpr h)
  obtain ⟨c0, i0, kn0⟩ := u_known (C := RX0) (T := TX0) (N := 8) (n := 8) hts0 inX0 (hts (.instantiable RX0 8) (List.mem_of_getElem? (i := 25) rfl))
  obtain ⟨c1, i1, kn1⟩ := u_known (C := RX1) (T := TX1) (N := 3) (n := 3) hts0 inX1 (hts (.instantiable RX1 3) (List.mem_of_getElem? (i := 43) rfl))
  obtain ⟨c2, i2, kn2⟩ := u_known (C := RX2) (T := TX2) (N := 2) (n := 2) hts0 inX2 (hts (.instantiable RX2 2) (List.mem_of_getElem? (i := 13) rfl))
  obtain ⟨c3, i3, kn3⟩ := u_known (C := RX3) (T := TX3) (N := 4) (n := 4) hts0 inX3 (hts (.instantiable RX3 4) (List.mem_of_getElem? (i := 29) rfl))
  obtain ⟨c4, i4, kn4⟩ := u_known (C := RX4) (T := TX4) (N := 3) (n := 3) hts0 inX4 (hts (.instantiable RX4 3) (List.mem_of_getElem? (i := 17) rfl))
  obtain ⟨c5, i5, kn5⟩ := u_known (C := RX5) (T := TX5) (N := 2) (n := 2) hts0 inX5 (hts (.instantiable RX5 2) (List.mem_of_getElem? (i := 49) rfl))
  obtain ⟨c6, i6, kn6⟩ := u_known (C := RX6) (T := TX6) (N := 7) (n := 7) hts0 inX6 (hts (.instantiable RX6 7) (List.mem_of_getElem? (i := 1) rfl))
  obtain ⟨c7, i7, kn7⟩ := u_known (C := RX7) (T := TX7) (N := 31) (n := 31) hts0 inX7 (hts (.instantiable RX7 31) (List.mem_of_getElem? (i := 4) rfl))
  obtain ⟨dC, dI, hKc⟩ : ∃ (dC : Nat → ClassId) (dI : Nat → Nat → Nat), ∀ (k : Nat) (q : vw_C), vwCl[k]? = some q → u_Kn s q.1 q.2.1 q.2.2 (dC k) (dI k) := by
    refine ⟨fun k => if k = 0 then c0 else (if k = 1 then c1 else (if k = 2 then c2 else (if k = 3 then c3 else (if k = 4 then c4 else (if k = 5 then c5 else (if k = 6 then c6 else (c7))))))), fun k => if k = 0 then i0 else (if k = 1 then i1 else (if k = 2 then i2 else (if k = 3 then i3 else (if k = 4 then i4 else (if k = 5 then i5 else (if k = 6 then i6 else (i7))))))), ?_⟩
    intro k q hq
    match k, hq with
    | 0, hq => cases hq; exact kn0
    | 1, hq => cases hq; exact kn1
    | 2, hq => cases hq; exact kn2
    | 3, hq => cases hq; exact kn3
    | 4, hq => cases hq; exact kn4
    | 5, hq => cases hq; exact kn5
    | 6, hq => cases hq; exact kn6
    | 7, hq => cases hq; exact kn7
    | k + 8, hq => simp [vwCl] at hq
  obtain ⟨cI, hI1, hI2⟩ := cz_arr (hts (.arrayClass .int) (List.mem_of_getElem? (i := 36) rfl))
  obtain ⟨cB, hB1, hB2⟩ := cz_arr (hts (.arrayClass .byte) (List.mem_of_getElem? (i := 110) rfl))
  have hK : va_K (dC, dI) vwCl [(cI, .int), (cB, .byte)] s := by
    refine ⟨hKc, ?_⟩
    intro k q hq
    match k, hq with
    | 0, hq => cases hq; exact ⟨hI1, hI2⟩
    | 1, hq => cases hq; exact ⟨hB1, hB2⟩
    | k + 2, hq => simp at hq
  have hN : cz_N dC dI cI cB s := ⟨hK, cz_nest hts0⟩
  obtain ⟨tR, tC, hSt⟩ := cz_stat hts0 hgv hnA
  have hS : va_S A s.heap s.heap [] := va_S.rf
  have hP : va_P (dC, dI) vwCl [] s.heap := fun k q h => by simp at h
  have hD : va_D A [] := ⟨fun i j p q h => by simp at h, fun k q h => by simp at h⟩
  have hiX0 : ∀ w ∈ wsX00, w ∈ wsL_law := inlX0
  have hiX1 : ∀ w ∈ wsX10, w ∈ wsL_law := inlX1
  have hiX2 : ∀ w ∈ wsX20, w ∈ wsL_law := inlX2
  have hiX3 : ∀ w ∈ wsX30, w ∈ wsL_law := inlX3
  have hiX4 : ∀ w ∈ wsX40, w ∈ wsL_law := inlX4
  have hiX5 : ∀ w ∈ wsX50, w ∈ wsL_law := inlX5
  have hiX6 : ∀ w ∈ wsX60, w ∈ wsL_law := inlX6
  have hiX7 : ∀ w ∈ wsX70, w ∈ wsL_law := inlX7
  have hl := lv_entry ([.ref b]) (n := 4) (Nat.le_of_ble_eq_true rfl)
  rw [lg_entry_eq]
  generalize (lg_sl ([.ref b]) ++ List.replicate (4 - (lg_sl ([.ref b])).length) Slot.unset).toArray = ls at hl ⊢
  have hl : lv_has ls 4 [(0, .ref b)] := hl
  refine va_new (ci := 6) (fs := [.null, .null, .null, .null, .null, .null, .int 0]) (C := RX6) (T := TX6) (N := 7) hx hb hts hiX6 tyX6 tyX6_ok hown (hts (.classLink RL 7 RX6) (List.mem_of_getElem? (i := 0) rfl)) (hts (.instantiable RX6 7) (List.mem_of_getElem? (i := 1) rfl)) (hts (.initialized RX6) (List.mem_of_getElem? (i := 2) rfl)) hK hP hD hS hA rfl (cz_ds6) (Nat.le_of_ble_eq_true rfl) (Nat.le_of_ble_eq_true rfl) dL_law_0 (fun q_1 H hP hD hS => ?_)
  have hP : va_P (dC, dI) vwCl [(q_1, .inr (6, [.null, .null, .null, .null, .null, .null, .int 0]))] H := hP
  have hD : va_D A [(q_1, .inr (6, [.null, .null, .null, .null, .null, .null, .int 0]))] := hD
  refine W.widen (k := 1) (n := 7) (Nat.le_of_ble_eq_true rfl) (Nat.le_of_ble_eq_true rfl) ?_
  refine lv_dup hx hb dL_law_3 rfl ?_
  have hPc := hP.sub (ws' := [(q_1, .inr (6, [.null, .null, .null, .null, .null, .null, .int 0]))]) [0] rfl
  have hDc := hD.sub (ws' := [(q_1, .inr (6, [.null, .null, .null, .null, .null, .null, .int 0]))]) [0] (by decide) rfl
  have hFc := va_free (wc := [(q_1, .inr (6, [.null, .null, .null, .null, .null, .null, .int 0]))]) hD hS hA [0] rfl
  refine va_callv (va_runI (As := []) (rest := [.ref q_1]) ⟨hx, hb, hml, hown, hts⟩ (c_X6_init l dC dI cI cB tR tC q_1 H.size ) (cwI 0 hts gL_law_X6_init rfl rfl rfl (hts (.initialized RX6) (List.mem_of_getElem? (i := 2) rfl)) (hts (.methodLink RL 9 yX6_init) (List.mem_of_getElem? (i := 6) rfl)) (hts (.instanceMethod yX6_init) (List.mem_of_getElem? (i := 7) rfl)) rfl (by decide +kernel) ⟨Nat.le_of_ble_eq_true rfl, Nat.le_of_ble_eq_true rfl⟩) (cz_mST hPc hN hDc (hSt.give hS hFc)) rfl rfl hl.1 rfl (lv_room (Nat.le_of_ble_eq_true rfl)) dL_law_4 ⟨Nat.le_of_ble_eq_true rfl, Nat.le_of_ble_eq_true rfl⟩) hS (fun q _ h => hFc q h) hFc (fun u t H1 locs ht hvm hr_2 hB hz1 hk1 hS => ?_)
  obtain ⟨q_3, q_4, q_5, q_6, q_7, q_8, q_9, q_10, q_11, q_12, q_13, q_14, q_15, f_16, f_17, q_18, q_19, q_20, q_21, q_22, q_23, q_24, q_25, q_26, q_27, hP1, hD1⟩ := hB
  rw [ht] at hP1
  obtain ⟨hP, hD⟩ := va_join (wr := []) (w1 := [(q_1, .inr (6, [.ref q_3, .ref q_5, .ref q_6, .ref q_7, .ref q_18, .ref q_24, .int 0])), (q_3, .inr (2, [.ref q_4, .int 0])), (q_4, .inl (cI, 24, .inl (fun _ => 0))), (q_5, .inr (4, [.ref q_6, .ref q_7, .ref q_13])), (q_6, .inr (1, [.int 0, .int 0, .int 0])), (q_7, .inr (0, [.int (-1), .int 0, .int 0, .ref q_8, .ref q_9, .ref q_10, .ref q_11, .ref q_12])), (q_8, .inl (cI, 6, .inl (fun _ => 0))), (q_9, .inl (cI, 6, .inl (fun _ => 0))), (q_10, .inl (cI, 6, .inl (fun _ => 0))), (q_11, .inl (cI, 6, .inl (fun _ => 0))), (q_12, .inl (cI, 6, .inl (fun _ => 0))), (q_13, .inr (5, [.ref q_14, .ref q_15])), (q_14, .inl (cI, 400, .inl f_16)), (q_15, .inl (cI, 400, .inl f_17)), (q_18, .inr (0, [.int (-1), .int 0, .int 0, .ref q_19, .ref q_20, .ref q_21, .ref q_22, .ref q_23])), (q_19, .inl (cI, 6, .inl (fun _ => 0))), (q_20, .inl (cI, 6, .inl (fun _ => 0))), (q_21, .inl (cI, 6, .inl (fun _ => 0))), (q_22, .inl (cI, 6, .inl (fun _ => 0))), (q_23, .inl (cI, 6, .inl (fun _ => 0))), (q_24, .inr (3, [.ref q_25, .ref q_26, .ref q_27, .int 0])), (q_25, .inl (cI, 80, .inl (fun _ => 0))), (q_26, .inl (cI, 80, .inl (fun _ => 0))), (q_27, .inl (cI, 80, .inl (fun _ => 0)))]) hP hD [0] [] rfl rfl (by decide) (by decide) hk1 hFc hP1 hD1
  generalize H1 = H at hP hS ⊢
  have hP : va_P (dC, dI) vwCl [(q_1, .inr (6, [.ref q_3, .ref q_5, .ref q_6, .ref q_7, .ref q_18, .ref q_24, .int 0])), (q_3, .inr (2, [.ref q_4, .int 0])), (q_4, .inl (cI, 24, .inl (fun _ => 0))), (q_5, .inr (4, [.ref q_6, .ref q_7, .ref q_13])), (q_6, .inr (1, [.int 0, .int 0, .int 0])), (q_7, .inr (0, [.int (-1), .int 0, .int 0, .ref q_8, .ref q_9, .ref q_10, .ref q_11, .ref q_12])), (q_8, .inl (cI, 6, .inl (fun _ => 0))), (q_9, .inl (cI, 6, .inl (fun _ => 0))), (q_10, .inl (cI, 6, .inl (fun _ => 0))), (q_11, .inl (cI, 6, .inl (fun _ => 0))), (q_12, .inl (cI, 6, .inl (fun _ => 0))), (q_13, .inr (5, [.ref q_14, .ref q_15])), (q_14, .inl (cI, 400, .inl f_16)), (q_15, .inl (cI, 400, .inl f_17)), (q_18, .inr (0, [.int (-1), .int 0, .int 0, .ref q_19, .ref q_20, .ref q_21, .ref q_22, .ref q_23])), (q_19, .inl (cI, 6, .inl (fun _ => 0))), (q_20, .inl (cI, 6, .inl (fun _ => 0))), (q_21, .inl (cI, 6, .inl (fun _ => 0))), (q_22, .inl (cI, 6, .inl (fun _ => 0))), (q_23, .inl (cI, 6, .inl (fun _ => 0))), (q_24, .inr (3, [.ref q_25, .ref q_26, .ref q_27, .int 0])), (q_25, .inl (cI, 80, .inl (fun _ => 0))), (q_26, .inl (cI, 80, .inl (fun _ => 0))), (q_27, .inl (cI, 80, .inl (fun _ => 0)))] H := hP
  have hD : va_D A [(q_1, .inr (6, [.ref q_3, .ref q_5, .ref q_6, .ref q_7, .ref q_18, .ref q_24, .int 0])), (q_3, .inr (2, [.ref q_4, .int 0])), (q_4, .inl (cI, 24, .inl (fun _ => 0))), (q_5, .inr (4, [.ref q_6, .ref q_7, .ref q_13])), (q_6, .inr (1, [.int 0, .int 0, .int 0])), (q_7, .inr (0, [.int (-1), .int 0, .int 0, .ref q_8, .ref q_9, .ref q_10, .ref q_11, .ref q_12])), (q_8, .inl (cI, 6, .inl (fun _ => 0))), (q_9, .inl (cI, 6, .inl (fun _ => 0))), (q_10, .inl (cI, 6, .inl (fun _ => 0))), (q_11, .inl (cI, 6, .inl (fun _ => 0))), (q_12, .inl (cI, 6, .inl (fun _ => 0))), (q_13, .inr (5, [.ref q_14, .ref q_15])), (q_14, .inl (cI, 400, .inl f_16)), (q_15, .inl (cI, 400, .inl f_17)), (q_18, .inr (0, [.int (-1), .int 0, .int 0, .ref q_19, .ref q_20, .ref q_21, .ref q_22, .ref q_23])), (q_19, .inl (cI, 6, .inl (fun _ => 0))), (q_20, .inl (cI, 6, .inl (fun _ => 0))), (q_21, .inl (cI, 6, .inl (fun _ => 0))), (q_22, .inl (cI, 6, .inl (fun _ => 0))), (q_23, .inl (cI, 6, .inl (fun _ => 0))), (q_24, .inr (3, [.ref q_25, .ref q_26, .ref q_27, .int 0])), (q_25, .inl (cI, 80, .inl (fun _ => 0))), (q_26, .inl (cI, 80, .inl (fun _ => 0))), (q_27, .inl (cI, 80, .inl (fun _ => 0)))] := hD
  refine W.widen (k := 24) (n := 1161) (Nat.le_of_ble_eq_true rfl) (Nat.le_of_ble_eq_true rfl) ?_
  refine lv_astore_n (lv' := [(1, .ref q_1), (0, .ref b)]) hx hb dL_law_7 rfl hl (by decide) rfl (fun ls hl => ?_)
  refine va_new (ci := 7) (fs := [.int 0, .int 0, .int 0, .int 0, .int 0, .int 0, .int 0, .null, .null, .null, .null, .null, .int 0, .null, .int 0, .int 0, .null, .null, .null, .long 0, .int 0, .int 0, .int 0, .int 0, .int 0, .int 0, .null, .null, .null, .null, .long 0]) (C := RX7) (T := TX7) (N := 31) hx hb hts hiX7 tyX7 tyX7_ok hown (hts (.classLink RL 10 RX7) (List.mem_of_getElem? (i := 3) rfl)) (hts (.instantiable RX7 31) (List.mem_of_getElem? (i := 4) rfl)) (hts (.initialized RX7) (List.mem_of_getElem? (i := 5) rfl)) hK hP hD hS hA rfl (cz_ds7) (Nat.le_of_ble_eq_true rfl) (Nat.le_of_ble_eq_true rfl) dL_law_8 (fun q_28 H hP hD hS => ?_)
  have hP : va_P (dC, dI) vwCl [(q_1, .inr (6, [.ref q_3, .ref q_5, .ref q_6, .ref q_7, .ref q_18, .ref q_24, .int 0])), (q_3, .inr (2, [.ref q_4, .int 0])), (q_4, .inl (cI, 24, .inl (fun _ => 0))), (q_5, .inr (4, [.ref q_6, .ref q_7, .ref q_13])), (q_6, .inr (1, [.int 0, .int 0, .int 0])), (q_7, .inr (0, [.int (-1), .int 0, .int 0, .ref q_8, .ref q_9, .ref q_10, .ref q_11, .ref q_12])), (q_8, .inl (cI, 6, .inl (fun _ => 0))), (q_9, .inl (cI, 6, .inl (fun _ => 0))), (q_10, .inl (cI, 6, .inl (fun _ => 0))), (q_11, .inl (cI, 6, .inl (fun _ => 0))), (q_12, .inl (cI, 6, .inl (fun _ => 0))), (q_13, .inr (5, [.ref q_14, .ref q_15])), (q_14, .inl (cI, 400, .inl f_16)), (q_15, .inl (cI, 400, .inl f_17)), (q_18, .inr (0, [.int (-1), .int 0, .int 0, .ref q_19, .ref q_20, .ref q_21, .ref q_22, .ref q_23])), (q_19, .inl (cI, 6, .inl (fun _ => 0))), (q_20, .inl (cI, 6, .inl (fun _ => 0))), (q_21, .inl (cI, 6, .inl (fun _ => 0))), (q_22, .inl (cI, 6, .inl (fun _ => 0))), (q_23, .inl (cI, 6, .inl (fun _ => 0))), (q_24, .inr (3, [.ref q_25, .ref q_26, .ref q_27, .int 0])), (q_25, .inl (cI, 80, .inl (fun _ => 0))), (q_26, .inl (cI, 80, .inl (fun _ => 0))), (q_27, .inl (cI, 80, .inl (fun _ => 0))), (q_28, .inr (7, [.int 0, .int 0, .int 0, .int 0, .int 0, .int 0, .int 0, .null, .null, .null, .null, .null, .int 0, .null, .int 0, .int 0, .null, .null, .null, .long 0, .int 0, .int 0, .int 0, .int 0, .int 0, .int 0, .null, .null, .null, .null, .long 0]))] H := hP
  have hD : va_D A [(q_1, .inr (6, [.ref q_3, .ref q_5, .ref q_6, .ref q_7, .ref q_18, .ref q_24, .int 0])), (q_3, .inr (2, [.ref q_4, .int 0])), (q_4, .inl (cI, 24, .inl (fun _ => 0))), (q_5, .inr (4, [.ref q_6, .ref q_7, .ref q_13])), (q_6, .inr (1, [.int 0, .int 0, .int 0])), (q_7, .inr (0, [.int (-1), .int 0, .int 0, .ref q_8, .ref q_9, .ref q_10, .ref q_11, .ref q_12])), (q_8, .inl (cI, 6, .inl (fun _ => 0))), (q_9, .inl (cI, 6, .inl (fun _ => 0))), (q_10, .inl (cI, 6, .inl (fun _ => 0))), (q_11, .inl (cI, 6, .inl (fun _ => 0))), (q_12, .inl (cI, 6, .inl (fun _ => 0))), (q_13, .inr (5, [.ref q_14, .ref q_15])), (q_14, .inl (cI, 400, .inl f_16)), (q_15, .inl (cI, 400, .inl f_17)), (q_18, .inr (0, [.int (-1), .int 0, .int 0, .ref q_19, .ref q_20, .ref q_21, .ref q_22, .ref q_23])), (q_19, .inl (cI, 6, .inl (fun _ => 0))), (q_20, .inl (cI, 6, .inl (fun _ => 0))), (q_21, .inl (cI, 6, .inl (fun _ => 0))), (q_22, .inl (cI, 6, .inl (fun _ => 0))), (q_23, .inl (cI, 6, .inl (fun _ => 0))), (q_24, .inr (3, [.ref q_25, .ref q_26, .ref q_27, .int 0])), (q_25, .inl (cI, 80, .inl (fun _ => 0))), (q_26, .inl (cI, 80, .inl (fun _ => 0))), (q_27, .inl (cI, 80, .inl (fun _ => 0))), (q_28, .inr (7, [.int 0, .int 0, .int 0, .int 0, .int 0, .int 0, .int 0, .null, .null, .null, .null, .null, .int 0, .null, .int 0, .int 0, .null, .null, .null, .long 0, .int 0, .int 0, .int 0, .int 0, .int 0, .int 0, .null, .null, .null, .null, .long 0]))] := hD
  refine W.widen (k := 25) (n := 1192) (Nat.le_of_ble_eq_true rfl) (Nat.le_of_ble_eq_true rfl) ?_
  refine lv_dup hx hb dL_law_11 rfl ?_
  have hPc := hP.sub (ws' := [(q_28, .inr (7, [.int 0, .int 0, .int 0, .int 0, .int 0, .int 0, .int 0, .null, .null, .null, .null, .null, .int 0, .null, .int 0, .int 0, .null, .null, .null, .long 0, .int 0, .int 0, .int 0, .int 0, .int 0, .int 0, .null, .null, .null, .null, .long 0]))]) [24] rfl
  have hDc := hD.sub (ws' := [(q_28, .inr (7, [.int 0, .int 0, .int 0, .int 0, .int 0, .int 0, .int 0, .null, .null, .null, .null, .null, .int 0, .null, .int 0, .int 0, .null, .null, .null, .long 0, .int 0, .int 0, .int 0, .int 0, .int 0, .int 0, .null, .null, .null, .null, .long 0]))]) [24] (by decide) rfl
  have hFc := va_free (wc := [(q_28, .inr (7, [.int 0, .int 0, .int 0, .int 0, .int 0, .int 0, .int 0, .null, .null, .null, .null, .null, .int 0, .null, .int 0, .int 0, .null, .null, .null, .long 0, .int 0, .int 0, .int 0, .int 0, .int 0, .int 0, .null, .null, .null, .null, .long 0]))]) hD hS hA [24] rfl
  refine va_callv (va_runI (As := []) (rest := [.ref q_28]) ⟨hx, hb, hml, hown, hts⟩ (c_X7_init l dC dI cI cB q_28 H.size ) (cwI 0 hts gL_law_X7_init rfl rfl rfl (hts (.initialized RX7) (List.mem_of_getElem? (i := 5) rfl)) (hts (.methodLink RL 12 yX7_init) (List.mem_of_getElem? (i := 99) rfl)) (hts (.instanceMethod yX7_init) (List.mem_of_getElem? (i := 100) rfl)) rfl (by decide +kernel) ⟨Nat.le_of_ble_eq_true rfl, Nat.le_of_ble_eq_true rfl⟩) (cz_mS hPc hN hDc) rfl rfl hl.1 rfl (lv_room (Nat.le_of_ble_eq_true rfl)) dL_law_12 ⟨Nat.le_of_ble_eq_true rfl, Nat.le_of_ble_eq_true rfl⟩) hS (fun q _ h => hFc q h) hFc (fun u t H1 locs ht hvm hr_29 hB hz1 hk1 hS => ?_)
  obtain ⟨q_30, q_31, q_32, q_33, q_34, q_35, q_36, q_37, q_38, q_39, q_40, q_41, q_42, hP1, hD1⟩ := hB
  rw [ht] at hP1
  obtain ⟨hP, hD⟩ := va_join (wr := [(q_1, .inr (6, [.ref q_3, .ref q_5, .ref q_6, .ref q_7, .ref q_18, .ref q_24, .int 0])), (q_3, .inr (2, [.ref q_4, .int 0])), (q_4, .inl (cI, 24, .inl (fun _ => 0))), (q_5, .inr (4, [.ref q_6, .ref q_7, .ref q_13])), (q_6, .inr (1, [.int 0, .int 0, .int 0])), (q_7, .inr (0, [.int (-1), .int 0, .int 0, .ref q_8, .ref q_9, .ref q_10, .ref q_11, .ref q_12])), (q_8, .inl (cI, 6, .inl (fun _ => 0))), (q_9, .inl (cI, 6, .inl (fun _ => 0))), (q_10, .inl (cI, 6, .inl (fun _ => 0))), (q_11, .inl (cI, 6, .inl (fun _ => 0))), (q_12, .inl (cI, 6, .inl (fun _ => 0))), (q_13, .inr (5, [.ref q_14, .ref q_15])), (q_14, .inl (cI, 400, .inl f_16)), (q_15, .inl (cI, 400, .inl f_17)), (q_18, .inr (0, [.int (-1), .int 0, .int 0, .ref q_19, .ref q_20, .ref q_21, .ref q_22, .ref q_23])), (q_19, .inl (cI, 6, .inl (fun _ => 0))), (q_20, .inl (cI, 6, .inl (fun _ => 0))), (q_21, .inl (cI, 6, .inl (fun _ => 0))), (q_22, .inl (cI, 6, .inl (fun _ => 0))), (q_23, .inl (cI, 6, .inl (fun _ => 0))), (q_24, .inr (3, [.ref q_25, .ref q_26, .ref q_27, .int 0])), (q_25, .inl (cI, 80, .inl (fun _ => 0))), (q_26, .inl (cI, 80, .inl (fun _ => 0))), (q_27, .inl (cI, 80, .inl (fun _ => 0)))]) (w1 := [(q_28, .inr (7, [.int 0, .int 0, .int 0, .int (-1), .int (-1), .int 0, .int 0, .ref q_30, .ref q_31, .ref q_32, .ref q_33, .ref q_34, .int 0, .ref q_35, .int 0, .int 0, .ref q_36, .ref q_37, .ref q_38, .long 0, .int 0, .int 0, .int 0, .int 0, .int 0, .int 0, .ref q_39, .ref q_40, .ref q_41, .ref q_42, .long 0])), (q_30, .inl (cI, 6, .inl (fun _ => 0))), (q_31, .inl (cI, 6, .inl (fun _ => 0))), (q_32, .inl (cI, 6, .inl (fun _ => 0))), (q_33, .inl (cI, 6, .inl (fun _ => 0))), (q_34, .inl (cI, 6, .inl (fun _ => 0))), (q_35, .inl (cB, 24, .inl (fun _ => 0))), (q_36, .inl (cI, 3, .inl (fun _ => 0))), (q_37, .inl (cI, 80, .inl (fun _ => 0))), (q_38, .inl (cI, 80, .inl (fun _ => 0))), (q_39, .inl (cI, 6, .inl (fun _ => 0))), (q_40, .inl (cI, 6, .inl (fun _ => 0))), (q_41, .inl (cI, 6, .inl (fun _ => 0))), (q_42, .inl (cI, 6, .inl (fun _ => 0)))]) hP hD [24] [0, 1, 2, 3, 4, 5, 6, 7, 8, 9, 10, 11, 12, 13, 14, 15, 16, 17, 18, 19, 20, 21, 22, 23] rfl rfl (by decide) (by decide) hk1 hFc hP1 hD1
  generalize H1 = H at hP hS ⊢
  have hP : va_P (dC, dI) vwCl [(q_1, .inr (6, [.ref q_3, .ref q_5, .ref q_6, .ref q_7, .ref q_18, .ref q_24, .int 0])), (q_3, .inr (2, [.ref q_4, .int 0])), (q_4, .inl (cI, 24, .inl (fun _ => 0))), (q_5, .inr (4, [.ref q_6, .ref q_7, .ref q_13])), (q_6, .inr (1, [.int 0, .int 0, .int 0])), (q_7, .inr (0, [.int (-1), .int 0, .int 0, .ref q_8, .ref q_9, .ref q_10, .ref q_11, .ref q_12])), (q_8, .inl (cI, 6, .inl (fun _ => 0))), (q_9, .inl (cI, 6, .inl (fun _ => 0))), (q_10, .inl (cI, 6, .inl (fun _ => 0))), (q_11, .inl (cI, 6, .inl (fun _ => 0))), (q_12, .inl (cI, 6, .inl (fun _ => 0))), (q_13, .inr (5, [.ref q_14, .ref q_15])), (q_14, .inl (cI, 400, .inl f_16)), (q_15, .inl (cI, 400, .inl f_17)), (q_18, .inr (0, [.int (-1), .int 0, .int 0, .ref q_19, .ref q_20, .ref q_21, .ref q_22, .ref q_23])), (q_19, .inl (cI, 6, .inl (fun _ => 0))), (q_20, .inl (cI, 6, .inl (fun _ => 0))), (q_21, .inl (cI, 6, .inl (fun _ => 0))), (q_22, .inl (cI, 6, .inl (fun _ => 0))), (q_23, .inl (cI, 6, .inl (fun _ => 0))), (q_24, .inr (3, [.ref q_25, .ref q_26, .ref q_27, .int 0])), (q_25, .inl (cI, 80, .inl (fun _ => 0))), (q_26, .inl (cI, 80, .inl (fun _ => 0))), (q_27, .inl (cI, 80, .inl (fun _ => 0))), (q_28, .inr (7, [.int 0, .int 0, .int 0, .int (-1), .int (-1), .int 0, .int 0, .ref q_30, .ref q_31, .ref q_32, .ref q_33, .ref q_34, .int 0, .ref q_35, .int 0, .int 0, .ref q_36, .ref q_37, .ref q_38, .long 0, .int 0, .int 0, .int 0, .int 0, .int 0, .int 0, .ref q_39, .ref q_40, .ref q_41, .ref q_42, .long 0])), (q_30, .inl (cI, 6, .inl (fun _ => 0))), (q_31, .inl (cI, 6, .inl (fun _ => 0))), (q_32, .inl (cI, 6, .inl (fun _ => 0))), (q_33, .inl (cI, 6, .inl (fun _ => 0))), (q_34, .inl (cI, 6, .inl (fun _ => 0))), (q_35, .inl (cB, 24, .inl (fun _ => 0))), (q_36, .inl (cI, 3, .inl (fun _ => 0))), (q_37, .inl (cI, 80, .inl (fun _ => 0))), (q_38, .inl (cI, 80, .inl (fun _ => 0))), (q_39, .inl (cI, 6, .inl (fun _ => 0))), (q_40, .inl (cI, 6, .inl (fun _ => 0))), (q_41, .inl (cI, 6, .inl (fun _ => 0))), (q_42, .inl (cI, 6, .inl (fun _ => 0)))] H := hP
  have hD : va_D A [(q_1, .inr (6, [.ref q_3, .ref q_5, .ref q_6, .ref q_7, .ref q_18, .ref q_24, .int 0])), (q_3, .inr (2, [.ref q_4, .int 0])), (q_4, .inl (cI, 24, .inl (fun _ => 0))), (q_5, .inr (4, [.ref q_6, .ref q_7, .ref q_13])), (q_6, .inr (1, [.int 0, .int 0, .int 0])), (q_7, .inr (0, [.int (-1), .int 0, .int 0, .ref q_8, .ref q_9, .ref q_10, .ref q_11, .ref q_12])), (q_8, .inl (cI, 6, .inl (fun _ => 0))), (q_9, .inl (cI, 6, .inl (fun _ => 0))), (q_10, .inl (cI, 6, .inl (fun _ => 0))), (q_11, .inl (cI, 6, .inl (fun _ => 0))), (q_12, .inl (cI, 6, .inl (fun _ => 0))), (q_13, .inr (5, [.ref q_14, .ref q_15])), (q_14, .inl (cI, 400, .inl f_16)), (q_15, .inl (cI, 400, .inl f_17)), (q_18, .inr (0, [.int (-1), .int 0, .int 0, .ref q_19, .ref q_20, .ref q_21, .ref q_22, .ref q_23])), (q_19, .inl (cI, 6, .inl (fun _ => 0))), (q_20, .inl (cI, 6, .inl (fun _ => 0))), (q_21, .inl (cI, 6, .inl (fun _ => 0))), (q_22, .inl (cI, 6, .inl (fun _ => 0))), (q_23, .inl (cI, 6, .inl (fun _ => 0))), (q_24, .inr (3, [.ref q_25, .ref q_26, .ref q_27, .int 0])), (q_25, .inl (cI, 80, .inl (fun _ => 0))), (q_26, .inl (cI, 80, .inl (fun _ => 0))), (q_27, .inl (cI, 80, .inl (fun _ => 0))), (q_28, .inr (7, [.int 0, .int 0, .int 0, .int (-1), .int (-1), .int 0, .int 0, .ref q_30, .ref q_31, .ref q_32, .ref q_33, .ref q_34, .int 0, .ref q_35, .int 0, .int 0, .ref q_36, .ref q_37, .ref q_38, .long 0, .int 0, .int 0, .int 0, .int 0, .int 0, .int 0, .ref q_39, .ref q_40, .ref q_41, .ref q_42, .long 0])), (q_30, .inl (cI, 6, .inl (fun _ => 0))), (q_31, .inl (cI, 6, .inl (fun _ => 0))), (q_32, .inl (cI, 6, .inl (fun _ => 0))), (q_33, .inl (cI, 6, .inl (fun _ => 0))), (q_34, .inl (cI, 6, .inl (fun _ => 0))), (q_35, .inl (cB, 24, .inl (fun _ => 0))), (q_36, .inl (cI, 3, .inl (fun _ => 0))), (q_37, .inl (cI, 80, .inl (fun _ => 0))), (q_38, .inl (cI, 80, .inl (fun _ => 0))), (q_39, .inl (cI, 6, .inl (fun _ => 0))), (q_40, .inl (cI, 6, .inl (fun _ => 0))), (q_41, .inl (cI, 6, .inl (fun _ => 0))), (q_42, .inl (cI, 6, .inl (fun _ => 0)))] := hD
  refine W.widen (k := 38) (n := 1433) (Nat.le_of_ble_eq_true rfl) (Nat.le_of_ble_eq_true rfl) ?_
  refine lv_astore_n (lv' := [(2, .ref q_28), (1, .ref q_1), (0, .ref b)]) hx hb dL_law_15 rfl hl (by decide) rfl (fun ls hl => ?_)
  refine lv_iconst (v := 0) hx hb dL_law_16 (by decide) ?_
  refine lv_istore_n (lv' := [(3, .int 0), (2, .ref q_28), (1, .ref q_1), (0, .ref b)]) hx hb dL_law_17 rfl hl (by decide) rfl (fun ls hl => ?_)
  rcases (show L < 4 ∨ L = 4 by omega) with hL4 | hL4
  · exact law_short hx hb hr hml hown hts hL4 hX hbl hbA hA hAr hlocks hN H locs ls hS (lv_sub hl [3, 0] rfl)
  · subst hL4
    have hP := hP.sub (ws' := [(q_1, .inr (6, [.ref q_3, .ref q_5, .ref q_6, .ref q_7, .ref q_18, .ref q_24, .int 0])), (q_3, .inr (2, [.ref q_4, .int 0])), (q_4, .inl (cI, 24, .inl (fun _ => 0))), (q_5, .inr (4, [.ref q_6, .ref q_7, .ref q_13])), (q_6, .inr (1, [.int 0, .int 0, .int 0])), (q_7, .inr (0, [.int (-1), .int 0, .int 0, .ref q_8, .ref q_9, .ref q_10, .ref q_11, .ref q_12])), (q_28, .inr (7, [.int 0, .int 0, .int 0, .int (-1), .int (-1), .int 0, .int 0, .ref q_30, .ref q_31, .ref q_32, .ref q_33, .ref q_34, .int 0, .ref q_35, .int 0, .int 0, .ref q_36, .ref q_37, .ref q_38, .long 0, .int 0, .int 0, .int 0, .int 0, .int 0, .int 0, .ref q_39, .ref q_40, .ref q_41, .ref q_42, .long 0])), (q_35, .inl (cB, 24, .inl (fun _ => 0)))]) [0, 1, 2, 3, 4, 5, 24, 30] rfl
    have hD := hD.sub (ws' := [(q_1, .inr (6, [.ref q_3, .ref q_5, .ref q_6, .ref q_7, .ref q_18, .ref q_24, .int 0])), (q_3, .inr (2, [.ref q_4, .int 0])), (q_4, .inl (cI, 24, .inl (fun _ => 0))), (q_5, .inr (4, [.ref q_6, .ref q_7, .ref q_13])), (q_6, .inr (1, [.int 0, .int 0, .int 0])), (q_7, .inr (0, [.int (-1), .int 0, .int 0, .ref q_8, .ref q_9, .ref q_10, .ref q_11, .ref q_12])), (q_28, .inr (7, [.int 0, .int 0, .int 0, .int (-1), .int (-1), .int 0, .int 0, .ref q_30, .ref q_31, .ref q_32, .ref q_33, .ref q_34, .int 0, .ref q_35, .int 0, .int 0, .ref q_36, .ref q_37, .ref q_38, .long 0, .int 0, .int 0, .int 0, .int 0, .int 0, .int 0, .ref q_39, .ref q_40, .ref q_41, .ref q_42, .long 0])), (q_35, .inl (cB, 24, .inl (fun _ => 0)))]) [0, 1, 2, 3, 4, 5, 24, 30] (by decide) rfl
    exact law_switch hx hb hr hml hown hts hX hbl hbA hA hAr hlocks hN q_1 q_3 q_5 q_6 q_7 q_18 q_24 q_4 q_13 q_8 q_9 q_10 q_11 q_12 q_28 q_30 q_31 q_32 q_33 q_34 q_35 q_36 q_37 q_38 q_39 q_40 q_41 q_42 H locs ls hP hD hS (lv_sub hl [3, 2, 1, 0] rfl)

set_option maxHeartbeats 4000000 in
theorem lw_walk (l : Launch) (b : Addr) (xs : List Int32) : MetFree l x (headSpec (Jvm.Cond.code x code maxLocals ret :: tables_1) room_1) (lw_P b xs) (fun _ _ _ _ _ => True) lw_Q := by
  refine MetFree.of_bodyS (code := code) (maxLocals := maxLocals) (ret := ret) (by decide) ?_ ?_
  · intro args s m h hn
    obtain ⟨meth, c, h1, h2, h3, h4, h5, h6, -, -⟩ := Cond.code_spec hn (atoms_spec (ws := Jvm.Cond.code x code maxLocals ret :: tables_1) h _ List.mem_cons_self)
    exact ⟨meth, c, h1, h2, h3, h4, h5, h6⟩
  · intro p e s m args below meth c s₁ B hml0 hP _
    obtain ⟨rfl, hx, hbd, hgv⟩ := hP
    obtain ⟨scr, harrAt, hlist, hof, hsmall⟩ := hx
    obtain ⟨hcb, hkn, -, -⟩ := State.arrayAt?_spec harrAt
    have hown : s.vm.findClass R_law = some m.cls := findClass_of_methodNamed B.named
    have hts0 : ∀ c ∈ (Jvm.Cond.code x code maxLocals ret :: tables_1), c.before #[Value.ref b] s = true := atoms_spec (ws := Jvm.Cond.code x code maxLocals ret :: tables_1) B.pre
    have hts : ∀ w ∈ lw_tbl, w.before #[Value.ref b] s = true := k2_hts_sels lw_privs (fun w hw => hts0 w (List.mem_cons_of_mem _ hw)) lw_privs_ok
    have hml : c.maxLocals = 4 := B.maxLocals_eq (hts0 _ List.mem_cons_self)
    have X₀ : Stand p l e room_1 s m #[Value.ref b] below meth c s₁ [] 0 0 := Stand.of_body B
    have hh0 : s₁.heap = s.heap := by rw [B.state]; rfl
    have hsz : scr.slots.size = xs.length := by rw [← Array.length_toList, hlist, List.length_map]
    have hval : ∀ j : Nat, j < xs.length → scr.slots[j]? = some (.int (xs.getD j 0)) := fun j hj => by
      rw [← Array.getElem?_toList, hlist]
      simp [hj]
    have hbl : b < s.heap.size := (Array.getElem?_eq_some_iff.mp hcb).1
    have hX : va_X b xs.length (fun j => xs.getD j 0) s s.heap := ⟨scr, hcb, hof, hkn, hsz, hval⟩
    have K : W p l e room_1 s m #[Value.ref b] below meth c s₁.heap [] 0 0 (lw_Z below #[Value.ref b] s) (entryFrame m ([Value.ref b] : List Value).toArray 4) := by
      rw [hh0]
      exact whole_start l hbd ⟨B.exec, B.bytes, B.returns, hml, hown, hts, hX, hbl, B.notSynchronized, hgv⟩
    obtain ⟨t, a1, o, b1, b2, b3⟩ := K s₁ rfl X₀
    exact ⟨t, o, a1, b1, b2, b3⟩
theorem lw_pre_spec {args : Array Value} {s : State} (h : (Jvm.Cond.and given_1 narrow_1).before args s = true) (hr : rest_1_c.before args s = true) : ∃ (b : Addr) (xs : List Int32), lw_P b xs args s := by
  have hs := flat_of_before _ h
  have hq := flat_of_before _ hr
  have hc : (Cond.count 1).before args s = true := hs _ (by decide +kernel)
  have harr : (Cond.arrayOf (.arg 0) .int).before args s = true := hs _ (by decide +kernel)
  have hle : (Cond.le (.length (.arg 0)) (.int 4)).before args s = true := hs _ (by decide +kernel)
  have hlen : (Cond.isInt (.length (.arg 0))).before args s = true := hq _ (by decide +kernel)
  have hall : (Cond.all (.arg 0) (.isInt (.elem (.arg 0) (.index 0)))).before args s = true := hq _ (by decide +kernel)
  obtain ⟨b, xs, hb, hx⟩ := State.ints_of_pre rfl harr hlen hall
  have hsm : xs.length < 2 ^ 31 := hx.choose_spec.2.2.2
  have hev : (Term.length (.arg 0)).eval args s none [] s = some (.int xs.length.toInt32) := hx.length_eval hb
  have hv := Cond.le_ints hev (show (Term.int 4).eval args s none [] s = some (.int 4) from rfl)
  have hd : xs.length.toInt32 ≤ 4 := by
    simpa [Cond.before, Cond.holds, hv] using hle
  have hN : xs.length ≤ 4 := (Int32.ofNat_le_ofNat hsm (by decide)).mp (show Int32.ofNat xs.length ≤ Int32.ofNat 4 from hd)
  exact ⟨b, xs, Cond.one_arg hc (show args[0]? = some (.ref b) from hb), hx, hN, h⟩
theorem lw_comes (l : Launch) : Comes l x (Jvm.Cond.code x code maxLocals ret :: tables_1) room_1 (fun tb e args s => Calls_1 tb e args s ∧ rest_1 tb e args s ∧ Pre_1 tb e args s)
    (fun _ _ args s o t => lw_Q args s o t) := by
  intro p e ha hc hk s m args below hf hfit hheap happ hpre
  obtain ⟨b, xs, hP⟩ := lw_pre_spec hpre.2.2 hpre.2.1
  obtain ⟨k, o, h1, h2, h3, hQ⟩ := lw_walk l b xs p e ha hc hk s m args below hf ((Spec.applies_iff_loose hf).mp happ).1 hP trivial
  exact ⟨k, o, h1, h2, h3, hQ⟩
theorem lw_frame {s t : State} {o : Outcome} {args : Array Value} (h : Framed s o t [] 38 1433) :
    Framed s o t (fieldLocs frame_1_writes args s ++ arrayLocs frame_1_arrays args s ++ staticLocs frame_1_statics s) 38 1433 := h
theorem lw_limb (L : Cond) (hL : ∀ (args : Array Value) (s t : State), L.after args s (.returned (some (.int 1))) t = true) :
    ArmFor flags0 classFile x code maxLocals ret World_1 tables_1 room_1 Calls_1 rest_1 Pre_1
      (fun tb e a s o t => postC L tb e a s o t ∧ Framed s o t (fieldLocs frame_1_writes a s ++ arrayLocs frame_1_arrays a s ++ staticLocs frame_1_statics s) 38 1433) := by
  intro l _ _ _ p e ha hc hk s m args below hf hfit hheap happ hpre
  obtain ⟨k, o, h1, h2, h3, rfl, hF⟩ := lw_comes l p e ha hc hk s m args below hf hfit hheap happ hpre
  exact ⟨k, _, h1, h2, h3, hL args s _, lw_frame hF⟩
theorem i_vc : Claimed_1_1 ∧ Claimed_1_2 := ⟨lw_limb limb_1_1 (fun args s t => by simp [limb_1_1, Cond.after, Cond.holds, Cond.value]), lw_limb limb_1_2 (fun args s t => Cond.after_iff.mpr (by
  first | (rw [show limb_1_2 = Cond.eq .result (.int 1) from rfl, Cond.eq_ints (x := 1) (y := 1) rfl rfl]; simp; done) | (simp [limb_1_2, Cond.value, Term.eval]; done)))⟩

