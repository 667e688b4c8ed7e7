set_option maxHeartbeats 4000000 in
set_option maxRecDepth 100000 in
theorem law_case8 {p : Program} {l : Launch} {e : Env} {s : State} {m : MethodId} {below : List Frame} {meth : Method} {c : Code} {dC : Nat → ClassId} {dI : Nat → Nat → Nat} {cI cB : ClassId} {tR tC : Nat} {A : Nat → Prop} {b L : Nat} {xs : Nat → Int32} (hx : p.tables.exec = Jvm.exec) (hb : c.code = cL_law) (hr : meth.sig.returnType = ret) (hml : c.maxLocals = 4) (hown : s.vm.findClass RL = some m.cls) (hts : ∀ w ∈ wsL_law, w.before #[Value.ref b] s = true) (hL : L ≤ 256) (hX : va_X b L xs s s.heap) (hbl : b < s.heap.size) (hbA : ¬ A b) (hA : ∀ q : Nat, s.heap.size ≤ q → A q) (hAr : ∀ q : Nat, A q → s.heap.size ≤ q) (hlocks : meth.locks = false) (hN : cz_N dC dI cI cB s) (hSt : cz_St tR tC A s s.heap) (h0 : Nat) (hp : Nat) (cd : Nat) (hs : Nat) (hh : Nat) (hc : Nat) (k1 : Nat) (k2 : Nat) (k3 : Nat) (k4 : Nat) (k5 : Nat) (si : Nat) (tw : Nat) (tb : Nat) (kp : Nat) (j1 : Nat) (j2 : Nat) (j3 : Nat) (j4 : Nat) (j5 : Nat) (rt : Nat) (q1 : Nat) (q2 : Nat) (q3 : Nat) (mo : Nat) (m1 : Nat) (m2 : Nat) (m3 : Nat) (m4 : Nat) (m5 : Nat) (pg : Nat) (m6 : Nat) (m7 : Nat) (m8 : Nat) (m9 : Nat) (m10 : Nat) (m11 : Nat) (m12 : Nat) (i0 : Nat) (hi4 : i0 + 4 ≤ L) (hK0 : cz_KT p l e s m below meth c dC dI cI cB A b h0 hp cd hs hh hc k1 k2 k3 k4 k5 si tw tb kp j1 j2 j3 j4 j5 rt q1 q2 q3 mo m1 m2 m3 m4 m5 pg m6 m7 m8 m9 m10 m11 m12 i0) (rq : Nat) (n0 : Nat) (f0 : Nat → Int32) (w0 : Int32) (w1 : Int32) (hq : Nat) (a0 : Int32) (a1 : Int32) (k0 : Nat) (g1 : Nat → Int32) (g2 : Nat → Int32) (g3 : Nat → Int32) (g4 : Nat → Int32) (g5 : Nat → Int32) (b0 : Int32) (b1 : Int32) (k9 : Nat) (e1 : Nat → Int32) (e2 : Nat → Int32) (e3 : Nat → Int32) (e4 : Nat → Int32) (e5 : Nat → Int32) (u0 : Nat) (v1 : Nat → Int32) (v2 : Nat → Int32) (v3 : Nat → Int32) (ih : Int32) (fl : Int32) (da : Int32) (ds : Int32) (ac : Int32) (fa : Int32) (nf : Int32) (sd : Int64) (ik : Int32) (ka : Int32) (ks : Int32) (kac : Int32) (hv : Int64) (mg1 : Nat → Int32) (f1 : Nat → Int32) (mg6 : Nat → Int32) (mg7 : Nat → Int32) (mg8 : Nat → Int32) (H : Heap) (locs : List Loc) (ls : Array Slot) (hn24 : n0 ≤ 24) (hk6 : k0 ≤ 6) (hk9 : k9 ≤ 6) (hu80 : u0 ≤ 80) (hpl : cz_pl g2) (hkpl : cz_pl e2) (hdu : cz_du da ds) (hkdu : cz_du ka ks) (heq : cz_eqp f0 f1 n0) (hrd : hq ≤ i0) (hinv : cz_inv hq rq k0 k9 ih ik w0 fl a0 da ds b0 ka ks g1 mg1 g2 e1 e2) (hP : va_P (dC, dI) vwCl (cz_LW cI cB h0 hp cd hs hh hc k1 k2 k3 k4 k5 si tw tb kp j1 j2 j3 j4 j5 rt q1 q2 q3 mo m1 m2 m3 m4 m5 pg m6 m7 m8 m9 m10 m11 m12 rq n0 f0 w0 w1 hq a0 a1 k0 g1 g2 g3 g4 g5 b0 b1 k9 e1 e2 e3 e4 e5 u0 v1 v2 v3 ih fl da ds ac fa nf sd ik ka ks kac hv mg1 f1 mg6 mg7 mg8) H) (hD : va_D A (cz_LW cI cB h0 hp cd hs hh hc k1 k2 k3 k4 k5 si tw tb kp j1 j2 j3 j4 j5 rt q1 q2 q3 mo m1 m2 m3 m4 m5 pg m6 m7 m8 m9 m10 m11 m12 rq n0 f0 w0 w1 hq a0 a1 k0 g1 g2 g3 g4 g5 b0 b1 k9 e1 e2 e3 e4 e5 u0 v1 v2 v3 ih fl da ds ac fa nf sd ik ka ks kac hv mg1 f1 mg6 mg7 mg8)) (hS : va_S A s.heap H locs) (hl : lv_has ls 4 [(0, .ref b), (1, .ref h0), (2, .ref mo), (3, .int (nI i0))]) : W p l e room_1 s m #[Value.ref b] below meth c H locs 38 1433 (lw_Z below #[Value.ref b] s) (F0 m 320 ls []) := by
  unfold cz_LW at hP hD
  have hK := hN.1
  refine lv_aload_n hx hb dL_law_320 rfl (lv_at hl 1 rfl) ?_
  refine lv_aload_n hx hb dL_law_321 rfl (lv_at hl 0 rfl) ?_
  refine lv_iload_n hx hb dL_law_322 rfl (lv_at hl 3 rfl) ?_
  refine lv_iconst (v := 1) hx hb dL_law_323 (by decide) ?_
  refine lv_iadd hx hb dL_law_324 ?_
  refine cz_i (y := (nI (i0 + 1))) (nI_add i0 1) ?_
  refine va_sld hx hb hX hbl hbA hS (vp_in_nI (n := (i0 + 1)) (by omega) (by omega)) dL_law_325 ?_
  refine cz_i (y := xs (i0 + 1)) (congrArg xs (nI_clamp (n := (i0 + 1)) (by omega))) ?_
  refine lv_aload_n hx hb dL_law_326 rfl (lv_at hl 0 rfl) ?_
  refine lv_iload_n hx hb dL_law_327 rfl (lv_at hl 3 rfl) ?_
  refine lv_iconst (v := 2) hx hb dL_law_328 (by decide) ?_
  refine lv_iadd hx hb dL_law_329 ?_
  refine cz_i (y := (nI (i0 + 2))) (nI_add i0 2) ?_
  refine va_sld hx hb hX hbl hbA hS (vp_in_nI (n := (i0 + 2)) (by omega) (by omega)) dL_law_330 ?_
  refine cz_i (y := xs (i0 + 2)) (congrArg xs (nI_clamp (n := (i0 + 2)) (by omega))) ?_
  refine vp_callSi (cz_run (va_runV (As := [.int (xs (i0 + 1)), .int (xs (i0 + 2))]) (rest := []) ⟨hx, hb, hml, hown, hts⟩ (c_X6_as l dC dI cI cB h0 (xs (i0 + 1)) (xs (i0 + 2)) hp hs hh hc kp rt (nI rq) a0 a1 k0 k1 k2 k3 k4 k5 g1 hk6) (cwV 2 hts gL_law_X6_as rfl rfl rfl (by decide +kernel) ⟨Nat.le_of_ble_eq_true rfl, Nat.le_of_ble_eq_true rfl⟩) (cz_pV (hP.sub (ws' := [(h0, .inr (6, [.ref hp, .ref hs, .ref hh, .ref hc, .ref kp, .ref rt, .int (nI rq)])), (hc, .inr (0, [.int a0, .int a1, .int (nI k0), .ref k1, .ref k2, .ref k3, .ref k4, .ref k5])), (k1, .inl (cI, 6, .inl g1))]) [0, 5, 6] rfl) hN (va_recv hK (hP.sub (ws' := [(h0, .inr (6, [.ref hp, .ref hs, .ref hh, .ref hc, .ref kp, .ref rt, .int (nI rq)])), (hc, .inr (0, [.int a0, .int a1, .int (nI k0), .ref k1, .ref k2, .ref k3, .ref k4, .ref k5])), (k1, .inl (cI, 6, .inl g1))]) [0, 5, 6] rfl) (ci := 6) (q0 := 0) rfl rfl)) rfl rfl hl.1 rfl (lv_room (Nat.le_of_ble_eq_true rfl)) dL_law_331 ⟨Nat.le_of_ble_eq_true rfl, Nat.le_of_ble_eq_true rfl⟩)) (fun r_1 hr_1 => ?_)
  refine lv_pop hx hb dL_law_334 rfl ?_
  refine lv_aload_n hx hb dL_law_335 rfl (lv_at hl 2 rfl) ?_
  refine lv_aload_n hx hb dL_law_336 rfl (lv_at hl 0 rfl) ?_
  refine lv_iload_n hx hb dL_law_337 rfl (lv_at hl 3 rfl) ?_
  refine lv_iconst (v := 1) hx hb dL_law_338 (by decide) ?_
  refine lv_iadd hx hb dL_law_339 ?_
  refine cz_i (y := (nI (i0 + 1))) (nI_add i0 1) ?_
  refine va_sld hx hb hX hbl hbA hS (vp_in_nI (n := (i0 + 1)) (by omega) (by omega)) dL_law_340 ?_
  refine cz_i (y := xs (i0 + 1)) (congrArg xs (nI_clamp (n := (i0 + 1)) (by omega))) ?_
  refine lv_aload_n hx hb dL_law_341 rfl (lv_at hl 0 rfl) ?_
  refine lv_iload_n hx hb dL_law_342 rfl (lv_at hl 3 rfl) ?_
  refine lv_iconst (v := 2) hx hb dL_law_343 (by decide) ?_
  refine lv_iadd hx hb dL_law_344 ?_
  refine cz_i (y := (nI (i0 + 2))) (nI_add i0 2) ?_
  refine va_sld hx hb hX hbl hbA hS (vp_in_nI (n := (i0 + 2)) (by omega) (by omega)) dL_law_345 ?_
  refine cz_i (y := xs (i0 + 2)) (congrArg xs (nI_clamp (n := (i0 + 2)) (by omega))) ?_
  refine vp_callSi (cz_run (va_runV (As := [.int (xs (i0 + 1)), .int (xs (i0 + 2))]) (rest := []) ⟨hx, hb, hml, hown, hts⟩ (c_X7_as l dC dI cI cB mo (xs (i0 + 1)) (xs (i0 + 2)) ih (nI hq) fl da ds ac k0 m1 m2 m3 m4 m5 n0 pg fa nf m6 m7 m8 sd ik (nI rq) k9 ka ks kac m9 m10 m11 m12 hv mg1 hk6) (cwV 2 hts gL_law_X7_as rfl rfl rfl (by decide +kernel) ⟨Nat.le_of_ble_eq_true rfl, Nat.le_of_ble_eq_true rfl⟩) (cz_pV (hP.sub (ws' := [(mo, .inr (7, [.int ih, .int (nI hq), .int fl, .int da, .int ds, .int ac, .int (nI k0), .ref m1, .ref m2, .ref m3, .ref m4, .ref m5, .int (nI n0), .ref pg, .int fa, .int nf, .ref m6, .ref m7, .ref m8, .long sd, .int ik, .int (nI rq), .int (nI k9), .int ka, .int ks, .int kac, .ref m9, .ref m10, .ref m11, .ref m12, .long hv])), (m1, .inl (cI, 6, .inl mg1))]) [24, 25] rfl) hN (va_recv hK (hP.sub (ws' := [(mo, .inr (7, [.int ih, .int (nI hq), .int fl, .int da, .int ds, .int ac, .int (nI k0), .ref m1, .ref m2, .ref m3, .ref m4, .ref m5, .int (nI n0), .ref pg, .int fa, .int nf, .ref m6, .ref m7, .ref m8, .long sd, .int ik, .int (nI rq), .int (nI k9), .int ka, .int ks, .int kac, .ref m9, .ref m10, .ref m11, .ref m12, .long hv])), (m1, .inl (cI, 6, .inl mg1))]) [24, 25] rfl) (ci := 7) (q0 := 0) rfl rfl)) rfl rfl hl.1 rfl (lv_room (Nat.le_of_ble_eq_true rfl)) dL_law_346 ⟨Nat.le_of_ble_eq_true rfl, Nat.le_of_ble_eq_true rfl⟩)) (fun r_2 hr_2 => ?_)
  refine lv_pop hx hb dL_law_349 rfl ?_
  refine lv_goto (tgt := 672) hx hb dL_law_350 (by decide) ?_
  exact hK0 rq n0 f0 w0 w1 hq a0 a1 k0 g1 g2 g3 g4 g5 b0 b1 k9 e1 e2 e3 e4 e5 u0 v1 v2 v3 ih fl da ds ac fa nf sd ik ka ks kac hv mg1 f1 mg6 mg7 mg8 H locs ls hn24 hk6 hk9 hu80 hpl hkpl hdu hkdu heq (ci_b4 hrd) hinv hP hD hS (lv_sub hl [0, 1, 2, 3] rfl)
