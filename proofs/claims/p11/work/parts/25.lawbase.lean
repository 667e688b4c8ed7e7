/-! THE CLAIM OUT OF ONE WALK OF THE LAW'S BODY. Your part is whole_start (and what it stands on); all else here is the same for every law, but numbers. -/
def R_law : String := "LeftProfileLaw"
def lw_P (b : Addr) (xs : List Int32) (args : Array Value) (s : State) : Prop := args = #[.ref b] ∧ s.IntsAt b xs ∧ xs.length ≤ 256 ∧ (Jvm.Cond.and given_1 narrow_1).before args s = true
def lw_Q (_ : Array Value) (s : State) (o : Outcome) (t : State) : Prop := o = .returned (some (.int 1)) ∧ Framed s o t [] 38 1433
def lw_Z (below : List Frame) (a : Array Value) (s : State) : State → Prop := fun t => ∃ o, t.status = .running ∧ Ended t below o ∧ lw_Q a s o t
/-- the law's own end, with 1 on the stack, nothing written that was there before, its room as the claim has it -/
theorem lw_ret {p : Program} {l : Launch} {e : Env} {s : State} {m : MethodId} {below : List Frame} {meth : Method} {c : Code} {b : Nat} (hx : p.tables.exec = Jvm.exec) (hb : c.code = code) (hr : meth.sig.returnType = ret) (hlocks : meth.locks = false) {pc : Nat} {H : Heap} {ls : Array Slot} (hdg : decode code pc = .ok (.ireturn, 1)) : W p l e room_1 s m #[Value.ref b] below meth c H [] 38 1433 (lw_Z below #[Value.ref b] s) (F0 m pc ls [.int 1]) := by
  intro T hT X
  obtain ⟨fs, hret, hrun, hended, hW, hframe⟩ := X.leave (v := some (.int 1)) (hlocks := hlocks) (fun h => by rw [hr] at h; cases h)
  have hmeth' : T.vm.method? m = some meth := X.method'
  refine ⟨T.setFrames fs, ?_, .returned (some (.int 1)), hrun, hended, rfl, ⟨_, rfl⟩, hW, hframe⟩
  jvm_step X.here [X.here.top, hx, hb, hdg, hmeth', hr, ret, narrow_b1]
  (try refine ⟨rfl, ?_⟩); (try refine ⟨rfl, ?_⟩)
  first | (intro acts; rw [hret _ acts rfl rfl rfl]) | rw [hret _ _ rfl rfl rfl]
  exact Steps.refl _
/-- what holds at the law's entry: the machine, the code, the tables' words (any of lw_tbl by 'hts w (by decide +kernel)'), the script of L ints xs at the cell b, what the Statement gives of the start (any of its parts by flat_of_before) -/
def lw_At (p : Program) (s : State) (m : MethodId) (meth : Method) (c : Code) (b L : Nat) (xs : Nat → Int32) : Prop :=
  p.tables.exec = Jvm.exec ∧ c.code = code ∧ meth.sig.returnType = ret ∧ c.maxLocals = 4 ∧ s.vm.findClass R_law = some m.cls ∧ (∀ w ∈ lw_tbl, w.before #[Value.ref b] s = true) ∧ va_X b L xs s s.heap ∧ b < s.heap.size ∧ meth.locks = false ∧ (Jvm.Cond.and given_1 narrow_1).before #[Value.ref b] s = true

theorem cz_eqp0 {f g : Nat → Int32} : cz_eqp f g 0 := fun _ h => absurd h (Nat.not_lt_zero _)
theorem cz_eqp_le {f g : Nat → Int32} {n k : Nat} (h : cz_eqp f g n) (hk : k ≤ n) : cz_eqp f g k := fun j hj => h j (by omega)
theorem cz_byte {v : Int32} (h : cz_in 32 v 126) : vp_nar .byte v.toInt8.toInt32 = v := by
  obtain ⟨j, hj, e⟩ := nI_of2 (x := v) (M := 126) (n := 126) (by decide) (by have := h.1; simp only [cz_lt, cz_le, cz_l] at *; omega) h.2
  have hall : ∀ k, k < 127 → vp_nar .byte (nI k).toInt8.toInt32 = nI k := by decide +kernel
  rw [e]; exact hall j (by omega)
theorem cz_eqp_let {f g : Nat → Int32} {n : Nat} {v : Int32} (h : cz_eqp f g n) : cz_eqp (cz_lf n f v) (cz_mf n g v) (cz_ln n v) := by
  unfold cz_lf cz_mf cz_ln
  split
  · rename_i hv
    unfold cz_af cz_an
    split
    · exact h
    · intro k hk
      by_cases e : k = n
      · subst e; rw [pk_us, pk_us, cz_byte hv]
      · rw [pk_un e, pk_un e]; exact h k (by omega)
  · exact h
theorem cz_ln_le {n : Nat} {v : Int32} (h : n ≤ 24) : cz_ln n v ≤ 24 := by
  unfold cz_ln cz_an
  repeat' split
  all_goals omega
theorem cz_fit_eq {f g : Nat → Int32} {n k : Nat} (h : cz_eqp f g n) (hk : k < n) : cz_fit f k ↔ cz_fit g k := by
  unfold cz_fit
  rw [h k hk]
theorem cz_fits_eq {f g : Nat → Int32} {n k : Nat} (h : cz_eqp f g n) (hk : k ≤ n) (hf : cz_fits f k) : cz_fits g k := fun j hj => (cz_fit_eq h (by omega)).mp (hf j hj)
theorem cz_eqp.symm {f g : Nat → Int32} {n : Nat} (h : cz_eqp f g n) : cz_eqp g f n := fun k hk => (h k hk).symm
theorem cz_hall_eq {f g : Nat → Int32} {n a b : Nat} (h : cz_eqp f g n) (ha : (a = n ∧ ¬ (n = 23 ∧ cz_fits f 23)) ∨ (a = 0 ∧ (n = 23 ∧ cz_fits f 23))) (hb : (b = n ∧ ¬ (n = 23 ∧ cz_fits g 23)) ∨ (b = 0 ∧ (n = 23 ∧ cz_fits g 23))) : a = b ∧ a ≤ n := by
  rcases ha with ⟨a1, a2⟩ | ⟨a1, a2⟩
  · rcases hb with ⟨b1, b2⟩ | ⟨b1, b2⟩
    · exact ⟨a1.trans b1.symm, Nat.le_of_eq a1⟩
    · exact absurd ⟨b2.1, cz_fits_eq h.symm (by omega) b2.2⟩ a2
  · rcases hb with ⟨b1, b2⟩ | ⟨b1, b2⟩
    · exact absurd ⟨a2.1, cz_fits_eq h (by omega) a2.2⟩ b2
    · exact ⟨a1.trans b1.symm, by omega⟩
theorem cz_ff_uniq {f g : Nat → Int32} {n a b : Nat} (h : cz_eqp f g n) (ha : a ≤ n) (fa : cz_fits f a) (na : a = n ∨ ¬ cz_fit f a) (hb : b ≤ n) (fb : cz_fits g b) (nb : b = n ∨ ¬ cz_fit g b) : a = b := by
  rcases Nat.lt_trichotomy a b with q | q | q
  · rcases na with e | e
    · omega
    · exact absurd ((cz_fit_eq h (by omega)).mpr (fb a q)) e
  · exact q
  · rcases nb with e | e
    · omega
    · exact absurd ((cz_fit_eq h (by omega)).mp (fa b q)) e
theorem cz_hall_ans {f g : Nat → Int32} {n : Nat} {r q : Int32} (h : cz_eqp f g n) (hr : ((n = 23 ∧ cz_fits f 23) ∧ r = 20 - cz_bc (cz_wl f 20)) ∨ (¬ (n = 23 ∧ cz_fits f 23) ∧ r = -103)) (hq : ((n = 23 ∧ cz_fits g 23) ∧ q = cz_sz (cz_fw g 23) 20) ∨ (¬ (n = 23 ∧ cz_fits g 23) ∧ q = -103)) : r = q := by
  rcases hr with ⟨a, b⟩ | ⟨a, b⟩
  · rcases hq with ⟨c, d⟩ | ⟨c, d⟩
    · rw [b, d]; exact cs_hall a.2 c.2 (fun k hk => h k (by omega))
    · exact absurd ⟨a.1, cz_fits_eq h (by omega) a.2⟩ c
  · rcases hq with ⟨c, d⟩ | ⟨c, d⟩
    · exact absurd ⟨c.1, cz_fits_eq h.symm (by omega) c.2⟩ a
    · rw [b, d]
theorem cz_len {L i : Nat} (hL : L ≤ 256) (hi : i ≤ 260) : nI L - 4 < nI i ↔ L < i + 4 := by
  have e1 : (nI L - 4).toInt = (L : Int) - 4 := pk_sub_toInt (a := L) (b := 4) (by omega) (by omega)
  have e2 : (nI i).toInt = (i : Int) := nI_toInt (by omega)
  rw [cz_lt, e1, e2]
  omega
theorem cz_arr {args : Array Value} {s : State} {ty : FieldType} (h : (Cond.arrayClass ty).before args s = true) : ∃ cA : ClassId, ArrOfT s cA ty ∧ s.vm.findClass ("[" ++ ty.toString) = some cA := by
  obtain ⟨c, k, comp, h1, h2, h3⟩ := Cond.arrayClass_spec h
  exact ⟨c, fun n z => ⟨fun k h => (by cases h), k, h2, comp, h3⟩, h1⟩

set_option maxRecDepth 100000 in
def cz_LW (cI cB : ClassId) (h0 : Nat) (hp : Nat) (cd : Nat) (hs : Nat) (hh : Nat) (hc : Nat) (k1 : Nat) (k2 : Nat) (k3 : Nat) (k4 : Nat) (k5 : Nat) (si : Nat) (tw : Nat) (tb : Nat) (kp : Nat) (j1 : Nat) (j2 : Nat) (j3 : Nat) (j4 : Nat) (j5 : Nat) (rt : Nat) (q1 : Nat) (q2 : Nat) (q3 : Nat) (mo : Nat) (m1 : Nat) (m2 : Nat) (m3 : Nat) (m4 : Nat) (m5 : Nat) (pg : Nat) (m6 : Nat) (m7 : Nat) (m8 : Nat) (m9 : Nat) (m10 : Nat) (m11 : Nat) (m12 : Nat) (rq : Nat) (n0 : Nat) (f0 : Nat → Int32) (w0 : Int32) (w1 : Int32) (hq : Nat) (a0 : Int32) (a1 : Int32) (k0 : Nat) (g1 : Nat → Int32) (g2 : Nat → Int32) (g3 : Nat → Int32) (g4 : Nat → Int32) (g5 : Nat → Int32) (b0 : Int32) (b1 : Int32) (k9 : Nat) (e1 : Nat → Int32) (e2 : Nat → Int32) (e3 : Nat → Int32) (e4 : Nat → Int32) (e5 : Nat → Int32) (u0 : Nat) (v1 : Nat → Int32) (v2 : Nat → Int32) (v3 : Nat → Int32) (ih : Int32) (fl : Int32) (da : Int32) (ds : Int32) (ac : Int32) (fa : Int32) (nf : Int32) (sd : Int64) (ik : Int32) (ka : Int32) (ks : Int32) (kac : Int32) (hv : Int64) (mg1 : Nat → Int32) (f1 : Nat → Int32) (mg6 : Nat → Int32) (mg7 : Nat → Int32) (mg8 : Nat → Int32) : va_W := [(h0, .inr (6, [.ref hp, .ref hs, .ref hh, .ref hc, .ref kp, .ref rt, .int (nI rq)])), (hp, .inr (2, [.ref cd, .int (nI n0)])), (cd, .inl (cI, 24, .inl f0)), (hs, .inr (4, [.ref hh, .ref hc, .ref si])), (hh, .inr (1, [.int w0, .int w1, .int (nI hq)])), (hc, .inr (0, [.int a0, .int a1, .int (nI k0), .ref k1, .ref k2, .ref k3, .ref k4, .ref k5])), (k1, .inl (cI, 6, .inl g1)), (k2, .inl (cI, 6, .inl g2)), (k3, .inl (cI, 6, .inl g3)), (k4, .inl (cI, 6, .inl g4)), (k5, .inl (cI, 6, .inl g5)), (si, .inr (5, [.ref tw, .ref tb])), (tw, .inl (cI, 400, .inl cr_TW)), (tb, .inl (cI, 400, .inl cr_TB)), (kp, .inr (0, [.int b0, .int b1, .int (nI k9), .ref j1, .ref j2, .ref j3, .ref j4, .ref j5])), (j1, .inl (cI, 6, .inl e1)), (j2, .inl (cI, 6, .inl e2)), (j3, .inl (cI, 6, .inl e3)), (j4, .inl (cI, 6, .inl e4)), (j5, .inl (cI, 6, .inl e5)), (rt, .inr (3, [.ref q1, .ref q2, .ref q3, .int (nI u0)])), (q1, .inl (cI, 80, .inl v1)), (q2, .inl (cI, 80, .inl v2)), (q3, .inl (cI, 80, .inl v3)), (mo, .inr (7, [.int ih, .int (nI hq), .int fl, .int da, .int ds, .int ac, .int (nI k0), .ref m1, .ref m2, .ref m3, .ref m4, .ref m5, .int (nI n0), .ref pg, .int fa, .int nf, .ref m6, .ref m7, .ref m8, .long sd, .int ik, .int (nI rq), .int (nI k9), .int ka, .int ks, .int kac, .ref m9, .ref m10, .ref m11, .ref m12, .long hv])), (m1, .inl (cI, 6, .inl mg1)), (m2, .inl (cI, 6, .inl g2)), (m3, .inl (cI, 6, .inl g3)), (m4, .inl (cI, 6, .inl g4)), (m5, .inl (cI, 6, .inl g5)), (pg, .inl (cB, 24, .inl f1)), (m6, .inl (cI, 3, .inl mg6)), (m7, .inl (cI, 80, .inl mg7)), (m8, .inl (cI, 80, .inl mg8)), (m9, .inl (cI, 6, .inl e2)), (m10, .inl (cI, 6, .inl e3)), (m11, .inl (cI, 6, .inl e4)), (m12, .inl (cI, 6, .inl e5))]
def cz_KT (p : Program) (l : Launch) (e : Env) (s : State) (m : MethodId) (below : List Frame) (meth : Method) (c : Code) (dC : Nat → ClassId) (dI : Nat → Nat → Nat) (cI cB : ClassId) (A : Nat → Prop) (b : Nat) (h0 : Nat) (hp : Nat) (cd : Nat) (hs : Nat) (hh : Nat) (hc : Nat) (k1 : Nat) (k2 : Nat) (k3 : Nat) (k4 : Nat) (k5 : Nat) (si : Nat) (tw : Nat) (tb : Nat) (kp : Nat) (j1 : Nat) (j2 : Nat) (j3 : Nat) (j4 : Nat) (j5 : Nat) (rt : Nat) (q1 : Nat) (q2 : Nat) (q3 : Nat) (mo : Nat) (m1 : Nat) (m2 : Nat) (m3 : Nat) (m4 : Nat) (m5 : Nat) (pg : Nat) (m6 : Nat) (m7 : Nat) (m8 : Nat) (m9 : Nat) (m10 : Nat) (m11 : Nat) (m12 : Nat) (i0 : Nat) : Prop := ∀ (rq : Nat) (n0 : Nat) (f0 : Nat → Int32) (w0 : Int32) (w1 : Int32) (hq : Nat) (a0 : Int32) (a1 : Int32) (k0 : Nat) (g1 : Nat → Int32) (g2 : Nat → Int32) (g3 : Nat → Int32) (g4 : Nat → Int32) (g5 : Nat → Int32) (b0 : Int32) (b1 : Int32) (k9 : Nat) (e1 : Nat → Int32) (e2 : Nat → Int32) (e3 : Nat → Int32) (e4 : Nat → Int32) (e5 : Nat → Int32) (u0 : Nat) (v1 : Nat → Int32) (v2 : Nat → Int32) (v3 : Nat → Int32) (ih : Int32) (fl : Int32) (da : Int32) (ds : Int32) (ac : Int32) (fa : Int32) (nf : Int32) (sd : Int64) (ik : Int32) (ka : Int32) (ks : Int32) (kac : Int32) (hv : Int64) (mg1 : Nat → Int32) (f1 : Nat → Int32) (mg6 : Nat → Int32) (mg7 : Nat → Int32) (mg8 : Nat → Int32) (H : Heap) (locs : List Loc) (ls : Array Slot), n0 ≤ 24 → k0 ≤ 6 → k9 ≤ 6 → u0 ≤ 80 → cz_pl g2 → cz_pl e2 → cz_du da ds → cz_du ka ks → cz_eqp f0 f1 n0 → hq ≤ i0 + 4 → cz_inv hq rq k0 k9 ih ik w0 fl a0 da ds b0 ka ks g1 mg1 g2 e1 e2 → va_P (dC, dI) vwCl (cz_LW cI cB h0 hp cd hs hh hc k1 k2 k3 k4 k5 si tw tb kp j1 j2 j3 j4 j5 rt q1 q2 q3 mo m1 m2 m3 m4 m5 pg m6 m7 m8 m9 m10 m11 m12 rq n0 f0 w0 w1 hq a0 a1 k0 g1 g2 g3 g4 g5 b0 b1 k9 e1 e2 e3 e4 e5 u0 v1 v2 v3 ih fl da ds ac fa nf sd ik ka ks kac hv mg1 f1 mg6 mg7 mg8) H → va_D A (cz_LW cI cB h0 hp cd hs hh hc k1 k2 k3 k4 k5 si tw tb kp j1 j2 j3 j4 j5 rt q1 q2 q3 mo m1 m2 m3 m4 m5 pg m6 m7 m8 m9 m10 m11 m12 rq n0 f0 w0 w1 hq a0 a1 k0 g1 g2 g3 g4 g5 b0 b1 k9 e1 e2 e3 e4 e5 u0 v1 v2 v3 ih fl da ds ac fa nf sd ik ka ks kac hv mg1 f1 mg6 mg7 mg8) → va_S A s.heap H locs → lv_has ls 4 [(0, .ref b), (1, .ref h0), (2, .ref mo), (3, .int (nI i0))] → W p l e room_1 s m #[Value.ref b] below meth c H locs 38 1433 (lw_Z below #[Value.ref b] s) (F0 m 672 ls [])
