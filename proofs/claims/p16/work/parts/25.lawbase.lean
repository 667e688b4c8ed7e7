/-! THE CLAIM OUT OF ONE WALK OF THE LAW'S BODY. Your part is whole_start (and what it stands on); all else here is the same for every law, but numbers. -/
def R_law : String := "LeftProfileLaw"
def lw_P (b : Addr) (xs : List Int32) (args : Array Value) (s : State) : Prop := args = #[.ref b] ∧ s.IntsAt b xs ∧ xs.length ≤ 256 ∧ (Jvm.Cond.and given_1 narrow_1).before args s = true
def lw_Q (_ : Array Value) (s : State) (o : Outcome) (t : State) : Prop := o = .returned (some (.int 1)) ∧ Framed s o t [] 38 1433
def lw_Z (below : List Frame) (a : Array Value) (s : State) : State → Prop := fun t => ∃ o, t.status = .running ∧ Ended t below o ∧ lw_Q a s o t
/-- the law's own end, with 1 on the stack, nothing written that was there before, its room as the claim has it -/
theorem lw_ret {p : Program} {l : Launch} {e : Env} {s : State} {m : MethodId} {below : List Frame} {meth : Method} {c : Code} {b : Nat} (hx : p.tables.exec = Jvm.exec) (hb : c.code = code) (hr : meth.sig.returnType = ret) (hlocks : meth.locks = false) {pc : Nat} {H : Heap} {ls : Array Slot} (hdg : decode code pc = .ok (.ireturn, 1)) : W p l e room_1 s m #[Value.ref b] below meth c H [] 38 1433 (lw_Z below #[Value.ref b] s) (F0 m pc ls [.int 1]) := by
  intro T hT X
  obtain ⟨fs, hret, hrun, hended, hW, hframe⟩ := X.leave (v := some (.int 1)) (hlocks := hlocks) (fun h => by rw [hr] at h; cases h)
  have hmeth' : T.vm.method? m = some meth := X.method'
  refine ⟨T.setFrames fs, ?_, .returned (some (.int 1)), hrun, hended, rfl, ⟨_, rfl⟩, hW, hframe⟩
  jvm_step X.here [X.here.top, hx, hb, hdg, hmeth', hr, ret, narrow_b1]
  (try refine ⟨rfl, ?_⟩); (try refine ⟨rfl, ?_⟩)
  first | (intro acts; rw [hret _ acts rfl rfl rfl]) | rw [hret _ _ rfl rfl rfl]
  exact Steps.refl _
/-- what holds at the law's entry: the machine, the code, the tables' words (any of lw_tbl by 'hts w (by decide +kernel)'), the script of L ints xs at the cell b, what the Statement gives of the start (any of its parts by flat_of_before) -/
def lw_At (p : Program) (s : State) (m : MethodId) (meth : Method) (c : Code) (b L : Nat) (xs : Nat → Int32) : Prop :=
  p.tables.exec = Jvm.exec ∧ c.code = code ∧ meth.sig.returnType = ret ∧ c.maxLocals = 4 ∧ s.vm.findClass R_law = some m.cls ∧ (∀ w ∈ lw_tbl, w.before #[Value.ref b] s = true) ∧ va_X b L xs s s.heap ∧ b < s.heap.size ∧ meth.locks = false ∧ (Jvm.Cond.and given_1 narrow_1).before #[Value.ref b] s = true

theorem cz_eqp0 {f g : Nat → Int32} : cz_eqp f g 0 := fun _ h => absurd h (Nat.not_lt_zero _)
theorem cz_eqp_le {f g : Nat → Int32} {n k : Nat} (h : cz_eqp f g n) (hk : k ≤ n) : cz_eqp f g k := fun j hj => h j (by omega)
theorem cz_byte {v : Int32} (h : cz_in 32 v 126) : vp_nar .byte v.toInt8.toInt32 = v := by
  obtain ⟨j, hj, e⟩ := nI_of2 (x := v) (M := 126) (n := 126) (by decide) (by have := h.1; simp only [cz_lt, cz_le, cz_l] at *; omega) h.2
  have hall : ∀ k, k < 127 → vp_nar .byte (nI k).toInt8.toInt32 = nI k := by decide +kernel
  rw [e]; exact hall j (by omega)
theorem cz_eqp_let {f g : Nat → Int32} {n : Nat} {v : Int32} (h : cz_eqp f g n) : cz_eqp (cz_lf n f v) (cz_mf n g v) (cz_ln n v) := by
  unfold cz_lf cz_mf cz_ln
  split
  · rename_i hv
    unfold cz_af cz_an
    split
    · exact h
    · intro k hk
      by_cases e : k = n
      · subst e; rw [pk_us, pk_us, cz_byte hv]
      · rw [pk_un e, pk_un e]; exact h k (by omega)
  · exact h
theorem cz_ln_le {n : Nat} {v : Int32} (h : n ≤ 24) : cz_ln n v ≤ 24 := by
  unfold cz_ln cz_an
  repeat' split
  all_goals omega
theorem cz_fit_eq {f g : Nat → Int32} {n k : Nat} (h : cz_eqp f g n) (hk : k < n) : cz_fit f k ↔ cz_fit g k := by
  unfold cz_fit
  rw [h k hk]
theorem cz_fits_eq {f g : Nat → Int32} {n k : Nat} (h : cz_eqp f g n) (hk : k ≤ n) (hf : cz_fits f k) : cz_fits g k := fun j hj => (cz_fit_eq h (by omega)).mp (hf j hj)
theorem cz_eqp.symm {f g : Nat → Int32} {n : Nat} (h : cz_eqp f g n) : cz_eqp g f n := fun k hk => (h k hk).symm
theorem cz_hall_eq {f g : Nat → Int32} {n a b : Nat} (h : cz_eqp f g n) (ha : (a = n ∧ ¬ (n = 23 ∧ cz_fits f 23)) ∨ (a = 0 ∧ (n = 23 ∧ cz_fits f 23))) (hb : (b = n ∧ ¬ (n = 23 ∧ cz_fits g 23)) ∨ (b = 0 ∧ (n = 23 ∧ cz_fits g 23))) : a = b ∧ a ≤ n := by
  rcases ha with ⟨a1, a2⟩ | ⟨a1, a2⟩
  · rcases hb with ⟨b1, b2⟩ | ⟨b1, b2⟩
    · exact ⟨a1.trans b1.symm, Nat.le_of_eq a1⟩
    · exact absurd ⟨b2.1, cz_fits_eq h.symm (by omega) b2.2⟩ a2
  · rcases hb with ⟨b1, b2⟩ | ⟨b1, b2⟩
    · exact absurd ⟨a2.1, cz_fits_eq h (by omega) a2.2⟩ b2
    · exact ⟨a1.trans b1.symm, by omega⟩
theorem cz_ff_uniq {f g : Nat → Int32} {n a b : Nat} (h : cz_eqp f g n) (ha : a ≤ n) (fa : cz_fits f a) (na : a = n ∨ ¬ cz_fit f a) (hb : b ≤ n) (fb : cz_fits g b) (nb : b = n ∨ ¬ cz_fit g b) : a = b := by
  rcases Nat.lt_trichotomy a b with q | q | q
  · rcases na with e | e
    · omega
    · exact absurd ((cz_fit_eq h (by omega)).mpr (fb a q)) e
  · exact q
  · rcases nb with e | e
    · omega
    · exact absurd ((cz_fit_eq h (by omega)).mp (fa b q)) e
theorem cz_hall_ans {f g : Nat → Int32} {n : Nat} {r q : Int32} (h : cz_eqp f g n) (hr : ((n = 23 ∧ cz_fits f 23) ∧ r = 20 - cz_bc (cz_wl f 20)) ∨ (¬ (n = 23 ∧ cz_fits f 23) ∧ r = -103)) (hq : ((n = 23 ∧ cz_fits g 23) ∧ q = cz_sz (cz_fw g 23) 20) ∨ (¬ (n = 23 ∧ cz_fits g 23) ∧ q = -103)) : r = q := by
  rcases hr with ⟨a, b⟩ | ⟨a, b⟩
  · rcases hq with ⟨c, d⟩ | ⟨c, d⟩
    · rw [b, d]; exact cs_hall a.2 c.2 (fun k hk => h k (by omega))
    · exact absurd ⟨a.1, cz_fits_eq h (by omega) a.2⟩ c
  · rcases hq with ⟨c, d⟩ | ⟨c, d⟩
    · exact absurd ⟨c.1, cz_fits_eq h.symm (by omega) c.2⟩ a
    · rw [b, d]
theorem cz_len {L i : Nat} (hL : L ≤ 256) (hi : i ≤ 260) : nI L - 4 < nI i ↔ L < i + 4 := by
  have e1 : (nI L - 4).toInt = (L : Int) - 4 := pk_sub_toInt (a := L) (b := 4) (by omega) (by omega)
  have e2 : (nI i).toInt = (i : Int) := nI_toInt (by omega)
  rw [cz_lt, e1, e2]
  omega
theorem cz_arr {args : Array Value} {s : State} {ty : FieldType} (h : (Cond.arrayClass ty).before args s = true) : ∃ cA : ClassId, ArrOfT s cA ty ∧ s.vm.findClass ("[" ++ ty.toString) = some cA := by
  obtain ⟨c, k, comp, h1, h2, h3⟩ := Cond.arrayClass_spec h
  exact ⟨c, fun n z => ⟨fun k h => (by cases h), k, h2, comp, h3⟩, h1⟩
