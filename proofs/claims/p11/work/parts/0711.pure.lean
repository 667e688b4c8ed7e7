theorem cz_13 {x : Int32} (h : cz_in 1 x 3) : x = 1 ∨ x = 2 ∨ x = 3 := by
  simp only [cz_in, cz_le, cz_eq, cz_l] at *
  omega
theorem cz_nar {v : Int32} (h : v = 0 ∨ v = 1) : narrow .boolean (.int v) = .int v := by
  rcases h with rfl | rfl <;> decide
def cz_rm (g : Nat → Int32) (t : Nat) : Prop := ∀ k, k < t → cz_in 0 (g k) 19
theorem cz_rm_of {g : Nat → Int32} {a b c : Int32} {t : Nat} (ht : t ≤ 3) (h0 : 0 < t → cz_in 0 a 19) (h1 : 1 < t → cz_in 0 b 19) (h2 : 2 < t → cz_in 0 c 19) : cz_rm (upd (upd (upd g 0 a) 1 b) 2 c) t := by
  intro k hk
  rcases (show k = 0 ∨ k = 1 ∨ k = 2 by omega) with rfl | rfl | rfl
  · rw [pk_un (by decide), pk_un (by decide), pk_us]; exact h0 hk
  · rw [pk_un (by decide), pk_us]; exact h1 hk
  · rw [pk_us]; exact h2 hk
def cz_sgn (x : Int32) : Int32 := if 0 < x then 1 else if x < 0 then -1 else 0
def cz_abs (x : Int32) : Int32 := if x < 0 then -x else x
def cz_dn (a b : Int32) : Int32 := b / 5 - a / 5
def cz_rg (a b : Int32) : Int32 := (b - b / 5 * 5) - (a - a / 5 * 5)
def cz_step (a b : Int32) : Int32 := 5 * cz_sgn (cz_dn a b) + cz_sgn (cz_rg a b)
/-- from a by steps to b -/
def cz_line (a b : Int32) : Prop := ∃ n : Nat, n ≤ 3 ∧ a + cz_step a b + nI n * cz_step a b = b
def cz_lineB (a b : Int32) : Bool := (a + cz_step a b + nI 0 * cz_step a b == b) || (a + cz_step a b + nI 1 * cz_step a b == b) || (a + cz_step a b + nI 2 * cz_step a b == b) || (a + cz_step a b + nI 3 * cz_step a b == b)
def cz_okB (a b : Int32) : Bool := (cz_dn a b == 0 && cz_rg a b == 0) || !(cz_dn a b == 0 || cz_rg a b == 0 || cz_abs (cz_dn a b) == cz_abs (cz_rg a b)) || cz_lineB a b
theorem cz_line_all : (List.range 20).all (fun i => (List.range 20).all (fun j => cz_okB (nI i) (nI j))) = true := by decide +kernel
theorem cz_line_of {a b : Int32} (ha : cz_in 0 a 19) (hb : cz_in 0 b 19) (h0 : ¬ (cz_dn a b = 0 ∧ cz_rg a b = 0)) (h1 : cz_dn a b = 0 ∨ cz_rg a b = 0 ∨ cz_abs (cz_dn a b) = cz_abs (cz_rg a b)) : cz_line a b := by
  have hx : ∀ v : Int32, cz_in 0 v 19 → ∃ j : Nat, j < 20 ∧ v = nI j := by
    intro v hv
    obtain ⟨j, hj, e⟩ := nI_of2 (x := v) (M := 19) (n := 19) (by decide) (by have := hv.1; simp only [cz_lt, cz_le] at *; omega) hv.2
    exact ⟨j, by omega, e⟩
  obtain ⟨i, hi, rfl⟩ := hx a ha
  obtain ⟨j, hj, rfl⟩ := hx b hb
  have h := List.all_eq_true.mp (List.all_eq_true.mp cz_line_all i (List.mem_range.mpr hi)) j (List.mem_range.mpr hj)
  simp only [cz_okB, cz_lineB, Bool.or_eq_true, Bool.and_eq_true, beq_iff_eq, Bool.not_eq_true', Bool.or_eq_false_iff, beq_eq_false_iff_ne] at h
  rcases h with (h | h) | h
  · exact absurd h h0
  · rcases h1 with q | q | q
    · exact absurd q h.1.1
    · exact absurd q h.1.2
    · exact absurd q h.2
  · rcases h with ((h | h) | h) | h
    · exact ⟨0, by decide, h⟩
    · exact ⟨1, by decide, h⟩
    · exact ⟨2, by decide, h⟩
    · exact ⟨3, by decide, h⟩
theorem cz_mz {a b v : Int32} (h : a + nI 0 * b = v) : a = v := by
  have e : nI 0 * b = 0 := by rw [nI_0]; exact Int32.zero_mul
  rw [e, Int32.add_zero] at h
  exact h
theorem cz_ms {a b v a' : Int32} {n : Nat} (h : a + nI (n + 1) * b = v) (e : a' = a + b) : a' + nI n * b = v := by
  rw [e, ← h, nI_succ, Int32.add_mul, Int32.one_mul, Int32.add_assoc, Int32.add_comm b]
def cz_ahd (d : Nat) (x : Int32) : Int32 := if x = 0 then (if d < 5 then -1 else nI (d - 5)) else if x = 1 then (if d % 5 < 4 then nI (d + 1) else -1) else if x = 2 then (if d < 15 then nI (d + 5) else -1) else (if 0 < d % 5 then nI (d - 1) else -1)
theorem cz_ahd_n {d : Nat} {x : Int32} (hd : d < 20) (h : ¬ cz_ahd d x = -1) : ∃ k : Nat, k < 20 ∧ cz_ahd d x = nI k := by
  unfold cz_ahd at *
  repeat' split at h
  all_goals first
    | exact absurd rfl h
    | (simp only [*, if_true, if_false, ite_true, ite_false, reduceIte]
       exact ⟨_, by omega, rfl⟩)
theorem cz_sw_0_4 (x : Int32) : x = 0 ∨ x = 1 ∨ x = 2 ∨ x = 3 ∨ x = 4 ∨ (x.toInt < 0 ∨ 4 < x.toInt) := by
  simp only [cz_eq, cz_l]
  omega
theorem cz_sw_3_4 (x : Int32) : x = -3 ∨ x = -2 ∨ x = -1 ∨ x = 0 ∨ x = 1 ∨ x = 2 ∨ x = 3 ∨ x = 4 ∨ (x.toInt < -3 ∨ 4 < x.toInt) := by
  simp only [cz_eq, cz_l]
  omega
/-- how many of the first k are not 0 -/
def cz_nz (f : Nat → Int32) : Nat → Nat
  | 0 => 0
  | k + 1 => cz_nz f k + if f k = 0 then 0 else 1
theorem cz_nz_le (f : Nat → Int32) (k : Nat) : cz_nz f k ≤ k := by
  induction k with
  | zero => exact Nat.le_refl _
  | succ k ih => simp only [cz_nz]; split <;> omega
theorem cz_nz_same {f : Nat → Int32} {j : Nat} {v : Int32} : ∀ k, k ≤ j → cz_nz (upd f j v) k = cz_nz f k := by
  intro k
  induction k with
  | zero => intro _; rfl
  | succ k ih => intro h; simp only [cz_nz]; rw [ih (by omega), pk_un (by omega)]
theorem cz_nz_upd {f : Nat → Int32} {j : Nat} {v : Int32} (h0 : f j = 0) (hv : ¬ v = 0) : ∀ k, j < k → cz_nz (upd f j v) k = cz_nz f k + 1 := by
  intro k
  induction k with
  | zero => intro h; exact absurd h (Nat.not_lt_zero _)
  | succ k ih =>
    intro h
    simp only [cz_nz]
    by_cases e : k = j
    · subst e
      rw [cz_nz_same k (Nat.le_refl _), pk_us, h0, if_neg hv, if_pos rfl]
    · rw [ih (by omega), pk_un e]
      omega
theorem cz_nz_lt {f : Nat → Int32} {j : Nat} (h0 : f j = 0) : ∀ k, j < k → cz_nz f k < k := by
  intro k
  induction k with
  | zero => intro h; exact absurd h (Nat.not_lt_zero _)
  | succ k ih =>
    intro h
    simp only [cz_nz]
    by_cases e : k = j
    · subst e; rw [if_pos h0]; have := cz_nz_le f k; omega
    · have := ih (by omega); split <;> omega
/-- the first t of the queue are stances that were met -/
def cz_Q (v w : Nat → Int32) (t : Nat) : Prop := (∀ j, j < t → ∃ q : Nat, q < 80 ∧ w j = nI q ∧ ¬ v q = 0) ∧ t ≤ cz_nz v 80
theorem cz_Q.le {v w : Nat → Int32} {t : Nat} (h : cz_Q v w t) : t ≤ 80 := Nat.le_trans h.2 (cz_nz_le _ _)
theorem cz_Q.lt {v w : Nat → Int32} {t j : Nat} (h : cz_Q v w t) (hj : j < 80) (h0 : v j = 0) : t < 80 := Nat.lt_of_le_of_lt h.2 (cz_nz_lt h0 80 hj)
theorem cz_Q.add {v w : Nat → Int32} {t j : Nat} {x : Int32} (h : cz_Q v w t) (hj : j < 80) (h0 : v j = 0) (hx : ¬ x = 0) : cz_Q (upd v j x) (upd w t (nI j)) (t + 1) := by
  refine ⟨fun k hk => ?_, ?_⟩
  · by_cases e : k = t
    · subst e
      exact ⟨j, hj, by rw [pk_us], by rw [pk_us]; exact hx⟩
    · obtain ⟨q, hq, e1, e2⟩ := h.1 k (by omega)
      have hne : q ≠ j := fun c => e2 (by rw [c]; exact h0)
      exact ⟨q, hq, by rw [pk_un e]; exact e1, by rw [pk_un hne]; exact e2⟩
  · rw [cz_nz_upd h0 hx 80 hj]
    have := h.2
    omega
theorem cz_Q1 {v w : Nat → Int32} {j : Nat} {x : Int32} (hj : j < 80) (hx : ¬ x = 0) (hv : ∀ k, k < 80 → v k = 0) : cz_Q (upd v j x) (upd w 0 (nI j)) 1 := by
  have h : cz_Q v w 0 := ⟨fun k hk => absurd hk (Nat.not_lt_zero _), Nat.zero_le _⟩
  exact h.add hj (hv j hj) hx
