/-! A WAY: what both searches do, step by step -/
/-- first ACTS, queue, how many, how far -/
abbrev cw_S : Type := (Nat → Int32) × (Nat → Int32) × Nat × (Nat → Nat)
def cw_add (nx : Nat → Nat → Nat) (ok : Nat → Bool) (s a : Nat) (w : cw_S) : cw_S := if nx s a < 80 ∧ w.1 (nx s a) = 0 ∧ ok (nx s a) = true then (upd w.1 (nx s a) (if w.1 s = 9 then nI (a + 1) else w.1 s), upd w.2.1 w.2.2.1 (nI (nx s a)), w.2.2.1 + 1, fun q => if q = nx s a then w.2.2.2 s + 1 else w.2.2.2 q) else w
def cw_ex (nx : Nat → Nat → Nat) (ok : Nat → Bool) (s : Nat) (w : cw_S) : Nat → cw_S
  | 0 => w
  | a + 1 => cw_add nx ok s a (cw_ex nx ok s w a)
/-- so many have been left behind -/
def cw_E (nx : Nat → Nat → Nat) (ok : Nat → Bool) (s0 : Nat) : Nat → cw_S
  | 0 => (upd (fun _ => 0) s0 9, upd (fun _ => 0) 0 (nI s0), 1, fun _ => 0)
  | h + 1 => if h < (cw_E nx ok s0 h).2.2.1 then cw_ex nx ok ((cw_E nx ok s0 h).2.1 h).toNatClampNeg (cw_E nx ok s0 h) 3 else cw_E nx ok s0 h
/-- what holds of it: queue and first ACTS, how far -/
def cw_J (w : cw_S) (n : Nat) : Prop := cz_Q w.1 w.2.1 w.2.2.1 ∧ (∀ q, w.2.2.2 q ≤ n) ∧ (∀ j q : Nat, j < w.2.2.1 → q < 80 → w.2.1 j = nI q → (w.1 q = 9 ↔ j = 0)) ∧ (∀ q, q < 80 → w.1 q = 0 ∨ w.1 q = 9 ∨ ∃ a : Nat, a < 3 ∧ w.1 q = nI (a + 1)) ∧ 0 < w.2.2.1
theorem cw_J.q {w : cw_S} {n j : Nat} (h : cw_J w n) (hj : j < w.2.2.1) : ∃ q : Nat, q < 80 ∧ w.2.1 j = nI q ∧ ¬ w.1 q = 0 := h.1.1 j hj
theorem cw_nIq {a b : Nat} (ha : a < 1000) (hb : b < 1000) : nI a = nI b ↔ a = b := nI_eq (a := a) (b := b) (by omega) (by omega)
/-- one more is met -/
theorem cw_J.add {nx : Nat → Nat → Nat} {ok : Nat → Bool} {w : cw_S} {n s a : Nat} (h : cw_J w n) (hs : s < 80) (hv : ¬ w.1 s = 0) (ha : a < 3) (hn : w.2.2.2 s < n) : cw_J (cw_add nx ok s a w) n := by
  unfold cw_add
  split
  · rename_i c
    obtain ⟨c1, c2, c3⟩ := c
    obtain ⟨h1, h2, h3, h4, h5⟩ := h
    have hx : ¬ (if w.1 s = 9 then nI (a + 1) else w.1 s) = 0 := by
      split
      · exact nI_ne0 (by omega) (by omega)
      · exact hv
    have h9 : ¬ (if w.1 s = 9 then nI (a + 1) else w.1 s) = 9 := by
      split
      · intro e
        have := (cw_nIq (by omega) (by omega)).mp (show nI (a + 1) = nI 9 from e)
        omega
      · assumption
    refine ⟨h1.add c1 c2 hx, ?_, ?_, ?_, by show 0 < w.2.2.1 + 1; omega⟩
    · intro q
      show (if q = nx s a then w.2.2.2 s + 1 else w.2.2.2 q) ≤ n
      split
      · omega
      · exact h2 q
    · intro j q hj hq e
      have hj : j < w.2.2.1 + 1 := hj
      have e : upd w.2.1 w.2.2.1 (nI (nx s a)) j = nI q := e
      show upd w.1 (nx s a) _ q = 9 ↔ j = 0
      by_cases ej : j = w.2.2.1
      · subst ej
        rw [pk_us] at e
        have eq := (cw_nIq (by omega) (by omega)).mp e
        subst eq
        rw [pk_us]
        exact ⟨fun c => absurd c h9, fun c => absurd c (by omega)⟩
      · rw [pk_un ej] at e
        have hjt : j < w.2.2.1 := by omega
        obtain ⟨q', hq', e', hv'⟩ := h1.1 j hjt
        have eq : q = q' := (cw_nIq (by omega) (by omega)).mp (e.symm.trans e')
        have hne : q ≠ nx s a := fun c => hv' (by rw [← eq, c]; exact c2)
        rw [pk_un hne]
        exact h3 j q hjt hq e
    · intro q hq
      show upd w.1 (nx s a) (if w.1 s = 9 then nI (a + 1) else w.1 s) q = 0 ∨ upd w.1 (nx s a) (if w.1 s = 9 then nI (a + 1) else w.1 s) q = 9 ∨ ∃ b : Nat, b < 3 ∧ upd w.1 (nx s a) (if w.1 s = 9 then nI (a + 1) else w.1 s) q = nI (b + 1)
      by_cases e : q = nx s a
      · rw [e, pk_us]
        right
        by_cases e9 : w.1 s = 9
        · rw [if_pos e9]; exact Or.inr ⟨a, ha, rfl⟩
        · rw [if_neg e9]
          rcases h4 s hs with q1 | q1 | q1
          · exact absurd q1 hv
          · exact absurd q1 e9
          · exact Or.inr q1
      · rw [pk_un e]
        exact h4 q hq
  · exact h
/-- what was met stays as it was -/
theorem cw_add_old {nx : Nat → Nat → Nat} {ok : Nat → Bool} {w : cw_S} {s a q : Nat} (hv : ¬ w.1 q = 0) : (cw_add nx ok s a w).1 q = w.1 q ∧ (cw_add nx ok s a w).2.2.2 q = w.2.2.2 q := by
  unfold cw_add
  split
  · rename_i c
    have hne : q ≠ nx s a := fun e => hv (by rw [e]; exact c.2.1)
    exact ⟨pk_un hne, if_neg hne⟩
  · exact ⟨rfl, rfl⟩
theorem cw_add_q {nx : Nat → Nat → Nat} {ok : Nat → Bool} {w : cw_S} {s a j : Nat} (hj : j < w.2.2.1) : (cw_add nx ok s a w).2.1 j = w.2.1 j := by
  unfold cw_add
  split
  · exact pk_un (by omega)
  · rfl
theorem cw_add_t {nx : Nat → Nat → Nat} {ok : Nat → Bool} {w : cw_S} {s a : Nat} : w.2.2.1 ≤ (cw_add nx ok s a w).2.2.1 := by
  unfold cw_add
  split
  · show w.2.2.1 ≤ w.2.2.1 + 1; omega
  · exact Nat.le_refl _
theorem cw_add_v {nx : Nat → Nat → Nat} {ok : Nat → Bool} {w : cw_S} {s a q : Nat} (hv : ¬ w.1 q = 0) : ¬ (cw_add nx ok s a w).1 q = 0 := by rw [(cw_add_old hv).1]; exact hv
/-- the lengths of new ones -/
theorem cw_add_l {nx : Nat → Nat → Nat} {ok : Nat → Bool} {w : cw_S} {s a j : Nat} (hj : w.2.2.1 ≤ j) (hj2 : j < (cw_add nx ok s a w).2.2.1) : ∃ q : Nat, q < 80 ∧ (cw_add nx ok s a w).2.1 j = nI q ∧ (cw_add nx ok s a w).2.2.2 q = w.2.2.2 s + 1 := by
  unfold cw_add at *
  split at hj2
  · rename_i c
    have hj2 : j < w.2.2.1 + 1 := hj2
    have e : j = w.2.2.1 := by omega
    subst e
    refine ⟨nx s a, c.1, ?_, ?_⟩
    · rw [if_pos c]; exact pk_us
    · rw [if_pos c]; exact if_pos rfl
  · have hj2 : j < w.2.2.1 := hj2
    omega
section CWX
variable {nx : Nat → Nat → Nat} {ok : Nat → Bool}
theorem cw_ex_J {w : cw_S} {n s : Nat} (h : cw_J w n) (hs : s < 80) (hv : ¬ w.1 s = 0) (hn : w.2.2.2 s < n) : ∀ a, a ≤ 3 → cw_J (cw_ex nx ok s w a) n ∧ ¬ (cw_ex nx ok s w a).1 s = 0 ∧ (cw_ex nx ok s w a).2.2.2 s = w.2.2.2 s := by
  intro a
  induction a with
  | zero => intro _; exact ⟨h, hv, rfl⟩
  | succ a ih =>
    intro ha
    obtain ⟨i1, i2, i3⟩ := ih (by omega)
    rw [cw_ex]
    exact ⟨i1.add hs i2 (by omega) (by rw [i3]; exact hn), cw_add_v i2, by rw [(cw_add_old i2).2, i3]⟩
theorem cw_ex_old {w : cw_S} {s q : Nat} (hv : ¬ w.1 q = 0) : ∀ a, (cw_ex nx ok s w a).1 q = w.1 q ∧ (cw_ex nx ok s w a).2.2.2 q = w.2.2.2 q := by
  intro a
  induction a with
  | zero => exact ⟨rfl, rfl⟩
  | succ a ih =>
    rw [cw_ex]
    have hv2 : ¬ (cw_ex nx ok s w a).1 q = 0 := by rw [ih.1]; exact hv
    obtain ⟨q1, q2⟩ := cw_add_old (nx := nx) (ok := ok) (s := s) (a := a) hv2
    exact ⟨q1.trans ih.1, q2.trans ih.2⟩
theorem cw_ex_t {w : cw_S} {s : Nat} : ∀ a, w.2.2.1 ≤ (cw_ex nx ok s w a).2.2.1 := by
  intro a
  induction a with
  | zero => exact Nat.le_refl _
  | succ a ih => rw [cw_ex]; exact Nat.le_trans ih cw_add_t
theorem cw_ex_q {w : cw_S} {s j : Nat} (hj : j < w.2.2.1) : ∀ a, (cw_ex nx ok s w a).2.1 j = w.2.1 j := by
  intro a
  induction a with
  | zero => rfl
  | succ a ih =>
    rw [cw_ex, cw_add_q (Nat.lt_of_lt_of_le hj (cw_ex_t a)), ih]
theorem cw_ex_l {w : cw_S} {s j n : Nat} (h : cw_J w n) (hs : s < 80) (hv : ¬ w.1 s = 0) (hn : w.2.2.2 s < n) (hj : w.2.2.1 ≤ j) : ∀ a, a ≤ 3 → j < (cw_ex nx ok s w a).2.2.1 → ∃ q : Nat, q < 80 ∧ (cw_ex nx ok s w a).2.1 j = nI q ∧ (cw_ex nx ok s w a).2.2.2 q = w.2.2.2 s + 1 := by
  intro a
  induction a with
  | zero => intro _ h2; have h2 : j < w.2.2.1 := h2; omega
  | succ a ih =>
    intro ha h2
    rw [cw_ex] at *
    obtain ⟨i1, i2, i3⟩ := cw_ex_J (nx := nx) (ok := ok) h hs hv hn a (by omega)
    by_cases c : j < (cw_ex nx ok s w a).2.2.1
    · obtain ⟨q, hq, e1, e2⟩ := ih (by omega) c
      obtain ⟨q', hq', e', hv'⟩ := i1.q c
      have eq : q = q' := (cw_nIq (by omega) (by omega)).mp (e1.symm.trans e')
      refine ⟨q, hq, by rw [cw_add_q c, e1], ?_⟩
      rw [(cw_add_old (by rw [eq]; exact hv')).2, e2]
    · obtain ⟨q, hq, e1, e2⟩ := cw_add_l (Nat.not_lt.mp c) h2
      exact ⟨q, hq, e1, by rw [e2, i3]⟩
end CWX
theorem cw_J.mono {w : cw_S} {n m : Nat} (h : cw_J w n) (hnm : n ≤ m) : cw_J w m := ⟨h.1, fun q => Nat.le_trans (h.2.1 q) hnm, h.2.2⟩
section CWE
variable {nx : Nat → Nat → Nat} {ok : Nat → Bool} {s0 : Nat}
theorem cw_J0 (hs : s0 < 80) : cw_J (cw_E nx ok s0 0) 0 := by
  refine ⟨cz_Q1 hs (by decide) (fun _ _ => rfl), fun _ => Nat.le_refl _, ?_, ?_, Nat.zero_lt_one⟩
  · intro j q hj hq e
    have hj : j < 1 := hj
    have ej : j = 0 := by omega
    subst ej
    have e : upd (fun _ => (0 : Int32)) 0 (nI s0) 0 = nI q := e
    rw [pk_us] at e
    have eq := (cw_nIq (by omega) (by omega)).mp e
    subst eq
    exact ⟨fun _ => rfl, fun _ => (pk_us : upd (fun _ => (0 : Int32)) s0 9 s0 = 9)⟩
  · intro q hq
    show upd (fun _ => (0 : Int32)) s0 9 q = 0 ∨ _
    by_cases e : q = s0
    · subst e; right; left; exact (pk_us : upd (fun _ => (0 : Int32)) q 9 q = 9)
    · left; exact pk_un e
theorem cw_clamp {q : Nat} {x : Int32} (hq : q < 80) (e : x = nI q) : x.toNatClampNeg = q := by rw [e]; exact nI_clamp (n := q) (by omega)
theorem cw_E_J (hs : s0 < 80) : ∀ h, cw_J (cw_E nx ok s0 h) h := by
  intro h
  induction h with
  | zero => exact cw_J0 hs
  | succ h ih =>
    rw [cw_E]
    split
    · rename_i c
      obtain ⟨q, hq, e, hv⟩ := ih.q c
      rw [cw_clamp hq e]
      exact (cw_ex_J (ih.mono (by omega)) hq hv (by have := ih.2.1 q; omega) 3 (Nat.le_refl _)).1
    · exact ih.mono (by omega)
theorem cw_E_s {h q : Nat} (hq : q < 80) (hh : h < (cw_E nx ok s0 h).2.2.1) (e : (cw_E nx ok s0 h).2.1 h = nI q) : cw_E nx ok s0 (h + 1) = cw_ex nx ok q (cw_E nx ok s0 h) 3 := by
  rw [cw_E, if_pos hh, cw_clamp hq e]
theorem cw_E_1 {h : Nat} : (cw_E nx ok s0 h).2.2.1 ≤ (cw_E nx ok s0 (h + 1)).2.2.1 ∧ (∀ j, j < (cw_E nx ok s0 h).2.2.1 → (cw_E nx ok s0 (h + 1)).2.1 j = (cw_E nx ok s0 h).2.1 j) ∧ ∀ q, ¬ (cw_E nx ok s0 h).1 q = 0 → (cw_E nx ok s0 (h + 1)).1 q = (cw_E nx ok s0 h).1 q ∧ (cw_E nx ok s0 (h + 1)).2.2.2 q = (cw_E nx ok s0 h).2.2.2 q := by
  rw [cw_E]
  split
  · exact ⟨cw_ex_t 3, fun j hj => cw_ex_q hj 3, fun q hv => cw_ex_old hv 3⟩
  · exact ⟨Nat.le_refl _, fun _ _ => rfl, fun _ _ => ⟨rfl, rfl⟩⟩
theorem cw_E_m (h : Nat) : ∀ n, (cw_E nx ok s0 h).2.2.1 ≤ (cw_E nx ok s0 (h + n)).2.2.1 ∧ (∀ j, j < (cw_E nx ok s0 h).2.2.1 → (cw_E nx ok s0 (h + n)).2.1 j = (cw_E nx ok s0 h).2.1 j) ∧ ∀ q, ¬ (cw_E nx ok s0 h).1 q = 0 → (cw_E nx ok s0 (h + n)).1 q = (cw_E nx ok s0 h).1 q ∧ (cw_E nx ok s0 (h + n)).2.2.2 q = (cw_E nx ok s0 h).2.2.2 q := by
  intro n
  induction n with
  | zero => exact ⟨Nat.le_refl _, fun _ _ => rfl, fun _ _ => ⟨rfl, rfl⟩⟩
  | succ n ih =>
    obtain ⟨i1, i2, i3⟩ := ih
    obtain ⟨j1, j2, j3⟩ := cw_E_1 (nx := nx) (ok := ok) (s0 := s0) (h := h + n)
    refine ⟨Nat.le_trans i1 j1, fun j hj => ?_, fun q hv => ?_⟩
    · exact (j2 j (Nat.lt_of_lt_of_le hj i1)).trans (i2 j hj)
    · obtain ⟨a1, a2⟩ := i3 q hv
      obtain ⟨b1, b2⟩ := j3 q (by rw [a1]; exact hv)
      exact ⟨b1.trans a1, b2.trans a2⟩
theorem cw_E_end {h : Nat} (he : (cw_E nx ok s0 h).2.2.1 ≤ h) : ∀ n, cw_E nx ok s0 (h + n) = cw_E nx ok s0 h := by
  intro n
  induction n with
  | zero => rfl
  | succ n ih =>
    show cw_E nx ok s0 (h + n + 1) = _
    rw [cw_E, ih, if_neg (by omega)]
end CWE
/-- j is the first in the queue whose stance is on the PLACE -/
def cw_hit (nx : Nat → Nat → Nat) (ok : Nat → Bool) (s0 : Nat) (pl : Int32) (j : Nat) : Prop := j < (cw_E nx ok s0 j).2.2.1 ∧ cz_plc ((cw_E nx ok s0 j).2.1 j) = pl ∧ ∀ i, i < j → ¬ cz_plc ((cw_E nx ok s0 j).2.1 i) = pl
def cw_none (nx : Nat → Nat → Nat) (ok : Nat → Bool) (s0 : Nat) (pl : Int32) : Prop := ∃ h, (cw_E nx ok s0 h).2.2.1 ≤ h ∧ ∀ i, i < (cw_E nx ok s0 h).2.2.1 → ¬ cz_plc ((cw_E nx ok s0 h).2.1 i) = pl
def cw_fc (x : Int32) : Int32 := if x = 9 then -1 else x - 1
/-- what a search answers -/
def cw_ans (nx : Nat → Nat → Nat) (ok : Nat → Bool) (s0 : Nat) (pl what r : Int32) : Prop := (∃ j q : Nat, cw_hit nx ok s0 pl j ∧ q < 80 ∧ (cw_E nx ok s0 j).2.1 j = nI q ∧ r = if what = 0 then nI ((cw_E nx ok s0 j).2.2.2 q) else cw_fc ((cw_E nx ok s0 j).1 q)) ∨ (cw_none nx ok s0 pl ∧ r = -1)
section CWA
variable {nx : Nat → Nat → Nat} {ok : Nat → Bool} {s0 : Nat} {pl : Int32}
theorem cw_hit_lt {j j' : Nat} (h : cw_hit nx ok s0 pl j) (h' : cw_hit nx ok s0 pl j') : ¬ j < j' := by
  intro c
  obtain ⟨m1, m2, m3⟩ := cw_E_m (nx := nx) (ok := ok) (s0 := s0) j (j' - j)
  rw [show j + (j' - j) = j' by omega] at m1 m2 m3
  have := m2 j h.1
  exact h'.2.2 j c (by rw [this]; exact h.2.1)
theorem cw_hit_none {j : Nat} (h : cw_hit nx ok s0 pl j) (hn : cw_none nx ok s0 pl) : False := by
  obtain ⟨k, k1, k2⟩ := hn
  by_cases c : k ≤ j
  · have e := cw_E_end k1 (j - k)
    rw [show k + (j - k) = j by omega] at e
    have h1 := h.1
    rw [e] at h1
    omega
  · obtain ⟨m1, m2, m3⟩ := cw_E_m (nx := nx) (ok := ok) (s0 := s0) j (k - j)
    rw [show j + (k - j) = k by omega] at m1 m2 m3
    exact k2 j (Nat.lt_of_lt_of_le h.1 m1) (by rw [m2 j h.1]; exact h.2.1)
theorem cw_ans_u {what r r' : Int32} (h : cw_ans nx ok s0 pl what r) (h' : cw_ans nx ok s0 pl what r') : r = r' := by
  rcases h with ⟨j, q, a1, a2, a3, a4⟩ | ⟨a1, a2⟩
  · rcases h' with ⟨j', q', b1, b2, b3, b4⟩ | ⟨b1, -⟩
    · have e : j = j' := by
        have := cw_hit_lt a1 b1
        have := cw_hit_lt b1 a1
        omega
      subst e
      have eq : q = q' := (cw_nIq (by omega) (by omega)).mp (a3.symm.trans b3)
      subst eq
      rw [a4, b4]
    · exact (cw_hit_none a1 b1).elim
  · rcases h' with ⟨j', q', b1, -⟩ | ⟨-, b2⟩
    · exact (cw_hit_none b1 a1).elim
    · rw [a2, b2]
end CWA
/-- two searches over the same steps are the same -/
theorem cw_ex_c {nx nx' : Nat → Nat → Nat} {ok ok' : Nat → Bool} {s : Nat} (hs : s < 80) (h1 : ∀ s, s < 80 → ∀ a, a < 3 → nx s a = nx' s a) (h2 : ∀ q, q < 80 → ok q = ok' q) (w : cw_S) : ∀ a, a ≤ 3 → cw_ex nx ok s w a = cw_ex nx' ok' s w a := by
  intro a
  induction a with
  | zero => intro _; rfl
  | succ a ih =>
    intro ha
    rw [cw_ex, cw_ex, ih (by omega)]
    unfold cw_add
    rw [h1 s hs a (by omega)]
    by_cases c : nx' s a < 80
    · rw [h2 _ c]
    · rw [if_neg (fun h => c h.1), if_neg (fun h => c h.1)]
theorem cw_E_c {nx nx' : Nat → Nat → Nat} {ok ok' : Nat → Bool} {s0 : Nat} (hs : s0 < 80) (h1 : ∀ s, s < 80 → ∀ a, a < 3 → nx s a = nx' s a) (h2 : ∀ q, q < 80 → ok q = ok' q) : ∀ h, cw_E nx ok s0 h = cw_E nx' ok' s0 h := by
  intro h
  induction h with
  | zero => rfl
  | succ h ih =>
    rw [cw_E, cw_E, ← ih]
    split
    · rename_i c
      obtain ⟨q, hq, e, -⟩ := (cw_E_J (nx := nx) (ok := ok) hs h).q c
      rw [cw_clamp hq e]
      exact cw_ex_c hq h1 h2 _ 3 (Nat.le_refl _)
    · rfl
theorem cw_ans_c {nx nx' : Nat → Nat → Nat} {ok ok' : Nat → Bool} {s0 : Nat} {pl what r : Int32} (hs : s0 < 80) (h1 : ∀ s, s < 80 → ∀ a, a < 3 → nx s a = nx' s a) (h2 : ∀ q, q < 80 → ok q = ok' q) (h : cw_ans nx ok s0 pl what r) : cw_ans nx' ok' s0 pl what r := by
  have e : cw_E nx ok s0 = cw_E nx' ok' s0 := funext (cw_E_c hs h1 h2)
  unfold cw_ans cw_hit cw_none at *
  rw [e] at h
  exact h
/-! the class's arrays -/
def cw_C (ok : Nat → Bool) (w : cw_S) (v1 v2 v3 : Nat → Int32) (u : Nat) : Prop := u = w.2.2.1 ∧ (∀ j, j < u → v1 j = w.2.1 j) ∧ ∀ q, q < 80 → (¬ w.1 q = 0 → v2 q = nI (w.2.2.2 q) ∧ v3 q = cw_fc (w.1 q)) ∧ (w.1 q = 0 → v2 q = -1 ∨ (v2 q = -2 ∧ ok q = false))
section CWC
variable {nx : Nat → Nat → Nat} {ok : Nat → Bool} {w : cw_S} {v1 v2 v3 : Nat → Int32} {u n s a : Nat}
theorem cw_add_no (h : ¬ (nx s a < 80 ∧ w.1 (nx s a) = 0 ∧ ok (nx s a) = true)) : cw_add nx ok s a w = w := by unfold cw_add; rw [if_neg h]
theorem cw_l1 {l : Nat} (h : l ≤ 1000) : ¬ nI l = -1 ∧ ¬ nI l = -2 := by
  have e : (nI l).toInt = (l : Int) := nI_toInt (by omega)
  constructor
  · intro c; rw [cz_eq, e] at c; simp only [cz_l] at c; omega
  · intro c; rw [cz_eq, e] at c; simp only [cz_l] at c; omega
/-- it can't be, or was met, or barred -/
theorem cw_C1 (h : cw_C ok w v1 v2 v3 u) (hx : ¬ nx s a < 80) : cw_C ok (cw_add nx ok s a w) v1 v2 v3 u := by
  rw [cw_add_no (fun c => hx c.1)]; exact h
theorem cw_C2 {q : Nat} (h : cw_C ok w v1 v2 v3 u) (hq : q < 80) (ex : nx s a = q) (hv : ¬ v2 q = -1) : cw_C ok (cw_add nx ok s a w) v1 v2 v3 u := by
  rw [cw_add_no]
  · exact h
  · rintro ⟨-, c2, c3⟩
    rw [ex] at c2 c3
    rcases (h.2.2 q hq).2 c2 with e | e
    · exact hv e
    · rw [e.2] at c3; exact absurd c3 (by decide)
theorem cw_C3 {q : Nat} (h : cw_C ok w v1 v2 v3 u) (hJ : cw_J w n) (hn : n ≤ 1000) (hq : q < 80) (ex : nx s a = q) (hv : v2 q = -1) (ho : ok q = false) : cw_C ok (cw_add nx ok s a w) v1 (upd v2 q (-2)) v3 u := by
  have hf : w.1 q = 0 := by
    by_cases c : w.1 q = 0
    · exact c
    · have := ((h.2.2 q hq).1 c).1
      rw [this] at hv
      exact absurd hv (cw_l1 (Nat.le_trans (hJ.2.1 q) hn)).1
  rw [cw_add_no (fun c => by have := c.2.2; rw [ex, ho] at this; exact absurd this (by decide))]
  refine ⟨h.1, h.2.1, fun p hp => ?_⟩
  by_cases e : p = q
  · subst e
    exact ⟨fun c => absurd hf c, fun _ => Or.inr ⟨pk_us, ho⟩⟩
  · rw [pk_un e]; exact h.2.2 p hp
theorem cw_C4 {q : Nat} {l' f' : Int32} (h : cw_C ok w v1 v2 v3 u) (hJ : cw_J w n) (hn : n ≤ 1000) (hs : s < 80) (hsv : ¬ w.1 s = 0) (ha : a < 3) (hq : q < 80) (ex : nx s a = q) (hv : v2 q = -1) (ho : ok q = true) (hl : l' = v2 s + 1) (hf' : f' = if w.1 s = 9 then nI a else v3 s) : cw_C ok (cw_add nx ok s a w) (upd v1 u (nI q)) (upd v2 q l') (upd v3 q f') (u + 1) ∧ u < 80 := by
  have hf : w.1 q = 0 := by
    by_cases c : w.1 q = 0
    · exact c
    · have := ((h.2.2 q hq).1 c).1
      rw [this] at hv
      exact absurd hv (cw_l1 (Nat.le_trans (hJ.2.1 q) hn)).1
  have hu : u < 80 := by rw [h.1]; exact hJ.1.lt hq hf
  refine ⟨?_, hu⟩
  obtain ⟨e1, e2⟩ := (h.2.2 s hs).1 hsv
  have hc : nx s a < 80 ∧ w.1 (nx s a) = 0 ∧ ok (nx s a) = true := by rw [ex]; exact ⟨hq, hf, ho⟩
  unfold cw_add
  rw [if_pos hc, ex]
  refine ⟨by show u + 1 = w.2.2.1 + 1; rw [h.1], fun j hj => ?_, fun p hp => ?_⟩
  · show upd v1 u (nI q) j = upd w.2.1 w.2.2.1 (nI q) j
    rw [← h.1]
    by_cases e : j = u
    · subst e; rw [pk_us, pk_us]
    · rw [pk_un e, pk_un e]; exact h.2.1 j (by omega)
  · show (¬ upd w.1 q _ p = 0 → upd v2 q l' p = nI (if p = q then w.2.2.2 s + 1 else w.2.2.2 p) ∧ upd v3 q f' p = cw_fc (upd w.1 q _ p)) ∧ (upd w.1 q _ p = 0 → upd v2 q l' p = -1 ∨ (upd v2 q l' p = -2 ∧ ok p = false))
    by_cases e : p = q
    · subst e
      rw [pk_us, pk_us, pk_us, if_pos rfl]
      have hne : ¬ (if w.1 s = 9 then nI (a + 1) else w.1 s) = 0 := by
        split
        · exact nI_ne0 (by omega) (by omega)
        · exact hsv
      refine ⟨fun _ => ⟨?_, ?_⟩, fun c => absurd c hne⟩
      · rw [hl, e1, show (1 : Int32) = nI 1 from rfl, nI_add]
      · rw [hf', e2]
        by_cases c9 : w.1 s = 9
        · rw [if_pos c9, if_pos c9]
          unfold cw_fc
          rw [if_neg]
          · rw [show (1 : Int32) = nI 1 from rfl, pk_sub (a := a + 1) (b := 1) (by omega), Nat.add_sub_cancel]
          · intro c
            have := (cw_nIq (by omega) (by omega)).mp (show nI (a + 1) = nI 9 from c)
            omega
        · rw [if_neg c9, if_neg c9]
    · rw [pk_un e, pk_un e, pk_un e, if_neg e]
      exact h.2.2 p hp
theorem cw_C0 {s0 : Nat} {f1 f2 f3 : Nat → Int32} (hs : s0 < 80) (hv : ∀ q, q < 80 → f2 q = -1) : cw_C ok (cw_E nx ok s0 0) (upd f1 0 (nI s0)) (upd f2 s0 0) (upd f3 s0 (-1)) 1 := by
  refine ⟨rfl, fun j hj => ?_, fun q hq => ?_⟩
  · have ej : j = 0 := by omega
    subst ej
    show upd f1 0 (nI s0) 0 = upd (fun _ => 0) 0 (nI s0) 0
    rw [pk_us, pk_us]
  · show (¬ upd (fun _ => (0 : Int32)) s0 9 q = 0 → upd f2 s0 0 q = nI 0 ∧ upd f3 s0 (-1) q = cw_fc (upd (fun _ => (0 : Int32)) s0 9 q)) ∧ (upd (fun _ => (0 : Int32)) s0 9 q = 0 → upd f2 s0 0 q = -1 ∨ (upd f2 s0 0 q = -2 ∧ ok q = false))
    by_cases e : q = s0
    · subst e
      rw [pk_us, pk_us, pk_us]
      exact ⟨fun _ => ⟨rfl, rfl⟩, fun c => absurd c (by decide)⟩
    · rw [pk_un e, pk_un e, pk_un e]
      exact ⟨fun c => absurd rfl c, fun _ => Or.inl (hv q hq)⟩
end CWC
/-! the class's search -/
def cw_nxC (b : Int32) (s a : Nat) : Nat := if cz_in 0 (cz_aft (nI s) (nI a) b) 79 then (cz_aft (nI s) (nI a) b).toNatClampNeg else 80
def cw_okC (w0 pe : Int32) (g1 g2 ft fb : Nat → Int32) (k : Nat) (s : Nat) : Bool := decide (cz_gs (nI s) w0 pe g1 g2 ft fb k = 0)
theorem cw_i79 {x : Int32} (h : cz_in 0 x 79) : ∃ p : Nat, p < 80 ∧ x = nI p := by
  obtain ⟨j, hj, e⟩ := nI_of2 (x := x) (M := 79) (n := 79) (by decide) (by have := h.1; simp only [cz_lt, cz_le] at *; omega) h.2
  exact ⟨j, by omega, e⟩
theorem cw_in79 {i : Nat} (h : i < 80) : cz_in 0 (nI i) 79 := by
  have e : (nI i).toInt = (i : Int) := nI_toInt (by omega)
  constructor
  · rw [cz_le, e]; simp only [cz_l]; omega
  · rw [cz_le, e]; simp only [cz_l]; omega
theorem cw_nx_no {b r : Int32} {s a : Nat} (hr : r = cz_aft (nI s) (nI a) b) (h : ¬ cz_in 0 r 79) : ¬ cw_nxC b s a < 80 := by
  unfold cw_nxC
  rw [← hr, if_neg h]
  omega
theorem cw_nx_of {b r : Int32} {s a n : Nat} (hr : r = cz_aft (nI s) (nI a) b) (hn : n < 80) (e : r = nI n) : cw_nxC b s a = n := by
  unfold cw_nxC
  rw [← hr, e, if_pos (cw_in79 hn), nI_clamp (n := n) (by omega)]
def cw_at (v : Nat → Int32) (x : Int32) : Int32 := if cz_in 0 x 79 then v x.toNatClampNeg else -1
theorem cw_at_n {v : Nat → Int32} {s : Nat} (hs : s < 80) : cw_at v (nI s) = v s := by
  unfold cw_at
  rw [if_pos (cw_in79 hs), nI_clamp (n := s) (by omega)]
theorem cw_fil80 {f g : Nat → Int32} (h : f = cz_fil (-1) g 80) : ∀ q, q < 80 → f q = -1 := by
  intro q hq
  rw [h]
  unfold cz_fil
  rw [if_pos hq]
section CWF
variable {nx : Nat → Nat → Nat} {ok : Nat → Bool} {s0 h q : Nat} {v1 v2 v3 : Nat → Int32} {u : Nat} {pl : Int32}
theorem cw_C_u {w : cw_S} {n : Nat} (hC : cw_C ok w v1 v2 v3 u) (hJ : cw_J w n) : u ≤ 80 := by rw [hC.1]; exact hJ.1.le
theorem cw_C_lt {w : cw_S} {n p : Nat} (hC : cw_C ok w v1 v2 v3 u) (hJ : cw_J w n) (hn : n ≤ 1000) (hp : p < 80) (hv : v2 p = -1) : u < 80 := by
  have hf : w.1 p = 0 := by
    by_cases c : w.1 p = 0
    · exact c
    · have := ((hC.2.2 p hp).1 c).1
      rw [this] at hv
      exact absurd hv (cw_l1 (Nat.le_trans (hJ.2.1 p) hn)).1
  rw [hC.1]; exact hJ.1.lt hp hf
/-- while one is being left behind -/
theorem cw_exJ (hs : s0 < 80) (hq : q < 80) (hv : ¬ (cw_E nx ok s0 h).1 q = 0) {a : Nat} (ha : a ≤ 3) : cw_J (cw_ex nx ok q (cw_E nx ok s0 h) a) (h + 1) ∧ ¬ (cw_ex nx ok q (cw_E nx ok s0 h) a).1 q = 0 ∧ (cw_ex nx ok q (cw_E nx ok s0 h) a).1 q = (cw_E nx ok s0 h).1 q := by
  have hJ := cw_E_J (nx := nx) (ok := ok) hs h
  obtain ⟨a1, a2, -⟩ := cw_ex_J (nx := nx) (ok := ok) (hJ.mono (show h ≤ h + 1 by omega)) hq hv (by have := hJ.2.1 q; omega) a ha
  exact ⟨a1, a2, (cw_ex_old hv a).1⟩
theorem cw_f1 {a n : Nat} {x v r : Int32} (hh : h ≤ 100) (hs : s0 < 80) (hlt : h < (cw_E nx ok s0 h).2.2.1) (hq : q < 80) (eq : (cw_E nx ok s0 h).2.1 h = nI q) (hv : ¬ (cw_E nx ok s0 h).1 q = 0) (ha : a < 3) (hC : cw_C ok (cw_ex nx ok q (cw_E nx ok s0 h) a) v1 v2 v3 u) (hn : n < 80) (ex : nx q a = n) (h1 : v2 n = -1) (ho : ok n = true) (hr : r = cw_at v2 (nI q)) (hx : x = r + 1) (hf : (h = 0 ∧ v = nI a) ∨ (¬ h = 0 ∧ v = cw_at v3 (nI q))) : cw_C ok (cw_ex nx ok q (cw_E nx ok s0 h) (a + 1)) (upd v1 u (nI n)) (upd v2 n x) (upd v3 n v) (u + 1) := by
  obtain ⟨j1, j2, j3⟩ := cw_exJ (nx := nx) (ok := ok) (h := h) hs hq hv (show a ≤ 3 by omega)
  rw [cw_ex]
  refine (cw_C4 hC j1 (by omega) hq j2 ha hn ex h1 ho ?_ ?_).1
  · rw [hx, hr, cw_at_n hq]
  · rw [j3]
    have h9 := (cw_E_J (nx := nx) (ok := ok) hs h).2.2.1 h q hlt hq eq
    rcases hf with ⟨c1, c2⟩ | ⟨c1, c2⟩
    · rw [if_pos (h9.mpr c1), c2]
    · rw [if_neg (fun c => c1 (h9.mp c)), c2, cw_at_n hq]
theorem cw_no_s (hlt : h < (cw_E nx ok s0 h).2.2.1) (hno : ∀ i, i < h → ¬ cz_plc ((cw_E nx ok s0 h).2.1 i) = pl) {r : Int32} (eq : (cw_E nx ok s0 h).2.1 h = nI q) (hr : r = cz_plc (nI q)) (c : ¬ r = pl) : ∀ i, i < h + 1 → ¬ cz_plc ((cw_E nx ok s0 (h + 1)).2.1 i) = pl := by
  intro i hi
  rw [cw_E_1.2.1 i (by omega)]
  by_cases e : i = h
  · subst e; rw [eq, ← hr]; exact c
  · exact hno i (by omega)
theorem cw_none_of (hs : s0 < 80) (hC : cw_C ok (cw_E nx ok s0 h) v1 v2 v3 u) (hx : u ≤ h ∨ 80 ≤ h) (hno : ∀ i, i < h → ¬ cz_plc ((cw_E nx ok s0 h).2.1 i) = pl) : cw_none nx ok s0 pl := by
  have hu := cw_C_u hC (cw_E_J hs h)
  have hle : (cw_E nx ok s0 h).2.2.1 ≤ h := by rw [← hC.1]; omega
  exact ⟨h, hle, fun i hi => hno i (by omega)⟩
theorem cw_hit_of (hlt : h < (cw_E nx ok s0 h).2.2.1) (hno : ∀ i, i < h → ¬ cz_plc ((cw_E nx ok s0 h).2.1 i) = pl) {r : Int32} (eq : (cw_E nx ok s0 h).2.1 h = nI q) (hr : r = cz_plc (nI q)) (c : r = pl) : cw_hit nx ok s0 pl h := ⟨hlt, by rw [eq, ← hr]; exact c, hno⟩
end CWF
/-- what find tells, of its answer and of its arrays -/
def cw_fA (nx : Nat → Nat → Nat) (ok : Nat → Bool) (s0 : Nat) (pl r : Int32) : Prop := (∃ j : Nat, cw_hit nx ok s0 pl j ∧ r = (cw_E nx ok s0 j).2.1 j) ∨ (cw_none nx ok s0 pl ∧ r = -1)
def cw_fZ (nx : Nat → Nat → Nat) (ok : Nat → Bool) (s0 : Nat) (pl : Int32) (t2 t3 : Nat → Int32) : Prop := (∃ j q : Nat, cw_hit nx ok s0 pl j ∧ q < 80 ∧ (cw_E nx ok s0 j).2.1 j = nI q ∧ t2 q = nI ((cw_E nx ok s0 j).2.2.2 q) ∧ t3 q = cw_fc ((cw_E nx ok s0 j).1 q)) ∨ cw_none nx ok s0 pl
theorem cw_wa {nx : Nat → Nat → Nat} {ok : Nat → Bool} {s0 : Nat} {pl what r : Int32} (hs : s0 < 80) (h : cw_fA nx ok s0 pl r) (c : r = -1) : cw_ans nx ok s0 pl what (-1) := by
  rcases h with ⟨j, h1, h2⟩ | ⟨h1, -⟩
  · obtain ⟨q, hq, e, -⟩ := (cw_E_J (nx := nx) (ok := ok) hs j).q h1.1
    rw [h2, e] at c
    exact absurd c (cw_l1 (show q ≤ 1000 by omega)).1
  · exact Or.inr ⟨h1, rfl⟩
theorem cw_wb {nx : Nat → Nat → Nat} {ok : Nat → Bool} {s0 : Nat} {pl what r x : Int32} {t2 t3 : Nat → Int32} (h : cw_fA nx ok s0 pl r) (z : cw_fZ nx ok s0 pl t2 t3) (c : ¬ r = -1) (hx : (what = 0 ∧ x = cw_at t2 r) ∨ (¬ what = 0 ∧ x = cw_at t3 r)) : cw_ans nx ok s0 pl what x := by
  rcases h with ⟨j, h1, h2⟩ | ⟨-, h2⟩
  · rcases z with ⟨j', q, z1, z2, z3, z4, z5⟩ | z
    · have e : j = j' := by
        have := cw_hit_lt h1 z1
        have := cw_hit_lt z1 h1
        omega
      subst e
      refine Or.inl ⟨j, q, h1, z2, z3, ?_⟩
      rw [z3] at h2
      rcases hx with ⟨x1, x2⟩ | ⟨x1, x2⟩
      · rw [if_pos x1, x2, h2, cw_at_n z2, z4]
      · rw [if_neg x1, x2, h2, cw_at_n z2, z5]
    · exact (cw_hit_none h1 z).elim
  · exact absurd h2 c
/-- a stance is none, or one -/
def cw_st (a0 : Int32) : Prop := a0 = -1 ∨ ∃ s : Nat, s < 80 ∧ a0 = nI s
def cw_wayP (nx : Nat → Nat → Nat) (ok : Nat → Bool) (pl what a0 : Int32) (s0 : Nat) (r : Int32) : Prop := (¬ cz_in 0 pl 19 ∧ r = -101) ∨ (cz_in 0 pl 19 ∧ ¬ cz_in 0 what 1 ∧ r = -102) ∨ (cz_in 0 pl 19 ∧ cz_in 0 what 1 ∧ a0 = -1 ∧ r = -103) ∨ (cz_in 0 pl 19 ∧ cz_in 0 what 1 ∧ ¬ a0 = -1 ∧ cw_ans nx ok s0 pl what r)
theorem cw_w01 {x : Int32} (h1 : ¬ x < 0) (h2 : x ≤ 1) : cz_in 0 x 1 := by
  constructor
  · simp only [cz_lt, cz_le] at *; omega
  · exact h2
theorem cw_n01 {x : Int32} (h : x < 0 ∨ ¬ x ≤ 1) : ¬ cz_in 0 x 1 := by
  rintro ⟨a, b⟩
  simp only [cz_lt, cz_le] at *
  omega
