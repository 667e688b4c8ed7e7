/-! ROOM: mirrors of the reference -/
/-- one more stands there -/
def cm_mo (g : Nat → Int32) (x : Int32) : Nat → Bool
  | 0 => false
  | k + 1 => cm_mo g x k || (g k == x)
theorem cm_mo_iff {g : Nat → Int32} {x : Int32} : ∀ t, cm_mo g x t = true ↔ ∃ i, i < t ∧ g i = x := by
  intro t
  induction t with
  | zero => exact ⟨fun h => absurd (show false = true from h) (by decide), fun ⟨i, h, _⟩ => absurd h (Nat.not_lt_zero _)⟩
  | succ t ih =>
    rw [cm_mo, Bool.or_eq_true, ih, beq_iff_eq]
    constructor
    · rintro (⟨i, h1, h2⟩ | h)
      · exact ⟨i, by omega, h2⟩
      · exact ⟨t, by omega, h⟩
    · rintro ⟨i, h1, h2⟩
      by_cases e : i = t
      · subst e; exact Or.inr h2
      · exact Or.inl ⟨i, by omega, h2⟩
theorem cm_mo1 {g : Nat → Int32} {x y : Int32} {k : Nat} (hm : y = cz_b1 (cm_mo g x k)) (c : ¬ y = 0) : (1 : Int32) = cz_b1 (cm_mo g x (k + 1)) := by
  rw [cm_mo, cz_b1_1 (fun q => c (hm.trans q))]; rfl
theorem cm_mo2 {g : Nat → Int32} {x : Int32} {k : Nat} (h : g k = x) : (1 : Int32) = cz_b1 (cm_mo g x (k + 1)) := by
  rw [cm_mo, beq_iff_eq.mpr h, Bool.or_true]; rfl
theorem cm_mo3 {g : Nat → Int32} {x y : Int32} {k : Nat} (hm : y = cz_b1 (cm_mo g x k)) (c : y = 0) (h : ¬ g k = x) : (0 : Int32) = cz_b1 (cm_mo g x (k + 1)) := by
  rw [cm_mo, cz_b1_0 (hm.symm.trans c), beq_eq_false_iff_ne.mpr h]; rfl
/-- along a line, as long as C holds -/
def cm_clr (C : Int32 → Bool) (st to : Int32) : Nat → Int32 → Int32 → Int32
  | 0, _, is => is
  | n + 1, x, is => if x = to then is else cm_clr C st to n (x + st) (if ¬ is = 0 ∧ C x = true then 1 else 0)
section CMC
variable {C : Int32 → Bool} {st to : Int32}
theorem cm_clr_to (n : Nat) {x is : Int32} (e : x = to) : cm_clr C st to n x is = is := by
  cases n with
  | zero => rfl
  | succ n => rw [cm_clr, if_pos e]
theorem cm_clr_f : ∀ (n : Nat) (x is : Int32), x + nI n * st = to → ∀ m m' : Nat, n ≤ m → n ≤ m' → cm_clr C st to m x is = cm_clr C st to m' x is := by
  intro n
  induction n with
  | zero =>
    intro x is h m m' _ _
    rw [cm_clr_to m (cz_mz h), cm_clr_to m' (cz_mz h)]
  | succ n ih =>
    intro x is h m m' h1 h2
    by_cases e : x = to
    · rw [cm_clr_to m e, cm_clr_to m' e]
    · obtain ⟨q, rfl⟩ : ∃ q, m = q + 1 := ⟨m - 1, by omega⟩
      obtain ⟨q', rfl⟩ : ∃ q, m' = q + 1 := ⟨m' - 1, by omega⟩
      rw [cm_clr, cm_clr, if_neg e, if_neg e]
      exact ih _ _ (cz_ms h rfl) q q' (by omega) (by omega)
theorem cm_clr_b {n : Nat} {x is x' v R : Int32} (h : ∀ m : Nat, n + 1 ≤ m → cm_clr C st to m x is = R) (hne : ¬ x = to) (hv : v = if ¬ is = 0 ∧ C x = true then 1 else 0) (hx : x' = x + st) : ∀ m : Nat, n ≤ m → cm_clr C st to m x' v = R := by
  intro m hm
  have q := h (m + 1) (by omega)
  rw [cm_clr, if_neg hne, ← hv, ← hx] at q
  exact q
theorem cm_clr_e {n : Nat} {x is R : Int32} (h : ∀ m : Nat, n ≤ m → cm_clr C st to m x is = R) (e : x = to) : is = R := by
  have q := h n (Nat.le_refl _)
  rw [cm_clr_to n e] at q
  exact q
theorem cm_clr_i {a b is : Int32} {n : Nat} (hn : n ≤ 3) (h : a + cz_step a b + nI n * cz_step a b = b) : ∀ m : Nat, n ≤ m → cm_clr C (cz_step a b) b m (a + cz_step a b) is = cm_clr C (cz_step a b) b 4 (a + cz_step a b) is := fun m hm => cm_clr_f n _ _ h m 4 hm (by omega)
end CMC
def cm_C (kind : Int32) (g6 : Nat → Int32) (t : Nat) (x : Int32) : Bool := (kind == 3) || !(cm_mo g6 x t)
/-- GUILTY with more people about -/
abbrev cm_ga (kind p : Int32) (g6 : Nat → Int32) (t : Nat) (da ds fl : Int32) (g2 : Nat → Int32) (k : Nat) : Prop := ¬ cz_wt da p = -1 ∧ ¬ kind = 4 ∧ ¬ (kind = 2 ∧ 2 < cz_far da p) ∧ ¬ cm_clr (cm_C kind g6 t) (cz_step da p) p 4 (da + cz_step da p) (cz_cl fl da g2 k (cz_pe kind) da p) = 0 ∧ (cz_sw1 kind (cz_tn (cz_wt da p) ds) = 2 ∨ cz_sw1 kind (cz_tn (cz_wt da p) ds) = 3)
theorem cm_C3 {kind x : Int32} {g6 : Nat → Int32} {t : Nat} (h : kind = 3) : cm_C kind g6 t x = true := by unfold cm_C; rw [beq_iff_eq.mpr h, Bool.true_or]
theorem cm_Cm {kind x r : Int32} {g6 : Nat → Int32} {t : Nat} (h : ¬ kind = 3) (hr : r = cz_b1 (cm_mo g6 x t)) (c : ¬ r = 0) : cm_C kind g6 t x = false := by
  unfold cm_C
  rw [beq_eq_false_iff_ne.mpr h, Bool.false_or, cz_b1_1 (fun q => c (hr.trans q))]; rfl
theorem cm_Cn {kind x r : Int32} {g6 : Nat → Int32} {t : Nat} (hr : r = cz_b1 (cm_mo g6 x t)) (c : r = 0) : cm_C kind g6 t x = true := by
  unfold cm_C
  rw [cz_b1_0 (hr.symm.trans c), Bool.not_false, Bool.or_true]
/-! ROOM: what isGuiltyAt, isRoom and findRoom answer -/
theorem cm_v0 {C : Int32 → Bool} {is x : Int32} (h : is = 0) : (0 : Int32) = if ¬ is = 0 ∧ C x = true then 1 else 0 := by rw [if_neg (fun q => q.1 h)]
theorem cm_v1 {C : Int32 → Bool} {is x : Int32} (h : ¬ is = 0) (hc : C x = true) : (1 : Int32) = if ¬ is = 0 ∧ C x = true then 1 else 0 := by rw [if_pos ⟨h, hc⟩]
theorem cm_v2 {C : Int32 → Bool} {is x : Int32} (hc : C x = false) : (0 : Int32) = if ¬ is = 0 ∧ C x = true then 1 else 0 := by rw [if_neg (fun q => by rw [hc] at q; exact absurd q.2 (by decide))]
section CGA
variable {kind p da ds fl way cl pe x yb : Int32} {g6 g2 : Nat → Int32} {t k : Nat}
theorem cm_ga_n1 (hw : way = cz_wt da p) (h : way = -1) : ¬ cm_ga kind p g6 t da ds fl g2 k := fun q => q.1 (hw.symm.trans h)
theorem cm_ga_n2 (h : kind = 4) : ¬ cm_ga kind p g6 t da ds fl g2 k := fun q => q.2.1 h
theorem cm_far {r : Int32} (hr : r = cz_far da p) (h : ¬ r ≤ 2) : 2 < cz_far da p := by
  rw [← hr]
  simp only [cz_lt, cz_le] at *
  omega
theorem cm_ga_n3 {r : Int32} (h2 : kind = 2) (hr : r = cz_far da p) (h : ¬ r ≤ 2) : ¬ cm_ga kind p g6 t da ds fl g2 k := fun q => q.2.2.1 ⟨h2, cm_far hr h⟩
theorem cm_ga_n4 (hp : cz_pe kind = pe) (hc : cl = cz_cl fl da g2 k pe da p) (hR : yb = cm_clr (cm_C kind g6 t) (cz_step da p) p 4 (da + cz_step da p) cl) (h : yb = 0) : ¬ cm_ga kind p g6 t da ds fl g2 k := fun q => q.2.2.2.1 (by rw [hp, ← hc, ← hR]; exact h)
theorem cm_ga_n5 (hw : way = cz_wt da p) (ht : x = cz_tn way ds) (h : ¬ (cz_sw1 kind x = 2 ∨ cz_sw1 kind x = 3)) : ¬ cm_ga kind p g6 t da ds fl g2 k := fun q => h (by rw [ht, hw]; exact q.2.2.2.2)
theorem cm_ga_y (hw : way = cz_wt da p) (h1 : ¬ way = -1) (h2 : ¬ kind = 4) (h3 : ¬ (kind = 2 ∧ 2 < cz_far da p)) (hp : cz_pe kind = pe) (hc : cl = cz_cl fl da g2 k pe da p) (hR : yb = cm_clr (cm_C kind g6 t) (cz_step da p) p 4 (da + cz_step da p) cl) (h4 : ¬ yb = 0) (ht : x = cz_tn way ds) (h5 : cz_sw1 kind x = 2 ∨ cz_sw1 kind x = 3) : cm_ga kind p g6 t da ds fl g2 k := ⟨fun q => h1 (hw.trans q), h2, h3, fun q => h4 (by rw [hp, ← hc, ← hR] at q; exact q), by rw [← hw, ← ht]; exact h5⟩
theorem cm_s0 (h : x = 0) (hk : kind = 1) : ¬ (cz_sw1 kind x = 2 ∨ cz_sw1 kind x = 3) := by
  unfold cz_sw1
  rw [if_pos h, if_pos hk]
  decide
theorem cm_s1 (h : x = 0) (hk : ¬ kind = 1) : cz_sw1 kind x = 2 ∨ cz_sw1 kind x = 3 := by
  unfold cz_sw1
  rw [if_pos h, if_neg hk]
  exact Or.inr rfl
theorem cm_s2 (h : ¬ x = 0) (hx : ¬ 4 ≤ x) : cz_sw1 kind x = 2 ∨ cz_sw1 kind x = 3 := by
  have h4 : ¬ x = 4 := fun q => hx (by rw [q]; decide)
  have h5 : x < 4 := by simp only [cz_lt, cz_le, cz_l] at *; omega
  unfold cz_sw1
  rw [if_neg h, if_neg h4, if_pos h5]
  exact Or.inl rfl
theorem cm_s3 (h : ¬ x = 0) (hx : 4 ≤ x) : ¬ (cz_sw1 kind x = 2 ∨ cz_sw1 kind x = 3) := by
  have h5 : ¬ x < 4 := by simp only [cz_lt, cz_le, cz_l] at *; omega
  unfold cz_sw1
  rw [if_neg h, if_neg h5]
  split <;> decide
end CGA
/-- of which KIND, and where, is so-manieth one of all -/
def cm_rk (g1 : Nat → Int32) (k c : Nat) : Int32 := if c < k then g1 c else 0
def cm_rp (g2 g6 : Nat → Int32) (k c : Nat) : Int32 := if c < k then g2 c else g6 (c - k)
theorem cm_rk1 {g1 : Nat → Int32} {k c : Nat} (h : ¬ k ≤ c) : g1 c = cm_rk g1 k c := by unfold cm_rk; rw [if_pos (by omega)]
theorem cm_rk2 {g1 : Nat → Int32} {k c : Nat} (h : k ≤ c) : 0 = cm_rk g1 k c := by unfold cm_rk; rw [if_neg (by omega)]
theorem cm_rp1 {g2 g6 : Nat → Int32} {k c : Nat} (h : ¬ k ≤ c) : g2 c = cm_rp g2 g6 k c := by unfold cm_rp; rw [if_pos (by omega)]
theorem cm_rp2 {g2 g6 : Nat → Int32} {k c : Nat} (h : k ≤ c) : g6 (c - k) = cm_rp g2 g6 k c := by unfold cm_rp; rw [if_neg (by omega)]
/-- nobody of the first so many is GUILTY -/
def cm_rB (g1 g2 g6 : Nat → Int32) (t : Nat) (da ds fl : Int32) (k : Nat) : Nat → Bool
  | 0 => true
  | c + 1 => cm_rB g1 g2 g6 t da ds fl k c && !decide (cm_ga (cm_rk g1 k c) (cm_rp g2 g6 k c) g6 t da ds fl g2 k)
section CRB
variable {g1 g2 g6 : Nat → Int32} {t : Nat} {da ds fl : Int32} {k c : Nat} {y K P : Int32}
theorem cm_rB0 (hm : y = cz_b1 (cm_rB g1 g2 g6 t da ds fl k c)) (h : y = 0) : (0 : Int32) = cz_b1 (cm_rB g1 g2 g6 t da ds fl k (c + 1)) := by
  rw [cm_rB, cz_b1_0 (hm.symm.trans h), Bool.false_and]; rfl
theorem cm_rB1 (hm : y = cz_b1 (cm_rB g1 g2 g6 t da ds fl k c)) (h : ¬ y = 0) (hk : K = cm_rk g1 k c) (hp : P = cm_rp g2 g6 k c) (hg : ¬ cm_ga K P g6 t da ds fl g2 k) : (1 : Int32) = cz_b1 (cm_rB g1 g2 g6 t da ds fl k (c + 1)) := by
  rw [cm_rB, cz_b1_1 (fun q => h (hm.trans q)), ← hk, ← hp, decide_eq_false hg]; rfl
theorem cm_rB2 (hk : K = cm_rk g1 k c) (hp : P = cm_rp g2 g6 k c) (hg : cm_ga K P g6 t da ds fl g2 k) : (0 : Int32) = cz_b1 (cm_rB g1 g2 g6 t da ds fl k (c + 1)) := by
  rw [cm_rB, ← hk, ← hp, decide_eq_true hg, Bool.not_true, Bool.and_false]; rfl
theorem cm_rB_iff : ∀ n, cm_rB g1 g2 g6 t da ds fl k n = true ↔ ∀ c, c < n → ¬ cm_ga (cm_rk g1 k c) (cm_rp g2 g6 k c) g6 t da ds fl g2 k := by
  intro n
  induction n with
  | zero => exact ⟨fun _ c h => absurd h (Nat.not_lt_zero _), fun _ => rfl⟩
  | succ n ih =>
    rw [cm_rB, Bool.and_eq_true, ih, Bool.not_eq_true', decide_eq_false_iff_not]
    constructor
    · rintro ⟨h1, h2⟩ c hc
      by_cases e : c = n
      · subst e; exact h2
      · exact h1 c (by omega)
    · intro h
      exact ⟨fun c hc => h c (by omega), h n (by omega)⟩
end CRB
theorem cm_mo_cg {f f' : Nat → Int32} {x : Int32} : ∀ t, (∀ i, i < t → f i = f' i) → cm_mo f x t = cm_mo f' x t := by
  intro t
  induction t with
  | zero => intro _; rfl
  | succ t ih => intro h; rw [cm_mo, cm_mo, ih (fun i hi => h i (by omega)), h t (by omega)]
theorem cm_ga_cg {kind p da ds fl : Int32} {f f' g2 : Nat → Int32} {t k : Nat} (h : ∀ i, i < t → f i = f' i) : cm_ga kind p f t da ds fl g2 k ↔ cm_ga kind p f' t da ds fl g2 k := by
  have e : cm_C kind f t = cm_C kind f' t := by
    funext x
    unfold cm_C
    rw [cm_mo_cg t h]
  unfold cm_ga
  rw [e]
def cm_O (f : Nat → Int32) : Prop := ¬ f 1 ≤ f 0 ∧ ¬ f 2 ≤ f 1
/-- so many more could stand on these PLACES -/
def cm_Pf (fl da ds : Int32) (g1 g2 : Nat → Int32) (k t : Nat) (f : Nat → Int32) : Prop := (cm_O f ∧ ∀ i, i < t → cz_em fl da (f i) g2 k) ∧ cm_rB g1 g2 f t da ds fl k (k + t) = true
theorem cm_Pf_cg {fl da ds : Int32} {g1 g2 f f' : Nat → Int32} {k t : Nat} (ht : t ≤ 3) (h : ∀ i, i < 3 → f i = f' i) (hp : cm_Pf fl da ds g1 g2 k t f) : cm_Pf fl da ds g1 g2 k t f' := by
  obtain ⟨⟨h1, h2⟩, h3⟩ := hp
  refine ⟨⟨?_, fun i hi => ?_⟩, ?_⟩
  · unfold cm_O at *
    rw [← h 0 (by omega), ← h 1 (by omega), ← h 2 (by omega)]
    exact h1
  · rw [← h i (by omega)]; exact h2 i hi
  · rw [cm_rB_iff] at *
    intro c hc q
    have e : cm_rp g2 f k c = cm_rp g2 f' k c := by
      unfold cm_rp
      split
      · rfl
      · exact h _ (by omega)
    refine h3 c hc ?_
    rw [e]
    exact (cm_ga_cg (fun i hi => h i (by omega))).mpr q
def cm_gF (t c : Nat) : Nat → Int32 := fun i => nI (cm_gf t c i)
def cm_Pm (fl da ds : Int32) (g1 g2 : Nat → Int32) (k t c : Nat) : Prop := cm_Pf fl da ds g1 g2 k t (cm_gF t c)
def cm_fn (P : Nat → Prop) (N : Nat) : Prop := ∀ c, c < N → ¬ P c
def cm_fy (P : Nat → Prop) (t N : Nat) (f : Nat → Int32) : Prop := ∃ c, c < N ∧ P c ∧ (∀ c', c' < c → ¬ P c') ∧ ∀ k, k < 3 → f k = nI (cm_gf t c k)
theorem cm_fn0 {P : Nat → Prop} : cm_fn P 0 := fun _ h => absurd h (Nat.not_lt_zero _)
theorem cm_fn1 {P : Nat → Prop} {n : Nat} (h : cm_fn P n) (hn : ¬ P n) : cm_fn P (n + 1) := by
  intro c hc
  by_cases e : c = n
  · subst e; exact hn
  · exact h c (by omega)
theorem cm_w61 {y : Nat → Int32} {c : Nat} : ∀ k, k < 3 → (upd (upd (upd y 0 (nI c)) 1 20) 2 21) k = nI (cm_gf 1 c k) := by
  intro k hk
  rcases (show k = 0 ∨ k = 1 ∨ k = 2 by omega) with rfl | rfl | rfl
  · rw [pk_un (by decide), pk_un (by decide), pk_us]; rfl
  · rw [pk_un (by decide), pk_us]; rfl
  · rw [pk_us]; rfl
theorem cm_w62 {y : Nat → Int32} {c : Nat} : ∀ k, k < 3 → (upd (upd (upd y 0 (nI (c / 20))) 1 (nI (c % 20))) 2 21) k = nI (cm_gf 2 c k) := by
  intro k hk
  rcases (show k = 0 ∨ k = 1 ∨ k = 2 by omega) with rfl | rfl | rfl
  · rw [pk_un (by decide), pk_un (by decide), pk_us]; rfl
  · rw [pk_un (by decide), pk_us]; rfl
  · rw [pk_us]; rfl
theorem cm_w63 {y : Nat → Int32} {c : Nat} : ∀ k, k < 3 → (upd (upd (upd y 0 (nI (c / 400))) 1 (nI (c / 20 % 20))) 2 (nI (c % 20))) k = nI (cm_gf 3 c k) := by
  intro k hk
  rcases (show k = 0 ∨ k = 1 ∨ k = 2 by omega) with rfl | rfl | rfl
  · rw [pk_un (by decide), pk_un (by decide), pk_us]; rfl
  · rw [pk_un (by decide), pk_us]; rfl
  · rw [pk_us]; rfl
theorem cm_gf_lt {t c k : Nat} (ht : 1 ≤ t) (ht3 : t ≤ 3) (hc : c < cm_N t) (hk : k < t) : cm_gf t c k < 20 := by
  rcases (show t = 1 ∨ t = 2 ∨ t = 3 by omega) with rfl | rfl | rfl
  · have : k = 0 := by omega
    subst this; exact hc
  · have hc : c < 400 := hc
    rcases (show k = 0 ∨ k = 1 by omega) with rfl | rfl
    · show c / 20 < 20; omega
    · show c % 20 < 20; omega
  · have hc : c < 8000 := hc
    rcases (show k = 0 ∨ k = 1 ∨ k = 2 by omega) with rfl | rfl | rfl
    · show c / 400 < 20; omega
    · show c / 20 % 20 < 20; omega
    · show c % 20 < 20; omega
theorem cm_rmW {w : Nat → Int32} {t c : Nat} (ht : 1 ≤ t) (ht3 : t ≤ 3) (hc : c < cm_N t) (h : ∀ k, k < 3 → w k = nI (cm_gf t c k)) : cz_rm w t := by
  intro k hk
  rw [h k (by omega)]
  exact cz_in_nI (cm_gf_lt ht ht3 hc hk)
/-- what the inner loop keeps -/
def cm_my (fl da : Int32) (g2 : Nat → Int32) (k t : Nat) (f : Nat → Int32) (y : Int32) (n : Nat) : Prop := (y = 1 ∧ cm_O f ∧ ∀ i, i < n → cz_em fl da (f i) g2 k) ∨ (y = 0 ∧ ¬ (cm_O f ∧ ∀ i, i < t → cz_em fl da (f i) g2 k))
section CMY
variable {fl da ds : Int32} {g1 g2 f : Nat → Int32} {k t n c : Nat} {y r : Int32}
theorem cm_myi1 (h0 : ¬ f 1 ≤ f 0) (h1 : ¬ f 2 ≤ f 1) : cm_my fl da g2 k t f 1 0 := Or.inl ⟨rfl, ⟨h0, h1⟩, fun _ h => absurd h (Nat.not_lt_zero _)⟩
theorem cm_myi0 (h0 : f 1 ≤ f 0) : cm_my fl da g2 k t f 0 0 := Or.inr ⟨rfl, fun q => q.1.1 h0⟩
theorem cm_myi2 (h1 : f 2 ≤ f 1) : cm_my fl da g2 k t f 0 0 := Or.inr ⟨rfl, fun q => q.1.2 h1⟩
theorem cm_my1 (h : cm_my fl da g2 k t f y n) (hy : ¬ y = 0) (he : cz_em fl da (f n) g2 k) : cm_my fl da g2 k t f 1 (n + 1) := by
  rcases h with ⟨h1, h2, h3⟩ | ⟨h1, -⟩
  · refine Or.inl ⟨rfl, h2, fun i hi => ?_⟩
    by_cases e : i = n
    · rw [e]; exact he
    · exact h3 i (by omega)
  · exact absurd h1 hy
theorem cm_my0 (hn : n < t) (he : ¬ cz_em fl da (f n) g2 k) : cm_my fl da g2 k t f 0 (n + 1) := Or.inr ⟨rfl, fun q => he (q.2 n hn)⟩
theorem cm_myx0 (h : cm_my fl da g2 k t f y n) (hy : y = 0) : cm_my fl da g2 k t f y t := by
  rcases h with ⟨h1, -⟩ | h
  · rw [hy] at h1; exact absurd h1 (by decide)
  · exact Or.inr h
theorem cm_myxt (h : cm_my fl da g2 k t f y n) (e : n = t) : cm_my fl da g2 k t f y t := by subst e; exact h
theorem cm_np1 (ht : t ≤ 3) (hg : ∀ k, k < 3 → f k = nI (cm_gf t c k)) (h : cm_my fl da g2 k t f y t) (hy : y = 0) : ¬ cm_Pm fl da ds g1 g2 k t c := by
  intro q
  have q' : cm_Pf fl da ds g1 g2 k t f := cm_Pf_cg ht (fun i hi => (hg i hi).symm) q
  rcases h with ⟨h1, -⟩ | ⟨-, h⟩
  · rw [hy] at h1; exact absurd h1 (by decide)
  · exact h q'.1
theorem cm_np2 (ht : t ≤ 3) (hg : ∀ k, k < 3 → f k = nI (cm_gf t c k)) (hr : r = cz_b1 (cm_rB g1 g2 f t da ds fl k (k + t))) (h0 : r = 0) : ¬ cm_Pm fl da ds g1 g2 k t c := by
  intro q
  have q' : cm_Pf fl da ds g1 g2 k t f := cm_Pf_cg ht (fun i hi => (hg i hi).symm) q
  have := q'.2
  rw [cz_b1_0 (hr.symm.trans h0)] at this
  exact absurd this (by decide)
theorem cm_yp (ht : t ≤ 3) (hg : ∀ k, k < 3 → f k = nI (cm_gf t c k)) (h : cm_my fl da g2 k t f y t) (hy : ¬ y = 0) (hr : r = cz_b1 (cm_rB g1 g2 f t da ds fl k (k + t))) (h1 : ¬ r = 0) : cm_Pm fl da ds g1 g2 k t c := by
  refine cm_Pf_cg (f := f) ht hg ⟨?_, cz_b1_1 (fun q => h1 (hr.trans q))⟩
  rcases h with ⟨-, h⟩ | ⟨h, -⟩
  · exact h
  · exact absurd h hy
end CMY
def cm_rN (fl da ds : Int32) (g1 g2 : Nat → Int32) (k : Nat) (many i r : Int32) : Prop := cm_rM (cm_Pm fl da ds g1 g2 k many.toNatClampNeg) many.toNatClampNeg i.toNatClampNeg r
section CRN
variable {fl da ds : Int32} {g1 g2 : Nat → Int32} {k : Nat} {p0 p1 x : Int32}
theorem cm_in {x : Int32} {a b : Nat} (hb : b < 100) (h : cz_in (nI a) x (nI b)) (ha : a < 100) : ∃ n : Nat, a ≤ n ∧ n ≤ b ∧ x = nI n := by
  obtain ⟨h1, h2⟩ := h
  have e1 : (nI a).toInt = (a : Int) := nI_toInt (by omega)
  have e2 : (nI b).toInt = (b : Int) := nI_toInt (by omega)
  have h3 : ¬ x < 0 := by simp only [cz_lt, cz_le, cz_l, e1] at *; omega
  have h4 : x ≤ nI b := h2
  obtain ⟨n, hn, e⟩ := nI_of2 (x := x) (M := nI b) (n := b) (by rw [e2]) h3 h4
  refine ⟨n, ?_, hn, e⟩
  rw [e] at h1
  exact (nI_leI (a := a) (b := n) (by omega) (by omega)).mp h1
theorem cm_rN_a (hm : cz_in 1 p0 3) (hi : cz_in 0 p1 2) (h : p0 ≤ p1) : cm_rN fl da ds g1 g2 k p0 p1 (-1) := by
  obtain ⟨t, t1, t2, rfl⟩ := cm_in (a := 1) (b := 3) (by omega) hm (by omega)
  obtain ⟨i, i1, i2, rfl⟩ := cm_in (a := 0) (b := 2) (by omega) hi (by omega)
  unfold cm_rN
  rw [nI_clamp (n := t) (by omega), nI_clamp (n := i) (by omega)]
  exact Or.inl ⟨(nI_leI (a := t) (b := i) (by omega) (by omega)).mp h, rfl⟩
theorem cm_rN_b {t : Nat} (ht : t ≤ 3) (hi : cz_in 0 p1 2) (h : ¬ nI t ≤ p1) (hf : cm_fn (cm_Pm fl da ds g1 g2 k t) (cm_N t)) : cm_rN fl da ds g1 g2 k (nI t) p1 (-1) := by
  obtain ⟨i, i1, i2, rfl⟩ := cm_in (a := 0) (b := 2) (by omega) hi (by omega)
  unfold cm_rN
  rw [nI_clamp (n := t) (by omega), nI_clamp (n := i) (by omega)]
  have hlt : i < t := by
    rcases Nat.lt_or_ge i t with q | q
    · exact q
    · exact absurd ((nI_leI (a := t) (b := i) (by omega) (by omega)).mpr q) h
  exact Or.inr (Or.inl ⟨hlt, hf, rfl⟩)
theorem cm_rN_c {t : Nat} {t6 : Nat → Int32} (ht : t ≤ 3) (hi : cz_in 0 p1 2) (h : ¬ nI t ≤ p1) (hf : cm_fy (cm_Pm fl da ds g1 g2 k t) t (cm_N t) t6 ∨ cm_fn (cm_Pm fl da ds g1 g2 k t) (cm_N t)) (hn : ¬ cm_fn (cm_Pm fl da ds g1 g2 k t) (cm_N t)) (hx : x = t6 p1.toNatClampNeg) : cm_rN fl da ds g1 g2 k (nI t) p1 x := by
  obtain ⟨i, i1, i2, rfl⟩ := cm_in (a := 0) (b := 2) (by omega) hi (by omega)
  unfold cm_rN
  rw [nI_clamp (n := i) (by omega)] at hx ⊢
  rw [nI_clamp (n := t) (by omega)]
  have hlt : i < t := by
    rcases Nat.lt_or_ge i t with q | q
    · exact q
    · exact absurd ((nI_leI (a := t) (b := i) (by omega) (by omega)).mpr q) h
  obtain ⟨c, c1, c2, c3, c4⟩ := hf.resolve_right hn
  exact Or.inr (Or.inr ⟨hlt, c, c1, c2, c3, by rw [hx]; exact c4 i (by omega)⟩)
end CRN
def cm_rMP (fl da ds : Int32) (g1 g2 : Nat → Int32) (k : Nat) (many i r : Int32) : Prop := (¬ (cz_in 1 many 3 ∧ cz_in 0 i 2) ∧ r = -102) ∨ ((cz_in 1 many 3 ∧ cz_in 0 i 2) ∧ da = -1 ∧ r = -103) ∨ ((cz_in 1 many 3 ∧ cz_in 0 i 2) ∧ ¬ da = -1 ∧ cm_rN fl da ds g1 g2 k many i r)
