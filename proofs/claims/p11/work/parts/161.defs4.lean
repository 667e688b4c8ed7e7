/-! the reference: WAYS, how far, what is between, what one SEES -/
def cz_wt3 (c : Int32) : Int32 := if c = -3 then 0 else if c = -2 then 1 else if c = 1 then 2 else if c = 4 then 3 else if c = 3 then 4 else if c = 2 then 5 else if c = -1 then 6 else 7
def cz_wt (a b : Int32) : Int32 := if cz_dn a b = 0 ∧ cz_rg a b = 0 then -1 else if ¬ cz_dn a b = 0 ∧ ¬ cz_rg a b = 0 ∧ ¬ cz_abs (cz_dn a b) = cz_abs (cz_rg a b) then -1 else cz_wt3 (3 * cz_sgn (cz_dn a b) + cz_sgn (cz_rg a b))
theorem cz_wt_n1 {a b X Y : Int32} (eX : X = cz_dn a b) (eY : Y = cz_rg a b) (h1 : X = 0) (h2 : Y = 0) : cz_wt a b = -1 := by
  unfold cz_wt
  rw [← eX, ← eY, if_pos ⟨h1, h2⟩]
theorem cz_wt_n2 {a b X Y : Int32} (eX : X = cz_dn a b) (eY : Y = cz_rg a b) (h1 : ¬ X = 0) (h2 : ¬ Y = 0) (h3 : ¬ cz_abs X = cz_abs Y) : cz_wt a b = -1 := by
  unfold cz_wt
  rw [← eX, ← eY, if_neg (fun h => h1 h.1), if_pos ⟨h1, h2, h3⟩]
theorem cz_wt3_d {c : Int32} (h : c.toInt < -3 ∨ 4 < c.toInt) : cz_wt3 c = 7 := by
  unfold cz_wt3
  have h1 : ∀ v : Int32, -3 ≤ v.toInt → v.toInt ≤ 4 → ¬ c = v := fun v a b e => by rw [e] at h; omega
  rw [if_neg (h1 (-3) (by decide) (by decide)), if_neg (h1 (-2) (by decide) (by decide)), if_neg (h1 1 (by decide) (by decide)), if_neg (h1 4 (by decide) (by decide)), if_neg (h1 3 (by decide) (by decide)), if_neg (h1 2 (by decide) (by decide)), if_neg (h1 (-1) (by decide) (by decide))]
theorem cz_wt_c {a b X Y c v : Int32} (eX : X = cz_dn a b) (eY : Y = cz_rg a b) (h1 : ¬ (X = 0 ∧ Y = 0)) (h2 : X = 0 ∨ Y = 0 ∨ cz_abs X = cz_abs Y) (hc : c = 3 * cz_sgn X + cz_sgn Y) (hv : v = cz_wt3 c) : cz_wt a b = v := by
  unfold cz_wt
  rw [← eX, ← eY, if_neg h1, if_neg (fun h => by rcases h2 with q | q | q; exact h.1 q; exact h.2.1 q; exact h.2.2 q), ← hc, hv]
def cz_far (a b : Int32) : Int32 := if cz_abs (cz_dn a b) ≤ cz_abs (cz_rg a b) then cz_abs (cz_rg a b) else cz_abs (cz_dn a b)
def cz_clr (fl da : Int32) (g : Nat → Int32) (k : Nat) (pe st to : Int32) : Nat → Int32 → Int32 → Int32
  | 0, _, is => is
  | n + 1, x, is => if x = to then is else cz_clr fl da g k pe st to n (x + st) (if ¬ is = 0 ∧ cz_hs fl x ∧ (pe = 0 ∨ cz_wo da x g k = -1) then 1 else 0)
/-- nothing is between -/
def cz_cl (fl da : Int32) (g : Nat → Int32) (k : Nat) (pe a b : Int32) : Int32 := cz_clr fl da g k pe (cz_step a b) b 4 (a + cz_step a b) 1
section CCL
variable {fl da : Int32} {g : Nat → Int32} {k : Nat} {pe st to : Int32}
theorem cz_clr_to (n : Nat) {x is : Int32} (e : x = to) : cz_clr fl da g k pe st to n x is = is := by
  cases n with
  | zero => rfl
  | succ n => rw [cz_clr, if_pos e]
theorem cz_clr_f : ∀ (n : Nat) (x is : Int32), x + nI n * st = to → ∀ m m' : Nat, n ≤ m → n ≤ m' → cz_clr fl da g k pe st to m x is = cz_clr fl da g k pe st to m' x is := by
  intro n
  induction n with
  | zero =>
    intro x is h m m' _ _
    rw [cz_clr_to m (cz_mz h), cz_clr_to m' (cz_mz h)]
  | succ n ih =>
    intro x is h m m' h1 h2
    by_cases e : x = to
    · rw [cz_clr_to m e, cz_clr_to m' e]
    · obtain ⟨q, rfl⟩ : ∃ q, m = q + 1 := ⟨m - 1, by omega⟩
      obtain ⟨q', rfl⟩ : ∃ q, m' = q + 1 := ⟨m' - 1, by omega⟩
      rw [cz_clr, cz_clr, if_neg e, if_neg e]
      exact ih _ _ (cz_ms h rfl) q q' (by omega) (by omega)
theorem cz_clr_b {n : Nat} {x is x' v R : Int32} (h : ∀ m : Nat, n + 1 ≤ m → cz_clr fl da g k pe st to m x is = R) (hne : ¬ x = to) (hv : v = if ¬ is = 0 ∧ cz_hs fl x ∧ (pe = 0 ∨ cz_wo da x g k = -1) then 1 else 0) (hx : x' = x + st) : ∀ m : Nat, n ≤ m → cz_clr fl da g k pe st to m x' v = R := by
  intro m hm
  have q := h (m + 1) (by omega)
  rw [cz_clr, if_neg hne, ← hv, ← hx] at q
  exact q
theorem cz_clr_e {n : Nat} {x is R : Int32} (h : ∀ m : Nat, n ≤ m → cz_clr fl da g k pe st to m x is = R) (e : x = to) : is = R := by
  have q := h n (Nat.le_refl _)
  rw [cz_clr_to n e] at q
  exact q
theorem cz_clr_i {a b : Int32} {n : Nat} (hn : n ≤ 3) (h : a + cz_step a b + nI n * cz_step a b = b) : ∀ m : Nat, n ≤ m → cz_clr fl da g k pe (cz_step a b) b m (a + cz_step a b) 1 = cz_cl fl da g k pe a b := fun m hm => cz_clr_f n _ _ h m 4 hm (by omega)
end CCL
def cz_pe (kind : Int32) : Int32 := if kind = 3 then 0 else if kind = 4 then 0 else 1
def cz_tn (way ds : Int32) : Int32 := (way - 2 * ds + 8) - (way - 2 * ds + 8) / 8 * 8
def cz_sw1 (kind t : Int32) : Int32 := if t = 0 then (if kind = 1 then 0 else 3) else if t = 4 then 4 else if t < 4 then 2 else 1
def cz_sw (kind p da ds fl : Int32) (g : Nat → Int32) (k : Nat) : Int32 := if da = -1 then 0 else if cz_wt da p = -1 then 0 else if kind = 2 ∧ 2 < cz_far da p then 0 else if cz_cl fl da g k (cz_pe kind) da p = 0 then 0 else cz_sw1 kind (cz_tn (cz_wt da p) ds)
theorem cz_pe3 {kind : Int32} (h : kind = 3) : cz_pe kind = 0 := by unfold cz_pe; rw [if_pos h]
theorem cz_pe4 {kind : Int32} (h : kind = 4) : cz_pe kind = 0 := by unfold cz_pe; rw [if_pos h]; split <;> rfl
theorem cz_pe1 {kind : Int32} (h3 : ¬ kind = 3) (h4 : ¬ kind = 4) : cz_pe kind = 1 := by unfold cz_pe; rw [if_neg h3, if_neg h4]
theorem cz_nlt {r f : Int32} (c : r ≤ 2) (hr : r = f) (h : 2 < f) : False := by
  rw [← hr] at h
  simp only [cz_lt, cz_le] at *
  omega
theorem cz_sw_a {kind p da ds fl : Int32} {g : Nat → Int32} {k : Nat} (h : da = -1) : (0 : Int32) = cz_sw kind p da ds fl g k := by unfold cz_sw; rw [if_pos h]
theorem cz_sw_b {kind p da ds fl way : Int32} {g : Nat → Int32} {k : Nat} (h1 : ¬ da = -1) (h2 : way = cz_wt da p) (h3 : way = -1) : (0 : Int32) = cz_sw kind p da ds fl g k := by unfold cz_sw; rw [if_neg h1, ← h2, if_pos h3]
theorem cz_sw_c {kind p da ds fl way r : Int32} {g : Nat → Int32} {k : Nat} (h1 : ¬ da = -1) (h2 : way = cz_wt da p) (h3 : ¬ way = -1) (h4 : kind = 2) (hr : r = cz_far da p) (h5 : ¬ r ≤ 2) : (0 : Int32) = cz_sw kind p da ds fl g k := by
  unfold cz_sw
  rw [if_neg h1, ← h2, if_neg h3, if_pos]
  refine ⟨h4, ?_⟩
  rw [← hr]
  simp only [cz_lt, cz_le] at *
  omega
theorem cz_sw_d {kind p da ds fl way cl pe : Int32} {g : Nat → Int32} {k : Nat} (h1 : ¬ da = -1) (h2 : way = cz_wt da p) (h3 : ¬ way = -1) (h4 : ¬ (kind = 2 ∧ 2 < cz_far da p)) (hp : cz_pe kind = pe) (h5 : cl = cz_cl fl da g k pe da p) (h6 : cl = 0) : (0 : Int32) = cz_sw kind p da ds fl g k := by
  unfold cz_sw
  rw [if_neg h1, ← h2, if_neg h3, if_neg h4, hp, ← h5, if_pos h6]
theorem cz_sw_e {kind p da ds fl way cl pe t v : Int32} {g : Nat → Int32} {k : Nat} (h1 : ¬ da = -1) (h2 : way = cz_wt da p) (h3 : ¬ way = -1) (h4 : ¬ (kind = 2 ∧ 2 < cz_far da p)) (hp : cz_pe kind = pe) (h5 : cl = cz_cl fl da g k pe da p) (h6 : ¬ cl = 0) (ht : t = cz_tn way ds) (hv : v = cz_sw1 kind t) : v = cz_sw kind p da ds fl g k := by
  unfold cz_sw
  rw [if_neg h1, ← h2, if_neg h3, if_neg h4, hp, ← h5, if_neg h6, hv, ht]
abbrev cz_mg (kind p da ds fl : Int32) (g : Nat → Int32) (k : Nat) : Prop := (cz_sw kind p da ds fl g k = 2 ∨ cz_sw kind p da ds fl g k = 3) ∧ ¬ kind = 4
def cz_mq (da ds fl : Int32) (g1 g2 : Nat → Int32) (k : Nat) : Nat → Int32
  | 0 => 0
  | c + 1 => cz_mq da ds fl g1 g2 k c ||| (if cz_mg (g1 c) (g2 c) da ds fl g2 k then 1 <<< (nI c &&& 31) else 0)
def cz_ml (a : Int32) (s : Nat → Int32) (f : Nat → Int32) : Nat → Nat → Int32
  | 0 => f
  | k + 1 => upd (cz_ml a s f k) k (cz_ml a s f k k + (if s k = a ∨ s k = 3 then 1 else 0))
def cz_cnM (c what : Int32) (da ds fl : Int32) (g1 g2 g3 g4 : Nat → Int32) (k : Nat) : Int32 := if what = 0 then g1 c.toNatClampNeg else if what = 1 then g2 c.toNatClampNeg else if what = 2 then cz_sw (g1 c.toNatClampNeg) (g2 c.toNatClampNeg) da ds fl g2 k else if what = 3 then (if cz_mg (g1 c.toNatClampNeg) (g2 c.toNatClampNeg) da ds fl g2 k then 1 else 0) else if what = 4 then g3 c.toNatClampNeg else g4 c.toNatClampNeg
def cz_abM (x what : Int32) (da ds fl : Int32) (g1 g2 g3 g4 : Nat → Int32) (k : Nat) : Int32 := if cz_cr k x then (if cz_in 0 what 5 then cz_cnM x what da ds fl g1 g2 g3 g4 k else -102) else -101
