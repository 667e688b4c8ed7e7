def cz_plc (x : Int32) : Int32 := if x < 0 then -1 else x / 4
def cz_sid (x : Int32) : Int32 := if x < 0 then -1 else x - x / 4 * 4
/-! what the calls answer, and what they leave: mirrors of both texts -/
/-- a number names a COURTIER -/
abbrev cz_cr (k : Nat) (x : Int32) : Prop := 0 ≤ x ∧ x < nI k
theorem cz_cr_not {k : Nat} {x : Int32} (hk : k ≤ 6) (h : x < 0 ∨ nI k ≤ x ∨ 6 ≤ x) : ¬ cz_cr k x := by
  have e : (nI k).toInt = (k : Int) := nI_toInt (by omega)
  rintro ⟨h1, h2⟩
  simp only [cz_lt, cz_le, cz_l, e] at *
  omega
theorem cz_cr_nI {k j : Nat} (hk : k ≤ 6) (h : j < k) : cz_cr k (nI j) := by
  have e : (nI k).toInt = (k : Int) := nI_toInt (by omega)
  have e2 : (nI j).toInt = (j : Int) := nI_toInt (by omega)
  constructor
  · rw [cz_le, e2]; simp only [cz_l]; omega
  · rw [cz_lt, e, e2]; omega
theorem cz_cr_ex {k : Nat} {x : Int32} (hk : k ≤ 6) (h : cz_cr k x) : ∃ j : Nat, j < k ∧ x = nI j := by
  refine cz_ex ?_ ?_ (by omega)
  · have := h.1
    simp only [cz_lt, cz_le, cz_l] at *
    omega
  · have := h.2
    simp only [cz_lt, cz_le] at *
    omega
theorem cz_crI {k : Nat} {x : Int32} (hk : k ≤ 6) (h : ¬ cz_in 0 x (nI k - 1)) : ¬ cz_cr k x := by
  intro hc
  apply h
  have hb : ∀ q, q ≤ 6 → (nI q - 1).toInt = (q : Int) - 1 := by decide
  have hn : (nI k).toInt = (k : Int) := nI_toInt (by omega)
  have hb := hb k hk
  obtain ⟨h1, h2⟩ := hc
  refine ⟨h1, ?_⟩
  rw [cz_lt, hn] at h2
  rw [cz_le, hb]
  omega
/-- one of a KIND is one of the KIND asked -/
abbrev cz_kd (kind asked : Int32) : Prop := asked = kind ∨ asked = 0 ∨ (asked = 3 ∧ kind = 4)
/-- the PLACE is one, and not barred -/
abbrev cz_op (p b : Int32) : Prop := cz_in 0 p 19 ∧ b &&& (1 <<< (p &&& 31)) = 0
/-- a PLACE is FLOOR -/
abbrev cz_hs (s k : Int32) : Prop := s >>> (k &&& 31) &&& 1 = 1
/-- the first one on a PLACE, from number i on -/
def cz_wi (p : Int32) (g : Nat → Int32) : Nat → Nat → Int32
  | _, 0 => -1
  | i, n + 1 => if g i = p then nI i else cz_wi p g (i + 1) n
theorem cz_wi_st {p : Int32} {g : Nat → Int32} {i k : Nat} (h : i < k) (hn : ¬ g i = p) : cz_wi p g (i + 1) (k - (i + 1)) = cz_wi p g i (k - i) := by
  have e : k - i = (k - (i + 1)) + 1 := by omega
  rw [e, cz_wi, if_neg hn]
theorem cz_wi_hit {p : Int32} {g : Nat → Int32} {i k : Nat} (h : i < k) (hn : g i = p) : cz_wi p g i (k - i) = nI i := by
  have e : k - i = (k - (i + 1)) + 1 := by omega
  rw [e, cz_wi, if_pos hn]
theorem cz_wi_end {p : Int32} {g : Nat → Int32} {k : Nat} : cz_wi p g k (k - k) = -1 := by rw [Nat.sub_self]; rfl
/-- who is on a PLACE, by the reference: the last one's turn wins -/
def cz_wo (da p : Int32) (g : Nat → Int32) : Nat → Int32
  | 0 => if da = p then 9 else -1
  | k + 1 => if g k = p then nI k else cz_wo da p g k
/-- the PLACE is empty FLOOR, by the reference -/
abbrev cz_em (fl da p : Int32) (g : Nat → Int32) (k : Nat) : Prop := cz_hs fl p ∧ cz_wo da p g k = -1
/-- the PLACES that are no empty FLOOR -/
def cz_tk (a0 w0 pp : Int32) : Int32 := if a0 = -1 then w0 ||| pp else w0 ||| pp ||| (1 <<< (cz_plc a0 &&& 31))
/-! one more -/
def cz_jn (k : Nat) : Nat := if 6 ≤ k then k else k + 1
def cz_jf (k : Nat) (f : Nat → Int32) (v : Int32) : Nat → Int32 := if 6 ≤ k then f else upd f k v
def cz_jr (k : Nat) : Int32 := if 6 ≤ k then -104 else nI k
/-- all six over again -/
def cz_cp (e g : Nat → Int32) : Nat → Int32 := va_cpy e g 0 0 6
theorem cz_cpy0 {e g : Nat → Int32} : va_cpy e g 0 0 0 = g := by
  funext k
  unfold va_cpy
  rw [if_neg (by omega)]
theorem cz_cpy1 {e g : Nat → Int32} {i : Nat} : upd (va_cpy e g 0 0 i) i (e i) = va_cpy e g 0 0 (i + 1) := by
  funext k
  by_cases h : k = i
  · subst h
    rw [pk_us]
    unfold va_cpy
    rw [if_pos (by omega)]
    congr 1
    omega
  · rw [pk_un h]
    unfold va_cpy
    by_cases q : k < i
    · rw [if_pos (by omega), if_pos (by omega)]
    · rw [if_neg (by omega), if_neg (by omega)]
/-! told -/
def cz_tdA (k : Nat) (g : Nat → Int32) (x v : Int32) : Int32 := if cz_cr k x then (if cz_in (-1) v 4 then g x.toNatClampNeg else -102) else -101
def cz_tdF (k : Nat) (g : Nat → Int32) (x v : Int32) : Nat → Int32 := if cz_cr k x then (if cz_in (-1) v 4 then upd g x.toNatClampNeg v else g) else g
/-! as -/
def cz_asA (k : Nat) (g : Nat → Int32) (x v : Int32) : Int32 := if cz_cr k x then (if cz_in 0 v 4 then (if cz_kd (g x.toNatClampNeg) v then x else -1) else -102) else -101
/-! on -/
def cz_onC (p w2 w0 a0 : Int32) (g : Nat → Int32) (k : Nat) : Int32 := if cz_in 0 p 19 then (if w2 = 0 then -103 else if cz_op p w0 then (if p = cz_plc a0 then 9 else cz_wi p g 0 k) else -2) else -101
def cz_onM (p ih fl da : Int32) (g : Nat → Int32) (k : Nat) : Int32 := if cz_in 0 p 19 then (if ih = 0 then -103 else if cz_hs fl p then cz_wo da p g k else -2) else -101
/-! duke -/
def cz_dkC (p sd w2 b y n : Int32) (x1 x2 x3 : Int32) : Int32 := if cz_in 0 p 19 then (if cz_in 0 sd 3 then (if w2 = 0 then x3 else if cz_op p b then y else n) else x2) else x1
def cz_dkM (p sd ih fl da y n : Int32) (x1 x2 x3 : Int32) (g : Nat → Int32) (k : Nat) : Int32 := if cz_in 0 p 19 then (if cz_in 0 sd 3 then (if ih = 0 then x3 else if cz_em fl da p g k then y else if p = da then y else n) else x2) else x1
/-! courtier: whether one more comes -/
abbrev cz_ctC (kind p w2 b : Int32) : Prop := cz_in 0 p 19 ∧ cz_in 0 kind 4 ∧ ¬ w2 = 0 ∧ cz_op p b
abbrev cz_ctM (kind p ih fl da : Int32) (g : Nat → Int32) (k : Nat) : Prop := cz_in 0 p 19 ∧ cz_in 0 kind 4 ∧ ¬ ih = 0 ∧ cz_em fl da p g k
def cz_ctA (kind p : Int32) (P : Prop) [Decidable P] (k : Nat) : Int32 := if cz_in 0 p 19 then (if cz_in 0 kind 4 then (if P then cz_jr k else -103) else -102) else -101
/-! go -/
def cz_goA (k : Nat) (g : Nat → Int32) (x p : Int32) (P : Prop) [Decidable P] : Int32 := if cz_cr k x then (if cz_in 0 p 19 then (if P then g x.toNatClampNeg else -103) else -101) else -101
def cz_goF (k : Nat) (g : Nat → Int32) (x p : Int32) (P : Prop) [Decidable P] : Nat → Int32 := if cz_cr k x then (if cz_in 0 p 19 then (if P then upd g x.toNatClampNeg p else g) else g) else g
/-! the PLACE ahead; the stance behind an ACT -/
def cz_row (p w : Int32) : Int32 := p / 5 + cz_fR w.toNatClampNeg
def cz_col (p w : Int32) : Int32 := (p - p / 5 * 5) + cz_fC w.toNatClampNeg
/-- the next PLACE by a WAY -/
def cz_nb (p w : Int32) : Int32 := if cz_in 0 p 19 then (if w < 0 then -1 else if w < 8 then (if cz_row p w < 0 then -1 else if 4 ≤ cz_row p w then -1 else if cz_col p w < 0 then -1 else if cz_col p w < 5 then cz_row p w * 5 + cz_col p w else -1) else -1) else -1
def cz_aft (st act barred : Int32) : Int32 := if st = -1 then -1 else if act = 0 then cz_plc st * 4 + ((cz_sid st + 4 - 1) - (cz_sid st + 4 - 1) / 4 * 4) else if act = 1 then cz_plc st * 4 + ((cz_sid st + 1) - (cz_sid st + 1) / 4 * 4) else if act = 2 then (if cz_op (cz_nb (cz_plc st) (2 * cz_sid st)) barred then cz_nb (cz_plc st) (2 * cz_sid st) * 4 + cz_sid st else -1) else -1
def cz_acC (a0 act barred : Int32) : Int32 := if cz_in 0 act 2 then (if cz_aft a0 act barred = -1 then a0 else cz_aft a0 act barred) else a0
/-! images -/
abbrev cz_rs (kr w2 : Int32) : Prop := ¬ kr = 0 ∧ kr = w2
abbrev cz_rm_ (ik kh hn : Int32) : Prop := ¬ ik = 0 ∧ kh = hn
