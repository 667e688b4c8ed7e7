/-! BRICK, STOOD, a WALK: mirrors of the reference -/
def cz_b1 (b : Bool) : Int32 := if b = true then 1 else 0
theorem cz_b1_0 {b : Bool} (h : cz_b1 b = 0) : b = false := by
  cases b with
  | false => rfl
  | true => exact absurd h (by decide)
theorem cz_b1_1 {b : Bool} (h : ¬ cz_b1 b = 0) : b = true := by
  cases b with
  | true => rfl
  | false => exact absurd rfl h
theorem cz_mt0 {s g5 : Nat → Int32} {i : Nat} {y : Int32} (hm : y = cz_b1 (cz_atB s g5 i)) (c : y = 0) : (0 : Int32) = cz_b1 (cz_atB s g5 (i + 1)) := by
  rw [cz_atB, cz_b1_0 (hm.symm.trans c)]; rfl
theorem cz_mt1 {s g5 : Nat → Int32} {i : Nat} {y : Int32} (hm : y = cz_b1 (cz_atB s g5 i)) (c : ¬ y = 0) (h : g5 i = -1 ∨ g5 i = s i) : (1 : Int32) = cz_b1 (cz_atB s g5 (i + 1)) := by
  rw [cz_atB_s (cz_b1_1 (fun q => c (hm.trans q))) h]; rfl
theorem cz_mt2 {s g5 : Nat → Int32} {i : Nat} (h1 : ¬ g5 i = -1) (h2 : ¬ g5 i = s i) : (0 : Int32) = cz_b1 (cz_atB s g5 (i + 1)) := by
  rw [cz_atB_f h1 h2 (i + 1) (by omega)]; rfl
def cz_onl (x : Int32) : Nat → Int32
  | 0 => -1
  | k + 1 => if x = 1 <<< (nI k &&& 31) then nI k else cz_onl x k
def cz_sm (C : Nat → Bool) : Nat → Int32 × Int32 × Int32
  | 0 => (0, 0, 0)
  | i + 1 => if C i = true then ((cz_sm C i).1 + 1, (cz_sm C i).2.1 ||| (1 <<< (nI (i / 4) &&& 31)), (cz_sm C i).2.2 ||| (1 <<< (nI (i % 4) &&& 31))) else cz_sm C i
theorem cz_sm_n {C : Nat → Bool} {i : Nat} (h : C i = false) : cz_sm C (i + 1) = cz_sm C i := by rw [cz_sm, if_neg (by rw [h]; decide)]
theorem cz_sm_y {C : Nat → Bool} {i : Nat} (h : C i = true) : cz_sm C (i + 1) = ((cz_sm C i).1 + 1, (cz_sm C i).2.1 ||| (1 <<< (nI (i / 4) &&& 31)), (cz_sm C i).2.2 ||| (1 <<< (nI (i % 4) &&& 31))) := by rw [cz_sm, if_pos h]
def cz_smC (fl : Int32) (g1 g2 g5 : Nat → Int32) (k : Nat) (i : Nat) : Bool := decide (cz_em fl (-1) (nI (i / 4)) g2 k) && cz_atB (fun c => cz_sw (g1 c) (g2 c) (nI (i / 4)) (nI (i % 4)) fl g2 k) g5 k
def cz_bmM (da ds fl : Int32) (g1 g2 : Nat → Int32) (k : Nat) (i : Nat) : Int32 := cz_sz (cz_mq da ds (fl &&& ((1 <<< (nI i &&& 31)) ^^^ (-1))) g1 g2 k k) 20
def cz_bmO (fl da : Int32) (g2 : Nat → Int32) (k : Nat) (i : Nat) : Bool := decide (cz_em fl da (nI i) g2 k)
def cz_brN (what : Int32) (t : Int32 × Int32) : Int32 := if t.1 = -1 then t.1 else if what = 0 then t.1 else t.2
def cz_brM (what da : Int32) (t : Int32 × Int32) : Int32 := if cz_in 0 what 1 then (if da = -1 then -103 else cz_brN what t) else -102
