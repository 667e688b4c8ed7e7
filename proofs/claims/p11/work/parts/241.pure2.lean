/-! the WALLs and the FLOOR: both are numbers whose bits are the PLACES -/
theorem cs_and (a b : Nat) : nI a &&& nI b = nI (a &&& b) := by
  apply Int32.toBitVec_inj.1
  show BitVec.ofNat 32 a &&& BitVec.ofNat 32 b = BitVec.ofNat 32 (a &&& b)
  apply BitVec.eq_of_getLsbD_eq
  intro i hi
  simp [hi]
theorem cs_or (a b : Nat) : nI a ||| nI b = nI (a ||| b) := by
  apply Int32.toBitVec_inj.1
  show BitVec.ofNat 32 a ||| BitVec.ofNat 32 b = BitVec.ofNat 32 (a ||| b)
  apply BitVec.eq_of_getLsbD_eq
  intro i hi
  simp [hi]
theorem cs_sm : ∀ n, n < 32 → ((nI n &&& 31).toBitVec.smod 32).toNat = n := by decide +kernel
theorem cs_bit {k : Nat} (hk : k < 31) : (1 : Int32) <<< (nI k &&& 31) = nI (2 ^ k) := by
  have h := pk_shlN (n := 1) (nI k &&& 31) k (cs_sm k (by omega)) (by have := Nat.pow_lt_pow_right (a := 2) (by decide) (show k < 32 by omega); omega)
  rw [Nat.one_mul] at h
  exact h
theorem cs_set {m k : Nat} (hk : k < 31) (hm : m < 2 ^ k) : nI m ||| ((1 : Int32) <<< (nI k &&& 31)) = nI (m + 2 ^ k) := by
  rw [cs_bit hk, cs_or]
  congr 1
  have h := Nat.two_pow_add_eq_or_of_lt hm 1
  rw [Nat.mul_one] at h
  rw [Nat.or_comm, ← h, Nat.add_comm]
/-- how many of the first k hold -/
def cs_ct (b : Nat → Bool) : Nat → Nat
  | 0 => 0
  | k + 1 => cs_ct b k + if b k then 1 else 0
/-- the number whose bits they are -/
def cs_bn (b : Nat → Bool) : Nat → Nat
  | 0 => 0
  | k + 1 => cs_bn b k + if b k then 2 ^ k else 0
theorem cs_bn_lt (b : Nat → Bool) : ∀ k, cs_bn b k < 2 ^ k := by
  intro k
  induction k with
  | zero => exact Nat.zero_lt_one
  | succ k ih =>
    simp only [cs_bn]
    rw [Nat.pow_succ]
    split <;> omega
theorem cs_bn_congr {a b : Nat → Bool} : ∀ k, (∀ j, j < k → a j = b j) → cs_bn a k = cs_bn b k := by
  intro k
  induction k with
  | zero => intro _; rfl
  | succ k ih => intro h; simp only [cs_bn]; rw [ih (fun j hj => h j (by omega)), h k (by omega)]
theorem cs_ct_not {a b : Nat → Bool} : ∀ k, (∀ j, j < k → a j = !b j) → cs_ct a k + cs_ct b k = k := by
  intro k
  induction k with
  | zero => intro _; rfl
  | succ k ih =>
    intro h
    have h1 := ih (fun j hj => h j (by omega))
    simp only [cs_ct]
    rw [h k (by omega)]
    cases b k <;> simp <;> omega
/-- bit j of the number -/
theorem cs_bn_bit (b : Nat → Bool) : ∀ k j, j < k → cs_bn b k / 2 ^ j % 2 = if b j then 1 else 0 := by
  intro k
  induction k with
  | zero => intro j h; exact absurd h (Nat.not_lt_zero _)
  | succ k ih =>
    intro j h
    simp only [cs_bn]
    by_cases e : j = k
    · subst e
      have hl := cs_bn_lt b j
      split
      · rw [Nat.add_div_right _ (Nat.two_pow_pos j), Nat.div_eq_of_lt hl]
      · rw [Nat.add_zero, Nat.div_eq_of_lt hl]
    · have hj : j < k := by omega
      split
      · have e2 : 2 ^ k = 2 ^ j * (2 * 2 ^ (k - j - 1)) := by
          rw [← Nat.mul_assoc, ← Nat.pow_succ, ← Nat.pow_add]
          congr 1
          omega
        rw [e2, Nat.add_mul_div_left _ _ (Nat.two_pow_pos j), Nat.add_mul_mod_self_left]
        exact ih j hj
      · rw [Nat.add_zero]; exact ih j hj
/-- the reference's size of such a number -/
theorem cs_size {m : Nat} (hm : m < 2 ^ 31) : ∀ k, k ≤ 20 → ∀ b : Nat → Bool, (∀ j, j < k → m / 2 ^ j % 2 = if b j then 1 else 0) → cz_sz (nI m) k = nI (cs_ct b k) := by
  intro k
  induction k with
  | zero => intro _ b _; rfl
  | succ k ih =>
    intro hk b h
    simp only [cz_sz, cs_ct]
    rw [ih (by omega) b (fun j hj => h j (by omega)), pk_shrN hm (nI k &&& 31) k (cs_sm k (by omega)), pk_andN (n := m / 2 ^ k) (by have := Nat.div_le_self m (2 ^ k); omega) 1 (by decide), nI_add]
    congr 2
    exact h k (by omega)
/-! Integer.bitCount of 20 bits, four by four -/
theorem cs_and16 {a b m n : Nat} (hb : b < 16) (hn : n < 16) : (16 * a + b) &&& (16 * m + n) = 16 * (a &&& m) + (b &&& n) := by
  have hbn : b &&& n < 2 ^ 4 := Nat.lt_of_le_of_lt Nat.and_le_left hb
  apply Nat.eq_of_testBit_eq
  intro i
  rw [Nat.testBit_and, show 16 = 2 ^ 4 from rfl, Nat.testBit_two_pow_mul_add a (show b < 2 ^ 4 from hb), Nat.testBit_two_pow_mul_add m (show n < 2 ^ 4 from hn), Nat.testBit_two_pow_mul_add _ hbn]
  split <;> rw [Nat.testBit_and]
def cs_e (d : Nat) : Nat := d - (d / 2 &&& 5)
def cs_h (d : Nat) : Nat := (d &&& 3) + (d / 4 &&& 3)
theorem cs_n5 : ∀ r, r < 2 → ∀ d, d < 16 → (8 * r + d / 2) &&& 5 = d / 2 &&& 5 := by decide
theorem cs_n3 : ∀ r, r < 4 → ∀ d, d < 16 → (4 * r + d / 4) &&& 3 = d / 4 &&& 3 := by decide
theorem cs_s1 {q d M : Nat} (hd : d < 16) : (16 * q + d) - ((16 * q + d) / 2 &&& (16 * M + 5)) = 16 * (q - (q / 2 &&& M)) + cs_e d := by
  have e : (16 * q + d) / 2 = 16 * (q / 2) + (8 * (q % 2) + d / 2) := by omega
  rw [e, cs_and16 (by omega) (by decide), cs_n5 (q % 2) (by omega) d hd]
  have h1 : q / 2 &&& M ≤ q / 2 := Nat.and_le_left
  have h2 : d / 2 &&& 5 ≤ d / 2 := Nat.and_le_left
  unfold cs_e
  omega
theorem cs_s2 {q d M : Nat} (hd : d < 16) : ((16 * q + d) &&& (16 * M + 3)) + ((16 * q + d) / 4 &&& (16 * M + 3)) = 16 * ((q &&& M) + (q / 4 &&& M)) + cs_h d := by
  have e : (16 * q + d) / 4 = 16 * (q / 4) + (4 * (q % 4) + d / 4) := by omega
  rw [e, cs_and16 hd (by decide), cs_and16 (by omega) (by decide), cs_n3 (q % 4) (by omega) d hd]
  unfold cs_h
  omega
theorem cs_e_lt : ∀ d, d < 16 → cs_e d < 16 := by decide
def cs_pc (d : Nat) : Nat := d % 2 + d / 2 % 2 + d / 4 % 2 + d / 8 % 2
theorem cs_he : ∀ d, d < 16 → cs_h (cs_e d) = cs_pc d := by decide
theorem cs_pc_le (d : Nat) : cs_pc d ≤ 4 := by unfold cs_pc; omega
def cs_b1 (x : Nat) : Nat := x - (x / 2 &&& 1431655765)
def cs_b2 (x : Nat) : Nat := (x &&& 858993459) + (x / 4 &&& 858993459)
def cs_b3 (x : Nat) : Nat := (x + x / 16) &&& 252645135
def cs_b4 (x : Nat) : Nat := x + x / 256
def cs_b5 (x : Nat) : Nat := (x + x / 65536) &&& 63
def cs_dg (a b c d e : Nat) : Nat := 16 * (16 * (16 * (16 * a + b) + c) + d) + e
theorem cs_b1_dg {a b c d e : Nat} (ha : a < 16) (hb : b < 16) (hc : c < 16) (hd : d < 16) (he : e < 16) : cs_b1 (cs_dg a b c d e) = cs_dg (cs_e a) (cs_e b) (cs_e c) (cs_e d) (cs_e e) := by
  unfold cs_b1 cs_dg
  rw [show (1431655765 : Nat) = 16 * 89478485 + 5 from rfl, cs_s1 he, show (89478485 : Nat) = 16 * 5592405 + 5 from rfl, cs_s1 hd, show (5592405 : Nat) = 16 * 349525 + 5 from rfl, cs_s1 hc, show (349525 : Nat) = 16 * 21845 + 5 from rfl, cs_s1 hb]
  have h : ∀ x, x < 16 → x - (x / 2 &&& 21845) = cs_e x := by decide
  rw [h a ha]
theorem cs_b2_dg {a b c d e : Nat} (ha : a < 16) (hb : b < 16) (hc : c < 16) (hd : d < 16) (he : e < 16) : cs_b2 (cs_dg a b c d e) = cs_dg (cs_h a) (cs_h b) (cs_h c) (cs_h d) (cs_h e) := by
  unfold cs_b2 cs_dg
  rw [show (858993459 : Nat) = 16 * 53687091 + 3 from rfl, cs_s2 he, show (53687091 : Nat) = 16 * 3355443 + 3 from rfl, cs_s2 hd, show (3355443 : Nat) = 16 * 209715 + 3 from rfl, cs_s2 hc, show (209715 : Nat) = 16 * 13107 + 3 from rfl, cs_s2 hb]
  have h : ∀ x, x < 16 → (x &&& 13107) + (x / 4 &&& 13107) = cs_h x := by decide
  rw [h a ha]
theorem cs_b345 : ∀ a, a < 5 → ∀ b, b < 5 → ∀ c, c < 5 → ∀ d, d < 5 → ∀ e, e < 5 → cs_b5 (cs_b4 (cs_b3 (cs_dg a b c d e))) = a + b + c + d + e := by decide +kernel
theorem cs_bcN {w : Nat} (hw : w < 2 ^ 20) : cs_b5 (cs_b4 (cs_b3 (cs_b2 (cs_b1 w)))) = cs_pc (w / 65536) + cs_pc (w / 4096 % 16) + cs_pc (w / 256 % 16) + cs_pc (w / 16 % 16) + cs_pc (w % 16) := by
  have e : w = cs_dg (w / 65536) (w / 4096 % 16) (w / 256 % 16) (w / 16 % 16) (w % 16) := by unfold cs_dg; omega
  have h0 : w / 65536 < 16 := by omega
  rw [show cs_b1 w = cs_b1 (cs_dg (w / 65536) (w / 4096 % 16) (w / 256 % 16) (w / 16 % 16) (w % 16)) from congrArg cs_b1 e, cs_b1_dg h0 (by omega) (by omega) (by omega) (by omega), cs_b2_dg (cs_e_lt _ h0) (cs_e_lt _ (by omega)) (cs_e_lt _ (by omega)) (cs_e_lt _ (by omega)) (cs_e_lt _ (by omega)), cs_he _ h0, cs_he _ (by omega), cs_he _ (by omega), cs_he _ (by omega), cs_he _ (by omega)]
  exact cs_b345 _ (Nat.lt_succ_of_le (cs_pc_le _)) _ (Nat.lt_succ_of_le (cs_pc_le _)) _ (Nat.lt_succ_of_le (cs_pc_le _)) _ (Nat.lt_succ_of_le (cs_pc_le _)) _ (Nat.lt_succ_of_le (cs_pc_le _))
theorem cs_us {n : Nat} (hn : n < 2 ^ 32) (k : Nat) (hk : k < 32) (s : Int32) (hs : s = nI k) : ((nI n).toUInt32 >>> (s.toUInt32 &&& Int32.toUInt32 31)).toInt32 = nI (n / 2 ^ k) := by
  subst hs
  have h : ∀ q, q < 32 → (((nI q).toUInt32 &&& Int32.toUInt32 31).toBitVec % 32).toNat = q := by decide +kernel
  exact pk_ushrN hn (nI k) k (h k hk)
theorem cs_bc {w : Nat} (hw : w < 2 ^ 20) : cz_bc (nI w) = nI (cs_b5 (cs_b4 (cs_b3 (cs_b2 (cs_b1 w))))) := by
  have h1 : cz_bc1 (nI w) = nI (cs_b1 w) := by
    unfold cz_bc1 cs_b1
    rw [cs_us (by omega) 1 (by decide) 1 rfl, show (1431655765 : Int32) = nI 1431655765 from rfl, cs_and, pk_sub (Nat.le_trans Nat.and_le_left (by omega))]
  have l1 : cs_b1 w < 2 ^ 20 := by unfold cs_b1; omega
  have h2 : ∀ x, x < 2 ^ 20 → cz_bc2 (nI x) = nI (cs_b2 x) := by
    intro x hx
    unfold cz_bc2 cs_b2
    rw [cs_us (by omega) 2 (by decide) 2 rfl, show (858993459 : Int32) = nI 858993459 from rfl, cs_and, cs_and, nI_add]
  have l2 : ∀ x, x < 2 ^ 20 → cs_b2 x < 2 ^ 21 := by
    intro x hx
    have a1 : x &&& 858993459 ≤ x := Nat.and_le_left
    have a2 : x / 4 &&& 858993459 ≤ x / 4 := Nat.and_le_left
    unfold cs_b2; omega
  have h3 : ∀ x, x < 2 ^ 21 → cz_bc3 (nI x) = nI (cs_b3 x) := by
    intro x hx
    unfold cz_bc3 cs_b3
    rw [cs_us (by omega) 4 (by decide) 4 rfl, nI_add, show (252645135 : Int32) = nI 252645135 from rfl, cs_and]
  have l3 : ∀ x, x < 2 ^ 21 → cs_b3 x < 2 ^ 22 := by
    intro x hx
    have a1 : (x + x / 16) &&& 252645135 ≤ x + x / 16 := Nat.and_le_left
    unfold cs_b3; omega
  have h4 : ∀ x, x < 2 ^ 22 → cz_bc4 (nI x) = nI (cs_b4 x) := by
    intro x hx
    unfold cz_bc4 cs_b4
    rw [cs_us (by omega) 8 (by decide) 8 rfl, nI_add]
  have l4 : ∀ x, x < 2 ^ 22 → cs_b4 x < 2 ^ 23 := by
    intro x hx
    unfold cs_b4; omega
  have h5 : ∀ x, x < 2 ^ 23 → cz_bc5 (nI x) = nI (cs_b5 x) := by
    intro x hx
    unfold cz_bc5 cs_b5
    rw [cs_us (by omega) 16 (by decide) 16 rfl, nI_add, show (63 : Int32) = nI 63 from rfl, cs_and]
  unfold cz_bc
  rw [h1, h2 _ l1, h3 _ (l2 _ l1), h4 _ (l3 _ (l2 _ l1)), h5 _ (l4 _ (l3 _ (l2 _ l1)))]
/-- four bits more, counted -/
theorem cs_ct4 {b : Nat → Bool} {k v : Nat} (h0 : v % 2 = if b k then 1 else 0) (h1 : v / 2 % 2 = if b (k + 1) then 1 else 0) (h2 : v / 4 % 2 = if b (k + 2) then 1 else 0) (h3 : v / 8 % 2 = if b (k + 3) then 1 else 0) : cs_ct b (k + 4) = cs_ct b k + cs_pc (v % 16) := by
  have e : cs_pc (v % 16) = v % 2 + v / 2 % 2 + v / 4 % 2 + v / 8 % 2 := by unfold cs_pc; omega
  rw [e, h0, h1, h2, h3]
  show (((cs_ct b k + (if b k then 1 else 0)) + (if b (k + 1) then 1 else 0)) + (if b (k + 2) then 1 else 0)) + (if b (k + 3) then 1 else 0) = _
  generalize (if b k then 1 else 0) = a0
  generalize (if b (k + 1) then 1 else 0) = a1
  generalize (if b (k + 2) then 1 else 0) = a2
  generalize (if b (k + 3) then 1 else 0) = a3
  omega
theorem cs_dd (w k i : Nat) : w / 2 ^ k / 2 ^ i = w / 2 ^ (k + i) := by rw [Nat.div_div_eq_div_mul, ← Nat.pow_add]
/-- the bits of a number below 2^20, counted -/
theorem cs_ctN {w : Nat} (b : Nat → Bool) (h : ∀ j, j < 20 → w / 2 ^ j % 2 = if b j then 1 else 0) (hw : w < 2 ^ 20) : cs_ct b 20 = cs_pc (w / 65536) + cs_pc (w / 4096 % 16) + cs_pc (w / 256 % 16) + cs_pc (w / 16 % 16) + cs_pc (w % 16) := by
  have st : ∀ k, k + 4 ≤ 20 → cs_ct b (k + 4) = cs_ct b k + cs_pc (w / 2 ^ k % 16) := by
    intro k hk
    refine cs_ct4 (h k (by omega)) ?_ ?_ ?_
    · have e := cs_dd w k 1; rw [show (2 : Nat) ^ 1 = 2 from rfl] at e; rw [e]; exact h (k + 1) (by omega)
    · have e := cs_dd w k 2; rw [show (2 : Nat) ^ 2 = 4 from rfl] at e; rw [e]; exact h (k + 2) (by omega)
    · have e := cs_dd w k 3; rw [show (2 : Nat) ^ 3 = 8 from rfl] at e; rw [e]; exact h (k + 3) (by omega)
  have s0 := st 0 (by decide)
  have s1 := st 4 (by decide)
  have s2 := st 8 (by decide)
  have s3 := st 12 (by decide)
  have s4 := st 16 (by decide)
  have l4 : w / 2 ^ 16 % 16 = w / 65536 := Nat.mod_eq_of_lt (Nat.div_lt_of_lt_mul hw)
  rw [l4] at s4
  rw [show w / 2 ^ 0 = w from Nat.div_one w] at s0
  have z : cs_ct b 0 = 0 := rfl
  rw [s4, s3, s2, s1, s0, z]
  generalize cs_pc (w / 65536) = a4
  generalize cs_pc (w / 2 ^ 12 % 16) = a3
  generalize cs_pc (w / 2 ^ 8 % 16) = a2
  generalize cs_pc (w / 2 ^ 4 % 16) = a1
  omega
theorem cs_bcB (b : Nat → Bool) : cz_bc (nI (cs_bn b 20)) = nI (cs_ct b 20) := by
  have hw := cs_bn_lt b 20
  rw [cs_bc hw, cs_bcN hw, cs_ctN b (fun j hj => cs_bn_bit b 20 j hj) hw]
def cs_w (f : Nat → Int32) (p : Nat) : Bool := decide (f (p / 5 * 6 + p % 5) = 35)
def cs_f (f : Nat → Int32) (p : Nat) : Bool := decide (f (p / 5 * 6 + p % 5) = 46)
theorem cs_wl (f : Nat → Int32) : ∀ k, k ≤ 20 → cz_wl f k = nI (cs_bn (cs_w f) k) := by
  intro k
  induction k with
  | zero => intro _; rfl
  | succ k ih =>
    intro h
    simp only [cz_wl, cs_bn, cs_w, decide_eq_true_eq]
    split
    · rw [ih (by omega), cs_set (by omega) (cs_bn_lt _ k)]
    · rw [ih (by omega), Nat.add_zero]
def cs_pk (k : Nat) : Nat := k / 6 * 5 + (if k % 6 = 5 then 5 else k % 6)
theorem cs_fw (f : Nat → Int32) : ∀ k, k ≤ 23 → cz_fits f k → cz_fw f k = nI (cs_bn (cs_f f) (cs_pk k)) := by
  intro k
  induction k with
  | zero => intro _ _; rfl
  | succ k ih =>
    intro h hf
    have hk := hf k (by omega)
    have ihk := ih (by omega) (fun j hj => hf j (by omega))
    simp only [cz_fw]
    rw [ihk]
    unfold cz_fit at hk
    by_cases e : k % 6 = 5
    · have h47 : f k = 47 := by rcases hk.2 with q | q; exact q.2; exact absurd e q.1
      have e2 : cs_pk (k + 1) = cs_pk k := by unfold cs_pk; rw [if_pos e]; split <;> omega
      rw [e2, h47, if_neg (by decide), Int32.or_zero]
    · have e2 : cs_pk k = k / 6 * 5 + k % 6 := by unfold cs_pk; rw [if_neg e]
      have e3 : cs_pk (k + 1) = cs_pk k + 1 := by unfold cs_pk; rw [if_neg e]; split <;> omega
      have e4 : (cs_pk k) / 5 * 6 + (cs_pk k) % 5 = k := by rw [e2]; omega
      have hlt : cs_pk k < 20 := by rw [e2]; omega
      rw [e3]
      simp only [cs_bn, cs_f, decide_eq_true_eq]
      rw [e4, ← e2]
      split
      · rw [cs_set (by omega) (cs_bn_lt _ _)]
      · rw [Int32.or_zero, Nat.add_zero]
/-- what hall() answers, on both sides -/
theorem cs_hall {f g : Nat → Int32} (hf : cz_fits f 23) (hg : cz_fits g 23) (he : ∀ k, k < 23 → f k = g k) : 20 - cz_bc (cz_wl f 20) = cz_sz (cz_fw g 23) 20 := by
  rw [cs_wl f 20 (Nat.le_refl _), cs_bcB, cs_fw g 23 (Nat.le_refl _) hg, show cs_pk 23 = 20 from rfl]
  have hb := cs_bn_lt (cs_f g) 20
  rw [cs_size (by omega) 20 (Nat.le_refl _) (cs_f g) (fun j hj => cs_bn_bit _ 20 j hj)]
  have hs : cs_ct (cs_w f) 20 + cs_ct (cs_f g) 20 = 20 := by
    apply cs_ct_not
    intro j hj
    have hfit := hf (j / 5 * 6 + j % 5) (by omega)
    unfold cz_fit at hfit
    have hne : ¬ (j / 5 * 6 + j % 5) % 6 = 5 := by omega
    have hx : f (j / 5 * 6 + j % 5) = 46 ∨ f (j / 5 * 6 + j % 5) = 35 := by
      rcases hfit.2 with q | q
      · exact absurd q.1 hne
      · exact q.2
    unfold cs_w cs_f
    rw [← he _ (by omega)]
    rcases hx with q | q <;> rw [q] <;> decide
  rw [show (20 : Int32) = nI 20 from rfl, pk_sub (by omega)]
  congr 1
  omega
