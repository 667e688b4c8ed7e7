/-! both states side by side: PLACES, the DUKE, COURTIERS, what is kept -/
/-- alike as far as n -/
def cz_eqp (f g : Nat → Int32) (n : Nat) : Prop := ∀ k, k < n → f k = g k
theorem ci_in {x : Int32} (h : cz_in 0 x 19) : ∃ p : Nat, p < 20 ∧ x = nI p := by
  obtain ⟨j, hj, e⟩ := nI_of2 (x := x) (M := 19) (n := 19) (by decide) (by have := h.1; simp only [cz_lt, cz_le] at *; omega) h.2
  exact ⟨j, by omega, e⟩
theorem ci_in3 {x : Int32} (h : cz_in 0 x 3) : ∃ p : Nat, p < 4 ∧ x = nI p := by
  obtain ⟨j, hj, e⟩ := nI_of2 (x := x) (M := 3) (n := 3) (by decide) (by have := h.1; simp only [cz_lt, cz_le] at *; omega) h.2
  exact ⟨j, by omega, e⟩
theorem ci_ni {a b : Nat} (ha : a < 1000) (hb : b < 1000) : nI a = nI b ↔ a = b := nI_eq (a := a) (b := b) (by omega) (by omega)
theorem ci_n1 {a : Nat} (ha : a < 1000) : ¬ nI a = -1 := by
  intro h
  have e : (nI a).toInt = (a : Int) := nI_toInt (by omega)
  rw [cz_eq, e] at h
  simp only [cz_l] at h
  omega
theorem ci_n0 {a : Nat} (ha : a < 1000) : nI a = 0 ↔ a = 0 := by
  have e : (nI a).toInt = (a : Int) := nI_toInt (by omega)
  rw [cz_eq, e]
  simp only [cz_l]
  omega
theorem ci_pp {g : Nat → Int32} {p : Nat} (hg : cz_pl g) (hp : p < 20) : ∀ k, k ≤ 6 → (cz_pp g k &&& ((1 : Int32) <<< (nI p &&& 31)) = 0 ↔ ∀ j, j < k → ¬ g j = nI p) := by
  intro k
  induction k with
  | zero => intro _; exact ⟨fun _ j h => absurd h (Nat.not_lt_zero _), fun _ => Int32.zero_and⟩
  | succ k ih =>
    intro hk
    obtain ⟨q, hq, e⟩ := ci_in (hg k (by omega))
    simp only [cz_pp]
    rw [ci_or0, ih (by omega), e, ci_b2 q hq p hp]
    constructor
    · rintro ⟨h1, h2⟩ j hj
      rcases Nat.lt_succ_iff_lt_or_eq.mp hj with r | r
      · exact h1 j r
      · subst r; rw [e, ci_ni (by omega) (by omega)]; exact h2
    · intro h
      refine ⟨fun j hj => h j (by omega), ?_⟩
      have := h k (by omega)
      rw [e, ci_ni (by omega) (by omega)] at this
      exact this
theorem ci_wo {da p : Int32} {g : Nat → Int32} : ∀ k, k ≤ 6 → (cz_wo da p g k = -1 ↔ (∀ j, j < k → ¬ g j = p) ∧ ¬ da = p) := by
  intro k
  induction k with
  | zero =>
    intro _
    simp only [cz_wo]
    split
    · rename_i h
      exact ⟨fun q => absurd q (by decide), fun q => absurd h q.2⟩
    · rename_i h
      exact ⟨fun _ => ⟨fun j hj => absurd hj (Nat.not_lt_zero _), h⟩, fun _ => rfl⟩
  | succ k ih =>
    intro hk
    simp only [cz_wo]
    split
    · rename_i h
      exact ⟨fun q => absurd q (ci_n1 (by omega)), fun q => absurd h (q.1 k (by omega))⟩
    · rename_i h
      rw [ih (by omega)]
      constructor
      · rintro ⟨h1, h2⟩
        refine ⟨fun j hj => ?_, h2⟩
        rcases Nat.lt_succ_iff_lt_or_eq.mp hj with r | r
        · exact h1 j r
        · subst r; exact h
      · rintro ⟨h1, h2⟩
        exact ⟨fun j hj => h1 j (by omega), h2⟩
/-- FLOOR and WALL are each other's contrary -/
def ci_hl (w0 fl : Int32) : Prop := ∀ p, p < 20 → (w0 &&& ((1 : Int32) <<< (nI p &&& 31)) = 0 ↔ cz_hs fl (nI p))
theorem ci_em {w0 fl da : Int32} {g : Nat → Int32} {k p : Nat} (hk : k ≤ 6) (hg : cz_pl g) (hfl : ci_hl w0 fl) (hp : p < 20) : cz_em fl da (nI p) g k ↔ cz_op (nI p) (w0 ||| cz_pp g k) ∧ ¬ da = nI p := by
  constructor
  · rintro ⟨h1, h2⟩
    obtain ⟨h3, h4⟩ := (ci_wo k hk).mp h2
    exact ⟨⟨cz_in_nI hp, (ci_or0 _ _ _).mpr ⟨(hfl p hp).mpr h1, (ci_pp hg hp k hk).mpr h3⟩⟩, h4⟩
  · rintro ⟨⟨-, h1⟩, h2⟩
    obtain ⟨h3, h4⟩ := (ci_or0 _ _ _).mp h1
    exact ⟨(hfl p hp).mp h3, (ci_wo k hk).mpr ⟨(ci_pp hg hp k hk).mp h4, h2⟩⟩
theorem ci_st : ∀ d, d < 20 → ∀ e, e < 4 → (cz_plc (nI (4 * d + e)) = nI d ∧ cz_sid (nI (4 * d + e)) = nI e ∧ ¬ nI (4 * d + e) = -1) := by decide +kernel
/-- the DUKE, the COURTIERS: where they may be -/
def ci_ok (w0 a0 da ds : Int32) (g : Nat → Int32) (k : Nat) : Prop := ((a0 = -1 ∧ da = -1) ∨ ∃ d e : Nat, d < 20 ∧ e < 4 ∧ a0 = nI (4 * d + e) ∧ da = nI d ∧ ds = nI e ∧ w0 &&& ((1 : Int32) <<< (nI d &&& 31)) = 0) ∧ (∀ i j, i < j → j < k → ¬ g i = g j) ∧ (∀ j, j < k → ¬ g j = da)
theorem ci_ok.da {w0 a0 da ds : Int32} {g : Nat → Int32} {k : Nat} (h : ci_ok w0 a0 da ds g k) : cz_plc a0 = da := by
  rcases h.1 with ⟨h1, h2⟩ | ⟨d, e, hd, he, h1, h2, h3, h4⟩
  · rw [h1, h2]; decide
  · rw [h1, h2]; exact (ci_st d hd e he).1
theorem ci_tk {w0 fl a0 da ds : Int32} {g : Nat → Int32} {k p : Nat} (hk : k ≤ 6) (hg : cz_pl g) (hfl : ci_hl w0 fl) (hok : ci_ok w0 a0 da ds g k) (hp : p < 20) : cz_op (nI p) (cz_tk a0 w0 (cz_pp g k)) ↔ cz_em fl da (nI p) g k := by
  rw [ci_em hk hg hfl hp]
  unfold cz_tk
  rcases hok.1 with ⟨h1, h2⟩ | ⟨d, e, hd, he, h1, h2, h3, h4⟩
  · rw [if_pos h1, h2]
    exact ⟨fun h => ⟨h, fun q => ci_n1 (by omega) q.symm⟩, fun h => h.1⟩
  · obtain ⟨s1, s2, s3⟩ := ci_st d hd e he
    rw [h1, if_neg s3, s1, h2, ci_ni (by omega) (by omega)]
    constructor
    · rintro ⟨q1, q2⟩
      obtain ⟨q3, q4⟩ := (ci_or0 _ _ _).mp q2
      exact ⟨⟨q1, q3⟩, (ci_b2 d hd p hp).mp q4⟩
    · rintro ⟨⟨q1, q2⟩, q3⟩
      exact ⟨q1, (ci_or0 _ _ _).mpr ⟨q2, (ci_b2 d hd p hp).mpr q3⟩⟩
theorem ci_wi0 {p : Int32} {g : Nat → Int32} {k : Nat} (h : ∀ j, j < k → ¬ g j = p) : ∀ n i, i + n ≤ k → cz_wi p g i n = -1 := by
  intro n
  induction n with
  | zero => intro i _; rfl
  | succ n ih => intro i hi; rw [cz_wi, if_neg (h i (by omega)), ih (i + 1) (by omega)]
theorem ci_wiJ {p : Int32} {g : Nat → Int32} {k j : Nat} (hd : ∀ i j, i < j → j < k → ¬ g i = g j) (hj : j < k) (hg : g j = p) : ∀ n i, i ≤ j → j < i + n → i + n ≤ k → cz_wi p g i n = nI j := by
  intro n
  induction n with
  | zero => intro i h1 h2; omega
  | succ n ih =>
    intro i h1 h2 h3
    rw [cz_wi]
    by_cases e : i = j
    · subst e; rw [if_pos hg]
    · rw [if_neg (fun q => hd i j (by omega) hj (q.trans hg.symm)), ih (i + 1) (by omega) (by omega) (by omega)]
theorem ci_wo9 {da p : Int32} {g : Nat → Int32} : ∀ k, (∀ j, j < k → ¬ g j = p) → cz_wo da p g k = if da = p then 9 else -1 := by
  intro k
  induction k with
  | zero => intro _; rfl
  | succ k ih => intro h; rw [cz_wo, if_neg (h k (by omega)), ih (fun j hj => h j (by omega))]
theorem ci_woJ {da p : Int32} {g : Nat → Int32} {k j : Nat} (hd : ∀ i j, i < j → j < k → ¬ g i = g j) (hg : g j = p) : ∀ n, j < n → n ≤ k → cz_wo da p g n = nI j := by
  intro n
  induction n with
  | zero => intro h; omega
  | succ n ih =>
    intro h1 h2
    rw [cz_wo]
    by_cases e : n = j
    · subst e; rw [if_pos hg]
    · rw [if_neg (fun q => hd j n (by omega) (by omega) (hg.trans q.symm)), ih (by omega) (by omega)]
theorem ci_who {w0 a0 da ds p : Int32} {g : Nat → Int32} {k : Nat} (hok : ci_ok w0 a0 da ds g k) : (if p = cz_plc a0 then 9 else cz_wi p g 0 k) = cz_wo da p g k := by
  rw [hok.da]
  obtain ⟨-, hd, ha⟩ := hok
  by_cases e : p = da
  · rw [if_pos e, ci_wo9 k (fun j hj q => ha j hj (q.trans e)), if_pos e.symm]
  · rw [if_neg e]
    by_cases q : ∃ j, j < k ∧ g j = p
    · obtain ⟨j, hj, hg⟩ := q
      rw [ci_wiJ hd hj hg k 0 (by omega) (by omega) (by omega), ci_woJ hd hg k hj (Nat.le_refl _)]
    · have h : ∀ j, j < k → ¬ g j = p := fun j hj hg => q ⟨j, hj, hg⟩
      rw [ci_wi0 h k 0 (by omega), ci_wo9 k h, if_neg (fun c => e c.symm)]
/-- THE STATES ARE ALIKE -/
def cz_inv (hq rq k0 k9 : Nat) (ih ik w0 fl a0 da ds b0 ka ks : Int32) (g1 mg1 g2 e1 e2 : Nat → Int32) : Prop := rq ≤ hq ∧ ((ih = 0 ∧ hq = 0) ∨ (ih = 1 ∧ 0 < hq)) ∧ ((ik = 0 ∧ rq = 0) ∨ (ik = 1 ∧ 0 < rq)) ∧ (hq = 0 → k0 = 0 ∧ a0 = -1) ∧ (0 < hq → ci_hl w0 fl) ∧ ci_ok w0 a0 da ds g2 k0 ∧ cz_eqp g1 mg1 k0 ∧ (0 < rq → rq = hq → ci_ok w0 b0 ka ks e2 k9 ∧ k9 ≤ k0 ∧ cz_eqp e1 g1 k9)
section CI
variable {hq rq k0 k9 : Nat} {ih ik w0 fl a0 da ds b0 ka ks : Int32} {g1 mg1 g2 e1 e2 : Nat → Int32}
theorem ci_ih (hi : cz_inv hq rq k0 k9 ih ik w0 fl a0 da ds b0 ka ks g1 mg1 g2 e1 e2) (hb : hq ≤ 300) : nI hq = 0 ↔ ih = 0 := by
  rw [ci_n0 (by omega)]
  rcases hi.2.1 with ⟨h1, h2⟩ | ⟨h1, h2⟩
  · rw [h1, h2]; exact ⟨fun _ => rfl, fun _ => rfl⟩
  · rw [h1]; exact ⟨fun h => absurd h (by omega), fun h => absurd h (by decide)⟩
theorem ci_hl_of (hi : cz_inv hq rq k0 k9 ih ik w0 fl a0 da ds b0 ka ks g1 mg1 g2 e1 e2) (hb : hq ≤ 300) (h : ¬ nI hq = 0) : ci_hl w0 fl := hi.2.2.2.2.1 (by rw [ci_n0 (by omega)] at h; omega)
/-- on -/
theorem ci_on (hb : hq ≤ 300) (hi : cz_inv hq rq k0 k9 ih ik w0 fl a0 da ds b0 ka ks g1 mg1 g2 e1 e2) (p : Int32) : cz_onC p (nI hq) w0 a0 g2 k0 = cz_onM p ih fl da g2 k0 := by
  unfold cz_onC cz_onM
  by_cases h1 : cz_in 0 p 19
  · rw [if_pos h1, if_pos h1]
    by_cases h2 : nI hq = 0
    · rw [if_pos h2, if_pos ((ci_ih hi hb).mp h2)]
    · rw [if_neg h2, if_neg (fun q => h2 ((ci_ih hi hb).mpr q))]
      obtain ⟨q, hq', e⟩ := ci_in h1
      have hfl := ci_hl_of hi hb h2
      have hx : cz_op p w0 ↔ cz_hs fl p := by
        rw [e]
        exact ⟨fun h => (hfl q hq').mp h.2, fun h => ⟨cz_in_nI hq', (hfl q hq').mpr h⟩⟩
      by_cases h3 : cz_hs fl p
      · rw [if_pos h3, if_pos (hx.mpr h3)]
        exact ci_who hi.2.2.2.2.2.1
      · rw [if_neg h3, if_neg (fun q => h3 (hx.mp q))]
  · rw [if_neg h1, if_neg h1]
/-- duke -/
theorem ci_dke (hk : k0 ≤ 6) (hg : cz_pl g2) (hb : hq ≤ 300) (hi : cz_inv hq rq k0 k9 ih ik w0 fl a0 da ds b0 ka ks g1 mg1 g2 e1 e2) (p sd y n x1 x2 x3 : Int32) : cz_dkC p sd (nI hq) (w0 ||| cz_pp g2 k0) y n x1 x2 x3 = cz_dkM p sd ih fl da y n x1 x2 x3 g2 k0 := by
  unfold cz_dkC cz_dkM
  by_cases h1 : cz_in 0 p 19
  · rw [if_pos h1, if_pos h1]
    by_cases h0 : cz_in 0 sd 3
    · rw [if_pos h0, if_pos h0]
      by_cases h2 : nI hq = 0
      · rw [if_pos h2, if_pos ((ci_ih hi hb).mp h2)]
      · rw [if_neg h2, if_neg (fun q => h2 ((ci_ih hi hb).mpr q))]
        obtain ⟨q, hq', e⟩ := ci_in h1
        have hfl := ci_hl_of hi hb h2
        have hok := hi.2.2.2.2.2.1
        rw [e]
        have hem := ci_em (da := da) hk hg hfl hq'
        by_cases h3 : cz_em fl da (nI q) g2 k0
        · rw [if_pos h3, if_pos (hem.mp h3).1]
        · rw [if_neg h3]
          by_cases h4 : nI q = da
          · rw [if_pos h4, if_pos]
            refine ⟨cz_in_nI hq', (ci_or0 _ _ _).mpr ⟨?_, (ci_pp hg hq' k0 hk).mpr (fun j hj c => hok.2.2 j hj (c.trans h4))⟩⟩
            rcases hok.1 with ⟨-, s2⟩ | ⟨d, e', hd, he, s1, s2, s3, s4⟩
            · exact absurd (h4.trans s2) (ci_n1 (by omega))
            · have : q = d := (ci_ni (by omega) (by omega)).mp (h4.trans s2)
              rw [this]; exact s4
          · rw [if_neg h4, if_neg (fun c => h3 (hem.mpr ⟨c, fun c2 => h4 c2.symm⟩))]
    · rw [if_neg h0, if_neg h0]
  · rw [if_neg h1, if_neg h1]
theorem ci_dkA (hk : k0 ≤ 6) (hg : cz_pl g2) (hb : hq ≤ 300) (hi : cz_inv hq rq k0 k9 ih ik w0 fl a0 da ds b0 ka ks g1 mg1 g2 e1 e2) (p sd : Int32) : cz_dkC p sd (nI hq) (w0 ||| cz_pp g2 k0) (p * 4 + sd) (-103) (-101) (-102) (-103) = cz_dkM p sd ih fl da (4 * p + sd) (-103) (-101) (-102) (-103) g2 k0 := by
  rw [ci_dke hk hg hb hi, Int32.mul_comm p 4]
theorem ci_dk1 (p sd w2 b y n : Int32) : cz_dkC p sd w2 b y n n n n = if (cz_in 0 p 19 ∧ cz_in 0 sd 3 ∧ ¬ w2 = 0 ∧ cz_op p b) then y else n := by
  unfold cz_dkC
  by_cases h1 : cz_in 0 p 19
  · by_cases h2 : cz_in 0 sd 3
    · by_cases h3 : w2 = 0
      · rw [if_pos h1, if_pos h2, if_pos h3, if_neg (fun h => h.2.2.1 h3)]
      · by_cases h4 : cz_op p b
        · rw [if_pos h1, if_pos h2, if_neg h3, if_pos h4, if_pos ⟨h1, h2, h3, h4⟩]
        · rw [if_pos h1, if_pos h2, if_neg h3, if_neg h4, if_neg (fun h => h4 h.2.2.2)]
    · rw [if_pos h1, if_neg h2, if_neg (fun h => h2 h.2.1)]
  · rw [if_neg h1, if_neg (fun h => h1 h.1)]
theorem ci_duke (hk : k0 ≤ 6) (hg : cz_pl g2) (hb : hq ≤ 300) (hi : cz_inv hq rq k0 k9 ih ik w0 fl a0 da ds b0 ka ks g1 mg1 g2 e1 e2) {p sd s0 z3 z4 : Int32} (h1 : s0 = cz_dkC p sd (nI hq) (w0 ||| cz_pp g2 k0) (p * 4 + sd) a0 a0 a0 a0) (h2 : z3 = cz_dkM p sd ih fl da p da da da da g2 k0) (h3 : z4 = cz_dkM p sd ih fl da sd ds ds ds ds g2 k0) : cz_inv hq rq k0 k9 ih ik w0 fl s0 z3 z4 b0 ka ks g1 mg1 g2 e1 e2 := by
  rw [← ci_dke hk hg hb hi] at h2 h3
  rw [ci_dk1] at h1 h2 h3
  by_cases c : cz_in 0 p 19 ∧ cz_in 0 sd 3 ∧ ¬ nI hq = 0 ∧ cz_op p (w0 ||| cz_pp g2 k0)
  · rw [if_pos c] at h1 h2 h3
    obtain ⟨c1, c2, c3, c4⟩ := c
    obtain ⟨q, hq', e⟩ := ci_in c1
    obtain ⟨r, hr', e2⟩ := ci_in3 c2
    have hne : ¬ hq = 0 := fun h => c3 ((ci_n0 (by omega)).mpr h)
    obtain ⟨i1, i2, i3, i4, i5, i6, i7, i8⟩ := hi
    refine ⟨i1, i2, i3, fun h => absurd h hne, i5, ⟨Or.inr ⟨q, r, hq', hr', ?_, by rw [h2, e], by rw [h3, e2], ?_⟩, i6.2.1, ?_⟩, i7, i8⟩
    · rw [h1, e, e2, show (4 : Int32) = nI 4 from rfl, pk_mul, nI_add, Nat.mul_comm]
    · rw [e] at c4; exact ((ci_or0 _ _ _).mp c4.2).1
    · rw [e] at c4
      rw [h2, e]
      exact (ci_pp hg hq' k0 hk).mp ((ci_or0 _ _ _).mp c4.2).2
  · rw [if_neg c] at h1 h2 h3
    rw [h1, h2, h3]
    exact hi
theorem ci_if {α : Type} {P Q : Prop} [Decidable P] [Decidable Q] (h : P ↔ Q) (a b : α) : (if P then a else b) = if Q then a else b := by
  by_cases p : P
  · rw [if_pos p, if_pos (h.mp p)]
  · rw [if_neg p, if_neg (fun q => p (h.mpr q))]
/-- courtier -/
theorem ci_ct (hk : k0 ≤ 6) (hg : cz_pl g2) (hb : hq ≤ 300) (hi : cz_inv hq rq k0 k9 ih ik w0 fl a0 da ds b0 ka ks g1 mg1 g2 e1 e2) (kind p : Int32) : cz_ctC kind p (nI hq) (cz_tk a0 w0 (cz_pp g2 k0)) ↔ cz_ctM kind p ih fl da g2 k0 := by
  constructor
  · rintro ⟨h1, h2, h3, h4⟩
    obtain ⟨q, hq', e⟩ := ci_in h1
    refine ⟨h1, h2, fun c => h3 ((ci_ih hi hb).mpr c), ?_⟩
    rw [e] at h4 ⊢
    exact (ci_tk hk hg (ci_hl_of hi hb h3) hi.2.2.2.2.2.1 hq').mp h4
  · rintro ⟨h1, h2, h3, h4⟩
    obtain ⟨q, hq', e⟩ := ci_in h1
    have h3' : ¬ nI hq = 0 := fun c => h3 ((ci_ih hi hb).mp c)
    refine ⟨h1, h2, h3', ?_⟩
    rw [e] at h4 ⊢
    exact (ci_tk hk hg (ci_hl_of hi hb h3') hi.2.2.2.2.2.1 hq').mpr h4
theorem ci_ctA {P Q : Prop} [Decidable P] [Decidable Q] (h : P ↔ Q) (kind p : Int32) (k : Nat) : cz_ctA kind p P k = cz_ctA kind p Q k := by
  unfold cz_ctA
  rw [ci_if h]
theorem ci_courtier (hk : k0 ≤ 6) (hg : cz_pl g2) (hb : hq ≤ 300) (hi : cz_inv hq rq k0 k9 ih ik w0 fl a0 da ds b0 ka ks g1 mg1 g2 e1 e2) {kind p : Int32} {kk : Nat} {t1 t1m t2 : Nat → Int32} (h1 : kk = if cz_ctC kind p (nI hq) (cz_tk a0 w0 (cz_pp g2 k0)) then cz_jn k0 else k0) (h2 : t1 = if cz_ctC kind p (nI hq) (cz_tk a0 w0 (cz_pp g2 k0)) then cz_jf k0 g1 kind else g1) (h3 : t1m = if cz_ctM kind p ih fl da g2 k0 then cz_jf k0 mg1 kind else mg1) (h4 : t2 = if cz_ctC kind p (nI hq) (cz_tk a0 w0 (cz_pp g2 k0)) then cz_jf k0 g2 p else g2) : cz_inv hq rq kk k9 ih ik w0 fl a0 da ds b0 ka ks t1 t1m t2 e1 e2 := by
  rw [← ci_if (ci_ct hk hg hb hi kind p)] at h3
  by_cases c : cz_ctC kind p (nI hq) (cz_tk a0 w0 (cz_pp g2 k0))
  · rw [if_pos c] at h1 h2 h3 h4
    have cM := (ci_ct hk hg hb hi kind p).mp c
    by_cases q6 : 6 ≤ k0
    · unfold cz_jn cz_jf at *
      rw [if_pos q6] at h1 h2 h3 h4
      rw [h1, h2, h3, h4]
      exact hi
    · unfold cz_jn cz_jf at *
      rw [if_neg q6] at h1 h2 h3 h4
      obtain ⟨c1, c2, c3, c4⟩ := c
      obtain ⟨q, hq', e⟩ := ci_in c1
      have hne : ¬ hq = 0 := fun h => c3 ((ci_n0 (by omega)).mpr h)
      obtain ⟨n1, n2⟩ := (ci_wo k0 hk).mp cM.2.2.2.2
      obtain ⟨i1, i2, i3, i4, i5, i6, i7, i8⟩ := hi
      subst h1 h2 h3 h4
      refine ⟨i1, i2, i3, fun h => absurd h hne, i5, ⟨i6.1, ?_, ?_⟩, ?_, ?_⟩
      · intro i j hij hj
        by_cases ej : j = k0
        · subst ej; rw [pk_us, pk_un (by omega)]; exact n1 i hij
        · rw [pk_un ej, pk_un (by omega)]; exact i6.2.1 i j hij (by omega)
      · intro j hj
        by_cases ej : j = k0
        · subst ej; rw [pk_us]; exact fun h => n2 h.symm
        · rw [pk_un ej]; exact i6.2.2 j (by omega)
      · intro j hj
        by_cases ej : j = k0
        · subst ej; rw [pk_us, pk_us]
        · rw [pk_un ej, pk_un ej]; exact i7 j (by omega)
      · intro r1 r2
        obtain ⟨o1, o2, o3⟩ := i8 r1 r2
        refine ⟨o1, by omega, fun j hj => ?_⟩
        rw [pk_un (by omega)]; exact o3 j hj
  · rw [if_neg c] at h1 h2 h3 h4
    rw [h1, h2, h3, h4]
    exact hi
theorem ci_hq (hi : cz_inv hq rq k0 k9 ih ik w0 fl a0 da ds b0 ka ks g1 mg1 g2 e1 e2) (h : 0 < k0) : 0 < hq := by
  rcases Nat.eq_zero_or_pos hq with q | q
  · have := (hi.2.2.2.1 q).1; omega
  · exact q
/-- go -/
theorem ci_go {α : Type} (hk : k0 ≤ 6) (hg : cz_pl g2) (hi : cz_inv hq rq k0 k9 ih ik w0 fl a0 da ds b0 ka ks g1 mg1 g2 e1 e2) (x p : Int32) (y n : α) : (if cz_cr k0 x then (if cz_in 0 p 19 then (if cz_op p (cz_tk a0 w0 (cz_pp g2 k0)) then y else n) else n) else n) = if cz_cr k0 x then (if cz_in 0 p 19 then (if cz_em fl da p g2 k0 then y else n) else n) else n := by
  by_cases h1 : cz_cr k0 x
  · rw [if_pos h1, if_pos h1]
    by_cases h2 : cz_in 0 p 19
    · rw [if_pos h2, if_pos h2]
      obtain ⟨j, hj, -⟩ := cz_cr_ex hk h1
      obtain ⟨q, hq', e⟩ := ci_in h2
      refine ci_if ?_ y n
      rw [e]
      exact ci_tk hk hg (hi.2.2.2.2.1 (ci_hq hi (by omega))) hi.2.2.2.2.2.1 hq'
    · rw [if_neg h2, if_neg h2]
  · rw [if_neg h1, if_neg h1]
theorem ci_goA (hk : k0 ≤ 6) (hg : cz_pl g2) (hi : cz_inv hq rq k0 k9 ih ik w0 fl a0 da ds b0 ka ks g1 mg1 g2 e1 e2) (x p : Int32) : cz_goA k0 g2 x p (cz_op p (cz_tk a0 w0 (cz_pp g2 k0))) = cz_goA k0 g2 x p (cz_em fl da p g2 k0) := by
  unfold cz_goA
  by_cases h1 : cz_cr k0 x
  · rw [if_pos h1, if_pos h1]
    by_cases h2 : cz_in 0 p 19
    · rw [if_pos h2, if_pos h2]
      have := ci_go hk hg hi x p (g2 x.toNatClampNeg) (-103)
      rw [if_pos h1, if_pos h1, if_pos h2, if_pos h2] at this
      exact this
    · rw [if_neg h2, if_neg h2]
  · rw [if_neg h1, if_neg h1]
theorem ci_goF (hk : k0 ≤ 6) (hg : cz_pl g2) (hi : cz_inv hq rq k0 k9 ih ik w0 fl a0 da ds b0 ka ks g1 mg1 g2 e1 e2) (x p : Int32) : cz_goF k0 g2 x p (cz_op p (cz_tk a0 w0 (cz_pp g2 k0))) = cz_goF k0 g2 x p (cz_em fl da p g2 k0) := ci_go hk hg hi x p (upd g2 x.toNatClampNeg p) g2
theorem ci_goI (hk : k0 ≤ 6) (hi : cz_inv hq rq k0 k9 ih ik w0 fl a0 da ds b0 ka ks g1 mg1 g2 e1 e2) {x p : Int32} {t2 : Nat → Int32} (h : t2 = cz_goF k0 g2 x p (cz_em fl da p g2 k0)) : cz_inv hq rq k0 k9 ih ik w0 fl a0 da ds b0 ka ks g1 mg1 t2 e1 e2 := by
  unfold cz_goF at h
  by_cases h1 : cz_cr k0 x
  · rw [if_pos h1] at h
    by_cases h2 : cz_in 0 p 19
    · rw [if_pos h2] at h
      by_cases h3 : cz_em fl da p g2 k0
      · rw [if_pos h3] at h
        obtain ⟨n1, n2⟩ := (ci_wo k0 hk).mp h3.2
        obtain ⟨i1, i2, i3, i4, i5, i6, i7, i8⟩ := hi
        subst h
        generalize x.toNatClampNeg = v
        refine ⟨i1, i2, i3, i4, i5, ⟨i6.1, ?_, ?_⟩, i7, i8⟩
        · intro i j hij hj
          by_cases ej : j = v
          · subst ej; rw [pk_us, pk_un (by omega)]; exact n1 i (by omega)
          · rw [pk_un ej]
            by_cases ei : i = v
            · subst ei; rw [pk_us]; exact fun c => n1 j hj c.symm
            · rw [pk_un ei]; exact i6.2.1 i j hij hj
        · intro j hj
          by_cases ej : j = v
          · subst ej; rw [pk_us]; exact fun c => n2 c.symm
          · rw [pk_un ej]; exact i6.2.2 j hj
      · rw [if_neg h3] at h; rw [h]; exact hi
    · rw [if_neg h2] at h; rw [h]; exact hi
  · rw [if_neg h1] at h; rw [h]; exact hi
/-- as -/
theorem ci_as (hk : k0 ≤ 6) (hi : cz_inv hq rq k0 k9 ih ik w0 fl a0 da ds b0 ka ks g1 mg1 g2 e1 e2) (x v : Int32) : cz_asA k0 g1 x v = cz_asA k0 mg1 x v := by
  unfold cz_asA
  by_cases h1 : cz_cr k0 x
  · rw [if_pos h1, if_pos h1]
    obtain ⟨j, hj, e⟩ := cz_cr_ex hk h1
    have e2 : x.toNatClampNeg = j := by rw [e]; exact nI_clamp (n := j) (by omega)
    rw [e2, hi.2.2.2.2.2.2.1 j hj]
  · rw [if_neg h1, if_neg h1]
end CI
