theorem ci_bv (x y z : BitVec 32) : (x ||| y) &&& z = 0#32 ↔ x &&& z = 0#32 ∧ y &&& z = 0#32 := by
  constructor
  · intro h
    constructor
    · apply BitVec.eq_of_getLsbD_eq
      intro i hi
      have q := congrArg (fun v => BitVec.getLsbD v i) h
      simp only [BitVec.getLsbD_and, BitVec.getLsbD_or, BitVec.getLsbD_zero] at q ⊢
      revert q
      cases x.getLsbD i <;> cases y.getLsbD i <;> cases z.getLsbD i <;> simp
    · apply BitVec.eq_of_getLsbD_eq
      intro i hi
      have q := congrArg (fun v => BitVec.getLsbD v i) h
      simp only [BitVec.getLsbD_and, BitVec.getLsbD_or, BitVec.getLsbD_zero] at q ⊢
      revert q
      cases x.getLsbD i <;> cases y.getLsbD i <;> cases z.getLsbD i <;> simp
  · rintro ⟨h1, h2⟩
    apply BitVec.eq_of_getLsbD_eq
    intro i hi
    have q1 := congrArg (fun v => BitVec.getLsbD v i) h1
    have q2 := congrArg (fun v => BitVec.getLsbD v i) h2
    simp only [BitVec.getLsbD_and, BitVec.getLsbD_or, BitVec.getLsbD_zero] at q1 q2 ⊢
    revert q1 q2
    cases x.getLsbD i <;> cases y.getLsbD i <;> cases z.getLsbD i <;> simp
theorem ci_or0 (a b c : Int32) : (a ||| b) &&& c = 0 ↔ a &&& c = 0 ∧ b &&& c = 0 := by
  have h := ci_bv a.toBitVec b.toBitVec c.toBitVec
  rw [← Int32.toBitVec_inj, ← Int32.toBitVec_inj, ← Int32.toBitVec_inj]
  exact h
theorem ci_b2 : ∀ q, q < 20 → ∀ p, p < 20 → (((1 : Int32) <<< (nI q &&& 31)) &&& ((1 : Int32) <<< (nI p &&& 31)) = 0 ↔ ¬ q = p) := by decide +kernel
/-! ROOM: the class's choice, and the so-manieth of a set -/
/-- how many of the first so many are good -/
def cm_ct (G : Nat → Bool) : Nat → Nat
  | 0 => 0
  | i + 1 => cm_ct G i + if G i = true then 1 else 0
section CM
variable {G : Nat → Bool}
theorem cm_ct1 {i : Nat} (h : G i = true) : cm_ct G (i + 1) = cm_ct G i + 1 := by rw [cm_ct, if_pos h]
theorem cm_ct0 {i : Nat} (h : ¬ G i = true) : cm_ct G (i + 1) = cm_ct G i := by rw [cm_ct, if_neg h]; rfl
theorem cm_mono {p : Nat} : ∀ n, cm_ct G p ≤ cm_ct G (p + n) := by
  intro n
  induction n with
  | zero => exact Nat.le_refl _
  | succ n ih =>
    show cm_ct G p ≤ cm_ct G (p + n + 1)
    rw [cm_ct]
    omega
theorem cm_le {p q : Nat} (h : p ≤ q) : cm_ct G p ≤ cm_ct G q := by
  have := cm_mono (G := G) (p := p) (q - p)
  rw [show p + (q - p) = q by omega] at this
  exact this
theorem cm_lt {p q : Nat} (h : p < q) (hp : G p = true) : cm_ct G p + 1 ≤ cm_ct G q := by
  have := cm_le (G := G) (show p + 1 ≤ q by omega)
  rw [cm_ct1 hp] at this
  exact this
theorem cm_uq {p q : Nat} (hp : G p = true) (hq : G q = true) (h : cm_ct G p = cm_ct G q) : p = q := by
  rcases Nat.lt_trichotomy p q with c | c | c
  · have := cm_lt c hp; omega
  · exact c
  · have := cm_lt c hq; omega
theorem cm_at {j : Nat} : ∀ n, j < cm_ct G n → ∃ p, p < n ∧ G p = true ∧ cm_ct G p = j := by
  intro n
  induction n with
  | zero => intro h; exact absurd h (Nat.not_lt_zero _)
  | succ n ih =>
    intro h
    by_cases g : G n = true
    · rw [cm_ct1 g] at h
      by_cases c : j < cm_ct G n
      · obtain ⟨p, hp, h1, h2⟩ := ih c
        exact ⟨p, by omega, h1, h2⟩
      · exact ⟨n, by omega, g, by omega⟩
    · rw [cm_ct0 g] at h
      obtain ⟨p, hp, h1, h2⟩ := ih h
      exact ⟨p, by omega, h1, h2⟩
end CM
/-- the bits of a set -/
def cm_bB (x : Int32) (p : Nat) : Bool := decide (¬ x &&& ((1 : Int32) <<< (nI p &&& 31)) = 0)
/-- what placeInSet answers -/
def cm_ps (x : Int32) (i : Nat) (r : Int32) : Prop := (∃ p : Nat, p < 20 ∧ cm_bB x p = true ∧ cm_ct (cm_bB x) p = i ∧ r = nI p) ∨ (r = -1 ∧ ∀ p, p < 20 → cm_bB x p = true → ¬ cm_ct (cm_bB x) p = i)
theorem cm_ps_e {x : Int32} {i : Nat} (h : cm_ct (cm_bB x) 20 ≤ i) : cm_ps x i (-1) := by
  refine Or.inr ⟨rfl, fun p hp hb => ?_⟩
  have := cm_lt hp hb
  omega
/-- what roomFor leaves: all the good ones below some place, as many as are wanted -/
def cm_rf (G : Nat → Bool) (m : Nat) (ng : Prop) (r : Int32) : Prop := (ng ∧ ∃ i, i ≤ 20 ∧ cm_ct G i = m ∧ ∀ p, p < 20 → cm_bB r p = (decide (p < i) && G p)) ∨ (¬ (ng ∧ m ≤ cm_ct G 20) ∧ r = 0)
theorem cm_bB0 (p : Nat) : cm_bB 0 p = false := by
  unfold cm_bB
  exact decide_eq_false (fun h => h Int32.zero_and)
/-- class: what room answers -/
def cm_rA (G : Nat → Bool) (m : Nat) (ng : Prop) (i : Nat) (r : Int32) : Prop := (ng ∧ m ≤ cm_ct G 20 ∧ i < m ∧ ∃ p : Nat, p < 20 ∧ G p = true ∧ cm_ct G p = i ∧ r = nI p) ∨ (¬ (ng ∧ m ≤ cm_ct G 20 ∧ i < m) ∧ r = -1)
theorem cm_ctc {B G : Nat → Bool} : ∀ n, (∀ p, p < n → B p = G p) → cm_ct B n = cm_ct G n := by
  intro n
  induction n with
  | zero => intro _; rfl
  | succ n ih => intro h; rw [cm_ct, cm_ct, ih (fun p hp => h p (by omega)), h n (by omega)]
theorem cm_ctF : ∀ n, cm_ct (cm_bB 0) n = 0 := by
  intro n
  induction n with
  | zero => rfl
  | succ n ih => rw [cm_ct0 (by rw [cm_bB0]; decide), ih]
theorem cm_cls {G : Nat → Bool} {m i : Nat} {ng : Prop} {x r : Int32} (hm : 0 < m) (h : cm_rf G m ng x) (hp : cm_ps x i r) : cm_rA G m ng i r := by
  rcases h with ⟨n, j, hj, hc, hb⟩ | ⟨hn, e⟩
  · have hle : m ≤ cm_ct G 20 := by rw [← hc]; exact cm_le hj
    have hbj : ∀ p, p < j → cm_bB x p = G p := by
      intro p hp'
      rw [hb p (by omega), decide_eq_true hp', Bool.true_and]
    have hctp : ∀ p, p ≤ j → cm_ct (cm_bB x) p = cm_ct G p := fun p hp' => cm_ctc p (fun q hq => hbj q (by omega))
    rcases hp with ⟨p, p1, p2, p3, p4⟩ | ⟨p1, p2⟩
    · rw [hb p p1] at p2
      have q1 : p < j := by
        by_cases c : p < j
        · exact c
        · rw [decide_eq_false c, Bool.false_and] at p2; exact absurd p2 (by decide)
      rw [decide_eq_true q1, Bool.true_and] at p2
      rw [hctp p (by omega)] at p3
      refine Or.inl ⟨n, hle, ?_, p, p1, p2, p3, p4⟩
      have := cm_lt q1 p2
      omega
    · refine Or.inr ⟨fun c => ?_, p1⟩
      obtain ⟨q, q1, q2, q3⟩ := cm_at (G := G) j (show i < cm_ct G j by rw [hc]; exact c.2.2)
      exact p2 q (by omega) (by rw [hbj q q1]; exact q2) (by rw [hctp q (by omega)]; exact q3)
  · refine Or.inr ⟨fun c => hn ⟨c.1, c.2.1⟩, ?_⟩
    rcases hp with ⟨p, p1, p2, -⟩ | ⟨p1, -⟩
    · rw [e, cm_bB0] at p2; exact absurd p2 (by decide)
    · exact p1
theorem cm_rA_u {G : Nat → Bool} {m i : Nat} {ng : Prop} {r r' : Int32} (h : cm_rA G m ng i r) (h' : cm_rA G m ng i r') : r = r' := by
  rcases h with ⟨a1, a2, a3, p, p1, p2, p3, p4⟩ | ⟨a, a1⟩
  · rcases h' with ⟨-, -, -, q, q1, q2, q3, q4⟩ | ⟨b, -⟩
    · rw [p4, q4, cm_uq p2 q2 (p3.trans q3.symm)]
    · exact absurd ⟨a1, a2, a3⟩ b
  · rcases h' with ⟨b1, b2, b3, -⟩ | ⟨-, b1⟩
    · exact absurd ⟨b1, b2, b3⟩ a
    · rw [a1, b1]
/-! the reference's order of sets -/
/-- the so-manieth place of a code -/
def cm_gf (t c : Nat) (k : Nat) : Nat := if t = 1 then (if k = 0 then c else 20 + k - 1) else if t = 2 then (if k = 0 then c / 20 else if k = 1 then c % 20 else 21) else (if k = 0 then c / 400 else if k = 1 then c / 20 % 20 else c % 20)
def cm_N (t : Nat) : Nat := if t = 1 then 20 else if t = 2 then 400 else 8000
def cm_P (G : Nat → Bool) (ng : Prop) (t c : Nat) : Prop := ng ∧ cm_gf t c 0 < cm_gf t c 1 ∧ cm_gf t c 1 < cm_gf t c 2 ∧ ∀ k, k < t → G (cm_gf t c k) = true
theorem cm_min {G : Nat → Bool} {ng : Prop} {t c : Nat} (ht : 1 ≤ t) (ht3 : t ≤ 3) (hG : ∀ p, G p = true → p < 20) (hc : c < cm_N t) (hP : cm_P G ng t c) (hm : ∀ c', c' < c → ¬ cm_P G ng t c') : t ≤ cm_ct G 20 ∧ ∀ k, k < t → cm_ct G (cm_gf t c k) = k := by
  obtain ⟨n, o1, o2, o3⟩ := hP
  rcases (show t = 1 ∨ t = 2 ∨ t = 3 by omega) with rfl | rfl | rfl
  · have g0 := o3 0 (by omega)
    have e0 : cm_gf 1 c 0 = c := rfl
    rw [e0] at g0
    have h0 : c < 20 := hG c g0
    have hle : 1 ≤ cm_ct G 20 := by have := cm_lt h0 g0; omega
    refine ⟨hle, fun k hk => ?_⟩
    have ek : k = 0 := by omega
    subst ek
    rw [e0]
    rcases Nat.eq_zero_or_pos (cm_ct G c) with q | q
    · exact q
    · obtain ⟨p, p1, p2, -⟩ := cm_at (G := G) (j := 0) c q
      refine absurd ⟨n, ?_, ?_, fun k hk => ?_⟩ (hm p p1)
      · show p < 20; omega
      · show (20 : Nat) < 21; omega
      · have : k = 0 := by omega
        subst this; exact p2
  · have g0 := o3 0 (by omega)
    have g1 := o3 1 (by omega)
    have e0 : cm_gf 2 c 0 = c / 20 := rfl
    have e1 : cm_gf 2 c 1 = c % 20 := rfl
    rw [e0] at g0 o1
    rw [e1] at g1 o1
    have h0 := hG _ g0
    have l1 := cm_lt o1 g0
    have l2 := cm_lt (show c % 20 < 20 by omega) g1
    have hle : 2 ≤ cm_ct G 20 := by omega
    refine ⟨hle, ?_⟩
    obtain ⟨p0, a1, a2, a3⟩ := cm_at (G := G) (j := 0) 20 (by omega)
    obtain ⟨p1, b1, b2, b3⟩ := cm_at (G := G) (j := 1) 20 (by omega)
    have q01 : p0 < p1 := by
      rcases Nat.lt_or_ge p0 p1 with q | q
      · exact q
      · have := cm_le (G := G) q; omega
    have d0 : p0 ≤ c / 20 := by
      rcases Nat.lt_or_ge (c / 20) p0 with q | q
      · have := cm_lt q g0; omega
      · exact q
    have d1 : p1 ≤ c % 20 := by
      rcases Nat.lt_or_ge (c % 20) p1 with q | q
      · have := cm_lt q g1; omega
      · exact q
    have hcc : ¬ p0 * 20 + p1 < c := by
      intro q
      refine hm _ q ⟨n, ?_, ?_, fun k hk => ?_⟩
      · show (p0 * 20 + p1) / 20 < (p0 * 20 + p1) % 20; omega
      · show (p0 * 20 + p1) % 20 < 21; omega
      · rcases (show k = 0 ∨ k = 1 by omega) with rfl | rfl
        · show G ((p0 * 20 + p1) / 20) = true
          rw [show (p0 * 20 + p1) / 20 = p0 by omega]; exact a2
        · show G ((p0 * 20 + p1) % 20) = true
          rw [show (p0 * 20 + p1) % 20 = p1 by omega]; exact b2
    intro k hk
    rcases (show k = 0 ∨ k = 1 by omega) with rfl | rfl
    · rw [e0, show c / 20 = p0 by omega]; exact a3
    · rw [e1, show c % 20 = p1 by omega]; exact b3
  · have g0 := o3 0 (by omega)
    have g1 := o3 1 (by omega)
    have g2 := o3 2 (by omega)
    have e0 : cm_gf 3 c 0 = c / 400 := rfl
    have e1 : cm_gf 3 c 1 = c / 20 % 20 := rfl
    have e2 : cm_gf 3 c 2 = c % 20 := rfl
    rw [e0] at g0 o1
    rw [e1] at g1 o1 o2
    rw [e2] at g2 o2
    have h0 := hG _ g0
    have l1 := cm_lt o1 g0
    have l2 := cm_lt o2 g1
    have l3 := cm_lt (show c % 20 < 20 by omega) g2
    have hle : 3 ≤ cm_ct G 20 := by omega
    refine ⟨hle, ?_⟩
    obtain ⟨p0, a1, a2, a3⟩ := cm_at (G := G) (j := 0) 20 (by omega)
    obtain ⟨p1, b1, b2, b3⟩ := cm_at (G := G) (j := 1) 20 (by omega)
    obtain ⟨p2, c1, c2, c3⟩ := cm_at (G := G) (j := 2) 20 (by omega)
    have q01 : p0 < p1 := by
      rcases Nat.lt_or_ge p0 p1 with q | q
      · exact q
      · have := cm_le (G := G) q; omega
    have q12 : p1 < p2 := by
      rcases Nat.lt_or_ge p1 p2 with q | q
      · exact q
      · have := cm_le (G := G) q; omega
    have d0 : p0 ≤ c / 400 := by
      rcases Nat.lt_or_ge (c / 400) p0 with q | q
      · have := cm_lt q g0; omega
      · exact q
    have d1 : p1 ≤ c / 20 % 20 := by
      rcases Nat.lt_or_ge (c / 20 % 20) p1 with q | q
      · have := cm_lt q g1; omega
      · exact q
    have d2 : p2 ≤ c % 20 := by
      rcases Nat.lt_or_ge (c % 20) p2 with q | q
      · have := cm_lt q g2; omega
      · exact q
    have hcc : ¬ p0 * 400 + p1 * 20 + p2 < c := by
      intro q
      refine hm _ q ⟨n, ?_, ?_, fun k hk => ?_⟩
      · show (p0 * 400 + p1 * 20 + p2) / 400 < (p0 * 400 + p1 * 20 + p2) / 20 % 20; omega
      · show (p0 * 400 + p1 * 20 + p2) / 20 % 20 < (p0 * 400 + p1 * 20 + p2) % 20; omega
      · rcases (show k = 0 ∨ k = 1 ∨ k = 2 by omega) with rfl | rfl | rfl
        · show G ((p0 * 400 + p1 * 20 + p2) / 400) = true
          rw [show (p0 * 400 + p1 * 20 + p2) / 400 = p0 by omega]; exact a2
        · show G ((p0 * 400 + p1 * 20 + p2) / 20 % 20) = true
          rw [show (p0 * 400 + p1 * 20 + p2) / 20 % 20 = p1 by omega]; exact b2
        · show G ((p0 * 400 + p1 * 20 + p2) % 20) = true
          rw [show (p0 * 400 + p1 * 20 + p2) % 20 = p2 by omega]; exact c2
    intro k hk
    rcases (show k = 0 ∨ k = 1 ∨ k = 2 by omega) with rfl | rfl | rfl
    · rw [e0, show c / 400 = p0 by omega]; exact a3
    · rw [e1, show c / 20 % 20 = p1 by omega]; exact b3
    · rw [e2, show c % 20 = p2 by omega]; exact c3
theorem cm_exi {G : Nat → Bool} {ng : Prop} {t : Nat} (ht : 1 ≤ t) (ht3 : t ≤ 3) (n : ng) (h : t ≤ cm_ct G 20) : ∃ c, c < cm_N t ∧ cm_P G ng t c := by
  rcases (show t = 1 ∨ t = 2 ∨ t = 3 by omega) with rfl | rfl | rfl
  · obtain ⟨p0, a1, a2, a3⟩ := cm_at (G := G) (j := 0) 20 (by omega)
    refine ⟨p0, a1, n, ?_, ?_, fun k hk => ?_⟩
    · show p0 < 20; omega
    · show (20 : Nat) < 21; omega
    · have : k = 0 := by omega
      subst this; exact a2
  · obtain ⟨p0, a1, a2, a3⟩ := cm_at (G := G) (j := 0) 20 (by omega)
    obtain ⟨p1, b1, b2, b3⟩ := cm_at (G := G) (j := 1) 20 (by omega)
    have q01 : p0 < p1 := by
      rcases Nat.lt_or_ge p0 p1 with q | q
      · exact q
      · have := cm_le (G := G) q; omega
    refine ⟨p0 * 20 + p1, by show p0 * 20 + p1 < 400; omega, n, ?_, ?_, fun k hk => ?_⟩
    · show (p0 * 20 + p1) / 20 < (p0 * 20 + p1) % 20; omega
    · show (p0 * 20 + p1) % 20 < 21; omega
    · rcases (show k = 0 ∨ k = 1 by omega) with rfl | rfl
      · show G ((p0 * 20 + p1) / 20) = true
        rw [show (p0 * 20 + p1) / 20 = p0 by omega]; exact a2
      · show G ((p0 * 20 + p1) % 20) = true
        rw [show (p0 * 20 + p1) % 20 = p1 by omega]; exact b2
  · obtain ⟨p0, a1, a2, a3⟩ := cm_at (G := G) (j := 0) 20 (by omega)
    obtain ⟨p1, b1, b2, b3⟩ := cm_at (G := G) (j := 1) 20 (by omega)
    obtain ⟨p2, c1, c2, c3⟩ := cm_at (G := G) (j := 2) 20 (by omega)
    have q01 : p0 < p1 := by
      rcases Nat.lt_or_ge p0 p1 with q | q
      · exact q
      · have := cm_le (G := G) q; omega
    have q12 : p1 < p2 := by
      rcases Nat.lt_or_ge p1 p2 with q | q
      · exact q
      · have := cm_le (G := G) q; omega
    refine ⟨p0 * 400 + p1 * 20 + p2, by show p0 * 400 + p1 * 20 + p2 < 8000; omega, n, ?_, ?_, fun k hk => ?_⟩
    · show (p0 * 400 + p1 * 20 + p2) / 400 < (p0 * 400 + p1 * 20 + p2) / 20 % 20; omega
    · show (p0 * 400 + p1 * 20 + p2) / 20 % 20 < (p0 * 400 + p1 * 20 + p2) % 20; omega
    · rcases (show k = 0 ∨ k = 1 ∨ k = 2 by omega) with rfl | rfl | rfl
      · show G ((p0 * 400 + p1 * 20 + p2) / 400) = true
        rw [show (p0 * 400 + p1 * 20 + p2) / 400 = p0 by omega]; exact a2
      · show G ((p0 * 400 + p1 * 20 + p2) / 20 % 20) = true
        rw [show (p0 * 400 + p1 * 20 + p2) / 20 % 20 = p1 by omega]; exact b2
      · show G ((p0 * 400 + p1 * 20 + p2) % 20) = true
        rw [show (p0 * 400 + p1 * 20 + p2) % 20 = p2 by omega]; exact c2
/-- reference: what room answers -/
def cm_rM (P : Nat → Prop) (t i : Nat) (r : Int32) : Prop := (t ≤ i ∧ r = -1) ∨ (i < t ∧ (∀ c, c < cm_N t → ¬ P c) ∧ r = -1) ∨ (i < t ∧ ∃ c, c < cm_N t ∧ P c ∧ (∀ c', c' < c → ¬ P c') ∧ r = nI (cm_gf t c i))
theorem cm_mdl {G : Nat → Bool} {ng : Prop} {t i : Nat} {r : Int32} (ht : 1 ≤ t) (ht3 : t ≤ 3) (hG : ∀ p, G p = true → p < 20) (h : cm_rM (cm_P G ng t) t i r) : cm_rA G t ng i r := by
  rcases h with ⟨a1, a2⟩ | ⟨a1, a2, a3⟩ | ⟨a1, c, c1, c2, c3, a3⟩
  · exact Or.inr ⟨fun q => by have := q.2.2; omega, a2⟩
  · refine Or.inr ⟨fun q => ?_, a3⟩
    obtain ⟨c, c1, c2⟩ := cm_exi ht ht3 q.1 q.2.1
    exact a2 c c1 c2
  · obtain ⟨m1, m2⟩ := cm_min ht ht3 hG c1 c2 c3
    have g := c2.2.2.2 i a1
    exact Or.inl ⟨c2.1, m1, a1, _, hG _ g, g, m2 i a1, a3⟩
/-! ROOM: what the class's loops keep -/
theorem cm_p1 {y : Int32} {x c : Nat} (hx : x ≤ 3) (h : y = nI (x - c) ∧ c ≤ x) : (y = 0 → c = x) ∧ (¬ y = 0 → y + (-1) = nI (x - (c + 1)) ∧ c + 1 ≤ x) := by
  obtain ⟨h1, h2⟩ := h
  have e : (nI (x - c)).toInt = ((x - c : Nat) : Int) := nI_toInt (by omega)
  constructor
  · intro h0
    rw [h1, cz_eq, e] at h0
    simp only [cz_l] at h0
    omega
  · intro h0
    have hc : c < x := by
      rcases Nat.lt_or_ge c x with q | q
      · exact q
      · exact absurd (by rw [h1, show x - c = 0 by omega]; rfl) h0
    refine ⟨?_, hc⟩
    rw [h1, show x - c = (x - (c + 1)) + 1 by omega, ← nI_add, Int32.add_assoc]
    have : nI 1 + (-1 : Int32) = 0 := by decide
    rw [this, Int32.add_zero]
theorem cm_bB_y {x b z : Int32} {p : Nat} (hb : b = 1 <<< (nI p &&& 31)) (hz : z = x &&& b) : (z = 0 → ¬ cm_bB x p = true) ∧ (¬ z = 0 → cm_bB x p = true) := by
  unfold cm_bB
  rw [← hb, ← hz]
  exact ⟨fun h c => absurd h (of_decide_eq_true c), fun h => decide_eq_true h⟩
/-- which PLACES are good for one more -/
def cm_gC (b a0 w0 pe : Int32) (ft fb : Nat → Int32) (p : Nat) : Bool := decide (cz_op (nI p) b) && !decide (cz_gl 0 (nI p) a0 w0 pe ft fb)
def cm_w (G : Nat → Bool) (m : Nat) (i : Nat) (y4 y5 : Int32) : Prop := (y4 = nI (m - cm_ct G i) ∧ cm_ct G i ≤ m) ∧ ∀ p, p < 20 → cm_bB y5 p = (decide (p < i) && G p)
theorem cm_bB_or {y b : Int32} {i p : Nat} (hi : i < 20) (hp : p < 20) (hb : b = 1 <<< (nI i &&& 31)) : cm_bB (y ||| b) p = (cm_bB y p || decide (p = i)) := by
  unfold cm_bB
  rw [hb]
  have h1 := ci_or0 y (1 <<< (nI i &&& 31)) (1 <<< (nI p &&& 31))
  have h2 := ci_b2 i hi p hp
  by_cases c : y &&& ((1 : Int32) <<< (nI p &&& 31)) = 0
  · by_cases e : p = i
    · rw [decide_eq_true e, Bool.or_true]
      exact decide_eq_true (fun q => (h2.mp (h1.mp q).2) e.symm)
    · rw [decide_eq_false e, Bool.or_false]
      exact decide_eq_decide.mpr ⟨fun q => absurd (h1.mpr ⟨c, h2.mpr (fun r => e r.symm)⟩) q, fun q => absurd c q⟩
  · rw [decide_eq_true c, Bool.true_or]
    exact decide_eq_true (fun q => c (h1.mp q).1)
theorem cm_w0 {G : Nat → Bool} {m : Nat} : cm_w G m 0 (nI m) 0 := by
  refine ⟨⟨rfl, Nat.zero_le _⟩, fun p _ => ?_⟩
  rw [cm_bB0, decide_eq_false (Nat.not_lt_zero p)]; rfl
theorem cm_w_n {G : Nat → Bool} {m i : Nat} {y4 y5 : Int32} (h : cm_w G m i y4 y5) (hg : ¬ G i = true) : cm_w G m (i + 1) y4 y5 := by
  refine ⟨by rw [cm_ct0 hg]; exact h.1, fun p hp => ?_⟩
  rw [h.2 p hp]
  by_cases e : p = i
  · subst e
    have : G p = false := by cases hx : G p with | true => exact absurd hx hg | false => rfl
    rw [this, Bool.and_false, Bool.and_false]
  · congr 1
    exact decide_eq_decide.mpr ⟨fun q => by omega, fun q => by omega⟩
theorem cm_w_y {G : Nat → Bool} {m i : Nat} {y4 y5 x b : Int32} (hm : m ≤ 3) (hi : i < 20) (h : cm_w G m i y4 y5) (hw : ¬ y4 ≤ 0) (hg : G i = true) (hb : b = 1 <<< (nI i &&& 31)) (hx : x = y5 ||| b) : cm_w G m (i + 1) (y4 + (-1)) x := by
  have h0 : ¬ y4 = 0 := fun e => hw (by rw [e]; decide)
  refine ⟨by rw [cm_ct1 hg]; exact (cm_p1 hm h.1).2 h0, fun p hp => ?_⟩
  rw [hx, cm_bB_or hi hp hb, h.2 p hp]
  by_cases e : p = i
  · subst e
    rw [decide_eq_true (show p = p from rfl), Bool.or_true, decide_eq_true (show p < p + 1 by omega), hg]; rfl
  · rw [decide_eq_false e, Bool.or_false]
    congr 1
    exact decide_eq_decide.mpr ⟨fun q => by omega, fun q => by omega⟩
theorem cm_w_out {G : Nat → Bool} {m i : Nat} {y4 y5 : Int32} {ng : Prop} (hm : m ≤ 3) (hi : i ≤ 20) (hn : ng) (h : cm_w G m i y4 y5) (hx : i = 20 ∨ y4 ≤ 0) : (¬ y4 ≤ 0 → cm_rf G m ng 0) ∧ (y4 ≤ 0 → cm_rf G m ng y5) := by
  obtain ⟨⟨h1, h2⟩, h3⟩ := h
  have e : (nI (m - cm_ct G i)).toInt = ((m - cm_ct G i : Nat) : Int) := nI_toInt (by omega)
  constructor
  · intro c
    have ei : i = 20 := hx.resolve_right c
    subst ei
    refine Or.inr ⟨fun q => c ?_, rfl⟩
    rw [h1, cz_le, e]
    simp only [cz_l]
    have := q.2
    omega
  · intro c
    refine Or.inl ⟨hn, i, hi, ?_, h3⟩
    rw [h1, cz_le, e] at c
    simp only [cz_l] at c
    omega
def cm_roomP (G : Nat → Bool) (ng : Prop) (many i a0 r : Int32) : Prop := (¬ (cz_in 1 many 3 ∧ cz_in 0 i 2) ∧ r = -102) ∨ ((cz_in 1 many 3 ∧ cz_in 0 i 2) ∧ a0 = -1 ∧ r = -103) ∨ ((cz_in 1 many 3 ∧ cz_in 0 i 2) ∧ ¬ a0 = -1 ∧ cm_rA G many.toNatClampNeg ng i.toNatClampNeg r)
