/-! BRICK, STOOD, a WALK: class and reference -/
theorem cb_one : ∀ i, i < 32 → ((1 : Int32).toBitVec).getLsbD i = decide (i = 0) := by decide +kernel
theorem cb_and1 (v : BitVec 32) : v &&& (1 : Int32).toBitVec = (1 : Int32).toBitVec ↔ v.getLsbD 0 = true := by
  constructor
  · intro h
    have q := congrArg (fun x => BitVec.getLsbD x 0) h
    simp only [BitVec.getLsbD_and, cb_one 0 (by decide)] at q
    simpa using q
  · intro h
    apply BitVec.eq_of_getLsbD_eq
    intro i hi
    rw [BitVec.getLsbD_and, cb_one i hi]
    by_cases e : i = 0
    · subst e; simp [h]
    · simp [e]
theorem cb_hs (x : Int32) {p : Nat} (hp : p < 20) : cz_hs x (nI p) ↔ x.toBitVec.getLsbD p = true := by
  unfold cz_hs
  rw [← Int32.toBitVec_inj, Int32.toBitVec_and, Int32.toBitVec_shiftRight, cb_and1]
  show (x.toBitVec.sshiftRight ((nI p &&& 31).toBitVec.smod 32).toNat).getLsbD 0 = true ↔ _
  rw [cs_sm p (by omega), BitVec.getLsbD_sshiftRight]
  have h1 : p + 0 < 32 := by omega
  simp [h1, show p < 32 by omega]
theorem cb_hs_and (x y : Int32) {p : Nat} (hp : p < 20) : cz_hs (x &&& y) (nI p) ↔ cz_hs x (nI p) ∧ cz_hs y (nI p) := by
  rw [cb_hs _ hp, cb_hs _ hp, cb_hs _ hp, Int32.toBitVec_and, BitVec.getLsbD_and, Bool.and_eq_true]
theorem cb_hs_not : ∀ i, i < 20 → ∀ p, p < 20 → (cz_hs (((1 : Int32) <<< (nI i &&& 31)) ^^^ (-1)) (nI p) ↔ ¬ i = p) := by decide +kernel
/-- a PLACE bricked up -/
theorem cb_hl {w0 fl : Int32} (h : ci_hl w0 fl) {i : Nat} (hi : i < 20) : ci_hl (w0 ||| (1 <<< (nI i &&& 31))) (fl &&& ((1 <<< (nI i &&& 31)) ^^^ (-1))) := by
  intro p hp
  rw [ci_or0, cb_hs_and _ _ hp, cb_hs_not i hi p hp, ci_b2 i hi p hp, h p hp]
theorem cb_7 : ∀ m, m < 64 → (cz_sz (nI m) 20).toInt < 7 := by decide +kernel
theorem cb_many {da ds fl : Int32} {mg1 g : Nat → Int32} {k : Nat} (hk : k ≤ 6) : (cz_sz (cz_mq da ds fl mg1 g k k) 20).toInt < 7 := by
  obtain ⟨m, e, hm⟩ := cr_mqn (da := da) (ds := ds) (fl := fl) (mg1 := mg1) (g := g) (k := k) k hk
  rw [e]
  exact cb_7 m (Nat.lt_of_lt_of_le hm (Nat.pow_le_pow_right (by decide) hk))
theorem cb_bk {M M' : Nat → Int32} {O O' : Nat → Bool} : ∀ n, (∀ i, i < n → M i = M' i) → (∀ i, i < n → O i = O' i) → (∀ i, i < n → (M' i).toInt < 7) → ((cz_bk M O 7 n = (-1, 7) ∧ cz_bk M' O' 20 n = (-1, 20)) ∨ ∃ j, j < n ∧ cz_bk M O 7 n = (nI j, M j) ∧ cz_bk M' O' 20 n = (nI j, M j)) := by
  intro n
  induction n with
  | zero => intro _ _ _; exact Or.inl ⟨rfl, rfl⟩
  | succ n ih =>
    intro h1 h2 h3
    have hM := h1 n (by omega)
    have hO := h2 n (by omega)
    have h7 := h3 n (by omega)
    have q := ih (fun i hi => h1 i (by omega)) (fun i hi => h2 i (by omega)) (fun i hi => h3 i (by omega))
    by_cases o : O n = true
    · have o' : O' n = true := by rw [← hO]; exact o
      rcases q with ⟨q1, q2⟩ | ⟨j, hj, q1, q2⟩
      · right
        refine ⟨n, by omega, ?_, ?_⟩
        · rw [cz_bk, q1, if_pos]
          refine ⟨?_, o⟩
          rw [cz_lt, hM]; exact h7
        · rw [cz_bk, q2, if_pos, hM]
          refine ⟨?_, o'⟩
          rw [cz_lt]
          show (M' n).toInt < (20 : Int32).toInt
          simp only [cz_l]
          omega
      · right
        by_cases c : M n < M j
        · refine ⟨n, by omega, ?_, ?_⟩
          · rw [cz_bk, q1, if_pos ⟨c, o⟩]
          · rw [cz_bk, q2, if_pos ⟨by rw [← hM]; exact c, o'⟩, hM]
        · refine ⟨j, by omega, ?_, ?_⟩
          · rw [cz_bk, q1, if_neg (fun h => c h.1)]
          · rw [cz_bk, q2, if_neg (fun h => c (by have := h.1; rw [← hM] at this; exact this))]
    · have o' : ¬ O' n = true := by rw [← hO]; exact o
      rw [cz_bk_o o, cz_bk_o o']
      rcases q with q | ⟨j, hj, q1, q2⟩
      · exact Or.inl q
      · exact Or.inr ⟨j, by omega, q1, q2⟩
section CB
variable {hq rq k0 k9 : Nat} {ih ik w0 fl a0 da ds b0 ka ks : Int32} {g1 mg1 g2 e1 e2 : Nat → Int32}
theorem ci_bM (hk : k0 ≤ 6) (hg : cz_pl g2) (hi : cz_inv hq rq k0 k9 ih ik w0 fl a0 da ds b0 ka ks g1 mg1 g2 e1 e2) {i : Nat} (hl : i < 20) : cz_bkM a0 w0 (cz_pp g2 k0) g1 g2 cr_TW cr_TB k0 i = cz_bmM da ds fl mg1 g2 k0 i := by
  unfold cz_bkM cz_bmM
  rw [cr_gs hk hg hi.2.2.2.2.2.1.sr (fun h => cb_hl (ci_fl hi h) hl) hi.2.2.2.2.2.2.1 k0 (Nat.le_refl _), cr_many hk]
/-- brick -/
theorem ci_brick (hk : k0 ≤ 6) (hg : cz_pl g2) (hi : cz_inv hq rq k0 k9 ih ik w0 fl a0 da ds b0 ka ks g1 mg1 g2 e1 e2) (what : Int32) : cz_brC what a0 w0 (cz_pp g2 k0) (cz_bk (cz_bkM a0 w0 (cz_pp g2 k0) g1 g2 cr_TW cr_TB k0) (cz_bkO (cz_tk a0 w0 (cz_pp g2 k0))) 7 20).1 g1 g2 cr_TW cr_TB k0 = cz_brM what da (cz_bk (cz_bmM da ds fl mg1 g2 k0) (cz_bmO fl da g2 k0) 20 20) := by
  unfold cz_brC cz_brM
  by_cases h1 : cz_in 0 what 1
  · rw [if_pos h1, if_pos h1]
    by_cases h2 : a0 = -1
    · have : da = -1 := by
        rcases hi.2.2.2.2.2.1.sr with q | ⟨d, e, hd, he, q1, q2, q3⟩
        · exact q.2
        · rw [q1] at h2; exact absurd h2 (ci_st d hd e he).2.2
      rw [if_pos h2, if_pos this]
    · have hfl := ci_fl hi h2
      have : ¬ da = -1 := by
        rcases hi.2.2.2.2.2.1.sr with q | ⟨d, e, hd, he, q1, q2, q3⟩
        · exact absurd q.1 h2
        · rw [q2]; exact ci_n1 (by omega)
      rw [if_neg h2, if_neg this]
      unfold cz_brN
      have q := cb_bk (M := cz_bkM a0 w0 (cz_pp g2 k0) g1 g2 cr_TW cr_TB k0) (M' := cz_bmM da ds fl mg1 g2 k0) (O := cz_bkO (cz_tk a0 w0 (cz_pp g2 k0))) (O' := cz_bmO fl da g2 k0) 20 (fun i hl => ci_bM hk hg hi hl) (fun i hl => decide_eq_decide.mpr (ci_tk hk hg hfl hi.2.2.2.2.2.1 hl)) (fun i _ => cb_many hk)
      rcases q with ⟨q1, q2⟩ | ⟨j, hj, q1, q2⟩
      · rw [q1, q2]
        show (if what = 0 then (-1 : Int32) else if (-1 : Int32) = -1 then -1 else _) = if (-1 : Int32) = -1 then -1 else _
        rw [if_pos rfl, if_pos rfl]
        split <;> rfl
      · rw [q1, q2]
        show (if what = 0 then nI j else if nI j = -1 then nI j else _) = if nI j = -1 then nI j else if what = 0 then nI j else _
        rw [if_neg (ci_n1 (show j < 1000 by omega)), if_neg (ci_n1 (show j < 1000 by omega))]
        rfl
  · rw [if_neg h1, if_neg h1]
end CB
/-! STOOD -/
theorem cb_atB {s s' g5 : Nat → Int32} : ∀ n, (∀ c, c < n → s c = s' c) → cz_atB s g5 n = cz_atB s' g5 n := by
  intro n
  induction n with
  | zero => intro _; rfl
  | succ n ih => intro h; rw [cz_atB, cz_atB, ih (fun c hc => h c (by omega)), h n (by omega)]
theorem cb_p : ∀ i, i < 80 → (cz_plc (nI i) = nI (i / 4) ∧ cz_sid (nI i) = nI (i % 4)) := by decide +kernel
theorem cb_onl1 : ∀ p, p < 20 → cz_onl ((1 : Int32) <<< (nI p &&& 31)) 20 = nI p := by decide +kernel
theorem cb_onl0 : cz_onl 0 20 = -1 := by decide +kernel
theorem cb_onl2 {x : Int32} {a b : Nat} (ha : a < 20) (hb : b < 20) (hab : ¬ a = b) (h1 : ¬ x &&& ((1 : Int32) <<< (nI a &&& 31)) = 0) (h2 : ¬ x &&& ((1 : Int32) <<< (nI b &&& 31)) = 0) : ∀ n, n ≤ 20 → cz_onl x n = -1 := by
  intro n
  induction n with
  | zero => intro _; rfl
  | succ n ih =>
    intro hn
    rw [cz_onl, if_neg, ih (by omega)]
    intro e
    rw [e, ci_b2 n (by omega) a ha] at h1
    rw [e, ci_b2 n (by omega) b hb] at h2
    omega
theorem cb_or_ne {x y c : Int32} (h : ¬ x &&& c = 0) : ¬ (x ||| y) &&& c = 0 := fun q => h ((ci_or0 _ _ _).mp q).1
theorem cb_or_ne2 {x y c : Int32} (h : ¬ y &&& c = 0) : ¬ (x ||| y) &&& c = 0 := fun q => h ((ci_or0 _ _ _).mp q).2
theorem cb_self : ∀ p, p < 20 → ¬ ((1 : Int32) <<< (nI p &&& 31)) &&& ((1 : Int32) <<< (nI p &&& 31)) = 0 := by decide +kernel
/-- what is sure, and the set of it -/
def cb_su (m s x : Int32) : Prop := (m = 0 ∧ s = -1 ∧ x = 0) ∨ (¬ m = 0 ∧ ∃ p, p < 20 ∧ s = nI p ∧ x = 1 <<< (nI p &&& 31)) ∨ (¬ m = 0 ∧ s = -1 ∧ ∃ a b, a < 20 ∧ b < 20 ∧ ¬ a = b ∧ ¬ x &&& ((1 : Int32) <<< (nI a &&& 31)) = 0 ∧ ¬ x &&& ((1 : Int32) <<< (nI b &&& 31)) = 0)
theorem cb_su_only {m s x : Int32} (h : cb_su m s x) : s = cz_onl x 20 := by
  rcases h with ⟨-, h1, h2⟩ | ⟨-, p, hp, h1, h2⟩ | ⟨-, h1, a, b, ha, hb, hab, q1, q2⟩
  · rw [h1, h2, cb_onl0]
  · rw [h1, h2, cb_onl1 p hp]
  · rw [h1, cb_onl2 ha hb hab q1 q2 20 (Nat.le_refl _)]
theorem cb_su_step {m s x : Int32} {q : Nat} (hq : q < 20) (hm : ¬ m + 1 = 0) (h : cb_su m s x) : cb_su (m + 1) (if m = 0 ∨ s = nI q then nI q else -1) (x ||| (1 <<< (nI q &&& 31))) := by
  rcases h with ⟨h0, h1, h2⟩ | ⟨h0, p, hp, h1, h2⟩ | ⟨h0, h1, a, b, ha, hb, hab, q1, q2⟩
  · right; left
    refine ⟨hm, q, hq, by rw [if_pos (Or.inl h0)], ?_⟩
    rw [h2, Int32.zero_or]
  · by_cases e : p = q
    · right; left
      refine ⟨hm, q, hq, by rw [if_pos (Or.inr (by rw [h1, e]))], ?_⟩
      rw [h2, e, Int32.or_self]
    · right; right
      refine ⟨hm, ?_, p, q, hp, hq, e, cb_or_ne (by rw [h2]; exact cb_self p hp), cb_or_ne2 (cb_self q hq)⟩
      rw [if_neg]
      rintro (c | c)
      · exact h0 c
      · rw [h1, ci_ni (by omega) (by omega)] at c; exact e c
  · right; right
    refine ⟨hm, ?_, a, b, ha, hb, hab, cb_or_ne q1, cb_or_ne q2⟩
    rw [if_neg]
    rintro (c | c)
    · exact h0 c
    · rw [h1] at c; exact ci_n1 (by omega) c.symm
theorem cb_st {C C' : Nat → Bool} : ∀ n, n ≤ 80 → (∀ i, i < n → C i = C' i) → (∃ m : Nat, m ≤ n ∧ (cz_ws C n).1 = nI m) ∧ (cz_ws C n).1 = (cz_sm C' n).1 ∧ cb_su (cz_ws C n).1 (cz_ws C n).2.1 (cz_sm C' n).2.1 ∧ cb_su (cz_ws C n).1 (cz_ws C n).2.2 (cz_sm C' n).2.2 := by
  intro n
  induction n with
  | zero => intro _ _; exact ⟨⟨0, Nat.le_refl _, rfl⟩, rfl, Or.inl ⟨rfl, rfl, rfl⟩, Or.inl ⟨rfl, rfl, rfl⟩⟩
  | succ n ih =>
    intro hn h
    obtain ⟨⟨m, hm, em⟩, q1, q2, q3⟩ := ih (by omega) (fun i hi => h i (by omega))
    have hC := h n (by omega)
    by_cases c : C n = true
    · have c' : C' n = true := by rw [← hC]; exact c
      obtain ⟨p1, p2⟩ := cb_p n (by omega)
      have hne : ¬ (cz_ws C n).1 + 1 = 0 := by
        rw [em, show (1 : Int32) = nI 1 from rfl, nI_add, ci_n0 (by omega)]
        omega
      rw [cz_ws_y c, cz_sm_y c', p1, p2]
      refine ⟨⟨m + 1, by omega, ?_⟩, ?_, ?_, ?_⟩
      · show (cz_ws C n).1 + 1 = _
        rw [em, show (1 : Int32) = nI 1 from rfl, nI_add]
      · show (cz_ws C n).1 + 1 = (cz_sm C' n).1 + 1
        rw [q1]
      · exact cb_su_step (by omega) hne q2
      · exact cb_su_step (by omega) hne q3
    · have c1 : C n = false := by cases hx : C n with | true => exact absurd hx c | false => rfl
      have c2 : C' n = false := by rw [← hC]; exact c1
      rw [cz_ws_n c1, cz_sm_n c2]
      exact ⟨⟨m, by omega, em⟩, q1, q2, q3⟩
section CS
variable {hq rq k0 k9 : Nat} {ih ik w0 fl a0 da ds b0 ka ks : Int32} {g1 mg1 g2 e1 e2 : Nat → Int32}
/-- stood -/
theorem ci_stood (hk : k0 ≤ 6) (hg : cz_pl g2) (hb : hq ≤ 300) (hi : cz_inv hq rq k0 k9 ih ik w0 fl a0 da ds b0 ka ks g1 mg1 g2 e1 e2) (g5 : Nat → Int32) (what : Int32) : cz_stA what (nI hq) (cz_ws (cz_wsC (w0 ||| cz_pp g2 k0) (cz_pp g2 k0) w0 g1 g2 g5 k0 cr_TW cr_TB) 80) = cz_stA what ih ((cz_sm (cz_smC fl mg1 g2 g5 k0) 80).1, cz_onl (cz_sm (cz_smC fl mg1 g2 g5 k0) 80).2.1 20, cz_onl (cz_sm (cz_smC fl mg1 g2 g5 k0) 80).2.2 20) := by
  unfold cz_stA
  by_cases h1 : cz_in 0 what 2
  · rw [if_pos h1, if_pos h1]
    by_cases h2 : nI hq = 0
    · rw [if_pos h2, if_pos ((ci_ih hi hb).mp h2)]
    · rw [if_neg h2, if_neg (fun q => h2 ((ci_ih hi hb).mpr q))]
      have hfl := ci_hl_of hi hb h2
      have hC : ∀ i, i < 80 → cz_wsC (w0 ||| cz_pp g2 k0) (cz_pp g2 k0) w0 g1 g2 g5 k0 cr_TW cr_TB i = cz_smC fl mg1 g2 g5 k0 i := by
        intro i hl
        unfold cz_wsC cz_smC
        obtain ⟨p1, p2⟩ := cb_p i hl
        have hem := ci_em (da := -1) hk hg hfl (show i / 4 < 20 by omega)
        have e1 : decide (cz_op (cz_plc (nI i)) (w0 ||| cz_pp g2 k0)) = decide (cz_em fl (-1) (nI (i / 4)) g2 k0) := by
          rw [p1]
          exact decide_eq_decide.mpr ⟨fun h => hem.mpr ⟨h, fun c => ci_n1 (by omega) c.symm⟩, fun h => (hem.mp h).1⟩
        rw [e1]
        congr 1
        refine cb_atB k0 (fun c hc => ?_)
        exact cr_si hk hg (Or.inr ⟨i / 4, i % 4, by omega, by omega, by rw [Nat.div_add_mod], rfl, rfl⟩) (fun _ => hfl) hi.2.2.2.2.2.2.1 hc
      obtain ⟨-, q1, q2, q3⟩ := cb_st 80 (Nat.le_refl _) hC
      rw [q1, cb_su_only q2, cb_su_only q3]
  · rw [if_neg h1, if_neg h1]
end CS
/-! a WALK -/
theorem cb_andL (a b : Nat) : lN a &&& lN b = lN (a &&& b) := by
  apply Int64.toBitVec_inj.1
  show BitVec.ofNat 64 a &&& BitVec.ofNat 64 b = BitVec.ofNat 64 (a &&& b)
  apply BitVec.eq_of_getLsbD_eq
  intro i hi
  simp [hi]
theorem cb_mask (n k : Nat) : lN n &&& lN (2 ^ k - 1) = lN (n % 2 ^ k) := by rw [cb_andL, Nat.and_two_pow_sub_one_eq_mod]
theorem cb_ns {n : Nat} (hn : n < 2 ^ 31) : cz_ns (nI n) = nI ((1103515245 * n + 12345) % 2147483648) := by
  unfold cz_ns
  rw [nI_l hn, show (1103515245 : Int64) = lN 1103515245 from rfl, show (12345 : Int64) = lN 12345 from rfl, show (2147483648 : Int64) = lN 2147483648 from rfl, lN_mul, lN_add, pk_lRem (by omega) (by decide) (by decide), lN_i]
theorem cb_nd (n : Nat) : cz_nd (lN n) = lN ((1103515245 * n + 12345) % 2147483648) := by
  unfold cz_nd
  rw [show (1103515245 : Int64) = lN 1103515245 from rfl, show (12345 : Int64) = lN 12345 from rfl, show (2147483647 : Int64) = lN (2 ^ 31 - 1) from rfl, lN_mul, lN_add, cb_mask]
theorem cb_drw {n : Nat} (hn : n < 2 ^ 31) : cz_drw (lN n) = nI n / 65536 - nI n / 65536 / 3 * 3 := by
  unfold cz_drw
  rw [show (65536 : Int64) = lN 65536 from rfl, show (3 : Int64) = lN 3 from rfl, pk_lDiv (by omega) (by decide) (by decide), pk_lRem (by omega) (by decide) (by decide), lN_i]
  rw [show (65536 : Int32) = nI 65536 from rfl, pk_div (a := n) (d := 65536) (by omega) (by decide) (by decide)]
  exact (pk_rem (a := n / 65536) (d := 3) (by omega) (by decide) (by decide)).symm
theorem cb_dr3 {n : Nat} (hn : n < 2 ^ 31) : cz_in 0 (nI n / 65536 - nI n / 65536 / 3 * 3) 2 := by
  rw [show (65536 : Int32) = nI 65536 from rfl, pk_div (a := n) (d := 65536) (by omega) (by decide) (by decide), show (3 : Int32) = nI 3 from rfl, pk_rem (a := n / 65536) (d := 3) (by omega) (by decide) (by decide)]
  have h : n / 65536 % 3 < 3 := Nat.mod_lt _ (by decide)
  generalize n / 65536 % 3 = m at h
  have e : (nI m).toInt = (m : Int) := nI_toInt (by omega)
  constructor
  · rw [cz_le, e]; simp only [cz_l]; omega
  · rw [cz_le, e]; simp only [cz_l]; omega
theorem cb_walk {w0 fl : Int32} {g g1 mg1 : Nat → Int32} {k d e n : Nat} (hk : k ≤ 6) (hg : cz_pl g) (hfl : ci_hl w0 fl) (hki : cz_eqp g1 mg1 k) (hd : d < 20) (he : e < 4) (hn : n < 2 ^ 31) : ∀ i, ∃ d' e' n' : Nat, d' < 20 ∧ e' < 4 ∧ n' < 2 ^ 31 ∧ (cz_wk (nI (4 * d + e)) (nI n) (w0 ||| cz_pp g k) (fun st => cz_bc (cz_gs st w0 (cz_pp g k) g1 g cr_TW cr_TB k)) i).1 = nI (4 * d' + e') ∧ (cz_wk (nI (4 * d + e)) (nI n) (w0 ||| cz_pp g k) (fun st => cz_bc (cz_gs st w0 (cz_pp g k) g1 g cr_TW cr_TB k)) i).2.1 = nI n' ∧ (cz_wm d e (lN n) fl mg1 g k i).1 = (d', e') ∧ (cz_wm d e (lN n) fl mg1 g k i).2.1 = lN n' ∧ (cz_wk (nI (4 * d + e)) (nI n) (w0 ||| cz_pp g k) (fun st => cz_bc (cz_gs st w0 (cz_pp g k) g1 g cr_TW cr_TB k)) i).2.2 = (cz_wm d e (lN n) fl mg1 g k i).2.2 := by
  intro i
  induction i with
  | zero => exact ⟨d, e, n, hd, he, hn, rfl, rfl, rfl, rfl, rfl⟩
  | succ i ih =>
    obtain ⟨d', e', n', hd', he', hn', q1, q2, q3, q4, q5⟩ := ih
    have hm : (1103515245 * n' + 12345) % 2147483648 < 2 ^ 31 := Nat.mod_lt _ (by decide)
    rw [cz_wk, cz_wm, cz_wkS, cz_wmS, q1, q2, q3, q4, q5, cb_ns hn', cb_nd, cb_drw hm]
    unfold cz_dw
    generalize (1103515245 * n' + 12345) % 2147483648 = n2 at hm
    have ha := cb_dr3 hm
    generalize nI n2 / 65536 - nI n2 / 65536 / 3 * 3 = act at ha
    obtain ⟨p1, p2⟩ := ci_aft (w0 := w0) (fl := fl) (g := g) (k := k) hk hg hfl hd' he' ha
    by_cases hy : cz_may act d' e' fl g k
    · obtain ⟨r1, r2, r3, -, -⟩ := p1 hy
      rw [r1, if_neg (ci_n1 (by omega)), if_pos hy]
      refine ⟨_, _, n2, r2, r3, hm, rfl, rfl, rfl, rfl, ?_⟩
      show _ + cz_bc _ = _ + cz_sz _ 20
      rw [cr_gs (mg1 := mg1) (da := nI (cz_mD act d' e')) (ds := nI (cz_mE act e')) hk hg (Or.inr ⟨_, _, r2, r3, rfl, rfl, rfl⟩) (fun _ => hfl) hki k (Nat.le_refl _), cr_many hk]
    · rw [p2 hy, if_pos rfl, if_neg hy]
      exact ⟨d', e', n2, hd', he', hm, rfl, rfl, rfl, rfl, rfl⟩
section CW
variable {hq rq k0 k9 : Nat} {ih ik w0 fl a0 da ds b0 ka ks : Int32} {g1 mg1 g2 e1 e2 : Nat → Int32}
/-- walk -/
theorem ci_walk (hk : k0 ≤ 6) (hg : cz_pl g2) (hi : cz_inv hq rq k0 k9 ih ik w0 fl a0 da ds b0 ka ks g1 mg1 g2 e1 e2) (times seed what : Int32) : cz_wlA times seed what a0 (fun n => cz_wkR what (cz_wk a0 seed (w0 ||| cz_pp g2 k0) (fun st => cz_bc (cz_gs st w0 (cz_pp g2 k0) g1 g2 cr_TW cr_TB k0)) n)) = cz_wlA times seed what da (fun n => cz_wmR what (cz_wm da.toNatClampNeg ds.toNatClampNeg seed.toInt64 fl mg1 g2 k0 n)) := by
  unfold cz_wlA
  by_cases h1 : cz_in 1 times 60 ∧ 0 ≤ seed ∧ cz_in 0 what 3
  · rw [if_pos h1, if_pos h1]
    rcases hi.2.2.2.2.2.1.sr with ⟨q1, q2⟩ | ⟨d, e, hd, he, q1, q2, q3⟩
    · rw [if_pos q1, if_pos q2]
    · have hne := (ci_st d hd e he).2.2
      have hfl := ci_fl hi (by rw [q1]; exact hne)
      rw [if_neg (show ¬ a0 = -1 by rw [q1]; exact hne), if_neg (show ¬ da = -1 by rw [q2]; exact ci_n1 (by omega))]
      have cd : da.toNatClampNeg = d := by rw [q2]; exact nI_clamp (n := d) (by omega)
      have ce : ds.toNatClampNeg = e := by rw [q3]; exact nI_clamp (n := e) (by omega)
      obtain ⟨n, hn, es⟩ : ∃ n : Nat, n < 2 ^ 31 ∧ seed = nI n := by
        refine ⟨seed.toInt.toNat, ?_, ?_⟩
        · have := Int32.toInt_lt seed
          omega
        · have h0 : (0 : Int) ≤ seed.toInt := by have := h1.2.1; rw [cz_le] at this; simpa only [cz_l] using this
          have hl := Int32.toInt_lt seed
          rw [cz_eq, nI_toInt (by omega)]
          omega
      rw [cd, ce, es, nI_l hn, q1]
      generalize times.toNatClampNeg = t
      obtain ⟨d', e', n', hd', he', hn', p1, p2, p3, p4, p5⟩ := cb_walk (w0 := w0) (g1 := g1) (mg1 := mg1) (n := n) hk hg hfl hi.2.2.2.2.2.2.1 hd he hn t
      show cz_wkR what _ = cz_wmR what _
      unfold cz_wkR cz_wmR
      rw [p1, p2, p3, p4, p5, (ci_st d' hd' e' he').1, (ci_st d' hd' e' he').2.1, lN_i]
  · rw [if_neg h1, if_neg h1]
end CW
