/-! who is GUILTY, who SAW what: class and reference -/
def ci_sr (a0 da ds : Int32) : Prop := (a0 = -1 ∧ da = -1) ∨ ∃ d e : Nat, d < 20 ∧ e < 4 ∧ a0 = nI (4 * d + e) ∧ da = nI d ∧ ds = nI e
theorem ci_ok.sr {w0 a0 da ds : Int32} {g : Nat → Int32} {k : Nat} (h : ci_ok w0 a0 da ds g k) : ci_sr a0 da ds := by
  rcases h.1 with q | ⟨d, e, hd, he, h1, h2, h3, -⟩
  · exact Or.inl q
  · exact Or.inr ⟨d, e, hd, he, h1, h2, h3⟩
section CG
variable {w0 fl a0 da ds : Int32} {g g1 mg1 : Nat → Int32} {k : Nat}
theorem cr_see (hk : k ≤ 6) (hg : cz_pl g) (hsr : ci_sr a0 da ds) (hfl : ¬ a0 = -1 → ci_hl w0 fl) {c : Nat} (hc : c < 6) (kind : Int32) : cz_seen kind (g c) a0 w0 (cz_pp g k) cr_TW cr_TB = cz_sw kind (g c) da ds fl g k := by
  rcases hsr with ⟨h1, h2⟩ | ⟨d, e, hd, he, h1, h2, h3⟩
  · rw [h1, h2]
    unfold cz_seen cz_sw
    rw [if_pos (hg c hc), if_pos rfl, if_neg (by decide)]
  · obtain ⟨p, hp, ep⟩ := ci_in (hg c hc)
    rw [h1, h2, h3, ep]
    exact cr_seen hk hg (hfl (by rw [h1]; exact (ci_st d hd e he).2.2)) hd he hp kind
theorem cr_si (hk : k ≤ 6) (hg : cz_pl g) (hsr : ci_sr a0 da ds) (hfl : ¬ a0 = -1 → ci_hl w0 fl) (hki : cz_eqp g1 mg1 k) {c : Nat} (hc : c < k) : cz_si a0 (nI c) (cz_pp g k) w0 g1 g k cr_TW cr_TB = cz_sw (mg1 c) (g c) da ds fl g k := by
  unfold cz_si
  have ec : (nI c).toNatClampNeg = c := nI_clamp (n := c) (by omega)
  by_cases h : a0 = -1
  · rw [if_pos h]
    rcases hsr with ⟨h1, h2⟩ | ⟨d, e, hd, he, h1, h2, h3⟩
    · unfold cz_sw; rw [if_pos h2]
    · rw [h1] at h; exact absurd h (ci_st d hd e he).2.2
  · rw [if_neg h, if_pos (cz_cr_nI hk hc), ec, hki c hc]
    exact cr_see hk hg hsr hfl (by omega) _
theorem cr_gl (hk : k ≤ 6) (hg : cz_pl g) (hsr : ci_sr a0 da ds) (hfl : ¬ a0 = -1 → ci_hl w0 fl) (hki : cz_eqp g1 mg1 k) {c : Nat} (hc : c < k) : cz_gl (g1 c) (g c) a0 w0 (cz_pp g k) cr_TW cr_TB ↔ cz_mg (mg1 c) (g c) da ds fl g k := by
  unfold cz_gl cz_mg
  rw [hki c hc, cr_see hk hg hsr hfl (show c < 6 by omega)]
  exact ⟨fun h => ⟨h.2, h.1⟩, fun h => ⟨h.2, h.1⟩⟩
theorem cr_gs (hk : k ≤ 6) (hg : cz_pl g) (hsr : ci_sr a0 da ds) (hfl : ¬ a0 = -1 → ci_hl w0 fl) (hki : cz_eqp g1 mg1 k) : ∀ c, c ≤ k → cz_gs a0 w0 (cz_pp g k) g1 g cr_TW cr_TB c = cz_mq da ds fl mg1 g k c := by
  intro c
  induction c with
  | zero => intro _; rfl
  | succ c ih =>
    intro hc
    rw [cz_gs, cz_mq, ih (by omega)]
    have h := cr_gl hk hg hsr hfl hki (show c < k by omega)
    by_cases q : cz_mg (mg1 c) (g c) da ds fl g k
    · rw [if_pos q, if_pos (h.mpr q)]
    · rw [if_neg q, if_neg (fun r => q (h.mp r)), Int32.or_zero]
theorem cr_mqb {j : Nat} (hj : j < 6) : ∀ c, c ≤ 6 → (cz_mq da ds fl mg1 g k c &&& ((1 : Int32) <<< (nI j &&& 31)) = 0 ↔ ¬ (j < c ∧ cz_mg (mg1 j) (g j) da ds fl g k)) := by
  intro c
  induction c with
  | zero => intro _; exact ⟨fun _ h => absurd h.1 (Nat.not_lt_zero _), fun _ => Int32.zero_and⟩
  | succ c ih =>
    intro hc
    rw [cz_mq, ci_or0, ih (by omega)]
    by_cases q : cz_mg (mg1 c) (g c) da ds fl g k
    · rw [if_pos q, ci_b2 c (by omega) j (by omega)]
      constructor
      · rintro ⟨h1, h2⟩ ⟨h3, h4⟩
        exact h1 ⟨by omega, h4⟩
      · intro h
        refine ⟨fun r => h ⟨by omega, r.2⟩, fun e => h ⟨by omega, by rw [← e]; exact q⟩⟩
    · rw [if_neg q]
      constructor
      · rintro ⟨h1, -⟩ ⟨h3, h4⟩
        by_cases e : j = c
        · rw [e] at h4; exact q h4
        · exact h1 ⟨by omega, h4⟩
      · intro h
        exact ⟨fun r => h ⟨by omega, r.2⟩, Int32.zero_and⟩
theorem cr_mqn : ∀ c, c ≤ 6 → ∃ m : Nat, cz_mq da ds fl mg1 g k c = nI m ∧ m < 2 ^ c := by
  intro c
  induction c with
  | zero => intro _; exact ⟨0, rfl, by decide⟩
  | succ c ih =>
    intro hc
    obtain ⟨m, e, hm⟩ := ih (by omega)
    have hp : 2 ^ (c + 1) = 2 ^ c * 2 := Nat.pow_succ ..
    rw [cz_mq, e]
    by_cases q : cz_mg (mg1 c) (g c) da ds fl g k
    · rw [if_pos q, cs_set (by omega) hm]
      exact ⟨m + 2 ^ c, rfl, by omega⟩
    · rw [if_neg q, Int32.or_zero]
      exact ⟨m, rfl, by omega⟩
theorem cr_bs : ∀ m, m < 64 → cz_bc (nI m) = cz_sz (nI m) 20 := by decide +kernel
theorem cr_many (hk : k ≤ 6) : cz_bc (cz_mq da ds fl mg1 g k k) = cz_sz (cz_mq da ds fl mg1 g k k) 20 := by
  obtain ⟨m, e, hm⟩ := cr_mqn (da := da) (ds := ds) (fl := fl) (mg1 := mg1) (g := g) (k := k) k hk
  rw [e]
  refine cr_bs m (Nat.lt_of_lt_of_le hm ?_)
  exact Nat.pow_le_pow_right (by decide) hk
theorem cr_lk {a : Int32} {s s' f : Nat → Int32} : ∀ n, (∀ c, c < n → s c = s' c) → cz_lk a s f n = cz_ml a s' f n := by
  intro n
  induction n with
  | zero => intro _; rfl
  | succ n ih =>
    intro h
    rw [cz_lk, cz_ml, ih (fun c hc => h c (by omega)), h n (by omega)]
    by_cases q : s' n = a ∨ s' n = 3
    · rw [if_pos q, if_pos q]
    · rw [if_neg q, if_neg q]
      funext j
      by_cases e : j = n
      · subst e; rw [pk_us, Int32.add_zero]
      · rw [pk_un e]
end CG
section CI3
variable {hq rq k0 k9 : Nat} {ih ik w0 fl a0 da ds b0 ka ks : Int32} {g1 mg1 g2 e1 e2 : Nat → Int32}
theorem ci_fl (hi : cz_inv hq rq k0 k9 ih ik w0 fl a0 da ds b0 ka ks g1 mg1 g2 e1 e2) (h : ¬ a0 = -1) : ci_hl w0 fl := by
  apply hi.2.2.2.2.1
  rcases Nat.eq_zero_or_pos hq with q | q
  · exact absurd (hi.2.2.2.1 q).2 h
  · exact q
/-- guilty -/
theorem ci_gs (hk : k0 ≤ 6) (hg : cz_pl g2) (hi : cz_inv hq rq k0 k9 ih ik w0 fl a0 da ds b0 ka ks g1 mg1 g2 e1 e2) : cz_gs a0 w0 (cz_pp g2 k0) g1 g2 cr_TW cr_TB k0 = cz_mq da ds fl mg1 g2 k0 k0 := cr_gs hk hg hi.2.2.2.2.2.1.sr (ci_fl hi) hi.2.2.2.2.2.2.1 k0 (Nat.le_refl _)
/-- about -/
theorem ci_about (hk : k0 ≤ 6) (hg : cz_pl g2) (hi : cz_inv hq rq k0 k9 ih ik w0 fl a0 da ds b0 ka ks g1 mg1 g2 e1 e2) (x what : Int32) (g3 g4 : Nat → Int32) : cz_abC x what a0 (cz_pp g2 k0) w0 g1 g2 g3 g4 k0 cr_TW cr_TB = cz_abM x what da ds fl mg1 g2 g3 g4 k0 := by
  unfold cz_abC cz_abM
  by_cases h1 : cz_cr k0 x
  · rw [if_pos h1, if_pos h1]
    obtain ⟨j, hj, e⟩ := cz_cr_ex hk h1
    have e2 : x.toNatClampNeg = j := by rw [e]; exact nI_clamp (n := j) (by omega)
    unfold cz_cnM
    rw [e2]
    by_cases w0' : what = 0
    · rw [if_pos w0', if_pos (by rw [w0']; decide), if_pos w0']
      exact hi.2.2.2.2.2.2.1 j hj
    rw [if_neg w0', if_neg w0']
    by_cases w1 : what = 1
    · rw [if_pos w1, if_pos (by rw [w1]; decide), if_pos w1]
    rw [if_neg w1, if_neg w1]
    by_cases w2 : what = 2
    · rw [if_pos w2, if_pos (by rw [w2]; decide), if_pos w2, e]
      exact cr_si hk hg hi.2.2.2.2.2.1.sr (ci_fl hi) hi.2.2.2.2.2.2.1 hj
    rw [if_neg w2, if_neg w2]
    by_cases w3 : what = 3
    · rw [if_pos w3, if_pos (show cz_in 0 what 5 by rw [w3]; decide), if_pos w3, ci_gs hk hg hi, e]
      have hb := cr_mqb (da := da) (ds := ds) (fl := fl) (mg1 := mg1) (g := g2) (k := k0) (show j < 6 by omega) k0 hk
      by_cases q : cz_mg (mg1 j) (g2 j) da ds fl g2 k0
      · rw [if_pos q, if_neg (fun c => hb.mp c ⟨hj, q⟩)]
      · rw [if_neg q, if_pos (hb.mpr (fun c => q c.2))]
    rw [if_neg w3, if_neg w3]
    by_cases w4 : what = 4
    · rw [if_pos w4, if_pos (by rw [w4]; decide), if_pos w4]
    rw [if_neg w4, if_neg w4]
    by_cases w5 : what = 5
    · rw [if_pos w5, if_pos (by rw [w5]; decide)]
    rw [if_neg w5, if_neg]
    intro c
    simp only [cz_in, cz_le, cz_eq, cz_l] at *
    omega
  · rw [if_neg h1, if_neg h1]
/-- act: what it answers, and who SAW what -/
theorem ci_actA (hk : k0 ≤ 6) (hg : cz_pl g2) (hi : cz_inv hq rq k0 k9 ih ik w0 fl a0 da ds b0 ka ks g1 mg1 g2 e1 e2) (act : Int32) : cz_acA act a0 (w0 ||| cz_pp g2 k0) (cz_pp g2 k0) w0 g1 g2 k0 cr_TW cr_TB = cz_acB act da ds fl mg1 g2 k0 := by
  unfold cz_acA cz_acB
  by_cases ha : cz_in 0 act 2
  · rw [if_pos ha, if_pos ha]
    rcases hi.2.2.2.2.2.1.sr with ⟨h1, h2⟩ | ⟨d, e, hd, he, h1, h2, h3⟩
    · have : cz_aft a0 act (w0 ||| cz_pp g2 k0) = -1 := by unfold cz_aft; rw [if_pos h1]
      rw [if_pos this, if_pos h2]
    · have hfl := ci_fl hi (by rw [h1]; exact (ci_st d hd e he).2.2)
      have cd : da.toNatClampNeg = d := by rw [h2]; exact nI_clamp (n := d) (by omega)
      have ce : ds.toNatClampNeg = e := by rw [h3]; exact nI_clamp (n := e) (by omega)
      rw [cd, ce, if_neg (show ¬ da = -1 by rw [h2]; exact ci_n1 (by omega)), h1]
      obtain ⟨p1, p2⟩ := ci_aft (w0 := w0) (fl := fl) (g := g2) (k := k0) hk hg hfl hd he ha
      by_cases hm : cz_may act d e fl g2 k0
      · obtain ⟨r1, r2, r3, -, -⟩ := p1 hm
        rw [r1, if_neg (ci_n1 (by omega)), if_pos hm, cr_gs (mg1 := mg1) (da := nI (cz_mD act d e)) (ds := nI (cz_mE act e)) hk hg (Or.inr ⟨_, _, r2, r3, rfl, rfl, rfl⟩) (fun _ => hfl) hi.2.2.2.2.2.2.1 k0 (Nat.le_refl _), cr_many hk]
      · rw [p2 hm, if_pos rfl, if_neg hm]
  · rw [if_neg ha, if_neg ha]
theorem ci_actL (hk : k0 ≤ 6) (hg : cz_pl g2) (hi : cz_inv hq rq k0 k9 ih ik w0 fl a0 da ds b0 ka ks g1 mg1 g2 e1 e2) (act a : Int32) (f : Nat → Int32) : (if cz_acP act a0 (w0 ||| cz_pp g2 k0) then cz_lk a (fun i => cz_si (cz_aft a0 act (w0 ||| cz_pp g2 k0)) (nI i) (cz_pp g2 k0) w0 g1 g2 k0 cr_TW cr_TB) f k0 else f) = if cz_acM act da ds fl g2 k0 then cz_ml a (fun i => cz_sw (mg1 i) (g2 i) (nI (cz_mD act da.toNatClampNeg ds.toNatClampNeg)) (nI (cz_mE act ds.toNatClampNeg)) fl g2 k0) f k0 else f := by
  by_cases ha : cz_in 0 act 2
  · rcases hi.2.2.2.2.2.1.sr with ⟨h1, h2⟩ | ⟨d, e, hd, he, h1, h2, h3⟩
    · have : cz_aft a0 act (w0 ||| cz_pp g2 k0) = -1 := by unfold cz_aft; rw [if_pos h1]
      rw [if_neg (fun h => h.2 this), if_neg (fun h => h.2.1 h2)]
    · have hfl := ci_fl hi (by rw [h1]; exact (ci_st d hd e he).2.2)
      have cd : da.toNatClampNeg = d := by rw [h2]; exact nI_clamp (n := d) (by omega)
      have ce : ds.toNatClampNeg = e := by rw [h3]; exact nI_clamp (n := e) (by omega)
      obtain ⟨p1, p2⟩ := ci_aft (w0 := w0) (fl := fl) (g := g2) (k := k0) hk hg hfl hd he ha
      by_cases hm : cz_may act d e fl g2 k0
      · obtain ⟨r1, r2, r3, -, -⟩ := p1 hm
        have hacM : cz_acM act da ds fl g2 k0 := ⟨ha, by rw [h2]; exact ci_n1 (by omega), by rw [cd, ce]; exact hm⟩
        have hacP : cz_acP act a0 (w0 ||| cz_pp g2 k0) := ⟨ha, by rw [h1, r1]; exact ci_n1 (by omega)⟩
        rw [if_pos hacP, if_pos hacM, cd, ce, h1, r1]
        refine cr_lk k0 (fun c hc => ?_)
        exact cr_si hk hg (Or.inr ⟨_, _, r2, r3, rfl, rfl, rfl⟩) (fun _ => hfl) hi.2.2.2.2.2.2.1 hc
      · rw [if_neg (fun h => h.2 (by rw [h1]; exact p2 hm)), if_neg (fun h => hm (by have := h.2.2; rw [cd, ce] at this; exact this))]
  · rw [if_neg (fun h => ha h.1), if_neg (fun h => ha h.1)]
end CI3
