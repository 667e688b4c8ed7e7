/-! ACTS, images, a new HALL -/
theorem ci_af0 : ∀ d, d < 20 → ∀ e, e < 4 → (nI d * 4 + ((nI e + 4 - 1) - (nI e + 4 - 1) / 4 * 4) = nI (4 * d + (e + 3) % 4) ∧ nI d * 4 + ((nI e + 1) - (nI e + 1) / 4 * 4) = nI (4 * d + (e + 1) % 4) ∧ cz_nb (nI d) (2 * nI e) = cz_ahd d (nI e)) := by decide +kernel
theorem ci_ah0 : ∀ d, d < 20 → ∀ e, e < 4 → ∀ t, t < 20 → (¬ cz_ahd d (nI e) = nI t ∨ (¬ t = d ∧ nI t * 4 + nI e = nI (4 * t + e))) := by decide +kernel
theorem ci_ah (d : Nat) (hd : d < 20) (e : Nat) (he : e < 4) (t : Nat) (ht : t < 20) (h : cz_ahd d (nI e) = nI t) : ¬ t = d ∧ nI t * 4 + nI e = nI (4 * t + e) := (ci_ah0 d hd e he t ht).resolve_left (fun c => c h)
/-- the stance behind an ACT, as the reference reckons it -/
theorem ci_aft {w0 fl : Int32} {g : Nat → Int32} {k d e : Nat} (hk : k ≤ 6) (hg : cz_pl g) (hfl : ci_hl w0 fl) (hd : d < 20) (he : e < 4) {act : Int32} (ha : cz_in 0 act 2) : (cz_may act d e fl g k → cz_aft (nI (4 * d + e)) act (w0 ||| cz_pp g k) = nI (4 * cz_mD act d e + cz_mE act e) ∧ cz_mD act d e < 20 ∧ cz_mE act e < 4 ∧ (¬ act = 2 → cz_mD act d e = d) ∧ (act = 2 → cz_op (nI (cz_mD act d e)) (w0 ||| cz_pp g k) ∧ ¬ cz_mD act d e = d)) ∧ (¬ cz_may act d e fl g k → cz_aft (nI (4 * d + e)) act (w0 ||| cz_pp g k) = -1) := by
  obtain ⟨s1, s2, s3⟩ := ci_st d hd e he
  obtain ⟨f0, f1, f2⟩ := ci_af0 d hd e he
  have h3 : act = 0 ∨ act = 1 ∨ act = 2 := by
    simp only [cz_in, cz_le, cz_eq, cz_l] at *
    omega
  unfold cz_aft
  rw [if_neg s3, s1, s2]
  rcases h3 with rfl | rfl | rfl
  · refine ⟨fun _ => ?_, fun h => absurd (Or.inl (by decide)) h⟩
    have e1 : cz_mD 0 d e = d := rfl
    have e2 : cz_mE 0 e = (e + 3) % 4 := rfl
    rw [if_pos rfl, f0, e1, e2]
    exact ⟨rfl, hd, by omega, fun _ => rfl, fun h => absurd h (by decide)⟩
  · refine ⟨fun _ => ?_, fun h => absurd (Or.inl (by decide)) h⟩
    have e1 : cz_mD 1 d e = d := rfl
    have e2 : cz_mE 1 e = (e + 1) % 4 := rfl
    rw [if_neg (by decide), if_pos rfl, f1, e1, e2]
    exact ⟨rfl, hd, by omega, fun _ => rfl, fun h => absurd h (by decide)⟩
  · rw [if_neg (by decide), if_neg (by decide), if_pos rfl, f2]
    by_cases hn : cz_ahd d (nI e) = -1
    · refine ⟨fun h => ?_, fun _ => ?_⟩
      · rcases h with h | h
        · exact absurd h (by decide)
        · exact absurd hn h.1
      · rw [hn, if_neg (fun h => absurd h.1 (by decide))]
    · obtain ⟨t, ht, et⟩ := cz_ahd_n (x := nI e) hd hn
      obtain ⟨q1, q2⟩ := ci_ah d hd e he t ht et
      have hem := ci_em (da := nI d) hk hg hfl ht
      have e1 : cz_mD 2 d e = t := by
        unfold cz_mD
        rw [if_pos rfl, et, nI_clamp (by omega)]
      have e2 : cz_mE 2 e = e := rfl
      rw [et, e1, e2]
      refine ⟨fun h => ?_, fun h => ?_⟩
      · rcases h with h | h
        · exact absurd h (by decide)
        · rw [et] at h
          have ho := (hem.mp h.2).1
          rw [if_pos ho, q2]
          exact ⟨rfl, ht, he, fun c => absurd rfl c, fun _ => ⟨ho, q1⟩⟩
      · rw [if_neg]
        intro ho
        apply h
        refine Or.inr ⟨hn, ?_⟩
        rw [et]
        exact hem.mpr ⟨ho, fun c => q1 ((ci_ni (by omega) (by omega)).mp c.symm)⟩
section CI2
variable {hq rq k0 k9 : Nat} {ih ik w0 fl a0 da ds b0 ka ks : Int32} {g1 mg1 g2 e1 e2 : Nat → Int32}
/-- act: the DUKE behind it -/
theorem ci_act (hk : k0 ≤ 6) (hg : cz_pl g2) (hi : cz_inv hq rq k0 k9 ih ik w0 fl a0 da ds b0 ka ks g1 mg1 g2 e1 e2) {act s0 z3 z4 : Int32} (h1 : s0 = cz_acC a0 act (w0 ||| cz_pp g2 k0)) (h2 : z3 = if cz_acM act da ds fl g2 k0 then nI (cz_mD act da.toNatClampNeg ds.toNatClampNeg) else da) (h3 : z4 = if cz_acM act da ds fl g2 k0 then nI (cz_mE act ds.toNatClampNeg) else ds) : cz_inv hq rq k0 k9 ih ik w0 fl s0 z3 z4 b0 ka ks g1 mg1 g2 e1 e2 := by
  by_cases ha : cz_in 0 act 2
  · obtain ⟨i1, i2, i3, i4, i5, i6, i7, i8⟩ := id hi
    rcases i6.1 with ⟨s1, s2⟩ | ⟨d, e, hd, he, s1, s2, s3, s4⟩
    · have hn : ¬ cz_acM act da ds fl g2 k0 := fun h => h.2.1 s2
      rw [if_neg hn] at h2 h3
      have : s0 = a0 := by
        rw [h1, s1]
        unfold cz_acC
        rw [if_pos ha]
        unfold cz_aft
        rw [if_pos rfl, if_pos rfl]
      rw [this, h2, h3]
      exact hi
    · have hq0 : 0 < hq := by
        rcases Nat.eq_zero_or_pos hq with q | q
        · have := (i4 q).2
          rw [s1] at this
          exact absurd this (ci_st d hd e he).2.2
        · exact q
      have cd : da.toNatClampNeg = d := by rw [s2]; exact nI_clamp (n := d) (by omega)
      have ce : ds.toNatClampNeg = e := by rw [s3]; exact nI_clamp (n := e) (by omega)
      obtain ⟨p1, p2⟩ := ci_aft (w0 := w0) (fl := fl) (g := g2) (k := k0) hk hg (i5 hq0) hd he ha
      unfold cz_acC at h1
      rw [if_pos ha, s1] at h1
      by_cases hm : cz_may act d e fl g2 k0
      · have hac : cz_acM act da ds fl g2 k0 := ⟨ha, by rw [s2]; exact ci_n1 (by omega), by rw [cd, ce]; exact hm⟩
        rw [if_pos hac] at h2 h3
        rw [cd, ce] at h2
        rw [ce] at h3
        obtain ⟨r1, r2, r3, r4, r5⟩ := p1 hm
        rw [r1, if_neg (ci_n1 (by omega))] at h1
        refine ⟨i1, i2, i3, fun h => absurd h (by omega), i5, ⟨Or.inr ⟨_, _, r2, r3, h1, h2, h3, ?_⟩, i6.2.1, ?_⟩, i7, i8⟩
        · by_cases c2 : act = 2
          · exact ((ci_or0 _ _ _).mp (r5 c2).1.2).1
          · rw [r4 c2]; exact s4
        · by_cases c2 : act = 2
          · rw [h2]; exact (ci_pp hg r2 k0 hk).mp ((ci_or0 _ _ _).mp (r5 c2).1.2).2
          · rw [h2, r4 c2, ← s2]; exact i6.2.2
      · have hac : ¬ cz_acM act da ds fl g2 k0 := fun h => hm (by have := h.2.2; rw [cd, ce] at this; exact this)
        rw [if_neg hac] at h2 h3
        rw [p2 hm, if_pos rfl, ← s1] at h1
        rw [h1, h2, h3]
        exact hi
  · have hn : ¬ cz_acM act da ds fl g2 k0 := fun h => ha h.1
    rw [if_neg hn] at h2 h3
    unfold cz_acC at h1
    rw [if_neg ha] at h1
    rw [h1, h2, h3]
    exact hi
/-- image -/
theorem ci_image (hb : hq ≤ 300) (hi : cz_inv hq rq k0 k9 ih ik w0 fl a0 da ds b0 ka ks g1 mg1 g2 e1 e2) {r0 s0 z0 z1 z3 z4 : Int32} {kc km : Nat} {t1 t2 t2m : Nat → Int32} (h1 : r0 = if nI hq = 0 then nI rq else nI hq) (h2 : s0 = if nI hq = 0 then b0 else a0) (h3 : kc = if nI hq = 0 then k9 else k0) (h4 : t1 = if nI hq = 0 then e1 else cz_cp g1 e1) (h5 : t2 = if nI hq = 0 then e2 else cz_cp g2 e2) (m0 : z0 = if ih = 0 then ik else 1) (m1 : z1 = if ih = 0 then nI rq else nI hq) (m2 : km = if ih = 0 then k9 else k0) (m3 : z3 = if ih = 0 then ka else da) (m4 : z4 = if ih = 0 then ks else ds) (m5 : t2m = if ih = 0 then e2 else cz_cp g2 e2) (hk : k0 ≤ 6) : ∃ r : Nat, r0 = nI r ∧ z1 = nI r ∧ r ≤ hq ∧ kc = km ∧ t2 = t2m ∧ cz_inv hq r k0 kc ih z0 w0 fl a0 da ds s0 z3 z4 g1 mg1 g2 t1 t2 := by
  have hih := ci_ih hi hb
  by_cases c : nI hq = 0
  · have c2 := hih.mp c
    rw [if_pos c] at h1 h2 h3 h4 h5
    rw [if_pos c2] at m0 m1 m2 m3 m4 m5
    refine ⟨rq, h1, m1, hi.1, by rw [h3, m2], by rw [h5, m5], ?_⟩
    rw [m0, h3, h2, m3, m4, h4, h5]
    exact hi
  · have c2 : ¬ ih = 0 := fun h => c (hih.mpr h)
    rw [if_neg c] at h1 h2 h3 h4 h5
    rw [if_neg c2] at m0 m1 m2 m3 m4 m5
    have hne : 0 < hq := by
      rcases Nat.eq_zero_or_pos hq with q | q
      · exact absurd ((ci_n0 (by omega)).mpr q) c
      · exact q
    refine ⟨hq, h1, m1, Nat.le_refl _, by rw [h3, m2], by rw [h5, m5], ?_⟩
    obtain ⟨i1, i2, i3, i4, i5, i6, i7, i8⟩ := hi
    have hcp : ∀ (e g : Nat → Int32) (j : Nat), j < 6 → cz_cp e g j = e j := by
      intro e g j hj
      unfold cz_cp va_cpy
      rw [if_pos (by omega)]
      congr 1
      omega
    rw [h3, m0, h2, m3, m4]
    refine ⟨Nat.le_refl _, i2, Or.inr ⟨rfl, hne⟩, i4, i5, i6, i7, fun _ _ => ⟨⟨i6.1, ?_, ?_⟩, Nat.le_refl _, ?_⟩⟩
    · intro i j hij hj
      rw [h5, hcp _ _ i (by omega), hcp _ _ j (by omega)]
      exact i6.2.1 i j hij hj
    · intro j hj
      rw [h5, hcp _ _ j (by omega)]
      exact i6.2.2 j hj
    · intro j hj
      rw [h4, hcp _ _ j (by omega)]
theorem ci_imA (hb : hq ≤ 300) (hi : cz_inv hq rq k0 k9 ih ik w0 fl a0 da ds b0 ka ks g1 mg1 g2 e1 e2) : (if nI hq = 0 then (-103 : Int32) else nI k0) = if ih = 0 then -103 else nI k0 := ci_if (ci_ih hi hb) _ _
/-- restore -/
theorem ci_rs (hb : hq ≤ 300) (hi : cz_inv hq rq k0 k9 ih ik w0 fl a0 da ds b0 ka ks g1 mg1 g2 e1 e2) : cz_rs (nI rq) (nI hq) ↔ cz_rm_ ik (nI rq) (nI hq) := by
  have hr := hi.1
  have : nI rq = 0 ↔ ik = 0 := by
    rw [ci_n0 (by omega)]
    rcases hi.2.2.1 with ⟨q1, q2⟩ | ⟨q1, q2⟩
    · rw [q1, q2]; exact ⟨fun _ => rfl, fun _ => rfl⟩
    · rw [q1]; exact ⟨fun h => absurd h (by omega), fun h => absurd h (by decide)⟩
  exact ⟨fun h => ⟨fun c => h.1 (this.mpr c), h.2⟩, fun h => ⟨fun c => h.1 (this.mp c), h.2⟩⟩
theorem ci_restore (hb : hq ≤ 300) (hk9 : k9 ≤ 6) (hi : cz_inv hq rq k0 k9 ih ik w0 fl a0 da ds b0 ka ks g1 mg1 g2 e1 e2) {s0 z3 z4 : Int32} {kc km : Nat} {t1 t2 t2m : Nat → Int32} (h2 : s0 = if cz_rs (nI rq) (nI hq) then b0 else a0) (h3 : kc = if cz_rs (nI rq) (nI hq) then k9 else k0) (h4 : t1 = if cz_rs (nI rq) (nI hq) then cz_cp e1 g1 else g1) (h5 : t2 = if cz_rs (nI rq) (nI hq) then cz_cp e2 g2 else g2) (m2 : km = if cz_rm_ ik (nI rq) (nI hq) then k9 else k0) (m3 : z3 = if cz_rm_ ik (nI rq) (nI hq) then ka else da) (m4 : z4 = if cz_rm_ ik (nI rq) (nI hq) then ks else ds) (m5 : t2m = if cz_rm_ ik (nI rq) (nI hq) then cz_cp e2 g2 else g2) : kc = km ∧ t2 = t2m ∧ cz_inv hq rq kc k9 ih ik w0 fl s0 z3 z4 b0 ka ks t1 mg1 t2 e1 e2 := by
  have hrs := ci_rs hb hi
  by_cases c : cz_rs (nI rq) (nI hq)
  · have c2 := hrs.mp c
    rw [if_pos c] at h2 h3 h4 h5
    rw [if_pos c2] at m2 m3 m4 m5
    refine ⟨by rw [h3, m2], by rw [h5, m5], ?_⟩
    obtain ⟨i1, i2, i3, i4, i5, i6, i7, i8⟩ := hi
    have hrq : 0 < rq := by
      rcases Nat.eq_zero_or_pos rq with q | q
      · exact absurd ((ci_n0 (by omega)).mpr q) c.1
      · exact q
    have hrh : rq = hq := (ci_ni (by omega) (by omega)).mp c.2
    obtain ⟨o1, o2, o3⟩ := i8 hrq hrh
    have hcp : ∀ (e g : Nat → Int32) (j : Nat), j < 6 → cz_cp e g j = e j := by
      intro e g j hj
      unfold cz_cp va_cpy
      rw [if_pos (by omega)]
      congr 1
      omega
    rw [h3, h2, m3, m4]
    have ok2 : ci_ok w0 b0 ka ks t2 k9 := by
      refine ⟨o1.1, ?_, ?_⟩
      · intro i j hij hj
        rw [h5, hcp _ _ i (by omega), hcp _ _ j (by omega)]
        exact o1.2.1 i j hij hj
      · intro j hj
        rw [h5, hcp _ _ j (by omega)]
        exact o1.2.2 j hj
    refine ⟨i1, i2, i3, fun h => absurd h (by omega), i5, ok2, ?_, fun _ _ => ⟨o1, Nat.le_refl _, ?_⟩⟩
    · intro j hj
      rw [h4, hcp _ _ j (by omega), o3 j hj]
      exact i7 j (by omega)
    · intro j hj
      rw [h4, hcp _ _ j (by omega)]
  · have c2 : ¬ cz_rm_ ik (nI rq) (nI hq) := fun h => c (hrs.mpr h)
    rw [if_neg c] at h2 h3 h4 h5
    rw [if_neg c2] at m2 m3 m4 m5
    refine ⟨by rw [h3, m2], by rw [h5, m5], ?_⟩
    rw [h3, h2, m3, m4, h4, h5]
    exact hi
theorem ci_reA (hb : hq ≤ 300) (hi : cz_inv hq rq k0 k9 ih ik w0 fl a0 da ds b0 ka ks g1 mg1 g2 e1 e2) : (if cz_rs (nI rq) (nI hq) then nI k9 else (-103 : Int32)) = if cz_rm_ ik (nI rq) (nI hq) then nI k9 else -103 := ci_if (ci_rs hb hi) _ _
/-- a new HALL -/
theorem ci_hall {f g : Nat → Int32} (hf : cz_fits f 23) (hg : cz_fits g 23) (he : ∀ k, k < 23 → f k = g k) : ci_hl (cz_wl f 20) (cz_fw g 23) := by
  intro p hp
  rw [cs_wl f 20 (Nat.le_refl _), cs_fw g 23 (Nat.le_refl _) hg, show cs_pk 23 = 20 from rfl, cs_bit (by omega), cs_and]
  have hb1 := cs_bn_lt (cs_w f) 20
  have hb2 := cs_bn_lt (cs_f g) 20
  have b1 := cs_bn_bit (cs_w f) 20 p hp
  have b2 := cs_bn_bit (cs_f g) 20 p hp
  have hx : f (p / 5 * 6 + p % 5) = 46 ∨ f (p / 5 * 6 + p % 5) = 35 := by
    have hfit := hf (p / 5 * 6 + p % 5) (by omega)
    unfold cz_fit at hfit
    have hne : ¬ (p / 5 * 6 + p % 5) % 6 = 5 := by omega
    rcases hfit.2 with q | q
    · exact absurd q.1 hne
    · exact q.2
  have hfg : f (p / 5 * 6 + p % 5) = g (p / 5 * 6 + p % 5) := he _ (by omega)
  have hand : ∀ m : Nat, (m &&& 2 ^ p) = 0 ↔ m / 2 ^ p % 2 = 0 := by
    intro m
    constructor
    · intro h
      have q := congrArg (fun v => Nat.testBit v p) h
      simp only [Nat.testBit_and, Nat.testBit_two_pow_self, Bool.and_true, Nat.zero_testBit] at q
      rw [Nat.testBit_eq_decide_div_mod_eq, decide_eq_false_iff_not] at q
      omega
    · intro h
      apply Nat.eq_of_testBit_eq
      intro i
      rw [Nat.testBit_and, Nat.testBit_two_pow, Nat.zero_testBit]
      by_cases e : p = i
      · subst e
        rw [Nat.testBit_eq_decide_div_mod_eq, h]
        simp
      · simp [e]
  have hlt : (cs_bn (cs_w f) 20 &&& 2 ^ p) < 2 ^ 31 := Nat.lt_of_le_of_lt Nat.and_le_left (by omega)
  have e1 : (nI (cs_bn (cs_w f) 20 &&& 2 ^ p) = 0) ↔ (cs_bn (cs_w f) 20 &&& 2 ^ p) = 0 := by
    rw [← nI_0]
    exact nI_eq hlt (by omega)
  rw [e1, hand, b1]
  unfold cz_hs
  rw [pk_shrN (by omega) (nI p &&& 31) p (cs_sm p (by omega)), pk_andN (n := cs_bn (cs_f g) 20 / 2 ^ p) (by have := Nat.div_le_self (cs_bn (cs_f g) 20) (2 ^ p); omega) 1 (by decide), show (2 ^ 1 : Nat) = 2 from rfl, b2]
  unfold cs_w cs_f
  rw [← hfg]
  rcases hx with q | q <;> simp [q]
  · decide
  · decide
theorem ci_hallI {f0 f1 : Nat → Int32} {n0 : Nat} (hb : hq ≤ 300) (heq : cz_eqp f0 f1 n0) (hi : cz_inv hq rq k0 k9 ih ik w0 fl a0 da ds b0 ka ks g1 mg1 g2 e1 e2) {z0 z2 s0 y0 y1 y2 y3 y4 : Int32} {kc km : Nat} (h : ((n0 = 23 ∧ cz_fits f0 23) ∧ z0 = cz_wl f0 20 ∧ z2 = nI hq + 1 ∧ s0 = -1 ∧ kc = 0) ∨ (¬ (n0 = 23 ∧ cz_fits f0 23) ∧ z0 = w0 ∧ z2 = nI hq ∧ s0 = a0 ∧ kc = k0)) (m : ((n0 = 23 ∧ cz_fits f1 23) ∧ y0 = 1 ∧ y1 = nI hq + 1 ∧ y2 = cz_fw f1 23 ∧ y3 = -1 ∧ y4 = -1 ∧ km = 0) ∨ (¬ (n0 = 23 ∧ cz_fits f1 23) ∧ y0 = ih ∧ y1 = nI hq ∧ y2 = fl ∧ y3 = da ∧ y4 = ds ∧ km = k0)) : ∃ q : Nat, z2 = nI q ∧ y1 = nI q ∧ hq ≤ q ∧ q ≤ hq + 1 ∧ kc = km ∧ cz_inv q rq kc k9 y0 ik z0 y2 s0 y3 y4 b0 ka ks g1 mg1 g2 e1 e2 := by
  have hfe : ∀ {f g : Nat → Int32}, cz_eqp f g n0 → n0 = 23 → cz_fits f 23 → cz_fits g 23 := by
    intro f g hq h23 hf j hj
    have := hf j hj
    unfold cz_fit at *
    rw [← hq j (by omega)]
    exact this
  have hn1 : nI hq + 1 = nI (hq + 1) := (nI_add hq 1)
  rcases h with ⟨c, a1, a2, a3, a4⟩ | ⟨c, a1, a2, a3, a4⟩
  · rcases m with ⟨d, b1, b2, b3, b4, b5, b6⟩ | ⟨d, -⟩
    · refine ⟨hq + 1, by rw [a2, hn1], by rw [b2, hn1], by omega, Nat.le_refl _, by rw [a4, b6], ?_⟩
      obtain ⟨i1, i2, i3, i4, i5, i6, i7, i8⟩ := hi
      rw [a4]
      refine ⟨by omega, Or.inr ⟨b1, by omega⟩, i3, fun h => absurd h (by omega), fun _ => ?_, ⟨Or.inl ⟨a3, b4⟩, fun i j _ h => absurd h (Nat.not_lt_zero _), fun j h => absurd h (Nat.not_lt_zero _)⟩, fun j h => absurd h (Nat.not_lt_zero _), fun _ h => absurd h (by omega)⟩
      rw [a1, b3]
      exact ci_hall c.2 d.2 (fun k hk => heq k (by omega))
    · exact absurd ⟨c.1, hfe heq c.1 c.2⟩ d
  · rcases m with ⟨d, -⟩ | ⟨d, b1, b2, b3, b4, b5, b6⟩
    · exact absurd ⟨d.1, hfe (fun k hk => (heq k hk).symm) d.1 d.2⟩ c
    · refine ⟨hq, a2, b2, Nat.le_refl _, by omega, by rw [a4, b6], ?_⟩
      rw [a4, b1, a1, b3, a3, b4, b5]
      exact hi
theorem ci_start : cz_inv 0 0 0 0 0 0 0 0 (-1) (-1) (-1) (-1) 0 0 (fun _ => 0) (fun _ => 0) (fun _ => 0) (fun _ => 0) (fun _ => 0) :=
  ⟨Nat.le_refl _, Or.inl ⟨rfl, rfl⟩, Or.inl ⟨rfl, rfl⟩, fun _ => ⟨rfl, rfl⟩, fun h => absurd h (by omega), ⟨Or.inl ⟨rfl, rfl⟩, fun i j _ h => absurd h (Nat.not_lt_zero _), fun j h => absurd h (Nat.not_lt_zero _)⟩, fun j h => absurd h (Nat.not_lt_zero _), fun h => absurd h (by omega)⟩
end CI2
theorem ci_b {h i L : Nat} (h1 : h ≤ i) (h2 : i + 4 ≤ L) (h3 : L ≤ 256) : h ≤ 300 := by omega
theorem ci_b4 {h i : Nat} (h1 : h ≤ i) : h ≤ i + 4 := by omega
theorem ci_b9 {h q i : Nat} (h0 : q ≤ h + 1) (h1 : h ≤ i) : q ≤ i + 4 := by omega
