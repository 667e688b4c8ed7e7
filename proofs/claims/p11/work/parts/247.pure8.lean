/-! a WAY: class and reference -/
section CY
variable {hq rq k0 k9 : Nat} {ih ik w0 fl a0 da ds b0 ka ks : Int32} {g1 mg1 g2 e1 e2 : Nat → Int32}
theorem ci_cwst (hi : cz_inv hq rq k0 k9 ih ik w0 fl a0 da ds b0 ka ks g1 mg1 g2 e1 e2) : cw_st a0 := by
  rcases hi.2.2.2.2.2.1.sr with q | ⟨d, e, hd, he, q1, -⟩
  · exact Or.inl q.1
  · exact Or.inr ⟨4 * d + e, by omega, q1⟩
theorem ci_nx (hk : k0 ≤ 6) (hg : cz_pl g2) (hfl : ci_hl w0 fl) {s : Nat} (hs : s < 80) {a : Nat} (ha : a < 3) : cw_nxC (w0 ||| cz_pp g2 k0) s a = cw_nxM fl g2 k0 s a := by
  have hin : cz_in 0 (nI a) 2 := by
    have e : (nI a).toInt = (a : Int) := nI_toInt (by omega)
    constructor
    · rw [cz_le, e]; simp only [cz_l]; omega
    · rw [cz_le, e]; simp only [cz_l]; omega
  obtain ⟨p1, p2⟩ := ci_aft (w0 := w0) (fl := fl) (g := g2) (k := k0) hk hg hfl (show s / 4 < 20 by omega) (show s % 4 < 4 by omega) hin
  rw [Nat.div_add_mod] at p1 p2
  unfold cw_nxC cw_nxM
  by_cases hm : cz_may (nI a) (s / 4) (s % 4) fl g2 k0
  · obtain ⟨r1, r2, r3, -, -⟩ := p1 hm
    rw [r1, if_pos hm, if_pos (cw_in79 (by omega)), nI_clamp (n := 4 * cz_mD (nI a) (s / 4) (s % 4) + cz_mE (nI a) (s % 4)) (by omega)]
  · rw [p2 hm, if_neg hm, if_neg (by decide)]
theorem ci_okw (hk : k0 ≤ 6) (hg : cz_pl g2) (hfl : ci_hl w0 fl) (hki : cz_eqp g1 mg1 k0) {s : Nat} (hs : s < 80) : cw_okC w0 (cz_pp g2 k0) g1 g2 cr_TW cr_TB k0 s = cw_okM fl mg1 g2 k0 s := by
  unfold cw_okC cw_okM
  rw [cr_gs (mg1 := mg1) (da := nI (s / 4)) (ds := nI (s % 4)) hk hg (Or.inr ⟨s / 4, s % 4, by omega, by omega, by rw [Nat.div_add_mod], rfl, rfl⟩) (fun _ => hfl) hki k0 (Nat.le_refl _)]
/-- way -/
theorem ci_way (hk : k0 ≤ 6) (hg : cz_pl g2) (hi : cz_inv hq rq k0 k9 ih ik w0 fl a0 da ds b0 ka ks g1 mg1 g2 e1 e2) {pl what r r' : Int32} (h : cw_wayP (cw_nxC (w0 ||| cz_pp g2 k0)) (cw_okC w0 (cz_pp g2 k0) g1 g2 cr_TW cr_TB k0) pl what a0 a0.toNatClampNeg r) (h' : cw_wayP (cw_nxM fl g2 k0) (cw_okM fl mg1 g2 k0) pl what da (4 * da.toNatClampNeg + ds.toNatClampNeg) r') : r = r' := by
  have hda : a0 = -1 ↔ da = -1 := by
    rcases hi.2.2.2.2.2.1.sr with q | ⟨d, e, hd, he, q1, q2, q3⟩
    · rw [q.1, q.2]
    · rw [q1, q2]
      exact ⟨fun c => absurd c (ci_st d hd e he).2.2, fun c => absurd c (ci_n1 (by omega))⟩
  rcases h with ⟨c1, e1⟩ | ⟨c1, c2, e1⟩ | ⟨c1, c2, c3, e1⟩ | ⟨c1, c2, c3, A⟩
  · rcases h' with ⟨-, f1⟩ | ⟨d1, -⟩ | ⟨d1, -⟩ | ⟨d1, -⟩
    · rw [e1, f1]
    · exact absurd d1 c1
    · exact absurd d1 c1
    · exact absurd d1 c1
  · rcases h' with ⟨d1, -⟩ | ⟨-, -, f1⟩ | ⟨-, d2, -⟩ | ⟨-, d2, -⟩
    · exact absurd c1 d1
    · rw [e1, f1]
    · exact absurd d2 c2
    · exact absurd d2 c2
  · rcases h' with ⟨d1, -⟩ | ⟨-, d2, -⟩ | ⟨-, -, -, f1⟩ | ⟨-, -, d3, -⟩
    · exact absurd c1 d1
    · exact absurd c2 d2
    · rw [e1, f1]
    · exact absurd (hda.mp c3) d3
  · rcases h' with ⟨d1, -⟩ | ⟨-, d2, -⟩ | ⟨-, -, d3, -⟩ | ⟨-, -, -, A'⟩
    · exact absurd c1 d1
    · exact absurd c2 d2
    · exact absurd (hda.mpr d3) c3
    · have hfl := ci_fl hi c3
      rcases hi.2.2.2.2.2.1.sr with q | ⟨d, e, hd, he, q1, q2, q3⟩
      · exact absurd q.1 c3
      · have x1 : a0.toNatClampNeg = 4 * d + e := by rw [q1]; exact nI_clamp (n := 4 * d + e) (by omega)
        have x2 : da.toNatClampNeg = d := by rw [q2]; exact nI_clamp (n := d) (by omega)
        have x3 : ds.toNatClampNeg = e := by rw [q3]; exact nI_clamp (n := e) (by omega)
        rw [x1] at A
        rw [x2, x3] at A'
        exact cw_ans_u (cw_ans_c (by omega) (fun s hs a ha => ci_nx hk hg hfl hs ha) (fun s hs => ci_okw hk hg hfl hi.2.2.2.2.2.2.1 hs) A) A'
end CY
