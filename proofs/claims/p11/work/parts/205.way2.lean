/-! the reference's search -/
def cw_nxM (fl : Int32) (g : Nat → Int32) (k : Nat) (s a : Nat) : Nat := if cz_may (nI a) (s / 4) (s % 4) fl g k then 4 * cz_mD (nI a) (s / 4) (s % 4) + cz_mE (nI a) (s % 4) else 80
def cw_okM (fl : Int32) (g1 g2 : Nat → Int32) (k : Nat) (s : Nat) : Bool := decide (cz_mq (nI (s / 4)) (nI (s % 4)) fl g1 g2 k k = 0)
def cw_add3 (nx : Nat → Nat → Nat) (ok : Nat → Bool) (s a : Nat) (w : (Nat → Int32) × (Nat → Int32) × Nat) : (Nat → Int32) × (Nat → Int32) × Nat := if nx s a < 80 ∧ w.1 (nx s a) = 0 ∧ ok (nx s a) = true then (upd w.1 (nx s a) (if w.1 s = 9 then nI (a + 1) else w.1 s), upd w.2.1 w.2.2 (nI (nx s a)), w.2.2 + 1) else w
def cw_ex3 (nx : Nat → Nat → Nat) (ok : Nat → Bool) (s : Nat) (w : (Nat → Int32) × (Nat → Int32) × Nat) : Nat → (Nat → Int32) × (Nat → Int32) × Nat
  | 0 => w
  | a + 1 => cw_add3 nx ok s a (cw_ex3 nx ok s w a)
section CW3
variable {nx : Nat → Nat → Nat} {ok : Nat → Bool} {s a : Nat} {W : (Nat → Int32) × (Nat → Int32) × Nat} {y7 y8 : Nat → Int32} {yt : Nat}
theorem cw_x3n (hm : (y7, y8, yt) = cw_ex3 nx ok s W a) (h : ¬ (nx s a < 80 ∧ y7 (nx s a) = 0 ∧ ok (nx s a) = true)) : (y7, y8, yt) = cw_ex3 nx ok s W (a + 1) := by
  rw [cw_ex3, ← hm, cw_add3, if_neg h]
theorem cw_x3y {n : Nat} {v : Int32} (hm : (y7, y8, yt) = cw_ex3 nx ok s W a) (hn : n < 80) (ex : nx s a = n) (h0 : y7 n = 0) (ho : ok n = true) (hv : v = if y7 s = 9 then nI (a + 1) else y7 s) : (upd y7 n v, upd y8 yt (nI n), yt + 1) = cw_ex3 nx ok s W (a + 1) := by
  rw [cw_ex3, ← hm, cw_add3, if_pos (by rw [ex]; exact ⟨hn, h0, ho⟩), ex, hv]
end CW3
theorem cw_nxM_n {fl : Int32} {g : Nat → Int32} {k s a : Nat} (h : ¬ cz_may (nI a) (s / 4) (s % 4) fl g k) : ¬ cw_nxM fl g k s a < 80 := by
  unfold cw_nxM
  rw [if_neg h]
  omega
theorem cw_nxM_y {fl : Int32} {g : Nat → Int32} {k s a d e : Nat} (h : cz_may (nI a) (s / 4) (s % 4) fl g k) (h1 : d = cz_mD (nI a) (s / 4) (s % 4)) (h2 : e = cz_mE (nI a) (s % 4)) : cw_nxM fl g k s a = 4 * d + e := by
  unfold cw_nxM
  rw [if_pos h, h1, h2]
theorem cw_okM_y {fl r : Int32} {g1 g2 : Nat → Int32} {k d e : Nat} (he : e < 4) (hr : r = cz_mq (nI d) (nI e) fl g1 g2 k k) : (r = 0 → cw_okM fl g1 g2 k (4 * d + e) = true) ∧ (¬ r = 0 → cw_okM fl g1 g2 k (4 * d + e) = false) := by
  unfold cw_okM
  rw [show (4 * d + e) / 4 = d by omega, show (4 * d + e) % 4 = e by omega, ← hr]
  exact ⟨fun h => decide_eq_true h, fun h => decide_eq_false h⟩
/-- the reference's arrays -/
def cw_M (w : cw_S) (v7 v8 : Nat → Int32) (t : Nat) : Prop := t = w.2.2.1 ∧ (∀ q, q < 80 → v7 q = w.1 q) ∧ ∀ j, j < t → v8 j = w.2.1 j
section CWM
variable {nx : Nat → Nat → Nat} {ok : Nat → Bool} {s0 : Nat} {pl : Int32}
theorem cw_M1 {w : cw_S} {W : (Nat → Int32) × (Nat → Int32) × Nat} {s a : Nat} (hs : s < 80) (h : cw_M w W.1 W.2.1 W.2.2) : cw_M (cw_add nx ok s a w) (cw_add3 nx ok s a W).1 (cw_add3 nx ok s a W).2.1 (cw_add3 nx ok s a W).2.2 := by
  obtain ⟨h1, h2, h3⟩ := h
  unfold cw_add cw_add3
  by_cases c : nx s a < 80 ∧ w.1 (nx s a) = 0 ∧ ok (nx s a) = true
  · have hcW : nx s a < 80 ∧ W.1 (nx s a) = 0 ∧ ok (nx s a) = true := ⟨c.1, by rw [h2 _ c.1]; exact c.2.1, c.2.2⟩
    rw [if_pos c, if_pos hcW]
    refine ⟨by show W.2.2 + 1 = w.2.2.1 + 1; rw [h1], fun q hq => ?_, fun j hj => ?_⟩
    · show upd W.1 (nx s a) _ q = upd w.1 (nx s a) _ q
      rw [h2 s hs]
      by_cases e : q = nx s a
      · subst e; rw [pk_us, pk_us]
      · rw [pk_un e, pk_un e]; exact h2 q hq
    · show upd W.2.1 W.2.2 _ j = upd w.2.1 w.2.2.1 _ j
      rw [← h1]
      by_cases e : j = W.2.2
      · subst e; rw [pk_us, pk_us]
      · rw [pk_un e, pk_un e]
        have hj : j < W.2.2 + 1 := hj
        exact h3 j (by omega)
  · have hcW : ¬ (nx s a < 80 ∧ W.1 (nx s a) = 0 ∧ ok (nx s a) = true) := fun q => c ⟨q.1, by rw [← h2 _ q.1]; exact q.2.1, q.2.2⟩
    rw [if_neg c, if_neg hcW]
    exact ⟨h1, h2, h3⟩
theorem cw_M3 {w : cw_S} {W : (Nat → Int32) × (Nat → Int32) × Nat} {s : Nat} (hs : s < 80) (h : cw_M w W.1 W.2.1 W.2.2) : ∀ a, cw_M (cw_ex nx ok s w a) (cw_ex3 nx ok s W a).1 (cw_ex3 nx ok s W a).2.1 (cw_ex3 nx ok s W a).2.2 := by
  intro a
  induction a with
  | zero => exact h
  | succ a ih => rw [cw_ex, cw_ex3]; exact cw_M1 hs ih
theorem cw_M0 {x7 v8 : Nat → Int32} (hs : s0 < 80) (hz : ∀ k, k < 80 → x7 k = 0) : cw_M (cw_E nx ok s0 0) (upd x7 s0 9) (upd v8 0 (nI s0)) 1 := by
  refine ⟨rfl, fun q hq => ?_, fun j hj => ?_⟩
  · show upd x7 s0 9 q = upd (fun _ => 0) s0 9 q
    by_cases e : q = s0
    · subst e; rw [pk_us, pk_us]
    · rw [pk_un e, pk_un e]; exact hz q hq
  · have ej : j = 0 := by omega
    subst ej
    show upd v8 0 (nI s0) 0 = upd (fun _ => 0) 0 (nI s0) 0
    rw [pk_us, pk_us]
/-- while a layer is being left behind: those of it, those behind it -/
def cw_ly (nx : Nat → Nat → Nat) (ok : Nat → Bool) (s0 : Nat) (pl : Int32) (h last m : Nat) : Prop := (∀ i q : Nat, h ≤ i → i < last → q < 80 → (cw_E nx ok s0 h).2.1 i = nI q → (cw_E nx ok s0 h).2.2.2 q = m) ∧ (∀ i q : Nat, last ≤ i → i < (cw_E nx ok s0 h).2.2.1 → q < 80 → (cw_E nx ok s0 h).2.1 i = nI q → (cw_E nx ok s0 h).2.2.2 q = m + 1) ∧ (∀ i, i < last → ¬ cz_plc ((cw_E nx ok s0 h).2.1 i) = pl) ∧ last ≤ (cw_E nx ok s0 h).2.2.1
theorem cw_ly_s {h last m q : Nat} (hs : s0 < 80) (hl : h < last) (hq : q < 80) (e : (cw_E nx ok s0 h).2.1 h = nI q) (H : cw_ly nx ok s0 pl h last m) : cw_ly nx ok s0 pl (h + 1) last m := by
  obtain ⟨H1, H2, H3, H4⟩ := H
  have hlt : h < (cw_E nx ok s0 h).2.2.1 := by omega
  have hJ := cw_E_J (nx := nx) (ok := ok) hs h
  have hlq := H1 h q (Nat.le_refl _) hl hq e
  obtain ⟨q', hq', e', hv'⟩ := hJ.q hlt
  have eq : q = q' := (cw_nIq (by omega) (by omega)).mp (e.symm.trans e')
  subst eq
  obtain ⟨m1, m2, m3⟩ := cw_E_1 (nx := nx) (ok := ok) (s0 := s0) (h := h)
  have old : ∀ i p : Nat, i < (cw_E nx ok s0 h).2.2.1 → p < 80 → (cw_E nx ok s0 (h + 1)).2.1 i = nI p → (cw_E nx ok s0 h).2.1 i = nI p ∧ (cw_E nx ok s0 (h + 1)).2.2.2 p = (cw_E nx ok s0 h).2.2.2 p := by
    intro i p hi hp he
    rw [m2 i hi] at he
    obtain ⟨p', hp', ep', hvp⟩ := hJ.q hi
    have ep : p = p' := (cw_nIq (by omega) (by omega)).mp (he.symm.trans ep')
    subst ep
    exact ⟨he, (m3 p hvp).2⟩
  refine ⟨fun i p h1 h2 hp he => ?_, fun i p h1 h2 hp he => ?_, fun i hi => ?_, by omega⟩
  · obtain ⟨o1, o2⟩ := old i p (by omega) hp he
    rw [o2]; exact H1 i p (by omega) h2 hp o1
  · by_cases c : i < (cw_E nx ok s0 h).2.2.1
    · obtain ⟨o1, o2⟩ := old i p c hp he
      rw [o2]; exact H2 i p h1 c hp o1
    · rw [cw_E_s hq hlt e] at h2 he ⊢
      obtain ⟨p', hp', ep', el⟩ := cw_ex_l (nx := nx) (ok := ok) (hJ.mono (show h ≤ h + 1 by omega)) hq hv' (by have := hJ.2.1 q; omega) (Nat.not_lt.mp c) 3 (Nat.le_refl _) h2
      have ep : p = p' := (cw_nIq (by omega) (by omega)).mp (he.symm.trans ep')
      subst ep
      rw [el, hlq]
  · rw [m2 i (by omega)]; exact H3 i hi
/-- it was found, so far away -/
def cw_fnd (nx : Nat → Nat → Nat) (ok : Nat → Bool) (s0 : Nat) (pl : Int32) (y : Int32) (m : Nat) : Prop := ∃ j q : Nat, cw_hit nx ok s0 pl j ∧ q < 80 ∧ (cw_E nx ok s0 j).2.1 j = nI q ∧ y = (cw_E nx ok s0 j).1 q - 1 ∧ (cw_E nx ok s0 j).2.2.2 q = m ∧ ¬ j = 0
/-- nothing so far, or found -/
def cw_sc (nx : Nat → Nat → Nat) (ok : Nat → Bool) (s0 : Nat) (pl : Int32) (h j : Nat) (y : Int32) (m : Nat) : Prop := (y = -1 ∧ ∀ i, i < j → ¬ cz_plc ((cw_E nx ok s0 h).2.1 i) = pl) ∨ cw_fnd nx ok s0 pl y m
theorem cw_sc_n {h j m q : Nat} {y : Int32} (H : cw_sc nx ok s0 pl h j y m) (c : y = -1) (hq : q < 80) (e : (cw_E nx ok s0 h).2.1 j = nI q) (hp : ¬ nI (q / 4) = pl) (hx : ∀ q, q < 80 → cz_plc (nI q) = nI (q / 4)) : cw_sc nx ok s0 pl h (j + 1) (-1) m ∨ cw_fnd nx ok s0 pl y m := by
  rcases H with ⟨h1, h2⟩ | H
  · left; left
    refine ⟨rfl, fun i hi => ?_⟩
    by_cases ei : i = j
    · subst ei; rw [e, hx q hq]; exact hp
    · exact h2 i (by omega)
  · exact Or.inr H
theorem cw_fnd1 {y : Int32} {m : Nat} (hs : s0 < 80) (H : cw_fnd nx ok s0 pl y m) : ¬ y = -1 := by
  obtain ⟨j, q, h1, h2, h3, h4, h5, h6⟩ := H
  have hJ := cw_E_J (nx := nx) (ok := ok) hs j
  obtain ⟨q', hq', e', hv'⟩ := hJ.q h1.1
  have eq : q = q' := (cw_nIq (by omega) (by omega)).mp (h3.symm.trans e')
  subst eq
  rcases hJ.2.2.2.1 q h2 with c | c | ⟨a, ha, c⟩
  · exact absurd c hv'
  · exact absurd ((hJ.2.2.1 j q h1.1 h2 h3).mp c) h6
  · rw [h4, c, show (1 : Int32) = nI 1 from rfl, pk_sub (a := a + 1) (b := 1) (by omega), Nat.add_sub_cancel]
    exact (cw_l1 (show a ≤ 1000 by omega)).1
theorem cw_sc_s {h j m q : Nat} {y : Int32} (hs : s0 < 80) (H : cw_sc nx ok s0 pl h j y m) (c : y = -1) (hq : q < 80) (e : (cw_E nx ok s0 h).2.1 j = nI q) (hx : ∀ q, q < 80 → cz_plc (nI q) = nI (q / 4)) (hp : ¬ nI (q / 4) = pl) : cw_sc nx ok s0 pl h (j + 1) (-1) m := by
  rcases cw_sc_n H c hq e hp hx with q1 | q1
  · exact q1
  · exact absurd c (cw_fnd1 hs q1)
theorem cw_sc_y {h j m q : Nat} {y x : Int32} {v7 v8 : Nat → Int32} {t : Nat} (hs : s0 < 80) (H : cw_sc nx ok s0 pl h j y m) (c : y = -1) (hM : cw_M (cw_E nx ok s0 h) v7 v8 t) (hl : ∀ i q : Nat, h ≤ i → i < (cw_E nx ok s0 h).2.2.1 → q < 80 → (cw_E nx ok s0 h).2.1 i = nI q → (cw_E nx ok s0 h).2.2.2 q = m) (h0 : 0 < h) (hj : h ≤ j) (hjt : j < t) (hq : q < 80) (e : (cw_E nx ok s0 h).2.1 j = nI q) (hx : ∀ q, q < 80 → cz_plc (nI q) = nI (q / 4)) (hp : nI (q / 4) = pl) (hv : x = v7 q - 1) : cw_fnd nx ok s0 pl x m := by
  have hno : ∀ i, i < j → ¬ cz_plc ((cw_E nx ok s0 h).2.1 i) = pl := by
    rcases H with ⟨-, h2⟩ | H
    · exact h2
    · exact absurd c (cw_fnd1 hs H)
  have hjE : j < (cw_E nx ok s0 h).2.2.1 := by rw [← hM.1]; exact hjt
  obtain ⟨m1, m2, m3⟩ := cw_E_m (nx := nx) (ok := ok) (s0 := s0) h (j - h)
  rw [show h + (j - h) = j by omega] at m1 m2 m3
  obtain ⟨q', hq', e', hv'⟩ := (cw_E_J (nx := nx) (ok := ok) hs h).q hjE
  have eq : q = q' := (cw_nIq (by omega) (by omega)).mp (e.symm.trans e')
  subst eq
  obtain ⟨n1, n2⟩ := m3 q hv'
  refine ⟨j, q, ⟨by omega, ?_, fun i hi => ?_⟩, hq, ?_, ?_, ?_, by omega⟩
  · rw [m2 j hjE, e, hx q hq]; exact hp
  · rw [m2 i (by omega)]; exact hno i hi
  · rw [m2 j hjE]; exact e
  · rw [hv, n1, hM.2.1 q hq]
  · rw [n2]; exact hl j q hj hjE hq e
/-- what it answers -/
theorem cw_out {what y r : Int32} {m : Nat} (hs : s0 < 80) (hw : cz_in 0 what 1) (H : (y = -1 ∧ cw_none nx ok s0 pl) ∨ cw_fnd nx ok s0 pl y m) (hr : (y = -1 ∧ r = y) ∨ (¬ y = -1 ∧ what = 1 ∧ r = y) ∨ (¬ y = -1 ∧ ¬ what = 1 ∧ r = nI m)) : cw_ans nx ok s0 pl what r := by
  rcases H with ⟨h1, h2⟩ | H
  · rcases hr with ⟨-, e⟩ | ⟨c, -⟩ | ⟨c, -⟩
    · exact Or.inr ⟨h2, by rw [e, h1]⟩
    · exact absurd h1 c
    · exact absurd h1 c
  · have hne := cw_fnd1 hs H
    obtain ⟨j, q, a1, a2, a3, a4, a5, a6⟩ := H
    have h9 : ¬ (cw_E nx ok s0 j).1 q = 9 := fun c => a6 (((cw_E_J (nx := nx) (ok := ok) hs j).2.2.1 j q a1.1 a2 a3).mp c)
    refine Or.inl ⟨j, q, a1, a2, a3, ?_⟩
    rcases hr with ⟨c, -⟩ | ⟨-, c, e⟩ | ⟨-, c, e⟩
    · exact absurd c hne
    · rw [if_neg (by rw [c]; decide), e, a4]
      unfold cw_fc
      rw [if_neg h9]
    · have h0 : what = 0 := by
        simp only [cz_in, cz_le, cz_eq, cz_l] at *
        omega
      rw [if_pos h0, e, a5]
theorem cw_hit0 {d e : Nat} (hs : 4 * d + e < 80) (he : e < 4) (hx : ∀ q, q < 80 → cz_plc (nI q) = nI (q / 4)) (hp : pl = nI d) {what r : Int32} (hr : (what = 0 ∧ r = 0) ∨ (¬ what = 0 ∧ r = -1)) : cw_ans nx ok (4 * d + e) pl what r := by
  have e1 : (cw_E nx ok (4 * d + e) 0).2.1 0 = nI (4 * d + e) := (pk_us : upd (fun _ => (0 : Int32)) 0 (nI (4 * d + e)) 0 = nI (4 * d + e))
  refine Or.inl ⟨0, 4 * d + e, ⟨Nat.zero_lt_one, ?_, fun i hi => absurd hi (Nat.not_lt_zero _)⟩, hs, e1, ?_⟩
  · rw [e1, hx _ hs, hp, show (4 * d + e) / 4 = d by omega]
  · rcases hr with ⟨c1, c2⟩ | ⟨c1, c2⟩
    · rw [if_pos c1, c2]; rfl
    · rw [if_neg c1, c2]
      show (-1 : Int32) = cw_fc (upd (fun _ => (0 : Int32)) (4 * d + e) 9 (4 * d + e))
      rw [pk_us]; rfl
/-- a layer begins -/
theorem cw_ly_0 {h last m : Nat} {y : Int32} {v7 v8 : Nat → Int32} (hs : s0 < 80) (hM : cw_M (cw_E nx ok s0 h) v7 v8 last) (hl : ∀ i q : Nat, h ≤ i → i < last → q < 80 → (cw_E nx ok s0 h).2.1 i = nI q → (cw_E nx ok s0 h).2.2.2 q = m) (H : cw_sc nx ok s0 pl h last y m) (c : y = -1) : cw_ly nx ok s0 pl h last m := by
  have hno : ∀ i, i < last → ¬ cz_plc ((cw_E nx ok s0 h).2.1 i) = pl := by
    rcases H with ⟨-, h2⟩ | H
    · exact h2
    · exact absurd c (cw_fnd1 hs H)
  refine ⟨hl, fun i q h1 h2 => ?_, hno, by rw [hM.1]; exact Nat.le_refl _⟩
  rw [← hM.1] at h2
  omega
theorem cw_M_s {h q t tt : Nat} {z7 z8 t7 t8 : Nat → Int32} (hM : cw_M (cw_E nx ok s0 h) z7 z8 t) (hlt : h < t) (hq : q < 80) (e : z8 h = nI q) (h3 : (t7, t8, tt) = cw_ex3 nx ok q (z7, z8, t) 3) : cw_M (cw_E nx ok s0 (h + 1)) t7 t8 tt := by
  have eE : (cw_E nx ok s0 h).2.1 h = nI q := by rw [← hM.2.2 h hlt]; exact e
  rw [cw_E_s hq (by rw [← hM.1]; exact hlt) eE]
  have := cw_M3 (nx := nx) (ok := ok) (W := (z7, z8, t)) hq hM 3
  rw [← h3] at this
  exact this
theorem cw_nn {h t m : Nat} {y : Int32} {v7 v8 : Nat → Int32} (hM : cw_M (cw_E nx ok s0 h) v7 v8 t) (H : cw_sc nx ok s0 pl h t y m) (hx : t ≤ h ∨ ¬ y = -1) : (y = -1 ∧ cw_none nx ok s0 pl) ∨ cw_fnd nx ok s0 pl y m := by
  rcases H with ⟨h1, h2⟩ | H
  · rcases hx with q | q
    · exact Or.inl ⟨h1, h, by rw [← hM.1]; exact q, fun i hi => h2 i (by rw [hM.1]; exact hi)⟩
    · exact absurd h1 q
  · exact Or.inr H
end CWM
theorem cw_plc : ∀ q, q < 80 → cz_plc (nI q) = nI (q / 4) := by decide +kernel
