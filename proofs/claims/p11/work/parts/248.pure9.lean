/-! ROOM: nobody more helps anybody -/
/-- who would be GUILTY, with more people about: mo x says whether one more stands on x -/
def cm_bt (mo : Int32 → Bool) (d p : Nat) : Bool := (cr_bl d p).any (fun q => mo (nI q))
def cr_ok2 (d p : Nat) : Bool := (cr_wf d p (-1) 8 == -1) || (List.range (cr_bl d p).length).all (fun v => match (cr_bl d p)[v]? with
  | none => true
  | some q => decide (q < 20) && (cr_wf d q (-1) 8 == cr_wf d p (-1) 8) && (cr_bl d q == (cr_bl d p).take v))
theorem cr_ok2_all : (List.range 20).all (fun d => (List.range 20).all (fun p => cr_ok2 d p)) = true := by decide +kernel
theorem cr_near {d p v q : Nat} (hd : d < 20) (hp : p < 20) (hw : ¬ cr_wf d p (-1) 8 = -1) (hv : (cr_bl d p)[v]? = some q) : q < 20 ∧ cr_wf d q (-1) 8 = cr_wf d p (-1) 8 ∧ cr_bl d q = (cr_bl d p).take v := by
  have h := List.all_eq_true.mp (List.all_eq_true.mp cr_ok2_all d (List.mem_range.mpr hd)) p (List.mem_range.mpr hp)
  unfold cr_ok2 at h
  rw [Bool.or_eq_true] at h
  rcases h with h | h
  · exact absurd (beq_iff_eq.mp h) hw
  · have hl : v < (cr_bl d p).length := by
      rcases Nat.lt_or_ge v (cr_bl d p).length with c | c
      · exact c
      · rw [List.getElem?_eq_none c] at hv; exact absurd hv (by simp)
    have q1 := List.all_eq_true.mp h v (List.mem_range.mpr hl)
    rw [hv] at q1
    simp only [Bool.and_eq_true, decide_eq_true_eq, beq_iff_eq] at q1
    exact ⟨q1.1.1, q1.1.2, q1.2⟩
/-- GUILTY, in words of the lists -/
theorem cm_mg {fl : Int32} {g : Nat → Int32} {k d e p : Nat} (hd : d < 20) (he : e < 4) (hp : p < 20) (kind : Int32) : cz_mg kind (nI p) (nI d) (nI e) fl g k ↔ (¬ cr_wf d p (-1) 8 = -1 ∧ ¬ kind = 4 ∧ ¬ (kind = 2 ∧ 2 < cz_far (nI d) (nI p)) ∧ (∀ q ∈ cr_bl d p, cz_hs fl (nI q) ∧ (cz_pe kind = 0 ∨ cz_wo (nI d) (nI q) g k = -1)) ∧ (cz_sw1 kind (cz_tn (cr_wf d p (-1) 8) (nI e)) = 2 ∨ cz_sw1 kind (cz_tn (cr_wf d p (-1) 8) (nI e)) = 3)) := by
  obtain ⟨f1, f2⟩ := cr_facts hd hp
  have hd1 : ¬ nI d = -1 := ci_n1 (by omega)
  unfold cz_mg cz_sw
  rw [if_neg hd1, ← f1]
  rcases f2 with f2 | ⟨q1, q2, q3, q4, q5, q6, q7⟩
  · rw [if_pos f2]
    constructor
    · rintro ⟨h | h, -⟩
      · exact absurd h (by decide)
      · exact absurd h (by decide)
    · intro h; exact absurd f2 h.1
  · have hw1 : ¬ cr_wf d p (-1) 8 = -1 := by rw [q1]; exact cr_w8 _ q2
    rw [if_neg hw1]
    have hcl := cr_clr (fl := fl) (da := nI d) (g := g) (k := k) (pe := cz_pe kind) (st := cz_step (nI d) (nI p)) (to := nI p) (cr_bl d p) 4 (nI d + cz_step (nI d) (nI p)) 1 (by omega) q4
    have hcl2 : cz_cl fl (nI d) g k (cz_pe kind) (nI d) (nI p) = 0 ↔ ∃ q ∈ cr_bl d p, ¬ (cz_hs fl (nI q) ∧ (cz_pe kind = 0 ∨ cz_wo (nI d) (nI q) g k = -1)) := by
      unfold cz_cl
      rw [hcl]
      exact ⟨fun h => h.resolve_left (by decide), Or.inr⟩
    by_cases c1 : kind = 2 ∧ 2 < cz_far (nI d) (nI p)
    · rw [if_pos c1]
      constructor
      · rintro ⟨h | h, -⟩
        · exact absurd h (by decide)
        · exact absurd h (by decide)
      · intro h; exact absurd c1 h.2.2.1
    · rw [if_neg c1]
      by_cases c2 : cz_cl fl (nI d) g k (cz_pe kind) (nI d) (nI p) = 0
      · rw [if_pos c2]
        constructor
        · rintro ⟨h | h, -⟩
          · exact absurd h (by decide)
          · exact absurd h (by decide)
        · intro h
          obtain ⟨q, hq, hn⟩ := hcl2.mp c2
          exact absurd (h.2.2.2.1 q hq) hn
      · rw [if_neg c2]
        have hall : ∀ q ∈ cr_bl d p, cz_hs fl (nI q) ∧ (cz_pe kind = 0 ∨ cz_wo (nI d) (nI q) g k = -1) := by
          intro q hq
          by_cases c : cz_hs fl (nI q) ∧ (cz_pe kind = 0 ∨ cz_wo (nI d) (nI q) g k = -1)
          · exact c
          · exact absurd (hcl2.mpr ⟨q, hq, c⟩) c2
        exact ⟨fun h => ⟨hw1, h.2, c1, hall, h.1⟩, fun h => ⟨h.2.2.2.2, h.2.1⟩⟩
theorem cm_sw0 {kind t : Int32} (h : cz_sw1 kind t = 2 ∨ cz_sw1 kind t = 3) : cz_sw1 0 t = 2 ∨ cz_sw1 0 t = 3 := by
  unfold cz_sw1 at *
  by_cases h0 : t = 0
  · rw [if_pos h0, if_neg (by decide)]; exact Or.inr rfl
  · rw [if_neg h0] at h ⊢
    exact h
/-- if one is GUILTY but for somebody more between, the nearest of these is GUILTY -/
theorem cm_nearest {fl : Int32} {g : Nat → Int32} {k d e p : Nat} {mo : Int32 → Bool} (hd : d < 20) (he : e < 4) (hp : p < 20) {kind : Int32} (h3 : ¬ kind = 3) (h : cz_mg kind (nI p) (nI d) (nI e) fl g k) (hb : cm_bt mo d p = true) : ∃ q : Nat, q < 20 ∧ mo (nI q) = true ∧ cz_mg 0 (nI q) (nI d) (nI e) fl g k ∧ cm_bt mo d q = false := by
  obtain ⟨m1, m2, m3, m4, m5⟩ := (cm_mg hd he hp kind).mp h
  -- the first of the list that is one more
  have key : ∀ (l : List Nat), l.any (fun q => mo (nI q)) = true → ∃ v q, l[v]? = some q ∧ mo (nI q) = true ∧ (l.take v).any (fun q => mo (nI q)) = false := by
    intro l
    induction l with
    | nil => intro h; simp at h
    | cons a l ih =>
      intro h
      by_cases c : mo (nI a) = true
      · exact ⟨0, a, rfl, c, rfl⟩
      · have c' : mo (nI a) = false := by cases hx : mo (nI a) with | true => exact absurd hx c | false => rfl
        rw [List.any_cons, c', Bool.false_or] at h
        obtain ⟨v, q, a1, a2, a3⟩ := ih h
        refine ⟨v + 1, q, a1, a2, ?_⟩
        rw [List.take_succ_cons, List.any_cons, c', Bool.false_or]
        exact a3
  obtain ⟨v, q, a1, a2, a3⟩ := key (cr_bl d p) hb
  obtain ⟨b1, b2, b3⟩ := cr_near hd hp m1 a1
  refine ⟨q, b1, a2, (cm_mg hd he b1 0).mpr ⟨by rw [b2]; exact m1, by decide, fun c => absurd c.1 (by decide), ?_, ?_⟩, ?_⟩
  · intro r hr
    rw [b3] at hr
    obtain ⟨n1, n2⟩ := m4 r (List.mem_of_mem_take hr)
    refine ⟨n1, Or.inr ?_⟩
    rcases n2 with n2 | n2
    · exact absurd n2 (by rw [cz_pe1 h3 m2]; decide)
    · exact n2
  · rw [b2]; exact cm_sw0 m5
  · unfold cm_bt
    rw [b3]; exact a3
/-- nobody of all is GUILTY then, iff nobody is now and no place is alone -/
theorem cm_room {fl : Int32} {g g1 : Nat → Int32} {k d e t : Nat} {x : Nat → Int32} {mo : Int32 → Bool} (hk : k ≤ 6) (hg : cz_pl g) (hd : d < 20) (he : e < 4) (hx : ∀ i, i < t → cz_in 0 (x i) 19) (hmo : ∀ y, mo y = true ↔ ∃ i, i < t ∧ x i = y) : ((∀ c, c < k → ¬ (cz_mg (g1 c) (g c) (nI d) (nI e) fl g k ∧ (g1 c = 3 ∨ ∀ p, p < 20 → g c = nI p → cm_bt mo d p = false))) ∧ (∀ i, i < t → ¬ (cz_mg 0 (x i) (nI d) (nI e) fl g k ∧ ∀ p, p < 20 → x i = nI p → cm_bt mo d p = false))) ↔ ((∀ c, c < k → ¬ cz_mg (g1 c) (g c) (nI d) (nI e) fl g k) ∧ ∀ i, i < t → ¬ cz_mg 0 (x i) (nI d) (nI e) fl g k) := by
  constructor
  · rintro ⟨h1, h2⟩
    -- the nearest one more would be GUILTY
    have no : ∀ (kind : Int32) (p : Nat), p < 20 → ¬ kind = 3 → cz_mg kind (nI p) (nI d) (nI e) fl g k → cm_bt mo d p = true → False := by
      intro kind p hp h3 hm hb
      obtain ⟨q, q1, q2, q3, q4⟩ := cm_nearest hd he hp h3 hm hb
      obtain ⟨i, hi, ei⟩ := (hmo _).mp q2
      refine h2 i hi ⟨by rw [ei]; exact q3, fun p' hp' ep => ?_⟩
      have : q = p' := (ci_ni (by omega) (by omega)).mp (ei.symm.trans ep)
      rw [← this]; exact q4
    constructor
    · intro c hc hm
      obtain ⟨p, hp, ep⟩ := ci_in (hg c (by omega))
      by_cases h3 : g1 c = 3
      · exact h1 c hc ⟨hm, Or.inl h3⟩
      · by_cases hb : cm_bt mo d p = true
        · rw [ep] at hm; exact no _ p hp h3 hm hb
        · refine h1 c hc ⟨hm, Or.inr (fun p' hp' ep' => ?_)⟩
          have : p = p' := (ci_ni (by omega) (by omega)).mp (ep.symm.trans ep')
          rw [← this]
          cases hx2 : cm_bt mo d p with
          | true => exact absurd hx2 hb
          | false => rfl
    · intro i hi hm
      obtain ⟨p, hp, ep⟩ := ci_in (hx i hi)
      by_cases hb : cm_bt mo d p = true
      · rw [ep] at hm; exact no 0 p hp (by decide) hm hb
      · refine h2 i hi ⟨hm, fun p' hp' ep' => ?_⟩
        have : p = p' := (ci_ni (by omega) (by omega)).mp (ep.symm.trans ep')
        rw [← this]
        cases hx2 : cm_bt mo d p with
        | true => exact absurd hx2 hb
        | false => rfl
  · rintro ⟨h1, h2⟩
    exact ⟨fun c hc h => h1 c hc h.1, fun i hi h => h2 i hi h.1⟩
/-! ROOM: class and reference -/
theorem cm_clr_l {C : Int32 → Bool} {st to : Int32} : ∀ (l : List Nat) (n : Nat) (x is : Int32), l.length ≤ n → cr_ch st to l x = true → (cm_clr C st to n x is = 0 ↔ (is = 0 ∨ ∃ q ∈ l, C (nI q) = false)) := by
  intro l
  induction l with
  | nil =>
    intro n x is _ h
    rw [cm_clr_to n (beq_iff_eq.mp h)]
    simp
  | cons q l ih =>
    intro n x is hn h
    simp only [cr_ch, Bool.and_eq_true, beq_iff_eq, Bool.not_eq_true', beq_eq_false_iff_ne] at h
    obtain ⟨⟨h1, h2⟩, h3⟩ := h
    obtain ⟨m, rfl⟩ : ∃ m, n = m + 1 := ⟨n - 1, by simp only [List.length_cons] at hn; omega⟩
    rw [cm_clr, if_neg h2, ih m (x + st) _ (by simp only [List.length_cons] at hn; omega) h3]
    have hm : (∃ r ∈ q :: l, C (nI r) = false) ↔ (C x = false ∨ ∃ r ∈ l, C (nI r) = false) := by
      rw [h1]
      constructor
      · rintro ⟨r, hr, hq⟩
        rcases List.mem_cons.mp hr with e | e
        · subst e; exact Or.inl hq
        · exact Or.inr ⟨r, e, hq⟩
      · rintro (hq | ⟨r, hr, hq⟩)
        · exact ⟨q, List.mem_cons_self, hq⟩
        · exact ⟨r, List.mem_cons_of_mem _ hr, hq⟩
    rw [hm]
    by_cases c : ¬ is = 0 ∧ C x = true
    · rw [if_pos c]
      constructor
      · rintro (e | e)
        · exact absurd e (by decide)
        · exact Or.inr (Or.inr e)
      · rintro (e | e | e)
        · exact absurd e c.1
        · rw [c.2] at e; exact absurd e (by decide)
        · exact Or.inr e
    · rw [if_neg c]
      refine ⟨fun _ => ?_, fun _ => Or.inl rfl⟩
      by_cases e : is = 0
      · exact Or.inl e
      · refine Or.inr (Or.inl ?_)
        cases hx : C x with
        | true => exact absurd ⟨e, hx⟩ c
        | false => rfl
theorem cm_mgd {kind p da ds fl : Int32} {g : Nat → Int32} {k : Nat} (hda : ¬ da = -1) : cz_mg kind p da ds fl g k ↔ (¬ cz_wt da p = -1 ∧ ¬ kind = 4 ∧ ¬ (kind = 2 ∧ 2 < cz_far da p) ∧ ¬ cz_cl fl da g k (cz_pe kind) da p = 0 ∧ (cz_sw1 kind (cz_tn (cz_wt da p) ds) = 2 ∨ cz_sw1 kind (cz_tn (cz_wt da p) ds) = 3)) := by
  unfold cz_mg cz_sw
  rw [if_neg hda]
  by_cases h1 : cz_wt da p = -1
  · rw [if_pos h1]
    exact ⟨fun h => absurd h.1 (by decide), fun h => absurd h1 h.1⟩
  · rw [if_neg h1]
    by_cases h2 : kind = 2 ∧ 2 < cz_far da p
    · rw [if_pos h2]
      exact ⟨fun h => absurd h.1 (by decide), fun h => absurd h2 h.2.2.1⟩
    · rw [if_neg h2]
      by_cases h3 : cz_cl fl da g k (cz_pe kind) da p = 0
      · rw [if_pos h3]
        exact ⟨fun h => absurd h.1 (by decide), fun h => absurd h3 h.2.2.2.1⟩
      · rw [if_neg h3]
        exact ⟨fun h => ⟨h1, h.2, h2, h3, h.1⟩, fun h => ⟨h.2.2.2.2, h.2.1⟩⟩
theorem cm_ga_iff {kind fl : Int32} {g6 g : Nat → Int32} {t k d e p : Nat} (hd : d < 20) (hp : p < 20) : cm_ga kind (nI p) g6 t (nI d) (nI e) fl g k ↔ (cz_mg kind (nI p) (nI d) (nI e) fl g k ∧ (kind = 3 ∨ cm_bt (fun x => cm_mo g6 x t) d p = false)) := by
  obtain ⟨f1, f2⟩ := cr_facts hd hp
  rw [cm_mgd (ci_n1 (by omega))]
  unfold cm_ga
  rcases f2 with f2 | ⟨q1, q2, q3, q4, q5, q6, q7⟩
  · have hw : cz_wt (nI d) (nI p) = -1 := f1.symm.trans f2
    exact ⟨fun h => absurd hw h.1, fun h => absurd hw h.1.1⟩
  · have hcl := cm_clr_l (C := cm_C kind g6 t) (st := cz_step (nI d) (nI p)) (to := nI p) (cr_bl d p) 4 (nI d + cz_step (nI d) (nI p)) (cz_cl fl (nI d) g k (cz_pe kind) (nI d) (nI p)) (by omega) q4
    rw [hcl]
    have hb : (∃ q ∈ cr_bl d p, cm_C kind g6 t (nI q) = false) ↔ ¬ (kind = 3 ∨ cm_bt (fun x => cm_mo g6 x t) d p = false) := by
      constructor
      · rintro ⟨q, hq, hc⟩ h
        unfold cm_C at hc
        rw [Bool.or_eq_false_iff] at hc
        rcases h with h | h
        · exact absurd h (beq_eq_false_iff_ne.mp hc.1)
        · unfold cm_bt at h
          rw [List.any_eq_false] at h
          refine h q hq (show cm_mo g6 (nI q) t = true from ?_)
          cases hx : cm_mo g6 (nI q) t with
          | true => rfl
          | false => rw [hx] at hc; exact absurd hc.2 (by decide)
      · intro h
        have h3 : ¬ kind = 3 := fun c => h (Or.inl c)
        have hb : cm_bt (fun x => cm_mo g6 x t) d p = true := by
          cases hx : cm_bt (fun x => cm_mo g6 x t) d p with
          | true => rfl
          | false => exact absurd (Or.inr hx) h
        unfold cm_bt at hb
        rw [List.any_eq_true] at hb
        obtain ⟨q, hq, hm⟩ := hb
        have hm : cm_mo g6 (nI q) t = true := hm
        refine ⟨q, hq, ?_⟩
        unfold cm_C
        rw [beq_eq_false_iff_ne.mpr h3, hm]; rfl
    constructor
    · rintro ⟨a, b, c, d', e'⟩
      exact ⟨⟨a, b, c, fun q => d' (Or.inl q), e'⟩, Classical.not_not.mp (fun q => d' (Or.inr (hb.mpr q)))⟩
    · rintro ⟨⟨a, b, c, d', e'⟩, x⟩
      exact ⟨a, b, c, fun q => q.elim d' (fun q => hb.mp q x), e'⟩
theorem cm_ga_x {kind fl x : Int32} {g6 g : Nat → Int32} {t k d e : Nat} (hd : d < 20) (hx : cz_in 0 x 19) : cm_ga kind x g6 t (nI d) (nI e) fl g k ↔ (cz_mg kind x (nI d) (nI e) fl g k ∧ (kind = 3 ∨ ∀ p, p < 20 → x = nI p → cm_bt (fun x => cm_mo g6 x t) d p = false)) := by
  obtain ⟨p, hp, ep⟩ := ci_in hx
  rw [ep, cm_ga_iff hd hp]
  constructor
  · rintro ⟨h1, h2⟩
    refine ⟨h1, h2.imp id (fun q p' hp' e' => ?_)⟩
    have : p = p' := (ci_ni (by omega) (by omega)).mp e'
    rw [← this]; exact q
  · rintro ⟨h1, h2⟩
    exact ⟨h1, h2.imp id (fun q => q p hp rfl)⟩
theorem cm_mq0 {da ds fl : Int32} {mg1 g : Nat → Int32} {k : Nat} : ∀ c, c ≤ 6 → (cz_mq da ds fl mg1 g k c = 0 ↔ ∀ j, j < c → ¬ cz_mg (mg1 j) (g j) da ds fl g k) := by
  intro c hc
  constructor
  · intro h j hj hm
    have q := cr_mqb (da := da) (ds := ds) (fl := fl) (mg1 := mg1) (g := g) (k := k) (j := j) (by omega) c hc
    rw [h, Int32.zero_and] at q
    exact q.mp rfl ⟨hj, hm⟩
  · have key : ∀ n, n ≤ c → (∀ j, j < n → ¬ cz_mg (mg1 j) (g j) da ds fl g k) → cz_mq da ds fl mg1 g k n = 0 := by
      intro n
      induction n with
      | zero => intro _ _; rfl
      | succ n ih =>
        intro hn h
        rw [cz_mq, ih (by omega) (fun j hj => h j (by omega)), if_neg (h n (by omega))]
        rfl
    exact key c (Nat.le_refl _)
theorem cm_rA_cg {G G' : Nat → Bool} {m i : Nat} {ng : Prop} {r : Int32} (h : ∀ p, p < 20 → G p = G' p) (ha : cm_rA G m ng i r) : cm_rA G' m ng i r := by
  have e : ∀ n, n ≤ 20 → cm_ct G n = cm_ct G' n := fun n hn => cm_ctc n (fun p hp => h p (by omega))
  rcases ha with ⟨a1, a2, a3, p, p1, p2, p3, p4⟩ | ⟨a, b⟩
  · exact Or.inl ⟨a1, by rw [← e 20 (Nat.le_refl _)]; exact a2, a3, p, p1, by rw [← h p p1]; exact p2, by rw [← e p (by omega)]; exact p3, p4⟩
  · exact Or.inr ⟨fun q => a ⟨q.1, by rw [e 20 (Nat.le_refl _)]; exact q.2.1, q.2.2⟩, b⟩
theorem cm_rM_cg {P Q : Nat → Prop} {t i : Nat} {r : Int32} (h : ∀ c, c < cm_N t → (P c ↔ Q c)) (hr : cm_rM P t i r) : cm_rM Q t i r := by
  rcases hr with a | ⟨a, b, c⟩ | ⟨a, c, c1, c2, c3, c4⟩
  · exact Or.inl a
  · exact Or.inr (Or.inl ⟨a, fun c' hc q => b c' hc ((h c' hc).mpr q), c⟩)
  · exact Or.inr (Or.inr ⟨a, c, c1, (h c c1).mp c2, fun c' hc q => c3 c' hc ((h c' (by omega)).mpr q), c4⟩)
theorem cm_gf_b {t c k : Nat} (ht : 1 ≤ t) (ht3 : t ≤ 3) (hc : c < cm_N t) (hk : k < 3) : cm_gf t c k < 30 := by
  by_cases q : k < t
  · have := cm_gf_lt ht ht3 hc q; omega
  · rcases (show t = 1 ∨ t = 2 by omega) with rfl | rfl
    · rcases (show k = 1 ∨ k = 2 by omega) with rfl | rfl
      · show 20 + 1 - 1 < 30; omega
      · show 20 + 2 - 1 < 30; omega
    · have : k = 2 := by omega
      subst this; show 21 < 30; omega
theorem cm_O_iff {t c : Nat} (ht : 1 ≤ t) (ht3 : t ≤ 3) (hc : c < cm_N t) : cm_O (cm_gF t c) ↔ (cm_gf t c 0 < cm_gf t c 1 ∧ cm_gf t c 1 < cm_gf t c 2) := by
  have b0 := cm_gf_b ht ht3 hc (show 0 < 3 by omega)
  have b1 := cm_gf_b ht ht3 hc (show 1 < 3 by omega)
  have b2 := cm_gf_b ht ht3 hc (show 2 < 3 by omega)
  have e1 : nI (cm_gf t c 1) ≤ nI (cm_gf t c 0) ↔ cm_gf t c 1 ≤ cm_gf t c 0 := nI_leI (by omega) (by omega)
  have e2 : nI (cm_gf t c 2) ≤ nI (cm_gf t c 1) ↔ cm_gf t c 2 ≤ cm_gf t c 1 := nI_leI (by omega) (by omega)
  unfold cm_O cm_gF
  rw [e1, e2]
  constructor
  · rintro ⟨a, b⟩; exact ⟨by omega, by omega⟩
  · rintro ⟨a, b⟩; exact ⟨by omega, by omega⟩
section CYR
variable {hq rq k0 k9 : Nat} {ih ik w0 fl a0 da ds b0 ka ks : Int32} {g1 mg1 g2 e1 e2 : Nat → Int32}
def cm_G' (a0 w0 pe : Int32) (p : Nat) : Bool := decide (p < 20) && cm_gC (cz_tk a0 w0 pe) a0 w0 pe cr_TW cr_TB p
theorem ci_roomP (hk : k0 ≤ 6) (hg : cz_pl g2) (hi : cz_inv hq rq k0 k9 ih ik w0 fl a0 da ds b0 ka ks g1 mg1 g2 e1 e2) (hfl : ci_hl w0 fl) {d e : Nat} (hd : d < 20) (he : e < 4) (q1 : a0 = nI (4 * d + e)) (q2 : da = nI d) (q3 : ds = nI e) {t c : Nat} (ht : 1 ≤ t) (ht3 : t ≤ 3) (hc : c < cm_N t) : cm_Pm fl da ds mg1 g2 k0 t c ↔ cm_P (cm_G' a0 w0 (cz_pp g2 k0)) (cz_gs a0 w0 (cz_pp g2 k0) g1 g2 cr_TW cr_TB k0 = 0) t c := by
  have hok := hi.2.2.2.2.2.1
  have hki : cz_eqp g1 mg1 k0 := hi.2.2.2.2.2.2.1
  have hng : (cz_gs a0 w0 (cz_pp g2 k0) g1 g2 cr_TW cr_TB k0 = 0) ↔ ∀ j, j < k0 → ¬ cz_mg (mg1 j) (g2 j) da ds fl g2 k0 := by
    rw [cr_gs (mg1 := mg1) (da := da) (ds := ds) (fl := fl) hk hg (Or.inr ⟨d, e, hd, he, q1, q2, q3⟩) (fun _ => hfl) hki k0 (Nat.le_refl _)]
    exact cm_mq0 k0 hk
  have hG : ∀ p, p < 20 → (cm_G' a0 w0 (cz_pp g2 k0) p = true ↔ (cz_em fl da (nI p) g2 k0 ∧ ¬ cz_mg 0 (nI p) da ds fl g2 k0)) := by
    intro p hp
    unfold cm_G' cm_gC
    have hgl : cz_gl 0 (nI p) a0 w0 (cz_pp g2 k0) cr_TW cr_TB ↔ cz_mg 0 (nI p) da ds fl g2 k0 := by
      unfold cz_gl cz_mg
      rw [q1, q2, q3, cr_seen hk hg hfl hd he hp]
      exact ⟨fun h => ⟨h.2, h.1⟩, fun h => ⟨h.2, h.1⟩⟩
    have htk := ci_tk (w0 := w0) (fl := fl) (a0 := a0) (da := da) (ds := ds) hk hg hfl hok hp
    rw [decide_eq_true hp, Bool.true_and, Bool.and_eq_true, decide_eq_true_eq, Bool.not_eq_true', decide_eq_false_iff_not, htk, hgl]
  have hx : ∀ i, i < t → cz_in 0 (cm_gF t c i) 19 := fun i hi' => cz_in_nI (cm_gf_lt ht ht3 hc hi')
  have hroom := cm_room (fl := fl) (g := g2) (g1 := mg1) (k := k0) (d := d) (e := e) (t := t) (x := cm_gF t c) (mo := fun x => cm_mo (cm_gF t c) x t) hk hg hd he hx (fun y => cm_mo_iff t)
  have hRB : cm_rB mg1 g2 (cm_gF t c) t da ds fl k0 (k0 + t) = true ↔ ((∀ c', c' < k0 → ¬ cz_mg (mg1 c') (g2 c') da ds fl g2 k0) ∧ ∀ i, i < t → ¬ cz_mg 0 (cm_gF t c i) da ds fl g2 k0) := by
    rw [q2, q3, ← hroom, cm_rB_iff]
    constructor
    · intro h
      refine ⟨fun c' hc' q => ?_, fun i hi' q => ?_⟩
      · refine h c' (by omega) ?_
        rw [← cm_rk1 (show ¬ k0 ≤ c' by omega), ← cm_rp1 (show ¬ k0 ≤ c' by omega)]
        exact (cm_ga_x hd (hg c' (by omega))).mpr q
      · refine h (k0 + i) (by omega) ?_
        rw [← cm_rk2 (show k0 ≤ k0 + i by omega), ← cm_rp2 (show k0 ≤ k0 + i by omega), Nat.add_sub_cancel_left]
        exact (cm_ga_x hd (hx i hi')).mpr ⟨q.1, Or.inr q.2⟩
    · rintro ⟨h1, h2⟩ c' hc' q
      by_cases w : k0 ≤ c'
      · rw [← cm_rk2 w, ← cm_rp2 w] at q
        obtain ⟨a, b⟩ := (cm_ga_x hd (hx (c' - k0) (by omega))).mp q
        exact h2 (c' - k0) (by omega) ⟨a, b.resolve_left (by decide)⟩
      · rw [← cm_rk1 w, ← cm_rp1 w] at q
        exact h1 c' (by omega) ((cm_ga_x hd (hg c' (by omega))).mp q)
  unfold cm_Pm cm_Pf cm_P
  rw [cm_O_iff ht ht3 hc, hRB, hng]
  constructor
  · rintro ⟨⟨⟨a, b⟩, c1⟩, d1, d2⟩
    exact ⟨d1, a, b, fun i hi' => (hG _ (cm_gf_lt ht ht3 hc hi')).mpr ⟨c1 i hi', d2 i hi'⟩⟩
  · rintro ⟨d1, a, b, c1⟩
    exact ⟨⟨⟨a, b⟩, fun i hi' => ((hG _ (cm_gf_lt ht ht3 hc hi')).mp (c1 i hi')).1⟩, d1, fun i hi' => ((hG _ (cm_gf_lt ht ht3 hc hi')).mp (c1 i hi')).2⟩
/-- room -/
theorem ci_room (hk : k0 ≤ 6) (hg : cz_pl g2) (hi : cz_inv hq rq k0 k9 ih ik w0 fl a0 da ds b0 ka ks g1 mg1 g2 e1 e2) {many i r r' : Int32} (h : cm_roomP (cm_gC (cz_tk a0 w0 (cz_pp g2 k0)) a0 w0 (cz_pp g2 k0) cr_TW cr_TB) (cz_gs a0 w0 (cz_pp g2 k0) g1 g2 cr_TW cr_TB k0 = 0) many i a0 r) (h' : cm_rMP fl da ds mg1 g2 k0 many i r') : r = r' := by
  have hda : a0 = -1 ↔ da = -1 := by
    rcases hi.2.2.2.2.2.1.sr with q | ⟨d, e, hd, he, q1, q2, q3⟩
    · rw [q.1, q.2]
    · rw [q1, q2]
      exact ⟨fun c => absurd c (ci_st d hd e he).2.2, fun c => absurd c (ci_n1 (by omega))⟩
  rcases h with ⟨c1, f1⟩ | ⟨c1, c2, f1⟩ | ⟨c1, c2, A⟩
  · rcases h' with ⟨-, f2⟩ | ⟨d1, -⟩ | ⟨d1, -⟩
    · rw [f1, f2]
    · exact absurd d1 c1
    · exact absurd d1 c1
  · rcases h' with ⟨d1, -⟩ | ⟨-, -, f2⟩ | ⟨-, d2, -⟩
    · exact absurd c1 d1
    · rw [f1, f2]
    · exact absurd (hda.mp c2) d2
  · rcases h' with ⟨d1, -⟩ | ⟨-, d2, -⟩ | ⟨-, -, B⟩
    · exact absurd c1 d1
    · exact absurd (hda.mpr d2) c2
    · have hfl := ci_fl hi c2
      rcases hi.2.2.2.2.2.1.sr with q | ⟨d, e, hd, he, q1, q2, q3⟩
      · exact absurd q.1 c2
      · obtain ⟨t, t1, t2, et⟩ := cm_in (a := 1) (b := 3) (by omega) c1.1 (by omega)
        have x1 : many.toNatClampNeg = t := by rw [et]; exact nI_clamp (n := t) (by omega)
        unfold cm_rN at B
        rw [x1] at A B
        have B' := cm_mdl (G := cm_G' a0 w0 (cz_pp g2 k0)) t1 t2 (fun p hp => by unfold cm_G' at hp; rw [Bool.and_eq_true] at hp; exact of_decide_eq_true hp.1) (cm_rM_cg (fun c hc => ci_roomP (g1 := g1) hk hg hi hfl hd he q1 q2 q3 t1 t2 hc) B)
        have A' := cm_rA_cg (G' := cm_G' a0 w0 (cz_pp g2 k0)) (fun p hp => by unfold cm_G'; rw [decide_eq_true hp, Bool.true_and]) A
        exact cm_rA_u A' B'
end CYR
