/-! the tables of Sight, and what they say -/
def cr_on (s w p : Nat) : Nat → Bool
  | 0 => false
  | t + 1 => cr_on s w p t || (cr_ray s w t == p)
theorem cr_Fv {s w : Nat} (hs : s < 20) (f : Nat → Int32) {p s' : Nat} (hp : p < 20) : ∀ t, cr_F s w f t (s' * 20 + p) = if s' = s ∧ cr_on s w p t = true then nI w else f (s' * 20 + p) := by
  intro t
  induction t with
  | zero => rw [cr_F, if_neg (fun h => by have := h.2; simp [cr_on] at this)]
  | succ t ih =>
    rw [cr_F]
    by_cases hr : cr_ray s w t < 20
    · rw [if_pos hr]
      by_cases c : s' = s ∧ cr_ray s w t = p
      · rw [c.1, c.2, pk_us, if_pos ⟨rfl, by simp [cr_on, c.2]⟩]
      · rw [pk_un (by omega), ih]
        by_cases e : s' = s
        · have hne : ¬ cr_ray s w t = p := fun q => c ⟨e, q⟩
          simp [cr_on, e, hne]
        · rw [if_neg (fun h => e h.1), if_neg (fun h => e h.1)]
    · rw [if_neg hr, ih]
      have hne : ¬ cr_ray s w t = p := by omega
      simp [cr_on, hne]
def cr_gv (s w p : Nat) (v : Int32) : Nat → Int32
  | 0 => v
  | t + 1 => if cr_ray s w t = p then cr_ps s w t else cr_gv s w p v t
theorem cr_Gv {s w : Nat} (hs : s < 20) (f : Nat → Int32) {p s' : Nat} (hp : p < 20) : ∀ t, cr_G s w f t (s' * 20 + p) = if s' = s then cr_gv s w p (f (s' * 20 + p)) t else f (s' * 20 + p) := by
  intro t
  induction t with
  | zero => rw [cr_G, cr_gv]; split <;> rfl
  | succ t ih =>
    rw [cr_G, cr_gv]
    by_cases hr : cr_ray s w t < 20
    · rw [if_pos hr]
      by_cases c : s' = s ∧ cr_ray s w t = p
      · rw [c.1, c.2, pk_us, if_pos rfl, if_pos rfl]
      · rw [pk_un (by omega), ih]
        by_cases e : s' = s
        · rw [if_pos e, if_pos e, if_neg (fun q => c ⟨e, q⟩)]
        · rw [if_neg e, if_neg e]
    · rw [if_neg hr, ih, if_neg (show ¬ cr_ray s w t = p by omega)]
def cr_wf (s p : Nat) (v : Int32) : Nat → Int32
  | 0 => v
  | w + 1 => if cr_on s w p 4 = true then nI w else cr_wf s p v w
def cr_bf (s p : Nat) (v : Int32) : Nat → Int32
  | 0 => v
  | w + 1 => cr_gv s w p (cr_bf s p v w) 4
theorem cr_Rv {s : Nat} (hs : s < 20) (f : Nat → Int32) {p s' : Nat} (hp : p < 20) : ∀ w, cr_R s f w (s' * 20 + p) = if s' = s then cr_wf s p (f (s' * 20 + p)) w else f (s' * 20 + p) := by
  intro w
  induction w with
  | zero => rw [cr_R, cr_wf]; split <;> rfl
  | succ w ih =>
    rw [cr_R, cr_Fv hs _ hp, ih, cr_wf]
    by_cases e : s' = s
    · rw [if_pos e, if_pos e]
      by_cases c : cr_on s w p 4 = true
      · rw [if_pos ⟨e, c⟩, if_pos c]
      · rw [if_neg (fun h => c h.2), if_neg c]
    · rw [if_neg (fun h => e h.1), if_neg e, if_neg e]
theorem cr_Qv {s : Nat} (hs : s < 20) (f : Nat → Int32) {p s' : Nat} (hp : p < 20) : ∀ w, cr_Q s f w (s' * 20 + p) = if s' = s then cr_bf s p (f (s' * 20 + p)) w else f (s' * 20 + p) := by
  intro w
  induction w with
  | zero => rw [cr_Q, cr_bf]; split <;> rfl
  | succ w ih =>
    rw [cr_Q, cr_Gv hs _ hp, ih, cr_bf]
    by_cases e : s' = s
    · rw [if_pos e, if_pos e, if_pos e]
    · rw [if_neg e, if_neg e, if_neg e]
theorem cr_Tv (f : Nat → Int32) {p s' : Nat} (hp : p < 20) : ∀ n, n ≤ 20 → cr_T f n (s' * 20 + p) = if s' < n then cr_wf s' p (f (s' * 20 + p)) 8 else f (s' * 20 + p) := by
  intro n
  induction n with
  | zero => intro _; rw [cr_T, if_neg (by omega)]
  | succ n ih =>
    intro hn
    rw [cr_T, cr_Rv (by omega) _ hp, ih (by omega)]
    by_cases e : s' = n
    · rw [if_pos e, if_neg (show ¬ s' < n by omega), if_pos (show s' < n + 1 by omega), e]
    · rw [if_neg e]
      by_cases q : s' < n
      · rw [if_pos q, if_pos (by omega)]
      · rw [if_neg q, if_neg (by omega)]
theorem cr_Uv (f : Nat → Int32) {p s' : Nat} (hp : p < 20) : ∀ n, n ≤ 20 → cr_U f n (s' * 20 + p) = if s' < n then cr_bf s' p (f (s' * 20 + p)) 8 else f (s' * 20 + p) := by
  intro n
  induction n with
  | zero => intro _; rw [cr_U, if_neg (by omega)]
  | succ n ih =>
    intro hn
    rw [cr_U, cr_Qv (by omega) _ hp, ih (by omega)]
    by_cases e : s' = n
    · rw [if_pos e, if_neg (show ¬ s' < n by omega), if_pos (show s' < n + 1 by omega), e]
    · rw [if_neg e]
      by_cases q : s' < n
      · rw [if_pos q, if_pos (by omega)]
      · rw [if_neg q, if_neg (by omega)]
theorem cr_TWv {d p : Nat} (hd : d < 20) (hp : p < 20) : cr_TW (d * 20 + p) = cr_wf d p (-1) 8 := by
  unfold cr_TW
  rw [cr_Tv _ hp 20 (Nat.le_refl _), if_pos hd]
  congr 1
  unfold cz_fil
  rw [if_pos (by omega)]
theorem cr_TBv {d p : Nat} (hd : d < 20) (hp : p < 20) : cr_TB (d * 20 + p) = cr_bf d p 0 8 := by
  unfold cr_TB
  rw [cr_Uv _ hp 20 (Nat.le_refl _), if_pos hd]
/-! which WAY, and what is between, as lists -/
def cr_w (d p : Nat) : Nat → Nat
  | 0 => 8
  | w + 1 => if cr_on d w p 4 = true then w else cr_w d p w
def cr_bl1 (d w p : Nat) : Nat → List Nat
  | 0 => []
  | t + 1 => if cr_on d w p (t + 1) = true then cr_bl1 d w p t else cr_bl1 d w p t ++ [cr_ray d w t]
/-- the PLACES between -/
def cr_bl (d p : Nat) : List Nat := cr_bl1 d (cr_w d p 8) p 4
def cr_lor : List Nat → Int32
  | [] => 0
  | q :: l => (1 <<< (nI q &&& 31)) ||| cr_lor l
def cr_ch (st to : Int32) : List Nat → Int32 → Bool
  | [], x => x == to
  | q :: l, x => (x == nI q) && !(x == to) && cr_ch st to l (x + st)
def cr_ok (d p : Nat) : Bool := cr_wf d p (-1) 8 == cz_wt (nI d) (nI p) && (cr_wf d p (-1) 8 == -1 || (cr_wf d p (-1) 8 == nI (cr_w d p 8) && decide (cr_w d p 8 < 8) && cr_bf d p 0 8 == cr_lor (cr_bl d p) && cr_ch (cz_step (nI d) (nI p)) (nI p) (cr_bl d p) (nI d + cz_step (nI d) (nI p)) && decide ((cr_bl d p).length ≤ 3) && (cr_bl d p).all (fun q => decide (q < 20) && !(q == d)) && (decide (2 ≤ cz_bc (cr_bf d p 0 8)) == decide (2 < cz_far (nI d) (nI p)))))
theorem cr_ok_all : (List.range 20).all (fun d => (List.range 20).all (fun p => cr_ok d p)) = true := by decide +kernel
theorem cr_ok_of {d p : Nat} (hd : d < 20) (hp : p < 20) : cr_ok d p = true := List.all_eq_true.mp (List.all_eq_true.mp cr_ok_all d (List.mem_range.mpr hd)) p (List.mem_range.mpr hp)
theorem cr_facts {d p : Nat} (hd : d < 20) (hp : p < 20) : cr_wf d p (-1) 8 = cz_wt (nI d) (nI p) ∧ (cr_wf d p (-1) 8 = -1 ∨ (cr_wf d p (-1) 8 = nI (cr_w d p 8) ∧ cr_w d p 8 < 8 ∧ cr_bf d p 0 8 = cr_lor (cr_bl d p) ∧ cr_ch (cz_step (nI d) (nI p)) (nI p) (cr_bl d p) (nI d + cz_step (nI d) (nI p)) = true ∧ (cr_bl d p).length ≤ 3 ∧ (∀ q ∈ cr_bl d p, q < 20 ∧ ¬ q = d) ∧ (2 ≤ cz_bc (cr_bf d p 0 8) ↔ 2 < cz_far (nI d) (nI p)))) := by
  have h := cr_ok_of hd hp
  unfold cr_ok at h
  rw [Bool.and_eq_true, Bool.or_eq_true] at h
  refine ⟨beq_iff_eq.mp h.1, ?_⟩
  rcases h.2 with q | q
  · exact Or.inl (beq_iff_eq.mp q)
  · right
    simp only [Bool.and_eq_true, decide_eq_true_eq, beq_iff_eq] at q
    obtain ⟨⟨⟨⟨⟨⟨q1, q2⟩, q3⟩, q4⟩, q5⟩, q6⟩, q7⟩ := q
    refine ⟨q1, q2, q3, q4, q5, ?_, ?_⟩
    · intro x hx
      have := List.all_eq_true.mp q6 x hx
      simp only [Bool.and_eq_true, decide_eq_true_eq, Bool.not_eq_true', beq_eq_false_iff_ne] at this
      exact ⟨this.1, this.2⟩
    · exact decide_eq_decide.mp q7
theorem cr_clr {fl da : Int32} {g : Nat → Int32} {k : Nat} {pe st to : Int32} : ∀ (l : List Nat) (n : Nat) (x is : Int32), l.length ≤ n → cr_ch st to l x = true → (cz_clr fl da g k pe st to n x is = 0 ↔ (is = 0 ∨ ∃ q ∈ l, ¬ (cz_hs fl (nI q) ∧ (pe = 0 ∨ cz_wo da (nI q) g k = -1)))) := by
  intro l
  induction l with
  | nil =>
    intro n x is _ h
    rw [cz_clr_to n (beq_iff_eq.mp h)]
    simp
  | cons q l ih =>
    intro n x is hn h
    simp only [cr_ch, Bool.and_eq_true, beq_iff_eq, Bool.not_eq_true', beq_eq_false_iff_ne] at h
    obtain ⟨⟨h1, h2⟩, h3⟩ := h
    obtain ⟨m, rfl⟩ : ∃ m, n = m + 1 := ⟨n - 1, by simp only [List.length_cons] at hn; omega⟩
    rw [cz_clr, if_neg h2, ih m (x + st) _ (by simp only [List.length_cons] at hn; omega) h3]
    have hm : (∃ r ∈ q :: l, ¬ (cz_hs fl (nI r) ∧ (pe = 0 ∨ cz_wo da (nI r) g k = -1))) ↔ (¬ (cz_hs fl x ∧ (pe = 0 ∨ cz_wo da x g k = -1)) ∨ ∃ r ∈ l, ¬ (cz_hs fl (nI r) ∧ (pe = 0 ∨ cz_wo da (nI r) g k = -1))) := by
      rw [h1]
      constructor
      · rintro ⟨r, hr, hq⟩
        rcases List.mem_cons.mp hr with e | e
        · subst e; exact Or.inl hq
        · exact Or.inr ⟨r, e, hq⟩
      · rintro (hq | ⟨r, hr, hq⟩)
        · exact ⟨q, List.mem_cons_self, hq⟩
        · exact ⟨r, List.mem_cons_of_mem _ hr, hq⟩
    rw [hm]
    by_cases c : ¬ is = 0 ∧ cz_hs fl x ∧ (pe = 0 ∨ cz_wo da x g k = -1)
    · rw [if_pos c]
      constructor
      · rintro (e | e)
        · exact absurd e (by decide)
        · exact Or.inr (Or.inr e)
      · rintro (e | e | e)
        · exact absurd e c.1
        · exact absurd c.2 e
        · exact Or.inr e
    · rw [if_neg c]
      refine ⟨fun _ => ?_, fun _ => Or.inl rfl⟩
      by_cases e : is = 0
      · exact Or.inl e
      · exact Or.inr (Or.inl (fun r => c ⟨e, r⟩))
theorem cr_and {w : Int32} : ∀ l : List Nat, (cr_lor l &&& w = 0 ↔ ∀ q ∈ l, w &&& ((1 : Int32) <<< (nI q &&& 31)) = 0) := by
  intro l
  induction l with
  | nil => simp [cr_lor]
  | cons q l ih =>
    rw [cr_lor, ci_or0, ih, Int32.and_comm]
    constructor
    · rintro ⟨h1, h2⟩ r hr
      rcases List.mem_cons.mp hr with e | e
      · subst e; exact h1
      · exact h2 r e
    · intro h
      exact ⟨h q List.mem_cons_self, fun r hr => h r (List.mem_cons_of_mem _ hr)⟩
theorem cr_turn : ∀ w, w < 8 → ∀ e, e < 4 → cz_fm (nI w - 2 * nI e) = cz_tn (nI w) (nI e) := by decide +kernel
theorem cr_w8 : ∀ w, w < 8 → ¬ nI w = -1 := by decide
theorem cr_cheek (kind t : Int32) : (if kind = 1 ∧ cz_chk t = 3 then 0 else cz_chk t) = cz_sw1 kind t := by
  unfold cz_chk cz_sw1
  by_cases h0 : t = 0
  · rw [if_pos h0, if_pos h0]
    by_cases h1 : kind = 1
    · rw [if_pos ⟨h1, rfl⟩, if_pos h1]
    · rw [if_neg (fun h => h1 h.1), if_neg h1]
  · rw [if_neg h0, if_neg h0]
    by_cases h4 : t = 4
    · rw [if_pos h4, if_neg (fun h => absurd h.2 (by decide))]
    · rw [if_neg h4]
      by_cases h5 : t < 4
      · rw [if_pos h5, if_neg (fun h => absurd h.2 (by decide))]
      · rw [if_neg h5, if_neg (fun h => absurd h.2 (by decide))]
theorem cr_kd (kind : Int32) : cz_kd kind 3 ↔ cz_pe kind = 0 := by
  unfold cz_pe
  by_cases h3 : kind = 3
  · rw [if_pos h3]; exact ⟨fun _ => rfl, fun _ => Or.inl h3.symm⟩
  · rw [if_neg h3]
    by_cases h4 : kind = 4
    · rw [if_pos h4]; exact ⟨fun _ => rfl, fun _ => Or.inr (Or.inr ⟨rfl, h4⟩)⟩
    · rw [if_neg h4]
      refine ⟨fun h => ?_, fun h => absurd h (by decide)⟩
      rcases h with h | h | h
      · exact absurd h.symm h3
      · exact absurd h (by decide)
      · exact absurd h.2 h4
/-- WHAT ONE SEES: class and reference -/
theorem cr_seen {w0 fl : Int32} {g : Nat → Int32} {k d e p : Nat} (hk : k ≤ 6) (hg : cz_pl g) (hfl : ci_hl w0 fl) (hd : d < 20) (he : e < 4) (hp : p < 20) (kind : Int32) : cz_seen kind (nI p) (nI (4 * d + e)) w0 (cz_pp g k) cr_TW cr_TB = cz_sw kind (nI p) (nI d) (nI e) fl g k := by
  obtain ⟨s1, s2, s3⟩ := ci_st d hd e he
  unfold cz_seen cz_sw
  have hix : (nI d * 20 + nI p).toNatClampNeg = d * 20 + p := by
    rw [show (20 : Int32) = nI 20 from rfl, pk_mul, nI_add]
    exact nI_clamp (n := d * 20 + p) (by omega)
  rw [if_pos (cz_in_nI hp), s1, if_pos (cz_in_nI hd), hix, cr_TWv hd hp, cr_TBv hd hp, if_neg (ci_n1 (by omega))]
  obtain ⟨f1, f2⟩ := cr_facts hd hp
  rw [← f1]
  rcases f2 with f2 | ⟨q1, q2, q3, q4, q5, q6, q7⟩
  · rw [if_pos f2, if_pos f2]
  · have hw1 : ¬ cr_wf d p (-1) 8 = -1 := by rw [q1]; exact cr_w8 _ q2
    rw [if_neg hw1, if_neg hw1]
    have hcl := cr_clr (fl := fl) (da := nI d) (g := g) (k := k) (pe := cz_pe kind) (st := cz_step (nI d) (nI p)) (to := nI p) (cr_bl d p) 4 (nI d + cz_step (nI d) (nI p)) 1 (by omega) q4
    have hcl2 : cz_cl fl (nI d) g k (cz_pe kind) (nI d) (nI p) = 0 ↔ ∃ q ∈ cr_bl d p, ¬ (cz_hs fl (nI q) ∧ (cz_pe kind = 0 ∨ cz_wo (nI d) (nI q) g k = -1)) := by
      unfold cz_cl
      rw [hcl]
      exact ⟨fun h => h.resolve_left (by decide), Or.inr⟩
    have hwl : cr_bf d p 0 8 &&& w0 = 0 ↔ ∀ q ∈ cr_bl d p, cz_hs fl (nI q) := by
      rw [q3, cr_and]
      exact ⟨fun h q hq => (hfl q (q6 q hq).1).mp (h q hq), fun h q hq => (hfl q (q6 q hq).1).mpr (h q hq)⟩
    have hpe : cr_bf d p 0 8 &&& cz_pp g k = 0 ↔ ∀ q ∈ cr_bl d p, cz_wo (nI d) (nI q) g k = -1 := by
      rw [q3, cr_and]
      constructor
      · intro h q hq
        rw [ci_wo k hk]
        exact ⟨(ci_pp hg (q6 q hq).1 k hk).mp (h q hq), fun c => (q6 q hq).2 ((ci_ni (by omega) (by have := (q6 q hq).1; omega)).mp c).symm⟩
      · intro h q hq
        exact (ci_pp hg (q6 q hq).1 k hk).mpr ((ci_wo k hk).mp (h q hq)).1
    have hbar : cz_bar kind (cr_bf d p 0 8) w0 (cz_pp g k) ↔ ((kind = 2 ∧ 2 < cz_far (nI d) (nI p)) ∨ cz_cl fl (nI d) g k (cz_pe kind) (nI d) (nI p) = 0) := by
      unfold cz_bar
      rw [hcl2, hwl, hpe, q7, cr_kd]
      constructor
      · rintro (h | h | ⟨h1, h2⟩)
        · right
          obtain ⟨q, hq⟩ := Classical.not_forall.mp h
          obtain ⟨hq1, hq2⟩ := Classical.not_imp.mp hq
          exact ⟨q, hq1, fun c => hq2 c.1⟩
        · exact Or.inl h
        · right
          obtain ⟨q, hq⟩ := Classical.not_forall.mp h2
          obtain ⟨hq1, hq2⟩ := Classical.not_imp.mp hq
          exact ⟨q, hq1, fun c => c.2.elim h1 hq2⟩
      · rintro (h | ⟨q, hq1, hq2⟩)
        · exact Or.inr (Or.inl h)
        · by_cases c : cz_hs fl (nI q)
          · right; right
            refine ⟨fun c2 => hq2 ⟨c, Or.inl c2⟩, fun c2 => hq2 ⟨c, Or.inr (c2 q hq1)⟩⟩
          · exact Or.inl (fun c2 => c (c2 q hq1))
    by_cases hb : cz_bar kind (cr_bf d p 0 8) w0 (cz_pp g k)
    · rw [if_pos hb]
      rcases hbar.mp hb with h | h
      · rw [if_pos h]
      · rw [if_pos h]
        split <;> rfl
    · rw [if_neg hb, if_neg (fun h => hb (hbar.mpr (Or.inl h))), if_neg (fun h => hb (hbar.mpr (Or.inr h)))]
      unfold cz_sn1
      rw [s2, q1, cr_turn _ q2 e he]
      exact cr_cheek kind _
