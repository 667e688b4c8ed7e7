/-! what is seen: the eight WAYS, what lies between -/
def cz_bc1 (x : Int32) : Int32 := x - ((x.toUInt32 >>> ((1 : Int32).toUInt32 &&& Int32.toUInt32 31)).toInt32 &&& 1431655765)
def cz_bc2 (x : Int32) : Int32 := (x &&& 858993459) + ((x.toUInt32 >>> ((2 : Int32).toUInt32 &&& Int32.toUInt32 31)).toInt32 &&& 858993459)
def cz_bc3 (x : Int32) : Int32 := (x + (x.toUInt32 >>> ((4 : Int32).toUInt32 &&& Int32.toUInt32 31)).toInt32) &&& 252645135
def cz_bc4 (x : Int32) : Int32 := x + (x.toUInt32 >>> ((8 : Int32).toUInt32 &&& Int32.toUInt32 31)).toInt32
def cz_bc5 (x : Int32) : Int32 := (x + (x.toUInt32 >>> ((16 : Int32).toUInt32 &&& Int32.toUInt32 31)).toInt32) &&& 63
/-- how many bits are set, as Integer.bitCount reckons -/
def cz_bc (x : Int32) : Int32 := cz_bc5 (cz_bc4 (cz_bc3 (cz_bc2 (cz_bc1 x))))
def cr_dr (w : Nat) : Nat := if w = 0 ∨ w = 1 ∨ w = 7 then 0 else if w = 2 ∨ w = 6 then 1 else 2
def cr_dc (w : Nat) : Nat := if w = 0 ∨ w = 4 then 1 else if w = 1 ∨ w = 2 ∨ w = 3 then 2 else 0
/-- the next PLACE by a WAY; 20: there is none -/
def cr_nb (s w : Nat) : Nat := if s < 20 then (if 1 ≤ s / 5 + cr_dr w ∧ s / 5 + cr_dr w ≤ 4 ∧ 1 ≤ s % 5 + cr_dc w ∧ s % 5 + cr_dc w ≤ 5 then (s / 5 + cr_dr w - 1) * 5 + (s % 5 + cr_dc w - 1) else 20) else 20
def cr_i (q : Nat) : Int32 := if q < 20 then nI q else -1
theorem cr_nbI : ∀ q, q < 21 → ∀ w, w < 8 → cz_nb (cr_i q) (nI w) = cr_i (cr_nb q w) := by decide +kernel
theorem cr_nb_le : ∀ q, q < 21 → ∀ w, w < 8 → cr_nb q w < 21 := by decide +kernel
/-- the PLACES by a WAY, one behind another -/
def cr_ray (s w : Nat) : Nat → Nat
  | 0 => cr_nb s w
  | t + 1 => cr_nb (cr_ray s w t) w
theorem cr_ray_lt {s w : Nat} (hs : s < 20) (hw : w < 8) : ∀ t, cr_ray s w t < 21 := by
  intro t
  induction t with
  | zero => exact cr_nb_le s (by omega) w hw
  | succ t ih => exact cr_nb_le _ ih w hw
theorem cr_ray_no {s w t : Nat} (h : ¬ cr_ray s w t < 20) : ¬ cr_ray s w (t + 1) < 20 := by
  rw [cr_ray, cr_nb, if_neg h]
  omega
/-- the PLACES passed, as bits -/
def cr_ps (s w : Nat) : Nat → Int32
  | 0 => 0
  | t + 1 => if cr_ray s w t < 20 then cr_ps s w t ||| (1 <<< (nI (cr_ray s w t) &&& 31)) else cr_ps s w t
/-- what Sight.follow lays -/
def cr_F (s w : Nat) (f : Nat → Int32) : Nat → Nat → Int32
  | 0 => f
  | t + 1 => if cr_ray s w t < 20 then upd (cr_F s w f t) (s * 20 + cr_ray s w t) (nI w) else cr_F s w f t
def cr_G (s w : Nat) (f : Nat → Int32) : Nat → Nat → Int32
  | 0 => f
  | t + 1 => if cr_ray s w t < 20 then upd (cr_G s w f t) (s * 20 + cr_ray s w t) (cr_ps s w t) else cr_G s w f t
theorem cr_noS {s w t : Nat} (h : ¬ cr_ray s w t < 20) : ∀ n, ¬ cr_ray s w (t + n) < 20 := by
  intro n
  induction n with
  | zero => exact h
  | succ n ih => exact cr_ray_no ih
theorem cr_F_no {s w t : Nat} {f : Nat → Int32} (h : ¬ cr_ray s w t < 20) : ∀ n, cr_F s w f (t + n) = cr_F s w f t := by
  intro n
  induction n with
  | zero => rfl
  | succ n ih => rw [← Nat.add_assoc, cr_F, if_neg (cr_noS h n), ih]
theorem cr_G_no {s w t : Nat} {f : Nat → Int32} (h : ¬ cr_ray s w t < 20) : ∀ n, cr_G s w f (t + n) = cr_G s w f t := by
  intro n
  induction n with
  | zero => rfl
  | succ n ih => rw [← Nat.add_assoc, cr_G, if_neg (cr_noS h n), ih]
theorem cr_ii {q r : Nat} (hq : q < 20) (h : nI q = cr_i r) : r = q := by
  unfold cr_i at h
  split at h
  · exact ((nI_eq (a := q) (b := r) (by omega) (by omega)).mp h).symm
  · have e : (nI q).toInt = (q : Int) := nI_toInt (by omega)
    rw [cz_eq, e] at h
    simp only [cz_l] at h
    omega
theorem cr_in {r : Nat} {y : Int32} (e : y = cr_i r) (h : ¬ cz_in 0 y 19) : ¬ r < 20 := by
  intro hr
  apply h
  rw [e]
  unfold cr_i
  rw [if_pos hr]
  exact cz_in_nI hr
def cz_fil (v : Int32) (f : Nat → Int32) (i : Nat) : Nat → Int32 := fun k => if k < i then v else f k
theorem cz_fil0 {v : Int32} {f : Nat → Int32} : f = cz_fil v f 0 := by
  funext k
  unfold cz_fil
  rw [if_neg (by omega)]
theorem cz_fil1 {v : Int32} {f : Nat → Int32} {i : Nat} : upd (cz_fil v f i) i v = cz_fil v f (i + 1) := by
  funext k
  by_cases h : k = i
  · subst h; rw [pk_us]; unfold cz_fil; rw [if_pos (by omega)]
  · rw [pk_un h]
    unfold cz_fil
    by_cases q : k < i
    · rw [if_pos q, if_pos (by omega)]
    · rw [if_neg q, if_neg (by omega)]
/-- a row of the tables, all of them -/
def cr_R (s : Nat) (f : Nat → Int32) : Nat → Nat → Int32
  | 0 => f
  | w + 1 => cr_F s w (cr_R s f w) 4
def cr_T (f : Nat → Int32) : Nat → Nat → Int32
  | 0 => f
  | s + 1 => cr_R s (cr_T f s) 8
def cr_Q (s : Nat) (f : Nat → Int32) : Nat → Nat → Int32
  | 0 => f
  | w + 1 => cr_G s w (cr_Q s f w) 4
def cr_U (f : Nat → Int32) : Nat → Nat → Int32
  | 0 => f
  | s + 1 => cr_Q s (cr_U f s) 8
def cr_TW : Nat → Int32 := cr_T (cz_fil (-1) (fun _ => 0) 400) 20
def cr_TB : Nat → Int32 := cr_U (fun _ => 0) 20
/-! the class: what one of a KIND on a PLACE SEES -/
def cz_fm (x : Int32) : Int32 := if 0 ≤ x ^^^ 8 then x - x / 8 * 8 else if x - x / 8 * 8 = 0 then x - x / 8 * 8 else x - x / 8 * 8 + 8
def cz_chk (w : Int32) : Int32 := if w = 0 then 3 else if w = 4 then 4 else if w < 4 then 2 else 1
abbrev cz_bar (kind passed walls people : Int32) : Prop := ¬ passed &&& walls = 0 ∨ (kind = 2 ∧ 2 ≤ cz_bc passed) ∨ (¬ cz_kd kind 3 ∧ ¬ passed &&& people = 0)
def cz_sn1 (kind way st : Int32) : Int32 := if kind = 1 ∧ cz_chk (cz_fm (way - 2 * cz_sid st)) = 3 then 0 else cz_chk (cz_fm (way - 2 * cz_sid st))
def cz_seen (kind p st w pe : Int32) (ft fb : Nat → Int32) : Int32 := if cz_in 0 p 19 then (if cz_in 0 (cz_plc st) 19 then (if ft (cz_plc st * 20 + p).toNatClampNeg = -1 then 0 else if cz_bar kind (fb (cz_plc st * 20 + p).toNatClampNeg) w pe then 0 else cz_sn1 kind (ft (cz_plc st * 20 + p).toNatClampNeg) st) else 0) else 0
abbrev cz_gl (kind p st w pe : Int32) (ft fb : Nat → Int32) : Prop := ¬ kind = 4 ∧ (cz_seen kind p st w pe ft fb = 2 ∨ cz_seen kind p st w pe ft fb = 3)
def cz_si (st x pe w0 : Int32) (g1 g2 : Nat → Int32) (k : Nat) (ft fb : Nat → Int32) : Int32 := if st = -1 then 0 else if cz_cr k x then cz_seen (g1 x.toNatClampNeg) (g2 x.toNatClampNeg) st w0 pe ft fb else 0
/-- who is GUILTY, of the first so many -/
def cz_gs (st w pe : Int32) (g1 g2 ft fb : Nat → Int32) : Nat → Int32
  | 0 => 0
  | k + 1 => if cz_gl (g1 k) (g2 k) st w pe ft fb then cz_gs st w pe g1 g2 ft fb k ||| (1 <<< (nI k &&& 31)) else cz_gs st w pe g1 g2 ft fb k
/-- how often each SAW one cheek -/
def cz_lk (a : Int32) (s : Nat → Int32) (f : Nat → Int32) : Nat → Nat → Int32
  | 0 => f
  | k + 1 => if s k = a ∨ s k = 3 then upd (cz_lk a s f k) k (cz_lk a s f k k + 1) else cz_lk a s f k
/-- as Court.look does it for one -/
def cz_lk1 (a : Int32) (x v : Int32) (k : Nat) (f : Nat → Int32) : Nat → Int32 := if cz_cr k x then (if v = a ∨ v = 3 then upd f x.toNatClampNeg (f x.toNatClampNeg + 1) else f) else f
theorem cr_i19 {x : Int32} (h : cz_in 0 x 19) : ∃ p : Nat, p < 20 ∧ x = nI p := by
  obtain ⟨j, hj, e⟩ := nI_of2 (x := x) (M := 19) (n := 19) (by decide) (by have := h.1; simp only [cz_lt, cz_le] at *; omega) h.2
  exact ⟨j, by omega, e⟩
theorem cr_nb0 {s w : Nat} (hs : s < 20) (hw : w < 8) : cz_nb (nI s) (nI w) = cr_i (cr_nb s w) := by
  have h := cr_nbI s (by omega) w hw
  have e : cr_i s = nI s := by unfold cr_i; rw [if_pos hs]
  rw [e] at h
  exact h
theorem cr_st1 {s w i q : Nat} {y r : Int32} (hw : w < 8) (h1 : 1 ≤ i) (hq : q < 20) (eq : y = nI q) (hp : y = cr_i (cr_ray s w (i - 1))) (hr : r = cz_nb (nI q) (nI w)) : r = cr_i (cr_ray s w (i + 1 - 1)) := by
  have e := cr_ii hq (eq.symm.trans hp)
  obtain ⟨t, rfl⟩ : ∃ t, i = t + 1 := ⟨i - 1, by omega⟩
  rw [Nat.add_sub_cancel] at e ⊢
  rw [hr, cr_nb0 hq hw, cr_ray, e]
theorem cr_st2 {s w i q : Nat} {y z x b : Int32} (h1 : 1 ≤ i) (hq : q < 20) (eq : y = nI q) (hp : y = cr_i (cr_ray s w (i - 1))) (hs : z = cr_ps s w (i - 1)) (hb : b = 1 <<< (nI q &&& 31)) (hx : x = z ||| b) : x = cr_ps s w (i + 1 - 1) := by
  have e := cr_ii hq (eq.symm.trans hp)
  obtain ⟨t, rfl⟩ : ∃ t, i = t + 1 := ⟨i - 1, by omega⟩
  rw [Nat.add_sub_cancel] at e hs ⊢
  rw [hx, hb, hs, cr_ps, e, if_pos hq]
theorem cr_st3 {s w i q : Nat} {y : Int32} {f v : Nat → Int32} (h1 : 1 ≤ i) (hq : q < 20) (eq : y = nI q) (hp : y = cr_i (cr_ray s w (i - 1))) (hf : v = cr_F s w f (i - 1)) : upd v (s * 20 + q) (nI w) = cr_F s w f (i + 1 - 1) := by
  have e := cr_ii hq (eq.symm.trans hp)
  obtain ⟨t, rfl⟩ : ∃ t, i = t + 1 := ⟨i - 1, by omega⟩
  rw [Nat.add_sub_cancel] at e hf ⊢
  rw [cr_F, e, if_pos hq, hf]
theorem cr_st4 {s w i q : Nat} {y z : Int32} {f v : Nat → Int32} (h1 : 1 ≤ i) (hq : q < 20) (eq : y = nI q) (hp : y = cr_i (cr_ray s w (i - 1))) (hs : z = cr_ps s w (i - 1)) (hf : v = cr_G s w f (i - 1)) : upd v (s * 20 + q) z = cr_G s w f (i + 1 - 1) := by
  have e := cr_ii hq (eq.symm.trans hp)
  obtain ⟨t, rfl⟩ : ∃ t, i = t + 1 := ⟨i - 1, by omega⟩
  rw [Nat.add_sub_cancel] at e hf hs ⊢
  rw [cr_G, e, if_pos hq, hf, hs]
theorem cr_Fx {s w i : Nat} {y : Int32} {f v : Nat → Int32} (h : ¬ cz_in 0 y 19) (hp : y = cr_i (cr_ray s w (i - 1))) (hi : i ≤ 5) (hf : v = cr_F s w f (i - 1)) : v = cr_F s w f 4 := by
  have q := cr_F_no (f := f) (cr_in hp h) (4 - (i - 1))
  rw [show i - 1 + (4 - (i - 1)) = 4 by omega] at q
  rw [hf, q]
theorem cr_Gx {s w i : Nat} {y : Int32} {f v : Nat → Int32} (h : ¬ cz_in 0 y 19) (hp : y = cr_i (cr_ray s w (i - 1))) (hi : i ≤ 5) (hf : v = cr_G s w f (i - 1)) : v = cr_G s w f 4 := by
  have q := cr_G_no (f := f) (cr_in hp h) (4 - (i - 1))
  rw [show i - 1 + (4 - (i - 1)) = 4 by omega] at q
  rw [hf, q]
theorem cr_F5 {s w i : Nat} {f v : Nat → Int32} (hi : i = 5) (hf : v = cr_F s w f (i - 1)) : v = cr_F s w f 4 := by subst hi; exact hf
theorem cr_G5 {s w i : Nat} {f v : Nat → Int32} (hi : i = 5) (hf : v = cr_G s w f (i - 1)) : v = cr_G s w f 4 := by subst hi; exact hf
theorem cr_Ts {s : Nat} {f : Nat → Int32} : cr_R s (cr_T f s) 8 = cr_T f (s + 1) := rfl
theorem cr_Us {s : Nat} {f : Nat → Int32} : cr_Q s (cr_U f s) 8 = cr_U f (s + 1) := rfl
theorem cr_Rs {s w : Nat} {f y z : Nat → Int32} (h : z = cr_F s w y 4) (hy : y = cr_R s f w) : z = cr_R s f (w + 1) := by rw [h, hy, cr_R]
theorem cr_Qs {s w : Nat} {f y z : Nat → Int32} (h : z = cr_G s w y 4) (hy : y = cr_Q s f w) : z = cr_Q s f (w + 1) := by rw [h, hy, cr_Q]
theorem cz_lk_step {a v : Int32} {s f y : Nat → Int32} {i k : Nat} (hk : k ≤ 6) (hi : i < k) (hy : y = cz_lk a s f i) (hv : v = s i) : cz_lk1 a (nI i) v k y = cz_lk a s f (i + 1) := by
  unfold cz_lk1
  rw [if_pos (cz_cr_nI hk hi), nI_clamp (n := i) (by omega), hy, hv]
  rfl
/-! the class: about, act -/
def cz_abC (x what : Int32) (a0 pe w0 : Int32) (g1 g2 g3 g4 : Nat → Int32) (k : Nat) (ft fb : Nat → Int32) : Int32 := if cz_cr k x then (if what = 0 then g1 x.toNatClampNeg else if what = 1 then g2 x.toNatClampNeg else if what = 2 then cz_si a0 x pe w0 g1 g2 k ft fb else if what = 3 then (if cz_gs a0 w0 pe g1 g2 ft fb k &&& (1 <<< (x &&& 31)) = 0 then 0 else 1) else if what = 4 then g3 x.toNatClampNeg else if what = 5 then g4 x.toNatClampNeg else -102) else -101
def cz_acA (act a0 b pe w0 : Int32) (g1 g2 : Nat → Int32) (k : Nat) (ft fb : Nat → Int32) : Int32 := if cz_in 0 act 2 then (if cz_aft a0 act b = -1 then -103 else cz_bc (cz_gs (cz_aft a0 act b) w0 pe g1 g2 ft fb k)) else -102
abbrev cz_acP (act a0 b : Int32) : Prop := cz_in 0 act 2 ∧ ¬ cz_aft a0 act b = -1
/-! BRICK, STOOD, a WALK: mirrors of the class -/
def cz_bk (M : Nat → Int32) (O : Nat → Bool) (b : Int32) : Nat → Int32 × Int32
  | 0 => (-1, b)
  | i + 1 => if M i < (cz_bk M O b i).2 ∧ O i = true then (nI i, M i) else cz_bk M O b i
def cz_bkM (a0 w0 pe : Int32) (g1 g2 ft fb : Nat → Int32) (k : Nat) (i : Nat) : Int32 := cz_bc (cz_gs a0 (w0 ||| (1 <<< (nI i &&& 31))) pe g1 g2 ft fb k)
def cz_bkO (b : Int32) (i : Nat) : Bool := decide (cz_op (nI i) b)
def cz_brC (what a0 w0 pe B : Int32) (g1 g2 ft fb : Nat → Int32) (k : Nat) : Int32 := if cz_in 0 what 1 then (if a0 = -1 then -103 else if what = 0 then B else if B = -1 then B else cz_bc (cz_gs a0 (w0 ||| (1 <<< (B &&& 31))) pe g1 g2 ft fb k)) else -102
/-- all that is TOLD would be so -/
def cz_atB (s g5 : Nat → Int32) : Nat → Bool
  | 0 => true
  | k + 1 => cz_atB s g5 k && (g5 k == -1 || g5 k == s k)
theorem cz_atB_f {s g5 : Nat → Int32} {i : Nat} (h1 : ¬ g5 i = -1) (h2 : ¬ g5 i = s i) : ∀ k, i < k → cz_atB s g5 k = false := by
  intro k
  induction k with
  | zero => intro h; omega
  | succ k ih =>
    intro h
    rw [cz_atB]
    by_cases e : k = i
    · subst e
      simp [h1, h2]
    · rw [ih (by omega)]; rfl
theorem cz_atB_s {s g5 : Nat → Int32} {k : Nat} (h : cz_atB s g5 k = true) (h1 : g5 k = -1 ∨ g5 k = s k) : cz_atB s g5 (k + 1) = true := by
  rw [cz_atB, h]
  rcases h1 with e | e <;> simp [e]
/-- STOOD: how many, the PLACE in all, the SIDE in all -/
def cz_ws (C : Nat → Bool) : Nat → Int32 × Int32 × Int32
  | 0 => (0, -1, -1)
  | i + 1 => if C i = true then ((cz_ws C i).1 + 1, (if (cz_ws C i).1 = 0 ∨ (cz_ws C i).2.1 = cz_plc (nI i) then cz_plc (nI i) else -1), (if (cz_ws C i).1 = 0 ∨ (cz_ws C i).2.2 = cz_sid (nI i) then cz_sid (nI i) else -1)) else cz_ws C i
def cz_wsC (b pe w0 : Int32) (g1 g2 g5 : Nat → Int32) (k : Nat) (ft fb : Nat → Int32) (i : Nat) : Bool := decide (cz_op (cz_plc (nI i)) b) && cz_atB (fun c => cz_si (nI i) (nI c) pe w0 g1 g2 k ft fb) g5 k
def cz_stA (what h : Int32) (t : Int32 × Int32 × Int32) : Int32 := if cz_in 0 what 2 then (if h = 0 then -103 else if what = 0 then t.1 else if what = 1 then t.2.1 else t.2.2) else -102
/-- a WALK -/
def cz_ns (s : Int32) : Int32 := ((1103515245 * s.toInt64 + 12345) - (1103515245 * s.toInt64 + 12345) / 2147483648 * 2147483648).toInt32
def cz_dw (s : Int32) : Int32 := s / 65536 - s / 65536 / 3 * 3
def cz_wkS (b : Int32) (G : Int32 → Int32) (t : Int32 × Int32 × Int32) : Int32 × Int32 × Int32 := if cz_aft t.1 (cz_dw (cz_ns t.2.1)) b = -1 then (t.1, cz_ns t.2.1, t.2.2) else (cz_aft t.1 (cz_dw (cz_ns t.2.1)) b, cz_ns t.2.1, t.2.2 + G (cz_aft t.1 (cz_dw (cz_ns t.2.1)) b))
def cz_wk (a0 s0 b : Int32) (G : Int32 → Int32) : Nat → Int32 × Int32 × Int32
  | 0 => (a0, s0, 0)
  | i + 1 => cz_wkS b G (cz_wk a0 s0 b G i)
theorem cz_wk_n {a0 s0 b : Int32} {G : Int32 → Int32} {i : Nat} {y4 y5 y6 s n : Int32} (h4 : y4 = (cz_wk a0 s0 b G i).1) (h5 : y5 = (cz_wk a0 s0 b G i).2.1) (h6 : y6 = (cz_wk a0 s0 b G i).2.2) (hs : s = cz_ns y5) (hn : n = cz_aft y4 (cz_dw s) b) (c : n = -1) : cz_wk a0 s0 b G (i + 1) = (y4, s, y6) := by
  rw [cz_wk, cz_wkS, ← h4, ← h5, ← h6, ← hs, ← hn, if_pos c]
theorem cz_wk_y {a0 s0 b : Int32} {G : Int32 → Int32} {i : Nat} {y4 y5 y6 s n : Int32} (h4 : y4 = (cz_wk a0 s0 b G i).1) (h5 : y5 = (cz_wk a0 s0 b G i).2.1) (h6 : y6 = (cz_wk a0 s0 b G i).2.2) (hs : s = cz_ns y5) (hn : n = cz_aft y4 (cz_dw s) b) (c : ¬ n = -1) : cz_wk a0 s0 b G (i + 1) = (n, s, y6 + G n) := by
  rw [cz_wk, cz_wkS, ← h4, ← h5, ← h6, ← hs, ← hn, if_neg c]
def cz_wkR (what : Int32) (t : Int32 × Int32 × Int32) : Int32 := if what = 0 then cz_plc t.1 else if what = 1 then cz_sid t.1 else if what = 2 then t.2.2 else t.2.1
theorem cz_bk_y {M : Nat → Int32} {O : Nat → Bool} {b m f : Int32} {i : Nat} (hm : m = M i) (hf : f = (cz_bk M O b i).2) (c : ¬ f ≤ m) (ho : O i = true) : cz_bk M O b (i + 1) = (nI i, M i) := by
  rw [cz_bk, if_pos]
  refine ⟨?_, ho⟩
  rw [← hm, ← hf]
  simp only [cz_lt, cz_le] at *
  omega
theorem cz_bk_n {M : Nat → Int32} {O : Nat → Bool} {b m f : Int32} {i : Nat} (hm : m = M i) (hf : f = (cz_bk M O b i).2) (c : f ≤ m) : cz_bk M O b (i + 1) = cz_bk M O b i := by
  rw [cz_bk, if_neg]
  rintro ⟨h, -⟩
  rw [← hm, ← hf] at h
  simp only [cz_lt, cz_le] at *
  omega
theorem cz_bk_o {M : Nat → Int32} {O : Nat → Bool} {b : Int32} {i : Nat} (ho : ¬ O i = true) : cz_bk M O b (i + 1) = cz_bk M O b i := by
  rw [cz_bk, if_neg (fun h => ho h.2)]
theorem cz_ws_n {C : Nat → Bool} {i : Nat} (h : C i = false) : cz_ws C (i + 1) = cz_ws C i := by rw [cz_ws, if_neg (by rw [h]; decide)]
theorem cz_ws_y {C : Nat → Bool} {i : Nat} (h : C i = true) : cz_ws C (i + 1) = ((cz_ws C i).1 + 1, (if (cz_ws C i).1 = 0 ∨ (cz_ws C i).2.1 = cz_plc (nI i) then cz_plc (nI i) else -1), (if (cz_ws C i).1 = 0 ∨ (cz_ws C i).2.2 = cz_sid (nI i) then cz_sid (nI i) else -1)) := by rw [cz_ws, if_pos h]
def cz_wlA (times seed what a0 : Int32) (R : Nat → Int32) : Int32 := if cz_in 1 times 60 ∧ 0 ≤ seed ∧ cz_in 0 what 3 then (if a0 = -1 then -103 else R times.toNatClampNeg) else -102
