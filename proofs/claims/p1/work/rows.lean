section
-- ===== PART A: goes FIRST, ahead of the names: the tables' words, and 'selects' of the private methods out of them =====
/-- a private method of a class that the tables say can be made, by its rows of tables_1 -/
def lw_okq (q : MethodName × Nat) : Prop := (q.1.cls ≠ "java/lang/invoke/MethodHandle" ∧ q.1.cls ≠ "java/lang/invoke/VarHandle") ∧ Cond.instantiable q.1.cls q.2 ∈ tables_1 ∧ Cond.privateMethod q.1 ∈ tables_1 ∧ Cond.instanceMethod q.1 ∈ tables_1
theorem lw_p0 : lw_okq (⟨"LeftProfile$Sight", "follow", "(II)V"⟩, 2) := ⟨⟨by decide +kernel, by decide +kernel⟩, List.mem_of_getElem? (i := 108) (by decide +kernel), List.mem_of_getElem? (i := 117) (by decide +kernel), List.mem_of_getElem? (i := 118) (by decide +kernel)⟩
theorem lw_p1 : lw_okq (⟨"LeftProfile$Page", "fits", "(I)Z"⟩, 2) := ⟨⟨by decide +kernel, by decide +kernel⟩, List.mem_of_getElem? (i := 22) (by decide +kernel), List.mem_of_getElem? (i := 222) (by decide +kernel), List.mem_of_getElem? (i := 223) (by decide +kernel)⟩
theorem lw_p2 : lw_okq (⟨"LeftProfile$Scene", "seenIf", "(III)I"⟩, 3) := ⟨⟨by decide +kernel, by decide +kernel⟩, List.mem_of_getElem? (i := 37) (by decide +kernel), List.mem_of_getElem? (i := 319) (by decide +kernel), List.mem_of_getElem? (i := 320) (by decide +kernel)⟩
theorem lw_p3 : lw_okq (⟨"LeftProfile$Route", "reach", "(III)V"⟩, 4) := ⟨⟨by decide +kernel, by decide +kernel⟩, List.mem_of_getElem? (i := 157) (by decide +kernel), List.mem_of_getElem? (i := 420) (by decide +kernel), List.mem_of_getElem? (i := 421) (by decide +kernel)⟩
theorem lw_p4 : lw_okq (⟨"LeftProfile$Scene", "isAsTold", "(I)Z"⟩, 3) := ⟨⟨by decide +kernel, by decide +kernel⟩, List.mem_of_getElem? (i := 37) (by decide +kernel), List.mem_of_getElem? (i := 452) (by decide +kernel), List.mem_of_getElem? (i := 453) (by decide +kernel)⟩
theorem lw_p5 : lw_okq (⟨"LeftProfile", "mixedCourtiers", "(J)J"⟩, 7) := ⟨⟨by decide +kernel, by decide +kernel⟩, List.mem_of_getElem? (i := 14) (by decide +kernel), List.mem_of_getElem? (i := 506) (by decide +kernel), List.mem_of_getElem? (i := 507) (by decide +kernel)⟩
theorem lw_p6 : lw_okq (⟨"LeftProfileModel", "readHall", "()V"⟩, 31) := ⟨⟨by decide +kernel, by decide +kernel⟩, List.mem_of_getElem? (i := 517) (by decide +kernel), List.mem_of_getElem? (i := 633) (by decide +kernel), List.mem_of_getElem? (i := 634) (by decide +kernel)⟩
theorem lw_p7 : lw_okq (⟨"LeftProfileModel", "onNow", "(I)I"⟩, 31) := ⟨⟨by decide +kernel, by decide +kernel⟩, List.mem_of_getElem? (i := 517) (by decide +kernel), List.mem_of_getElem? (i := 651) (by decide +kernel), List.mem_of_getElem? (i := 652) (by decide +kernel)⟩
theorem lw_p8 : lw_okq (⟨"LeftProfileModel", "whoOn", "(I)I"⟩, 31) := ⟨⟨by decide +kernel, by decide +kernel⟩, List.mem_of_getElem? (i := 517) (by decide +kernel), List.mem_of_getElem? (i := 658) (by decide +kernel), List.mem_of_getElem? (i := 659) (by decide +kernel)⟩
theorem lw_p9 : lw_okq (⟨"LeftProfileModel", "isEmpty", "(I)Z"⟩, 31) := ⟨⟨by decide +kernel, by decide +kernel⟩, List.mem_of_getElem? (i := 517) (by decide +kernel), List.mem_of_getElem? (i := 666) (by decide +kernel), List.mem_of_getElem? (i := 667) (by decide +kernel)⟩
theorem lw_p10 : lw_okq (⟨"LeftProfileModel", "lay", "(II)V"⟩, 31) := ⟨⟨by decide +kernel, by decide +kernel⟩, List.mem_of_getElem? (i := 517) (by decide +kernel), List.mem_of_getElem? (i := 674) (by decide +kernel), List.mem_of_getElem? (i := 675) (by decide +kernel)⟩
theorem lw_p11 : lw_okq (⟨"LeftProfileModel", "isCourtier", "(I)Z"⟩, 31) := ⟨⟨by decide +kernel, by decide +kernel⟩, List.mem_of_getElem? (i := 517) (by decide +kernel), List.mem_of_getElem? (i := 682) (by decide +kernel), List.mem_of_getElem? (i := 683) (by decide +kernel)⟩
theorem lw_p12 : lw_okq (⟨"LeftProfileModel", "courtierNow", "(II)I"⟩, 31) := ⟨⟨by decide +kernel, by decide +kernel⟩, List.mem_of_getElem? (i := 517) (by decide +kernel), List.mem_of_getElem? (i := 686) (by decide +kernel), List.mem_of_getElem? (i := 687) (by decide +kernel)⟩
theorem lw_p13 : lw_okq (⟨"LeftProfileModel", "seesNow", "(I)I"⟩, 31) := ⟨⟨by decide +kernel, by decide +kernel⟩, List.mem_of_getElem? (i := 517) (by decide +kernel), List.mem_of_getElem? (i := 690) (by decide +kernel), List.mem_of_getElem? (i := 691) (by decide +kernel)⟩
theorem lw_p14 : lw_okq (⟨"LeftProfileModel", "isClear", "(IIZ)Z"⟩, 31) := ⟨⟨by decide +kernel, by decide +kernel⟩, List.mem_of_getElem? (i := 517) (by decide +kernel), List.mem_of_getElem? (i := 706) (by decide +kernel), List.mem_of_getElem? (i := 707) (by decide +kernel)⟩
theorem lw_p15 : lw_okq (⟨"LeftProfileModel", "isGuilty", "(I)Z"⟩, 31) := ⟨⟨by decide +kernel, by decide +kernel⟩, List.mem_of_getElem? (i := 517) (by decide +kernel), List.mem_of_getElem? (i := 710) (by decide +kernel), List.mem_of_getElem? (i := 711) (by decide +kernel)⟩
def lw_privs_1 : List (MethodName × Nat) := [(⟨"LeftProfile$Sight", "follow", "(II)V"⟩, 2), (⟨"LeftProfile$Page", "fits", "(I)Z"⟩, 2), (⟨"LeftProfile$Scene", "seenIf", "(III)I"⟩, 3), (⟨"LeftProfile$Route", "reach", "(III)V"⟩, 4), (⟨"LeftProfile$Scene", "isAsTold", "(I)Z"⟩, 3), (⟨"LeftProfile", "mixedCourtiers", "(J)J"⟩, 7), (⟨"LeftProfileModel", "readHall", "()V"⟩, 31), (⟨"LeftProfileModel", "onNow", "(I)I"⟩, 31), (⟨"LeftProfileModel", "whoOn", "(I)I"⟩, 31), (⟨"LeftProfileModel", "isEmpty", "(I)Z"⟩, 31), (⟨"LeftProfileModel", "lay", "(II)V"⟩, 31), (⟨"LeftProfileModel", "isCourtier", "(I)Z"⟩, 31), (⟨"LeftProfileModel", "courtierNow", "(II)I"⟩, 31), (⟨"LeftProfileModel", "seesNow", "(I)I"⟩, 31), (⟨"LeftProfileModel", "isClear", "(IIZ)Z"⟩, 31), (⟨"LeftProfileModel", "isGuilty", "(I)Z"⟩, 31)]
theorem lw_r1 : ∀ q ∈ lw_privs_1, lw_okq q := List.forall_mem_cons.mpr ⟨lw_p0, List.forall_mem_cons.mpr ⟨lw_p1, List.forall_mem_cons.mpr ⟨lw_p2, List.forall_mem_cons.mpr ⟨lw_p3, List.forall_mem_cons.mpr ⟨lw_p4, List.forall_mem_cons.mpr ⟨lw_p5, List.forall_mem_cons.mpr ⟨lw_p6, List.forall_mem_cons.mpr ⟨lw_p7, List.forall_mem_cons.mpr ⟨lw_p8, List.forall_mem_cons.mpr ⟨lw_p9, List.forall_mem_cons.mpr ⟨lw_p10, List.forall_mem_cons.mpr ⟨lw_p11, List.forall_mem_cons.mpr ⟨lw_p12, List.forall_mem_cons.mpr ⟨lw_p13, List.forall_mem_cons.mpr ⟨lw_p14, List.forall_mem_cons.mpr ⟨lw_p15, fun _ h => absurd h List.not_mem_nil⟩⟩⟩⟩⟩⟩⟩⟩⟩⟩⟩⟩⟩⟩⟩⟩
theorem lw_p16 : lw_okq (⟨"LeftProfileModel", "mayAct", "(I)Z"⟩, 31) := ⟨⟨by decide +kernel, by decide +kernel⟩, List.mem_of_getElem? (i := 517) (by decide +kernel), List.mem_of_getElem? (i := 726) (by decide +kernel), List.mem_of_getElem? (i := 727) (by decide +kernel)⟩
theorem lw_p17 : lw_okq (⟨"LeftProfileModel", "doAct", "(I)V"⟩, 31) := ⟨⟨by decide +kernel, by decide +kernel⟩, List.mem_of_getElem? (i := 517) (by decide +kernel), List.mem_of_getElem? (i := 733) (by decide +kernel), List.mem_of_getElem? (i := 734) (by decide +kernel)⟩
theorem lw_p18 : lw_okq (⟨"LeftProfileModel", "guiltySet", "()I"⟩, 31) := ⟨⟨by decide +kernel, by decide +kernel⟩, List.mem_of_getElem? (i := 517) (by decide +kernel), List.mem_of_getElem? (i := 737) (by decide +kernel), List.mem_of_getElem? (i := 738) (by decide +kernel)⟩
theorem lw_p19 : lw_okq (⟨"LeftProfileModel", "roomNow", "(II)I"⟩, 31) := ⟨⟨by decide +kernel, by decide +kernel⟩, List.mem_of_getElem? (i := 517) (by decide +kernel), List.mem_of_getElem? (i := 749) (by decide +kernel), List.mem_of_getElem? (i := 750) (by decide +kernel)⟩
theorem lw_p20 : lw_okq (⟨"LeftProfileModel", "findRoom", "(I)Z"⟩, 31) := ⟨⟨by decide +kernel, by decide +kernel⟩, List.mem_of_getElem? (i := 517) (by decide +kernel), List.mem_of_getElem? (i := 753) (by decide +kernel), List.mem_of_getElem? (i := 754) (by decide +kernel)⟩
theorem lw_p21 : lw_okq (⟨"LeftProfileModel", "isRoom", "(I)Z"⟩, 31) := ⟨⟨by decide +kernel, by decide +kernel⟩, List.mem_of_getElem? (i := 517) (by decide +kernel), List.mem_of_getElem? (i := 757) (by decide +kernel), List.mem_of_getElem? (i := 758) (by decide +kernel)⟩
theorem lw_p22 : lw_okq (⟨"LeftProfileModel", "isGuiltyAt", "(III)Z"⟩, 31) := ⟨⟨by decide +kernel, by decide +kernel⟩, List.mem_of_getElem? (i := 517) (by decide +kernel), List.mem_of_getElem? (i := 761) (by decide +kernel), List.mem_of_getElem? (i := 762) (by decide +kernel)⟩
theorem lw_p23 : lw_okq (⟨"LeftProfileModel", "isMore", "(II)Z"⟩, 31) := ⟨⟨by decide +kernel, by decide +kernel⟩, List.mem_of_getElem? (i := 517) (by decide +kernel), List.mem_of_getElem? (i := 765) (by decide +kernel), List.mem_of_getElem? (i := 766) (by decide +kernel)⟩
theorem lw_p24 : lw_okq (⟨"LeftProfileModel", "brickNow", "(I)I"⟩, 31) := ⟨⟨by decide +kernel, by decide +kernel⟩, List.mem_of_getElem? (i := 517) (by decide +kernel), List.mem_of_getElem? (i := 773) (by decide +kernel), List.mem_of_getElem? (i := 774) (by decide +kernel)⟩
theorem lw_p25 : lw_okq (⟨"LeftProfileModel", "wayNow", "(II)I"⟩, 31) := ⟨⟨by decide +kernel, by decide +kernel⟩, List.mem_of_getElem? (i := 517) (by decide +kernel), List.mem_of_getElem? (i := 781) (by decide +kernel), List.mem_of_getElem? (i := 782) (by decide +kernel)⟩
theorem lw_p26 : lw_okq (⟨"LeftProfileModel", "actsFrom", "(II)I"⟩, 31) := ⟨⟨by decide +kernel, by decide +kernel⟩, List.mem_of_getElem? (i := 517) (by decide +kernel), List.mem_of_getElem? (i := 785) (by decide +kernel), List.mem_of_getElem? (i := 786) (by decide +kernel)⟩
theorem lw_p27 : lw_okq (⟨"LeftProfileModel", "stoodNow", "(I)I"⟩, 31) := ⟨⟨by decide +kernel, by decide +kernel⟩, List.mem_of_getElem? (i := 517) (by decide +kernel), List.mem_of_getElem? (i := 797) (by decide +kernel), List.mem_of_getElem? (i := 798) (by decide +kernel)⟩
theorem lw_p28 : lw_okq (⟨"LeftProfileModel", "isToldSo", "()Z"⟩, 31) := ⟨⟨by decide +kernel, by decide +kernel⟩, List.mem_of_getElem? (i := 517) (by decide +kernel), List.mem_of_getElem? (i := 801) (by decide +kernel), List.mem_of_getElem? (i := 802) (by decide +kernel)⟩
theorem lw_p29 : lw_okq (⟨"LeftProfileModel", "walkNow", "(III)I"⟩, 31) := ⟨⟨by decide +kernel, by decide +kernel⟩, List.mem_of_getElem? (i := 517) (by decide +kernel), List.mem_of_getElem? (i := 812) (by decide +kernel), List.mem_of_getElem? (i := 813) (by decide +kernel)⟩
theorem lw_p30 : lw_okq (⟨"LeftProfileModel", "draw", "(I)I"⟩, 31) := ⟨⟨by decide +kernel, by decide +kernel⟩, List.mem_of_getElem? (i := 517) (by decide +kernel), List.mem_of_getElem? (i := 816) (by decide +kernel), List.mem_of_getElem? (i := 817) (by decide +kernel)⟩
theorem lw_p31 : lw_okq (⟨"LeftProfileModel", "howMany", "(I)I"⟩, 31) := ⟨⟨by decide +kernel, by decide +kernel⟩, List.mem_of_getElem? (i := 517) (by decide +kernel), List.mem_of_getElem? (i := 836) (by decide +kernel), List.mem_of_getElem? (i := 837) (by decide +kernel)⟩
def lw_privs_2 : List (MethodName × Nat) := [(⟨"LeftProfileModel", "mayAct", "(I)Z"⟩, 31), (⟨"LeftProfileModel", "doAct", "(I)V"⟩, 31), (⟨"LeftProfileModel", "guiltySet", "()I"⟩, 31), (⟨"LeftProfileModel", "roomNow", "(II)I"⟩, 31), (⟨"LeftProfileModel", "findRoom", "(I)Z"⟩, 31), (⟨"LeftProfileModel", "isRoom", "(I)Z"⟩, 31), (⟨"LeftProfileModel", "isGuiltyAt", "(III)Z"⟩, 31), (⟨"LeftProfileModel", "isMore", "(II)Z"⟩, 31), (⟨"LeftProfileModel", "brickNow", "(I)I"⟩, 31), (⟨"LeftProfileModel", "wayNow", "(II)I"⟩, 31), (⟨"LeftProfileModel", "actsFrom", "(II)I"⟩, 31), (⟨"LeftProfileModel", "stoodNow", "(I)I"⟩, 31), (⟨"LeftProfileModel", "isToldSo", "()Z"⟩, 31), (⟨"LeftProfileModel", "walkNow", "(III)I"⟩, 31), (⟨"LeftProfileModel", "draw", "(I)I"⟩, 31), (⟨"LeftProfileModel", "howMany", "(I)I"⟩, 31)]
theorem lw_r2 : ∀ q ∈ lw_privs_2, lw_okq q := List.forall_mem_cons.mpr ⟨lw_p16, List.forall_mem_cons.mpr ⟨lw_p17, List.forall_mem_cons.mpr ⟨lw_p18, List.forall_mem_cons.mpr ⟨lw_p19, List.forall_mem_cons.mpr ⟨lw_p20, List.forall_mem_cons.mpr ⟨lw_p21, List.forall_mem_cons.mpr ⟨lw_p22, List.forall_mem_cons.mpr ⟨lw_p23, List.forall_mem_cons.mpr ⟨lw_p24, List.forall_mem_cons.mpr ⟨lw_p25, List.forall_mem_cons.mpr ⟨lw_p26, List.forall_mem_cons.mpr ⟨lw_p27, List.forall_mem_cons.mpr ⟨lw_p28, List.forall_mem_cons.mpr ⟨lw_p29, List.forall_mem_cons.mpr ⟨lw_p30, List.forall_mem_cons.mpr ⟨lw_p31, fun _ h => absurd h List.not_mem_nil⟩⟩⟩⟩⟩⟩⟩⟩⟩⟩⟩⟩⟩⟩⟩⟩
theorem lw_p32 : lw_okq (⟨"LeftProfileModel", "toldMany", "()I"⟩, 31) := ⟨⟨by decide +kernel, by decide +kernel⟩, List.mem_of_getElem? (i := 517) (by decide +kernel), List.mem_of_getElem? (i := 840) (by decide +kernel), List.mem_of_getElem? (i := 841) (by decide +kernel)⟩
theorem lw_p33 : lw_okq (⟨"LeftProfileModel", "mix", "(J)V"⟩, 31) := ⟨⟨by decide +kernel, by decide +kernel⟩, List.mem_of_getElem? (i := 517) (by decide +kernel), List.mem_of_getElem? (i := 849) (by decide +kernel), List.mem_of_getElem? (i := 850) (by decide +kernel)⟩
def lw_privs_3 : List (MethodName × Nat) := [(⟨"LeftProfileModel", "toldMany", "()I"⟩, 31), (⟨"LeftProfileModel", "mix", "(J)V"⟩, 31)]
theorem lw_r3 : ∀ q ∈ lw_privs_3, lw_okq q := List.forall_mem_cons.mpr ⟨lw_p32, List.forall_mem_cons.mpr ⟨lw_p33, fun _ h => absurd h List.not_mem_nil⟩⟩
def lw_privs : List (MethodName × Nat) := lw_privs_1 ++ (lw_privs_2 ++ (lw_privs_3))
def lw_tbl : List Cond := k2_sels lw_privs ++ tables_1
theorem lw_privs_ok : ∀ q ∈ lw_privs, lw_okq q := by
  show ∀ q ∈ lw_privs_1 ++ (lw_privs_2 ++ (lw_privs_3)), lw_okq q
  exact List.forall_mem_append.mpr ⟨lw_r1, List.forall_mem_append.mpr ⟨lw_r2, lw_r3⟩⟩
-- ===== end of PART A; then your names; then what follows =====
/-! ===== BEGIN words of one list among another's, by their places ===== -/
theorem goodIn_r {big : List Cond} (ws : List Cond) (ps : List Nat) (hp : ws = ps.filterMap (fun i => big[i]?)) (h : ws.all goodWord = true) : GoodIn big ws := by
  intro w hw
  have h1 := List.all_eq_true.mp h w hw
  rw [hp] at hw
  obtain ⟨i, -, hi⟩ := List.mem_filterMap.mp hw
  have hm : w ∈ big := by first | exact List.mem_of_getElem? hi | exact List.getElem?_mem hi
  exact ⟨hm, good_of_word h1⟩
theorem goodIn_app {big a b : List Cond} (ha : GoodIn big a) (hb : GoodIn big b) : GoodIn big (a ++ b) := fun w h => (List.mem_append.mp h).elim (ha w) (hb w)
theorem goodIn_ca {big a b : List Cond} {c : Cond} (ha : GoodIn big (c :: a)) (hb : GoodIn big b) : GoodIn big (c :: (a ++ b)) := fun w h => (List.mem_cons.mp h).elim (fun e => ha w (List.mem_cons.mpr (Or.inl e))) (fun h => (List.mem_append.mp h).elim (fun h => ha w (List.mem_cons.mpr (Or.inr h))) (hb w))
theorem goodIn_sub {big ws : List Cond} (hm : ∀ w ∈ ws, w ∈ big) (h : ws.all goodWord = true) : GoodIn big ws := fun w hw => ⟨hm w hw, good_of_word (List.all_eq_true.mp h w hw)⟩
/-! ===== END ===== -/

/-! ===== BEGIN printed: names, fields, word lists, decode rows ===== -/
def RX0 : String := "LeftProfile$Court"
def TX0 : u_T := fun k => match k with
  | 0 => ("LeftProfile$Court", "stance", "I", false)
  | 1 => ("LeftProfile$Court", "acts", "I", false)
  | 2 => ("LeftProfile$Court", "size", "I", false)
  | 3 => ("LeftProfile$Court", "kinds", "[I", true)
  | 4 => ("LeftProfile$Court", "places", "[I", true)
  | 5 => ("LeftProfile$Court", "sawLeft", "[I", true)
  | 6 => ("LeftProfile$Court", "sawRight", "[I", true)
  | _ => ("LeftProfile$Court", "told", "[I", true)
def tyX0 : Nat → FieldType := fun k => match k with
  | 0 => .int
  | 1 => .int
  | 2 => .int
  | 3 => .array .int
  | 4 => .array .int
  | 5 => .array .int
  | 6 => .array .int
  | _ => .array .int
abbrev wsX00 : List Cond := u_ws RX0 TX0 8
theorem nmX0 : ∀ a, a < 8 → ∀ b, b < 8 → a ≠ b → (TX0 a).2.1 ≠ (TX0 b).2.1 := by decide +kernel
theorem tyX0_ok : ∀ k, k < 8 → parseFieldDescriptor (TX0 k).2.2.1 = some (tyX0 k) := by decide +kernel
abbrev cX0_init : ByteArray := prog_2_method_1_code
def yX0_init : MethodName := ⟨RX0, "<init>", "()V"⟩
abbrev cX0_has : ByteArray := prog_2_method_2_code
def yX0_has : MethodName := ⟨RX0, "has", "(I)Z"⟩
abbrev cX0_leave : ByteArray := prog_2_method_3_code
def yX0_leave : MethodName := ⟨RX0, "leave", "()V"⟩
abbrev cX0_join : ByteArray := prog_2_method_4_code
def yX0_join : MethodName := ⟨RX0, "join", "(II)I"⟩
abbrev cX0_takeFrom : ByteArray := prog_2_method_5_code
def yX0_takeFrom : MethodName := ⟨RX0, "takeFrom", "(LLeftProfile$Court;)V"⟩
abbrev cX0_people : ByteArray := prog_2_method_6_code
def yX0_people : MethodName := ⟨RX0, "people", "()I"⟩
abbrev cX0_whoIsOn : ByteArray := prog_2_method_7_code
def yX0_whoIsOn : MethodName := ⟨RX0, "whoIsOn", "(I)I"⟩
abbrev cX0_howManyTold : ByteArray := prog_2_method_8_code
def yX0_howManyTold : MethodName := ⟨RX0, "howManyTold", "()I"⟩
abbrev cX0_look : ByteArray := prog_2_method_9_code
def yX0_look : MethodName := ⟨RX0, "look", "(II)V"⟩
def RX1 : String := "LeftProfile$Hall"
def TX1 : u_T := fun k => match k with
  | 0 => ("LeftProfile$Hall", "walls", "I", false)
  | 1 => ("LeftProfile$Hall", "floors", "I", false)
  | _ => ("LeftProfile$Hall", "readings", "I", false)
def tyX1 : Nat → FieldType := fun k => match k with
  | 0 => .int
  | 1 => .int
  | _ => .int
abbrev wsX10 : List Cond := u_ws RX1 TX1 3
theorem nmX1 : ∀ a, a < 3 → ∀ b, b < 3 → a ≠ b → (TX1 a).2.1 ≠ (TX1 b).2.1 := by decide +kernel
theorem tyX1_ok : ∀ k, k < 3 → parseFieldDescriptor (TX1 k).2.2.1 = some (tyX1 k) := by decide +kernel
abbrev cX1_init : ByteArray := prog_3_method_1_code
def yX1_init : MethodName := ⟨RX1, "<init>", "()V"⟩
abbrev cX1_isMissing : ByteArray := prog_3_method_2_code
def yX1_isMissing : MethodName := ⟨RX1, "isMissing", "()Z"⟩
abbrev cX1_read : ByteArray := prog_3_method_3_code
def yX1_read : MethodName := ⟨RX1, "read", "(LLeftProfile$Page;)V"⟩
def RX2 : String := "LeftProfile$Page"
def TX2 : u_T := fun k => match k with
  | 0 => ("LeftProfile$Page", "codes", "[I", true)
  | _ => ("LeftProfile$Page", "size", "I", false)
def tyX2 : Nat → FieldType := fun k => match k with
  | 0 => .array .int
  | _ => .int
abbrev wsX20 : List Cond := u_ws RX2 TX2 2
theorem nmX2 : ∀ a, a < 2 → ∀ b, b < 2 → a ≠ b → (TX2 a).2.1 ≠ (TX2 b).2.1 := by decide +kernel
theorem tyX2_ok : ∀ k, k < 2 → parseFieldDescriptor (TX2 k).2.2.1 = some (tyX2 k) := by decide +kernel
abbrev cX2_init : ByteArray := prog_4_method_1_code
def yX2_init : MethodName := ⟨RX2, "<init>", "()V"⟩
abbrev cX2_add : ByteArray := prog_4_method_2_code
def yX2_add : MethodName := ⟨RX2, "add", "(I)I"⟩
abbrev cX2_clear : ByteArray := prog_4_method_3_code
def yX2_clear : MethodName := ⟨RX2, "clear", "()I"⟩
abbrev cX2_codeAt : ByteArray := prog_4_method_4_code
def yX2_codeAt : MethodName := ⟨RX2, "codeAt", "(I)I"⟩
abbrev cX2_firstFault : ByteArray := prog_4_method_5_code
def yX2_firstFault : MethodName := ⟨RX2, "firstFault", "()I"⟩
abbrev cX2_isHall : ByteArray := prog_4_method_6_code
def yX2_isHall : MethodName := ⟨RX2, "isHall", "()Z"⟩
abbrev cX2_isWall : ByteArray := prog_4_method_7_code
def yX2_isWall : MethodName := ⟨RX2, "isWall", "(I)Z"⟩
abbrev cX2_fits : ByteArray := prog_4_method_8_code
def yX2_fits : MethodName := ⟨RX2, "fits", "(I)Z"⟩
def RX3 : String := "LeftProfile$Route"
def TX3 : u_T := fun k => match k with
  | 0 => ("LeftProfile$Route", "queue", "[I", true)
  | 1 => ("LeftProfile$Route", "lengths", "[I", true)
  | 2 => ("LeftProfile$Route", "firsts", "[I", true)
  | _ => ("LeftProfile$Route", "queued", "I", false)
def tyX3 : Nat → FieldType := fun k => match k with
  | 0 => .array .int
  | 1 => .array .int
  | 2 => .array .int
  | _ => .int
abbrev wsX30 : List Cond := u_ws RX3 TX3 4
theorem nmX3 : ∀ a, a < 4 → ∀ b, b < 4 → a ≠ b → (TX3 a).2.1 ≠ (TX3 b).2.1 := by decide +kernel
theorem tyX3_ok : ∀ k, k < 4 → parseFieldDescriptor (TX3 k).2.2.1 = some (tyX3 k) := by decide +kernel
abbrev cX3_init : ByteArray := prog_5_method_1_code
def yX3_init : MethodName := ⟨RX3, "<init>", "()V"⟩
abbrev cX3_find : ByteArray := prog_5_method_2_code
def yX3_find : MethodName := ⟨RX3, "find", "(LLeftProfile$Scene;II)I"⟩
abbrev cX3_lengthTo : ByteArray := prog_5_method_3_code
def yX3_lengthTo : MethodName := ⟨RX3, "lengthTo", "(I)I"⟩
abbrev cX3_firstTo : ByteArray := prog_5_method_4_code
def yX3_firstTo : MethodName := ⟨RX3, "firstTo", "(I)I"⟩
abbrev cX3_reach : ByteArray := prog_5_method_5_code
def yX3_reach : MethodName := ⟨RX3, "reach", "(III)V"⟩
abbrev cX3_isStance : ByteArray := prog_5_method_6_code
def yX3_isStance : MethodName := ⟨RX3, "isStance", "(I)Z"⟩
def RX4 : String := "LeftProfile$Scene"
def TX4 : u_T := fun k => match k with
  | 0 => ("LeftProfile$Scene", "hall", "LLeftProfile$Hall;", true)
  | 1 => ("LeftProfile$Scene", "court", "LLeftProfile$Court;", true)
  | _ => ("LeftProfile$Scene", "sight", "LLeftProfile$Sight;", true)
def tyX4 : Nat → FieldType := fun k => match k with
  | 0 => .object "LeftProfile$Hall"
  | 1 => .object "LeftProfile$Court"
  | _ => .object "LeftProfile$Sight"
abbrev wsX40 : List Cond := u_ws RX4 TX4 3
theorem nmX4 : ∀ a, a < 3 → ∀ b, b < 3 → a ≠ b → (TX4 a).2.1 ≠ (TX4 b).2.1 := by decide +kernel
theorem tyX4_ok : ∀ k, k < 3 → parseFieldDescriptor (TX4 k).2.2.1 = some (tyX4 k) := by decide +kernel
abbrev cX4_init : ByteArray := prog_6_method_1_code
def yX4_init : MethodName := ⟨RX4, "<init>", "()V"⟩
abbrev cX4_taken : ByteArray := prog_6_method_2_code
def yX4_taken : MethodName := ⟨RX4, "taken", "()I"⟩
abbrev cX4_seenBy : ByteArray := prog_6_method_3_code
def yX4_seenBy : MethodName := ⟨RX4, "seenBy", "(I)I"⟩
abbrev cX4_seenIf : ByteArray := prog_6_method_4_code
def yX4_seenIf : MethodName := ⟨RX4, "seenIf", "(III)I"⟩
abbrev cX4_everybodyLooks : ByteArray := prog_6_method_5_code
def yX4_everybodyLooks : MethodName := ⟨RX4, "everybodyLooks", "()V"⟩
abbrev cX4_guiltyIf : ByteArray := prog_6_method_6_code
def yX4_guiltyIf : MethodName := ⟨RX4, "guiltyIf", "(II)I"⟩
abbrev cX4_after : ByteArray := prog_6_method_7_code
def yX4_after : MethodName := ⟨RX4, "after", "(II)I"⟩
abbrev cX4_roomFor : ByteArray := prog_6_method_8_code
def yX4_roomFor : MethodName := ⟨RX4, "roomFor", "(I)I"⟩
abbrev cX4_bestBrick : ByteArray := prog_6_method_9_code
def yX4_bestBrick : MethodName := ⟨RX4, "bestBrick", "()I"⟩
abbrev cX4_whereHeStood : ByteArray := prog_6_method_10_code
def yX4_whereHeStood : MethodName := ⟨RX4, "whereHeStood", "(I)I"⟩
abbrev cX4_isAsTold : ByteArray := prog_6_method_11_code
def yX4_isAsTold : MethodName := ⟨RX4, "isAsTold", "(I)Z"⟩
abbrev cX4_afterWalk : ByteArray := prog_6_method_12_code
def yX4_afterWalk : MethodName := ⟨RX4, "afterWalk", "(III)I"⟩
abbrev cX4_nextSeed : ByteArray := prog_6_method_13_code
def yX4_nextSeed : MethodName := ⟨RX4, "nextSeed", "(I)I"⟩
def RX5 : String := "LeftProfile$Sight"
def TX5 : u_T := fun k => match k with
  | 0 => ("LeftProfile$Sight", "ways", "[I", true)
  | _ => ("LeftProfile$Sight", "between", "[I", true)
def tyX5 : Nat → FieldType := fun k => match k with
  | 0 => .array .int
  | _ => .array .int
abbrev wsX50 : List Cond := u_ws RX5 TX5 2
theorem nmX5 : ∀ a, a < 2 → ∀ b, b < 2 → a ≠ b → (TX5 a).2.1 ≠ (TX5 b).2.1 := by decide +kernel
theorem tyX5_ok : ∀ k, k < 2 → parseFieldDescriptor (TX5 k).2.2.1 = some (tyX5 k) := by decide +kernel
abbrev cX5_init : ByteArray := prog_7_method_1_code
def yX5_init : MethodName := ⟨RX5, "<init>", "()V"⟩
abbrev cX5_follow : ByteArray := prog_7_method_2_code
def yX5_follow : MethodName := ⟨RX5, "follow", "(II)V"⟩
abbrev cX5_seen : ByteArray := prog_7_method_3_code
def yX5_seen : MethodName := ⟨RX5, "seen", "(IIIII)I"⟩
abbrev cX5_isGuilty : ByteArray := prog_7_method_4_code
def yX5_isGuilty : MethodName := ⟨RX5, "isGuilty", "(IIIII)Z"⟩
abbrev cX5_isBarred : ByteArray := prog_7_method_5_code
def yX5_isBarred : MethodName := ⟨RX5, "isBarred", "(IIII)Z"⟩
abbrev cX5_cheekFrom : ByteArray := prog_7_method_6_code
def yX5_cheekFrom : MethodName := ⟨RX5, "cheekFrom", "(I)I"⟩
def RX6 : String := "LeftProfile"
def TX6 : u_T := fun k => match k with
  | 0 => ("LeftProfile", "page", "LLeftProfile$Page;", true)
  | 1 => ("LeftProfile", "scene", "LLeftProfile$Scene;", true)
  | 2 => ("LeftProfile", "hall", "LLeftProfile$Hall;", true)
  | 3 => ("LeftProfile", "court", "LLeftProfile$Court;", true)
  | 4 => ("LeftProfile", "kept", "LLeftProfile$Court;", true)
  | 5 => ("LeftProfile", "route", "LLeftProfile$Route;", true)
  | _ => ("LeftProfile", "keptReading", "I", false)
def tyX6 : Nat → FieldType := fun k => match k with
  | 0 => .object "LeftProfile$Page"
  | 1 => .object "LeftProfile$Scene"
  | 2 => .object "LeftProfile$Hall"
  | 3 => .object "LeftProfile$Court"
  | 4 => .object "LeftProfile$Court"
  | 5 => .object "LeftProfile$Route"
  | _ => .int
abbrev wsX60 : List Cond := u_ws RX6 TX6 7
theorem nmX6 : ∀ a, a < 7 → ∀ b, b < 7 → a ≠ b → (TX6 a).2.1 ≠ (TX6 b).2.1 := by decide +kernel
theorem tyX6_ok : ∀ k, k < 7 → parseFieldDescriptor (TX6 k).2.2.1 = some (tyX6 k) := by decide +kernel
abbrev cX6_init : ByteArray := prog_1_method_1_code
def yX6_init : MethodName := ⟨RX6, "<init>", "()V"⟩
abbrev cX6_letter : ByteArray := prog_1_method_2_code
def yX6_letter : MethodName := ⟨RX6, "letter", "(I)I"⟩
abbrev cX6_blank : ByteArray := prog_1_method_3_code
def yX6_blank : MethodName := ⟨RX6, "blank", "()I"⟩
abbrev cX6_fault : ByteArray := prog_1_method_4_code
def yX6_fault : MethodName := ⟨RX6, "fault", "()I"⟩
abbrev cX6_hall : ByteArray := prog_1_method_5_code
def yX6_hall : MethodName := ⟨RX6, "hall", "()I"⟩
abbrev cX6_on : ByteArray := prog_1_method_6_code
def yX6_on : MethodName := ⟨RX6, "on", "(I)I"⟩
abbrev cX6_duke : ByteArray := prog_1_method_7_code
def yX6_duke : MethodName := ⟨RX6, "duke", "(II)I"⟩
abbrev cX6_courtier : ByteArray := prog_1_method_8_code
def yX6_courtier : MethodName := ⟨RX6, "courtier", "(II)I"⟩
abbrev cX6_about : ByteArray := prog_1_method_9_code
def yX6_about : MethodName := ⟨RX6, "about", "(II)I"⟩
abbrev cX6_as : ByteArray := prog_1_method_10_code
def yX6_as : MethodName := ⟨RX6, "as", "(II)I"⟩
abbrev cX6_go : ByteArray := prog_1_method_11_code
def yX6_go : MethodName := ⟨RX6, "go", "(II)I"⟩
abbrev cX6_act : ByteArray := prog_1_method_12_code
def yX6_act : MethodName := ⟨RX6, "act", "(I)I"⟩
abbrev cX6_guilty : ByteArray := prog_1_method_13_code
def yX6_guilty : MethodName := ⟨RX6, "guilty", "()I"⟩
abbrev cX6_room : ByteArray := prog_1_method_14_code
def yX6_room : MethodName := ⟨RX6, "room", "(II)I"⟩
abbrev cX6_brick : ByteArray := prog_1_method_15_code
def yX6_brick : MethodName := ⟨RX6, "brick", "(I)I"⟩
abbrev cX6_way : ByteArray := prog_1_method_16_code
def yX6_way : MethodName := ⟨RX6, "way", "(II)I"⟩
abbrev cX6_told : ByteArray := prog_1_method_17_code
def yX6_told : MethodName := ⟨RX6, "told", "(II)I"⟩
abbrev cX6_stood : ByteArray := prog_1_method_18_code
def yX6_stood : MethodName := ⟨RX6, "stood", "(I)I"⟩
abbrev cX6_walk : ByteArray := prog_1_method_19_code
def yX6_walk : MethodName := ⟨RX6, "walk", "(III)I"⟩
abbrev cX6_image : ByteArray := prog_1_method_20_code
def yX6_image : MethodName := ⟨RX6, "image", "()I"⟩
abbrev cX6_restore : ByteArray := prog_1_method_21_code
def yX6_restore : MethodName := ⟨RX6, "restore", "()I"⟩
abbrev cX6_count : ByteArray := prog_1_method_22_code
def yX6_count : MethodName := ⟨RX6, "count", "(I)I"⟩
abbrev cX6_digest : ByteArray := prog_1_method_23_code
def yX6_digest : MethodName := ⟨RX6, "digest", "()J"⟩
abbrev cX6_mixedCourtiers : ByteArray := prog_1_method_24_code
def yX6_mixedCourtiers : MethodName := ⟨RX6, "mixedCourtiers", "(J)J"⟩
abbrev cX6_mixed : ByteArray := prog_1_method_25_code
def yX6_mixed : MethodName := ⟨RX6, "mixed", "(JI)J"⟩
abbrev cX6_isPlace : ByteArray := prog_1_method_26_code
def yX6_isPlace : MethodName := ⟨RX6, "isPlace", "(I)Z"⟩
abbrev cX6_isKind : ByteArray := prog_1_method_27_code
def yX6_isKind : MethodName := ⟨RX6, "isKind", "(I)Z"⟩
abbrev cX6_isOfKind : ByteArray := prog_1_method_28_code
def yX6_isOfKind : MethodName := ⟨RX6, "isOfKind", "(II)Z"⟩
abbrev cX6_bit : ByteArray := prog_1_method_29_code
def yX6_bit : MethodName := ⟨RX6, "bit", "(I)I"⟩
abbrev cX6_isOpen : ByteArray := prog_1_method_30_code
def yX6_isOpen : MethodName := ⟨RX6, "isOpen", "(II)Z"⟩
abbrev cX6_placeInSet : ByteArray := prog_1_method_31_code
def yX6_placeInSet : MethodName := ⟨RX6, "placeInSet", "(II)I"⟩
abbrev cX6_neighbour : ByteArray := prog_1_method_32_code
def yX6_neighbour : MethodName := ⟨RX6, "neighbour", "(II)I"⟩
abbrev cX6_stanceOf : ByteArray := prog_1_method_33_code
def yX6_stanceOf : MethodName := ⟨RX6, "stanceOf", "(II)I"⟩
abbrev cX6_placeOf : ByteArray := prog_1_method_34_code
def yX6_placeOf : MethodName := ⟨RX6, "placeOf", "(I)I"⟩
abbrev cX6_sideOf : ByteArray := prog_1_method_35_code
def yX6_sideOf : MethodName := ⟨RX6, "sideOf", "(I)I"⟩
def RX7 : String := "LeftProfileModel"
def TX7 : u_T := fun k => match k with
  | 0 => ("LeftProfileModel", "isHall", "Z", false)
  | 1 => ("LeftProfileModel", "halls", "I", false)
  | 2 => ("LeftProfileModel", "floor", "I", false)
  | 3 => ("LeftProfileModel", "dukeAt", "I", false)
  | 4 => ("LeftProfileModel", "dukeSide", "I", false)
  | 5 => ("LeftProfileModel", "acts", "I", false)
  | 6 => ("LeftProfileModel", "courtiers", "I", false)
  | 7 => ("LeftProfileModel", "kindOf", "[I", true)
  | 8 => ("LeftProfileModel", "placeOf", "[I", true)
  | 9 => ("LeftProfileModel", "sawLeft", "[I", true)
  | 10 => ("LeftProfileModel", "sawRight", "[I", true)
  | 11 => ("LeftProfileModel", "toldOf", "[I", true)
  | 12 => ("LeftProfileModel", "pageLength", "I", false)
  | 13 => ("LeftProfileModel", "page", "[B", true)
  | 14 => ("LeftProfileModel", "faultAt", "I", false)
  | 15 => ("LeftProfileModel", "newFloor", "I", false)
  | 16 => ("LeftProfileModel", "roomAt", "[I", true)
  | 17 => ("LeftProfileModel", "firstOf", "[I", true)
  | 18 => ("LeftProfileModel", "queue", "[I", true)
  | 19 => ("LeftProfileModel", "seedNow", "J", false)
  | 20 => ("LeftProfileModel", "isKept", "Z", false)
  | 21 => ("LeftProfileModel", "keptHall", "I", false)
  | 22 => ("LeftProfileModel", "keptMany", "I", false)
  | 23 => ("LeftProfileModel", "keptAt", "I", false)
  | 24 => ("LeftProfileModel", "keptSide", "I", false)
  | 25 => ("LeftProfileModel", "keptActs", "I", false)
  | 26 => ("LeftProfileModel", "keptPlace", "[I", true)
  | 27 => ("LeftProfileModel", "keptLeft", "[I", true)
  | 28 => ("LeftProfileModel", "keptRight", "[I", true)
  | 29 => ("LeftProfileModel", "keptTold", "[I", true)
  | _ => ("LeftProfileModel", "h", "J", false)
def tyX7 : Nat → FieldType := fun k => match k with
  | 0 => .boolean
  | 1 => .int
  | 2 => .int
  | 3 => .int
  | 4 => .int
  | 5 => .int
  | 6 => .int
  | 7 => .array .int
  | 8 => .array .int
  | 9 => .array .int
  | 10 => .array .int
  | 11 => .array .int
  | 12 => .int
  | 13 => .array .byte
  | 14 => .int
  | 15 => .int
  | 16 => .array .int
  | 17 => .array .int
  | 18 => .array .int
  | 19 => .long
  | 20 => .boolean
  | 21 => .int
  | 22 => .int
  | 23 => .int
  | 24 => .int
  | 25 => .int
  | 26 => .array .int
  | 27 => .array .int
  | 28 => .array .int
  | 29 => .array .int
  | _ => .long
abbrev wsX70 : List Cond := u_ws RX7 TX7 31
theorem nmX7 : ∀ a, a < 31 → ∀ b, b < 31 → a ≠ b → (TX7 a).2.1 ≠ (TX7 b).2.1 := by decide +kernel
theorem tyX7_ok : ∀ k, k < 31 → parseFieldDescriptor (TX7 k).2.2.1 = some (tyX7 k) := by decide +kernel
abbrev cX7_init : ByteArray := prog_9_method_1_code
def yX7_init : MethodName := ⟨RX7, "<init>", "()V"⟩
abbrev cX7_within : ByteArray := prog_9_method_3_code
def yX7_within : MethodName := ⟨RX7, "within", "(III)Z"⟩
abbrev cX7_has : ByteArray := prog_9_method_4_code
def yX7_has : MethodName := ⟨RX7, "has", "(II)Z"⟩
abbrev cX7_size : ByteArray := prog_9_method_5_code
def yX7_size : MethodName := ⟨RX7, "size", "(I)I"⟩
abbrev cX7_isPlace : ByteArray := prog_9_method_6_code
def yX7_isPlace : MethodName := ⟨RX7, "isPlace", "(I)Z"⟩
abbrev cX7_letter : ByteArray := prog_9_method_7_code
def yX7_letter : MethodName := ⟨RX7, "letter", "(I)I"⟩
abbrev cX7_blank : ByteArray := prog_9_method_8_code
def yX7_blank : MethodName := ⟨RX7, "blank", "()I"⟩
abbrev cX7_readHall : ByteArray := prog_9_method_9_code
def yX7_readHall : MethodName := ⟨RX7, "readHall", "()V"⟩
abbrev cX7_fault : ByteArray := prog_9_method_10_code
def yX7_fault : MethodName := ⟨RX7, "fault", "()I"⟩
abbrev cX7_hall : ByteArray := prog_9_method_11_code
def yX7_hall : MethodName := ⟨RX7, "hall", "()I"⟩
abbrev cX7_whoOn : ByteArray := prog_9_method_12_code
def yX7_whoOn : MethodName := ⟨RX7, "whoOn", "(I)I"⟩
abbrev cX7_onNow : ByteArray := prog_9_method_13_code
def yX7_onNow : MethodName := ⟨RX7, "onNow", "(I)I"⟩
abbrev cX7_on : ByteArray := prog_9_method_14_code
def yX7_on : MethodName := ⟨RX7, "on", "(I)I"⟩
abbrev cX7_isEmpty : ByteArray := prog_9_method_15_code
def yX7_isEmpty : MethodName := ⟨RX7, "isEmpty", "(I)Z"⟩
abbrev cX7_duke : ByteArray := prog_9_method_16_code
def yX7_duke : MethodName := ⟨RX7, "duke", "(II)I"⟩
abbrev cX7_courtier : ByteArray := prog_9_method_17_code
def yX7_courtier : MethodName := ⟨RX7, "courtier", "(II)I"⟩
abbrev cX7_lay : ByteArray := prog_9_method_18_code
def yX7_lay : MethodName := ⟨RX7, "lay", "(II)V"⟩
abbrev cX7_isCourtier : ByteArray := prog_9_method_19_code
def yX7_isCourtier : MethodName := ⟨RX7, "isCourtier", "(I)Z"⟩
abbrev cX7_sign : ByteArray := prog_9_method_20_code
def yX7_sign : MethodName := ⟨RX7, "sign", "(I)I"⟩
abbrev cX7_sized : ByteArray := prog_9_method_21_code
def yX7_sized : MethodName := ⟨RX7, "sized", "(I)I"⟩
abbrev cX7_wayTo : ByteArray := prog_9_method_22_code
def yX7_wayTo : MethodName := ⟨RX7, "wayTo", "(II)I"⟩
abbrev cX7_far : ByteArray := prog_9_method_23_code
def yX7_far : MethodName := ⟨RX7, "far", "(II)I"⟩
abbrev cX7_isClear : ByteArray := prog_9_method_24_code
def yX7_isClear : MethodName := ⟨RX7, "isClear", "(IIZ)Z"⟩
abbrev cX7_seesNow : ByteArray := prog_9_method_25_code
def yX7_seesNow : MethodName := ⟨RX7, "seesNow", "(I)I"⟩
abbrev cX7_isGuilty : ByteArray := prog_9_method_26_code
def yX7_isGuilty : MethodName := ⟨RX7, "isGuilty", "(I)Z"⟩
abbrev cX7_guiltySet : ByteArray := prog_9_method_27_code
def yX7_guiltySet : MethodName := ⟨RX7, "guiltySet", "()I"⟩
abbrev cX7_courtierNow : ByteArray := prog_9_method_28_code
def yX7_courtierNow : MethodName := ⟨RX7, "courtierNow", "(II)I"⟩
abbrev cX7_about : ByteArray := prog_9_method_29_code
def yX7_about : MethodName := ⟨RX7, "about", "(II)I"⟩
abbrev cX7_as : ByteArray := prog_9_method_30_code
def yX7_as : MethodName := ⟨RX7, "as", "(II)I"⟩
abbrev cX7_go : ByteArray := prog_9_method_31_code
def yX7_go : MethodName := ⟨RX7, "go", "(II)I"⟩
abbrev cX7_ahead : ByteArray := prog_9_method_32_code
def yX7_ahead : MethodName := ⟨RX7, "ahead", "(II)I"⟩
abbrev cX7_mayAct : ByteArray := prog_9_method_33_code
def yX7_mayAct : MethodName := ⟨RX7, "mayAct", "(I)Z"⟩
abbrev cX7_doAct : ByteArray := prog_9_method_34_code
def yX7_doAct : MethodName := ⟨RX7, "doAct", "(I)V"⟩
abbrev cX7_act : ByteArray := prog_9_method_35_code
def yX7_act : MethodName := ⟨RX7, "act", "(I)I"⟩
abbrev cX7_guilty : ByteArray := prog_9_method_36_code
def yX7_guilty : MethodName := ⟨RX7, "guilty", "()I"⟩
abbrev cX7_isRoom : ByteArray := prog_9_method_37_code
def yX7_isRoom : MethodName := ⟨RX7, "isRoom", "(I)Z"⟩
abbrev cX7_isMore : ByteArray := prog_9_method_38_code
def yX7_isMore : MethodName := ⟨RX7, "isMore", "(II)Z"⟩
abbrev cX7_isGuiltyAt : ByteArray := prog_9_method_39_code
def yX7_isGuiltyAt : MethodName := ⟨RX7, "isGuiltyAt", "(III)Z"⟩
abbrev cX7_findRoom : ByteArray := prog_9_method_40_code
def yX7_findRoom : MethodName := ⟨RX7, "findRoom", "(I)Z"⟩
abbrev cX7_roomNow : ByteArray := prog_9_method_41_code
def yX7_roomNow : MethodName := ⟨RX7, "roomNow", "(II)I"⟩
abbrev cX7_room : ByteArray := prog_9_method_42_code
def yX7_room : MethodName := ⟨RX7, "room", "(II)I"⟩
abbrev cX7_brickNow : ByteArray := prog_9_method_43_code
def yX7_brickNow : MethodName := ⟨RX7, "brickNow", "(I)I"⟩
abbrev cX7_brick : ByteArray := prog_9_method_44_code
def yX7_brick : MethodName := ⟨RX7, "brick", "(I)I"⟩
abbrev cX7_wayNow : ByteArray := prog_9_method_45_code
def yX7_wayNow : MethodName := ⟨RX7, "wayNow", "(II)I"⟩
abbrev cX7_actsFrom : ByteArray := prog_9_method_46_code
def yX7_actsFrom : MethodName := ⟨RX7, "actsFrom", "(II)I"⟩
abbrev cX7_way : ByteArray := prog_9_method_47_code
def yX7_way : MethodName := ⟨RX7, "way", "(II)I"⟩
abbrev cX7_told : ByteArray := prog_9_method_48_code
def yX7_told : MethodName := ⟨RX7, "told", "(II)I"⟩
abbrev cX7_isToldSo : ByteArray := prog_9_method_49_code
def yX7_isToldSo : MethodName := ⟨RX7, "isToldSo", "()Z"⟩
abbrev cX7_stoodNow : ByteArray := prog_9_method_50_code
def yX7_stoodNow : MethodName := ⟨RX7, "stoodNow", "(I)I"⟩
abbrev cX7_only : ByteArray := prog_9_method_51_code
def yX7_only : MethodName := ⟨RX7, "only", "(I)I"⟩
abbrev cX7_stood : ByteArray := prog_9_method_52_code
def yX7_stood : MethodName := ⟨RX7, "stood", "(I)I"⟩
abbrev cX7_draw : ByteArray := prog_9_method_53_code
def yX7_draw : MethodName := ⟨RX7, "draw", "(I)I"⟩
abbrev cX7_walkNow : ByteArray := prog_9_method_54_code
def yX7_walkNow : MethodName := ⟨RX7, "walkNow", "(III)I"⟩
abbrev cX7_walk : ByteArray := prog_9_method_55_code
def yX7_walk : MethodName := ⟨RX7, "walk", "(III)I"⟩
abbrev cX7_image : ByteArray := prog_9_method_56_code
def yX7_image : MethodName := ⟨RX7, "image", "()I"⟩
abbrev cX7_restore : ByteArray := prog_9_method_57_code
def yX7_restore : MethodName := ⟨RX7, "restore", "()I"⟩
abbrev cX7_toldMany : ByteArray := prog_9_method_58_code
def yX7_toldMany : MethodName := ⟨RX7, "toldMany", "()I"⟩
abbrev cX7_howMany : ByteArray := prog_9_method_59_code
def yX7_howMany : MethodName := ⟨RX7, "howMany", "(I)I"⟩
abbrev cX7_count : ByteArray := prog_9_method_60_code
def yX7_count : MethodName := ⟨RX7, "count", "(I)I"⟩
abbrev cX7_mix : ByteArray := prog_9_method_61_code
def yX7_mix : MethodName := ⟨RX7, "mix", "(J)V"⟩
abbrev cX7_digest : ByteArray := prog_9_method_62_code
def yX7_digest : MethodName := ⟨RX7, "digest", "()J"⟩
def RJ6 : String := "java/lang/Integer"
def TJ6 : u_T := fun k => match k with
  | _ => ("", "", "", false)
def tyJ6 : Nat → FieldType := fun k => match k with
  | _ => .int
abbrev wsJ60 : List Cond := u_ws RJ6 TJ6 0
theorem nmJ6 : ∀ a, a < 0 → ∀ b, b < 0 → a ≠ b → (TJ6 a).2.1 ≠ (TJ6 b).2.1 := by decide +kernel
theorem tyJ6_ok : ∀ k, k < 0 → parseFieldDescriptor (TJ6 k).2.2.1 = some (tyJ6 k) := by decide +kernel
abbrev cJ6_bitCount_0f7a4 : ByteArray := prog_10_method_49_code
def yJ6_bitCount_0f7a4 : MethodName := ⟨RJ6, "bitCount", "(I)I"⟩
def RJ9 : String := "java/lang/Math"
def TJ9 : u_T := fun k => match k with
  | _ => ("", "", "", false)
def tyJ9 : Nat → FieldType := fun k => match k with
  | _ => .int
abbrev wsJ90 : List Cond := u_ws RJ9 TJ9 0
theorem nmJ9 : ∀ a, a < 0 → ∀ b, b < 0 → a ≠ b → (TJ9 a).2.1 ≠ (TJ9 b).2.1 := by decide +kernel
theorem tyJ9_ok : ∀ k, k < 0 → parseFieldDescriptor (TJ9 k).2.2.1 = some (tyJ9 k) := by decide +kernel
abbrev cJ9_floorMod_7cf53 : ByteArray := prog_11_method_50_code
def yJ9_floorMod_7cf53 : MethodName := ⟨RJ9, "floorMod", "(II)I"⟩
def RJ10 : String := "java/lang/System"
def TJ10 : u_T := fun k => match k with
  | _ => ("", "", "", false)
def tyJ10 : Nat → FieldType := fun k => match k with
  | _ => .int
abbrev wsJ100 : List Cond := u_ws RJ10 TJ10 0
theorem nmJ10 : ∀ a, a < 0 → ∀ b, b < 0 → a ≠ b → (TJ10 a).2.1 ≠ (TJ10 b).2.1 := by decide +kernel
theorem tyJ10_ok : ∀ k, k < 0 → parseFieldDescriptor (TJ10 k).2.2.1 = some (tyJ10 k) := by decide +kernel
def RJ7 : String := "java/util/Arrays"
def TJ7 : u_T := fun k => match k with
  | _ => ("", "", "", false)
def tyJ7 : Nat → FieldType := fun k => match k with
  | _ => .int
abbrev wsJ70 : List Cond := u_ws RJ7 TJ7 0
theorem nmJ7 : ∀ a, a < 0 → ∀ b, b < 0 → a ≠ b → (TJ7 a).2.1 ≠ (TJ7 b).2.1 := by decide +kernel
theorem tyJ7_ok : ∀ k, k < 0 → parseFieldDescriptor (TJ7 k).2.2.1 = some (tyJ7 k) := by decide +kernel
abbrev cJ7_fill_53178 : ByteArray := prog_13_method_103_code
def yJ7_fill_53178 : MethodName := ⟨RJ7, "fill", "([II)V"⟩
def RL : String := "LeftProfileLaw"
abbrev cL_law : ByteArray := code
def yL_law : MethodName := ⟨RL, "law", "([I)Z"⟩
def wsX0_init : List Cond := .code yX0_init cX0_init 1 none :: ([.methodLink RX0 3 objectInit, .instanceMethod objectInit, .code objectInit ⟨#[0xb1]⟩ 1 none, .fieldLink RX0 9 "LeftProfile$Court" "stance" "I", .fieldLink RX0 15 "LeftProfile$Court" "acts" "I", .fieldLink RX0 18 "LeftProfile$Court" "size" "I", .arrayClass .int, .fieldLink RX0 21 "LeftProfile$Court" "kinds" "[I", .fieldLink RX0 25 "LeftProfile$Court" "places" "[I", .fieldLink RX0 28 "LeftProfile$Court" "sawLeft" "[I", .fieldLink RX0 31 "LeftProfile$Court" "sawRight" "[I", .fieldLink RX0 34 "LeftProfile$Court" "told" "[I"] ++ wsX00)
def wsX0_has : List Cond := .code yX0_has cX0_has 2 (some .boolean) :: ([.fieldLink RX0 18 "LeftProfile$Court" "size" "I"] ++ wsX00)
def wsX0_leave : List Cond := .code yX0_leave cX0_leave 1 none :: ([.fieldLink RX0 9 "LeftProfile$Court" "stance" "I", .fieldLink RX0 18 "LeftProfile$Court" "size" "I"] ++ wsX00)
def wsX0_join : List Cond := .code yX0_join cX0_join 4 (some .int) :: ([.fieldLink RX0 18 "LeftProfile$Court" "size" "I", .fieldLink RX0 21 "LeftProfile$Court" "kinds" "[I", .fieldLink RX0 25 "LeftProfile$Court" "places" "[I", .fieldLink RX0 28 "LeftProfile$Court" "sawLeft" "[I", .fieldLink RX0 31 "LeftProfile$Court" "sawRight" "[I", .fieldLink RX0 34 "LeftProfile$Court" "told" "[I"] ++ wsX00)
def wsX0_takeFrom : List Cond := .code yX0_takeFrom cX0_takeFrom 2 none :: ([.fieldLink RX0 9 "LeftProfile$Court" "stance" "I", .fieldLink RX0 15 "LeftProfile$Court" "acts" "I", .fieldLink RX0 18 "LeftProfile$Court" "size" "I", .fieldLink RX0 21 "LeftProfile$Court" "kinds" "[I", .methodLink RX0 37 arraycopyName, .native arraycopyName, .static arraycopyName, .initialized "java/lang/System", .fieldLink RX0 25 "LeftProfile$Court" "places" "[I", .fieldLink RX0 28 "LeftProfile$Court" "sawLeft" "[I", .fieldLink RX0 31 "LeftProfile$Court" "sawRight" "[I", .fieldLink RX0 34 "LeftProfile$Court" "told" "[I"] ++ wsX00)
def wsX6_bit : List Cond := .code yX6_bit cX6_bit 1 (some .int) :: ([])
def wsX0_people : List Cond := .code yX0_people cX0_people 3 (some .int) :: ([.fieldLink RX0 18 "LeftProfile$Court" "size" "I", .fieldLink RX0 25 "LeftProfile$Court" "places" "[I", .static yX6_bit, .initialized RX6, .code yX6_bit cX6_bit 1 (some .int)] ++ wsX00)
def wsX0_whoIsOn : List Cond := .code yX0_whoIsOn cX0_whoIsOn 3 (some .int) :: ([.fieldLink RX0 18 "LeftProfile$Court" "size" "I", .fieldLink RX0 25 "LeftProfile$Court" "places" "[I"] ++ wsX00)
def wsX0_howManyTold : List Cond := .code yX0_howManyTold cX0_howManyTold 3 (some .int) :: ([.fieldLink RX0 18 "LeftProfile$Court" "size" "I", .fieldLink RX0 34 "LeftProfile$Court" "told" "[I"] ++ wsX00)
def wsX0_look : List Cond := .code yX0_look cX0_look 3 none :: ([.fieldLink RX0 28 "LeftProfile$Court" "sawLeft" "[I", .fieldLink RX0 31 "LeftProfile$Court" "sawRight" "[I", .methodLink RX0 47 yX0_has, .instanceMethod yX0_has, .selects RX0 yX0_has yX0_has, .initialized RX0, .code yX0_has cX0_has 2 (some .boolean), .fieldLink RX0 18 "LeftProfile$Court" "size" "I"] ++ wsX00)
def wsX1_init : List Cond := .code yX1_init cX1_init 1 none :: ([.methodLink RX1 3 objectInit, .instanceMethod objectInit, .code objectInit ⟨#[0xb1]⟩ 1 none, .fieldLink RX1 9 "LeftProfile$Hall" "walls" "I", .fieldLink RX1 15 "LeftProfile$Hall" "floors" "I", .fieldLink RX1 18 "LeftProfile$Hall" "readings" "I"] ++ wsX10)
def wsX1_isMissing : List Cond := .code yX1_isMissing cX1_isMissing 1 (some .boolean) :: ([.fieldLink RX1 18 "LeftProfile$Hall" "readings" "I"] ++ wsX10)
def wsX2_codeAt : List Cond := .code yX2_codeAt cX2_codeAt 2 (some .int) :: ([.fieldLink RX2 15 "LeftProfile$Page" "size" "I", .fieldLink RX2 11 "LeftProfile$Page" "codes" "[I"] ++ wsX20)
def wsX2_isWall : List Cond := .code yX2_isWall cX2_isWall 2 (some .boolean) :: ([.methodLink RX2 27 yX2_codeAt, .instanceMethod yX2_codeAt, .selects RX2 yX2_codeAt yX2_codeAt, .initialized RX2, .code yX2_codeAt cX2_codeAt 2 (some .int), .fieldLink RX2 15 "LeftProfile$Page" "size" "I", .fieldLink RX2 11 "LeftProfile$Page" "codes" "[I"] ++ wsX20)
def wsJ6_bitCount_0f7a4 : List Cond := .code yJ6_bitCount_0f7a4 cJ6_bitCount_0f7a4 1 (some .int) :: ([.constant RJ6 265 (1431655765), .constant RJ6 266 (858993459), .constant RJ6 267 (252645135)])
def wsX1_read : List Cond := .code yX1_read cX1_read 3 none :: ([.fieldLink RX1 9 "LeftProfile$Hall" "walls" "I", .fieldLink RX1 15 "LeftProfile$Hall" "floors" "I", .fieldLink RX1 18 "LeftProfile$Hall" "readings" "I", .methodLink RX1 21 yX2_isWall, .instanceMethod yX2_isWall, .selects RX2 yX2_isWall yX2_isWall, .initialized RX2, .code yX2_isWall cX2_isWall 2 (some .boolean), .methodLink RX2 27 yX2_codeAt, .instanceMethod yX2_codeAt, .selects RX2 yX2_codeAt yX2_codeAt, .code yX2_codeAt cX2_codeAt 2 (some .int), .fieldLink RX2 15 "LeftProfile$Page" "size" "I", .fieldLink RX2 11 "LeftProfile$Page" "codes" "[I", .static yX6_bit, .initialized RX6, .code yX6_bit cX6_bit 1 (some .int), .methodLink RX1 31 yJ6_bitCount_0f7a4, .static yJ6_bitCount_0f7a4, .initialized RJ6, .code yJ6_bitCount_0f7a4 cJ6_bitCount_0f7a4 1 (some .int), .constant RJ6 265 (1431655765), .constant RJ6 266 (858993459), .constant RJ6 267 (252645135)] ++ wsX10 ++ wsX20)
def wsX2_init : List Cond := .code yX2_init cX2_init 1 none :: ([.methodLink RX2 3 objectInit, .instanceMethod objectInit, .code objectInit ⟨#[0xb1]⟩ 1 none, .arrayClass .int, .fieldLink RX2 11 "LeftProfile$Page" "codes" "[I", .fieldLink RX2 15 "LeftProfile$Page" "size" "I"] ++ wsX20)
def wsX2_add : List Cond := .code yX2_add cX2_add 2 (some .int) :: ([.fieldLink RX2 15 "LeftProfile$Page" "size" "I", .fieldLink RX2 11 "LeftProfile$Page" "codes" "[I"] ++ wsX20)
def wsX2_clear : List Cond := .code yX2_clear cX2_clear 2 (some .int) :: ([.fieldLink RX2 15 "LeftProfile$Page" "size" "I"] ++ wsX20)
def wsX2_fits : List Cond := .code yX2_fits cX2_fits 3 (some .boolean) :: ([.methodLink RX2 27 yX2_codeAt, .instanceMethod yX2_codeAt, .selects RX2 yX2_codeAt yX2_codeAt, .initialized RX2, .code yX2_codeAt cX2_codeAt 2 (some .int), .fieldLink RX2 15 "LeftProfile$Page" "size" "I", .fieldLink RX2 11 "LeftProfile$Page" "codes" "[I"] ++ wsX20)
def wsX2_firstFault : List Cond := .code yX2_firstFault cX2_firstFault 2 (some .int) :: ([.fieldLink RX2 15 "LeftProfile$Page" "size" "I", .methodLink RX2 19 yX2_fits, .instanceMethod yX2_fits, .selects RX2 yX2_fits yX2_fits, .initialized RX2, .code yX2_fits cX2_fits 3 (some .boolean), .methodLink RX2 27 yX2_codeAt, .instanceMethod yX2_codeAt, .selects RX2 yX2_codeAt yX2_codeAt, .code yX2_codeAt cX2_codeAt 2 (some .int), .fieldLink RX2 11 "LeftProfile$Page" "codes" "[I"] ++ wsX20)
def wsX2_isHall : List Cond := .code yX2_isHall cX2_isHall 1 (some .boolean) :: ([.fieldLink RX2 15 "LeftProfile$Page" "size" "I", .methodLink RX2 23 yX2_firstFault, .instanceMethod yX2_firstFault, .selects RX2 yX2_firstFault yX2_firstFault, .initialized RX2, .code yX2_firstFault cX2_firstFault 2 (some .int), .methodLink RX2 19 yX2_fits, .instanceMethod yX2_fits, .selects RX2 yX2_fits yX2_fits, .code yX2_fits cX2_fits 3 (some .boolean), .methodLink RX2 27 yX2_codeAt, .instanceMethod yX2_codeAt, .selects RX2 yX2_codeAt yX2_codeAt, .code yX2_codeAt cX2_codeAt 2 (some .int), .fieldLink RX2 11 "LeftProfile$Page" "codes" "[I"] ++ wsX20)
def wsX3_init : List Cond := .code yX3_init cX3_init 1 none :: ([.methodLink RX3 3 objectInit, .instanceMethod objectInit, .code objectInit ⟨#[0xb1]⟩ 1 none, .arrayClass .int, .fieldLink RX3 9 "LeftProfile$Route" "queue" "[I", .fieldLink RX3 15 "LeftProfile$Route" "lengths" "[I", .fieldLink RX3 18 "LeftProfile$Route" "firsts" "[I", .fieldLink RX3 21 "LeftProfile$Route" "queued" "I"] ++ wsX30)
def wsJ7_fill_53178 : List Cond := .code yJ7_fill_53178 cJ7_fill_53178 4 none :: ([])
def wsX3_isStance : List Cond := .code yX3_isStance cX3_isStance 1 (some .boolean) :: ([])
def wsX3_reach : List Cond := .code yX3_reach cX3_reach 4 none :: ([.fieldLink RX3 21 "LeftProfile$Route" "queued" "I", .fieldLink RX3 15 "LeftProfile$Route" "lengths" "[I", .fieldLink RX3 18 "LeftProfile$Route" "firsts" "[I", .fieldLink RX3 9 "LeftProfile$Route" "queue" "[I", .methodLink RX3 45 yX3_isStance, .static yX3_isStance, .initialized RX3, .code yX3_isStance cX3_isStance 1 (some .boolean)] ++ wsX30)
def wsX6_placeOf : List Cond := .code yX6_placeOf cX6_placeOf 1 (some .int) :: ([])
def wsX6_sideOf : List Cond := .code yX6_sideOf cX6_sideOf 1 (some .int) :: ([])
def wsX6_stanceOf : List Cond := .code yX6_stanceOf cX6_stanceOf 2 (some .int) :: ([])
def wsX6_isPlace : List Cond := .code yX6_isPlace cX6_isPlace 1 (some .boolean) :: ([])
def wsX6_neighbour : List Cond := .code yX6_neighbour cX6_neighbour 4 (some .int) :: ([.fieldLink RX6 240 "LeftProfile" "ROWS_ON" "[I", .fieldLink RX6 243 "LeftProfile" "COLUMNS_ON" "[I", .methodLink RX6 77 yX6_isPlace, .static yX6_isPlace, .initialized RX6, .code yX6_isPlace cX6_isPlace 1 (some .boolean)])
def wsX6_isOpen : List Cond := .code yX6_isOpen cX6_isOpen 2 (some .boolean) :: ([.methodLink RX6 77 yX6_isPlace, .static yX6_isPlace, .initialized RX6, .code yX6_isPlace cX6_isPlace 1 (some .boolean), .methodLink RX6 132 yX6_bit, .static yX6_bit, .code yX6_bit cX6_bit 1 (some .int)])
def wsX4_after_r1 : List Cond := [Cond.fieldLink RX4 12 "LeftProfile$Scene" "hall" "LLeftProfile$Hall;", Cond.fieldLink RX4 32 "LeftProfile$Hall" "walls" "I", Cond.fieldLink RX4 21 "LeftProfile$Scene" "court" "LLeftProfile$Court;", Cond.static yX6_placeOf, Cond.initialized RX6, Cond.code yX6_placeOf cX6_placeOf 1 (some .int), Cond.static yX6_sideOf, Cond.code yX6_sideOf cX6_sideOf 1 (some .int), Cond.static yX6_stanceOf, Cond.code yX6_stanceOf cX6_stanceOf 2 (some .int), Cond.static yX6_neighbour, Cond.code yX6_neighbour cX6_neighbour 4 (some .int), Cond.fieldLink RX6 240 "LeftProfile" "ROWS_ON" "[I", Cond.fieldLink RX6 243 "LeftProfile" "COLUMNS_ON" "[I", Cond.methodLink RX6 77 yX6_isPlace, Cond.static yX6_isPlace, Cond.code yX6_isPlace cX6_isPlace 1 (some .boolean), Cond.methodLink RX4 36 yX0_people, Cond.instanceMethod yX0_people, Cond.selects RX0 yX0_people yX0_people, Cond.initialized RX0, Cond.code yX0_people cX0_people 3 (some .int), Cond.fieldLink RX0 18 "LeftProfile$Court" "size" "I", Cond.fieldLink RX0 25 "LeftProfile$Court" "places" "[I"]
def wsX4_after_r2 : List Cond := [Cond.static yX6_bit, Cond.code yX6_bit cX6_bit 1 (some .int), Cond.static yX6_isOpen, Cond.code yX6_isOpen cX6_isOpen 2 (some .boolean), Cond.methodLink RX6 132 yX6_bit]
def wsX4_after : List Cond := .code yX4_after cX4_after 7 (some .int) :: ((wsX4_after_r1 ++ wsX4_after_r2) ++ wsX40 ++ wsX10 ++ wsX00)
def wsX6_isOfKind : List Cond := .code yX6_isOfKind cX6_isOfKind 2 (some .boolean) :: ([])
def wsX5_isBarred : List Cond := .code yX5_isBarred cX5_isBarred 4 (some .boolean) :: ([.methodLink RX5 62 yJ6_bitCount_0f7a4, .static yJ6_bitCount_0f7a4, .initialized RJ6, .code yJ6_bitCount_0f7a4 cJ6_bitCount_0f7a4 1 (some .int), .constant RJ6 265 (1431655765), .constant RJ6 266 (858993459), .constant RJ6 267 (252645135), .static yX6_isOfKind, .initialized RX6, .code yX6_isOfKind cX6_isOfKind 2 (some .boolean)])
def wsJ9_floorMod_7cf53 : List Cond := .code yJ9_floorMod_7cf53 cJ9_floorMod_7cf53 3 (some .int) :: ([])
def wsX5_cheekFrom : List Cond := .code yX5_cheekFrom cX5_cheekFrom 1 (some .int) :: ([])
def wsX5_seen_r1 : List Cond := [Cond.fieldLink RX5 9 "LeftProfile$Sight" "ways" "[I", Cond.fieldLink RX5 15 "LeftProfile$Sight" "between" "[I", Cond.static yX6_placeOf, Cond.initialized RX6, Cond.code yX6_placeOf cX6_placeOf 1 (some .int), Cond.static yX6_isPlace, Cond.code yX6_isPlace cX6_isPlace 1 (some .boolean), Cond.methodLink RX5 43 yX5_isBarred, Cond.static yX5_isBarred, Cond.initialized RX5, Cond.code yX5_isBarred cX5_isBarred 4 (some .boolean), Cond.methodLink RX5 62 yJ6_bitCount_0f7a4, Cond.static yJ6_bitCount_0f7a4, Cond.initialized RJ6, Cond.code yJ6_bitCount_0f7a4 cJ6_bitCount_0f7a4 1 (some .int), Cond.constant RJ6 265 (1431655765), Cond.constant RJ6 266 (858993459), Cond.constant RJ6 267 (252645135), Cond.static yX6_isOfKind, Cond.code yX6_isOfKind cX6_isOfKind 2 (some .boolean), Cond.static yX6_sideOf, Cond.code yX6_sideOf cX6_sideOf 1 (some .int), Cond.methodLink RX5 50 yJ9_floorMod_7cf53, Cond.static yJ9_floorMod_7cf53]
def wsX5_seen_r2 : List Cond := [Cond.initialized RJ9, Cond.code yJ9_floorMod_7cf53 cJ9_floorMod_7cf53 3 (some .int), Cond.methodLink RX5 55 yX5_cheekFrom, Cond.static yX5_cheekFrom, Cond.code yX5_cheekFrom cX5_cheekFrom 1 (some .int)]
def wsX5_seen : List Cond := .code yX5_seen cX5_seen 9 (some .int) :: ((wsX5_seen_r1 ++ wsX5_seen_r2) ++ wsX50)
def wsX5_isGuilty_r1 : List Cond := [Cond.methodLink RX5 58 yX5_seen, Cond.instanceMethod yX5_seen, Cond.selects RX5 yX5_seen yX5_seen, Cond.initialized RX5, Cond.code yX5_seen cX5_seen 9 (some .int), Cond.fieldLink RX5 9 "LeftProfile$Sight" "ways" "[I", Cond.fieldLink RX5 15 "LeftProfile$Sight" "between" "[I", Cond.static yX6_placeOf, Cond.initialized RX6, Cond.code yX6_placeOf cX6_placeOf 1 (some .int), Cond.static yX6_isPlace, Cond.code yX6_isPlace cX6_isPlace 1 (some .boolean), Cond.methodLink RX5 43 yX5_isBarred, Cond.static yX5_isBarred, Cond.code yX5_isBarred cX5_isBarred 4 (some .boolean), Cond.methodLink RX5 62 yJ6_bitCount_0f7a4, Cond.static yJ6_bitCount_0f7a4, Cond.initialized RJ6, Cond.code yJ6_bitCount_0f7a4 cJ6_bitCount_0f7a4 1 (some .int), Cond.constant RJ6 265 (1431655765), Cond.constant RJ6 266 (858993459), Cond.constant RJ6 267 (252645135), Cond.static yX6_isOfKind, Cond.code yX6_isOfKind cX6_isOfKind 2 (some .boolean)]
def wsX5_isGuilty_r2 : List Cond := [Cond.static yX6_sideOf, Cond.code yX6_sideOf cX6_sideOf 1 (some .int), Cond.methodLink RX5 50 yJ9_floorMod_7cf53, Cond.static yJ9_floorMod_7cf53, Cond.initialized RJ9, Cond.code yJ9_floorMod_7cf53 cJ9_floorMod_7cf53 3 (some .int), Cond.methodLink RX5 55 yX5_cheekFrom, Cond.static yX5_cheekFrom, Cond.code yX5_cheekFrom cX5_cheekFrom 1 (some .int)]
def wsX5_isGuilty : List Cond := .code yX5_isGuilty cX5_isGuilty 7 (some .boolean) :: ((wsX5_isGuilty_r1 ++ wsX5_isGuilty_r2) ++ wsX50)
def wsX4_guiltyIf_r1 : List Cond := [Cond.fieldLink RX4 21 "LeftProfile$Scene" "court" "LLeftProfile$Court;", Cond.fieldLink RX4 69 "LeftProfile$Court" "size" "I", Cond.fieldLink RX4 28 "LeftProfile$Scene" "sight" "LLeftProfile$Sight;", Cond.fieldLink RX4 58 "LeftProfile$Court" "kinds" "[I", Cond.fieldLink RX4 62 "LeftProfile$Court" "places" "[I", Cond.methodLink RX4 36 yX0_people, Cond.instanceMethod yX0_people, Cond.selects RX0 yX0_people yX0_people, Cond.initialized RX0, Cond.code yX0_people cX0_people 3 (some .int), Cond.fieldLink RX0 18 "LeftProfile$Court" "size" "I", Cond.fieldLink RX0 25 "LeftProfile$Court" "places" "[I", Cond.static yX6_bit, Cond.initialized RX6, Cond.code yX6_bit cX6_bit 1 (some .int), Cond.methodLink RX4 76 yX5_isGuilty, Cond.instanceMethod yX5_isGuilty, Cond.selects RX5 yX5_isGuilty yX5_isGuilty, Cond.initialized RX5, Cond.code yX5_isGuilty cX5_isGuilty 7 (some .boolean), Cond.methodLink RX5 58 yX5_seen, Cond.instanceMethod yX5_seen, Cond.selects RX5 yX5_seen yX5_seen, Cond.code yX5_seen cX5_seen 9 (some .int)]
def wsX4_guiltyIf_r2 : List Cond := [Cond.fieldLink RX5 9 "LeftProfile$Sight" "ways" "[I", Cond.fieldLink RX5 15 "LeftProfile$Sight" "between" "[I", Cond.static yX6_placeOf, Cond.code yX6_placeOf cX6_placeOf 1 (some .int), Cond.static yX6_isPlace, Cond.code yX6_isPlace cX6_isPlace 1 (some .boolean), Cond.methodLink RX5 43 yX5_isBarred, Cond.static yX5_isBarred, Cond.code yX5_isBarred cX5_isBarred 4 (some .boolean), Cond.methodLink RX5 62 yJ6_bitCount_0f7a4, Cond.static yJ6_bitCount_0f7a4, Cond.initialized RJ6, Cond.code yJ6_bitCount_0f7a4 cJ6_bitCount_0f7a4 1 (some .int), Cond.constant RJ6 265 (1431655765), Cond.constant RJ6 266 (858993459), Cond.constant RJ6 267 (252645135), Cond.static yX6_isOfKind, Cond.code yX6_isOfKind cX6_isOfKind 2 (some .boolean), Cond.static yX6_sideOf, Cond.code yX6_sideOf cX6_sideOf 1 (some .int), Cond.methodLink RX5 50 yJ9_floorMod_7cf53, Cond.static yJ9_floorMod_7cf53, Cond.initialized RJ9, Cond.code yJ9_floorMod_7cf53 cJ9_floorMod_7cf53 3 (some .int)]
def wsX4_guiltyIf_r3 : List Cond := [Cond.methodLink RX5 55 yX5_cheekFrom, Cond.static yX5_cheekFrom, Cond.code yX5_cheekFrom cX5_cheekFrom 1 (some .int)]
def wsX4_guiltyIf : List Cond := .code yX4_guiltyIf cX4_guiltyIf 6 (some .int) :: ((wsX4_guiltyIf_r1 ++ (wsX4_guiltyIf_r2 ++ wsX4_guiltyIf_r3)) ++ wsX40 ++ wsX00 ++ wsX50)
def wsX3_lengthTo : List Cond := .code yX3_lengthTo cX3_lengthTo 2 (some .int) :: ([.fieldLink RX3 15 "LeftProfile$Route" "lengths" "[I", .methodLink RX3 45 yX3_isStance, .static yX3_isStance, .initialized RX3, .code yX3_isStance cX3_isStance 1 (some .boolean)] ++ wsX30)
def wsX3_firstTo : List Cond := .code yX3_firstTo cX3_firstTo 2 (some .int) :: ([.fieldLink RX3 18 "LeftProfile$Route" "firsts" "[I", .methodLink RX3 45 yX3_isStance, .static yX3_isStance, .initialized RX3, .code yX3_isStance cX3_isStance 1 (some .boolean)] ++ wsX30)
def wsX3_find_r1 : List Cond := [Cond.fieldLink RX3 15 "LeftProfile$Route" "lengths" "[I", Cond.fieldLink RX3 21 "LeftProfile$Route" "queued" "I", Cond.fieldLink RX3 9 "LeftProfile$Route" "queue" "[I", Cond.fieldLink RX3 49 "LeftProfile$Scene" "hall" "LLeftProfile$Hall;", Cond.fieldLink RX3 53 "LeftProfile$Hall" "walls" "I", Cond.methodLink RX3 25 yJ7_fill_53178, Cond.static yJ7_fill_53178, Cond.initialized RJ7, Cond.code yJ7_fill_53178 cJ7_fill_53178 4 none, Cond.methodLink RX3 31 yX3_reach, Cond.instanceMethod yX3_reach, Cond.selects RX3 yX3_reach yX3_reach, Cond.initialized RX3, Cond.code yX3_reach cX3_reach 4 none, Cond.fieldLink RX3 18 "LeftProfile$Route" "firsts" "[I", Cond.methodLink RX3 45 yX3_isStance, Cond.static yX3_isStance, Cond.code yX3_isStance cX3_isStance 1 (some .boolean), Cond.static yX6_placeOf, Cond.initialized RX6, Cond.code yX6_placeOf cX6_placeOf 1 (some .int), Cond.methodLink RX3 39 yX4_after, Cond.instanceMethod yX4_after, Cond.selects RX4 yX4_after yX4_after]
def wsX3_find_r2 : List Cond := [Cond.initialized RX4, Cond.code yX4_after cX4_after 7 (some .int), Cond.fieldLink RX4 12 "LeftProfile$Scene" "hall" "LLeftProfile$Hall;", Cond.fieldLink RX4 32 "LeftProfile$Hall" "walls" "I", Cond.fieldLink RX4 21 "LeftProfile$Scene" "court" "LLeftProfile$Court;", Cond.static yX6_sideOf, Cond.code yX6_sideOf cX6_sideOf 1 (some .int), Cond.static yX6_stanceOf, Cond.code yX6_stanceOf cX6_stanceOf 2 (some .int), Cond.static yX6_neighbour, Cond.code yX6_neighbour cX6_neighbour 4 (some .int), Cond.fieldLink RX6 240 "LeftProfile" "ROWS_ON" "[I", Cond.fieldLink RX6 243 "LeftProfile" "COLUMNS_ON" "[I", Cond.methodLink RX6 77 yX6_isPlace, Cond.static yX6_isPlace, Cond.code yX6_isPlace cX6_isPlace 1 (some .boolean), Cond.methodLink RX4 36 yX0_people, Cond.instanceMethod yX0_people, Cond.selects RX0 yX0_people yX0_people, Cond.initialized RX0, Cond.code yX0_people cX0_people 3 (some .int), Cond.fieldLink RX0 18 "LeftProfile$Court" "size" "I", Cond.fieldLink RX0 25 "LeftProfile$Court" "places" "[I", Cond.static yX6_bit]
def wsX3_find_r3 : List Cond := [Cond.code yX6_bit cX6_bit 1 (some .int), Cond.static yX6_isOpen, Cond.code yX6_isOpen cX6_isOpen 2 (some .boolean), Cond.methodLink RX6 132 yX6_bit, Cond.methodLink RX3 58 yX4_guiltyIf, Cond.instanceMethod yX4_guiltyIf, Cond.selects RX4 yX4_guiltyIf yX4_guiltyIf, Cond.code yX4_guiltyIf cX4_guiltyIf 6 (some .int), Cond.fieldLink RX4 69 "LeftProfile$Court" "size" "I", Cond.fieldLink RX4 28 "LeftProfile$Scene" "sight" "LLeftProfile$Sight;", Cond.fieldLink RX4 58 "LeftProfile$Court" "kinds" "[I", Cond.fieldLink RX4 62 "LeftProfile$Court" "places" "[I", Cond.methodLink RX4 76 yX5_isGuilty, Cond.instanceMethod yX5_isGuilty, Cond.selects RX5 yX5_isGuilty yX5_isGuilty, Cond.initialized RX5, Cond.code yX5_isGuilty cX5_isGuilty 7 (some .boolean), Cond.methodLink RX5 58 yX5_seen, Cond.instanceMethod yX5_seen, Cond.selects RX5 yX5_seen yX5_seen, Cond.code yX5_seen cX5_seen 9 (some .int), Cond.fieldLink RX5 9 "LeftProfile$Sight" "ways" "[I", Cond.fieldLink RX5 15 "LeftProfile$Sight" "between" "[I", Cond.methodLink RX5 43 yX5_isBarred]
def wsX3_find_r4 : List Cond := [Cond.static yX5_isBarred, Cond.code yX5_isBarred cX5_isBarred 4 (some .boolean), Cond.methodLink RX5 62 yJ6_bitCount_0f7a4, Cond.static yJ6_bitCount_0f7a4, Cond.initialized RJ6, Cond.code yJ6_bitCount_0f7a4 cJ6_bitCount_0f7a4 1 (some .int), Cond.constant RJ6 265 (1431655765), Cond.constant RJ6 266 (858993459), Cond.constant RJ6 267 (252645135), Cond.static yX6_isOfKind, Cond.code yX6_isOfKind cX6_isOfKind 2 (some .boolean), Cond.methodLink RX5 50 yJ9_floorMod_7cf53, Cond.static yJ9_floorMod_7cf53, Cond.initialized RJ9, Cond.code yJ9_floorMod_7cf53 cJ9_floorMod_7cf53 3 (some .int), Cond.methodLink RX5 55 yX5_cheekFrom, Cond.static yX5_cheekFrom, Cond.code yX5_cheekFrom cX5_cheekFrom 1 (some .int), Cond.methodLink RX3 61 yX3_lengthTo, Cond.instanceMethod yX3_lengthTo, Cond.selects RX3 yX3_lengthTo yX3_lengthTo, Cond.code yX3_lengthTo cX3_lengthTo 2 (some .int), Cond.methodLink RX3 64 yX3_firstTo, Cond.instanceMethod yX3_firstTo]
def wsX3_find_r5 : List Cond := [Cond.selects RX3 yX3_firstTo yX3_firstTo, Cond.code yX3_firstTo cX3_firstTo 2 (some .int)]
def wsX3_find : List Cond := .code yX3_find cX3_find 8 (some .int) :: ((wsX3_find_r1 ++ (wsX3_find_r2 ++ (wsX3_find_r3 ++ (wsX3_find_r4 ++ wsX3_find_r5)))) ++ wsX30 ++ wsX40 ++ wsX10 ++ wsX00 ++ wsX50)
def wsX5_follow : List Cond := .code yX5_follow cX5_follow 6 none :: ([.fieldLink RX5 9 "LeftProfile$Sight" "ways" "[I", .fieldLink RX5 15 "LeftProfile$Sight" "between" "[I", .static yX6_neighbour, .initialized RX6, .code yX6_neighbour cX6_neighbour 4 (some .int), .fieldLink RX6 240 "LeftProfile" "ROWS_ON" "[I", .fieldLink RX6 243 "LeftProfile" "COLUMNS_ON" "[I", .methodLink RX6 77 yX6_isPlace, .static yX6_isPlace, .code yX6_isPlace cX6_isPlace 1 (some .boolean), .static yX6_bit, .code yX6_bit cX6_bit 1 (some .int)] ++ wsX50)
def wsX5_init_r1 : List Cond := [Cond.methodLink RX5 3 objectInit, Cond.instanceMethod objectInit, Cond.code objectInit ⟨#[0xb1]⟩ 1 none, Cond.arrayClass .int, Cond.fieldLink RX5 9 "LeftProfile$Sight" "ways" "[I", Cond.fieldLink RX5 15 "LeftProfile$Sight" "between" "[I", Cond.methodLink RX5 18 yJ7_fill_53178, Cond.static yJ7_fill_53178, Cond.initialized RJ7, Cond.code yJ7_fill_53178 cJ7_fill_53178 4 none, Cond.methodLink RX5 24 yX5_follow, Cond.instanceMethod yX5_follow, Cond.selects RX5 yX5_follow yX5_follow, Cond.initialized RX5, Cond.code yX5_follow cX5_follow 6 none, Cond.static yX6_neighbour, Cond.initialized RX6, Cond.code yX6_neighbour cX6_neighbour 4 (some .int), Cond.fieldLink RX6 240 "LeftProfile" "ROWS_ON" "[I", Cond.fieldLink RX6 243 "LeftProfile" "COLUMNS_ON" "[I", Cond.methodLink RX6 77 yX6_isPlace, Cond.static yX6_isPlace, Cond.code yX6_isPlace cX6_isPlace 1 (some .boolean), Cond.static yX6_bit]
def wsX5_init_r2 : List Cond := [Cond.code yX6_bit cX6_bit 1 (some .int)]
def wsX5_init : List Cond := .code yX5_init cX5_init 3 none :: ((wsX5_init_r1 ++ wsX5_init_r2) ++ wsX50)
def wsX4_init_r1 : List Cond := [Cond.methodLink RX4 3 objectInit, Cond.instanceMethod objectInit, Cond.code objectInit ⟨#[0xb1]⟩ 1 none, Cond.classLink RX4 9 RX1, Cond.instantiable RX1 3, Cond.initialized RX1, Cond.fieldLink RX4 12 "LeftProfile$Scene" "hall" "LLeftProfile$Hall;", Cond.classLink RX4 18 RX0, Cond.instantiable RX0 8, Cond.initialized RX0, Cond.fieldLink RX4 21 "LeftProfile$Scene" "court" "LLeftProfile$Court;", Cond.classLink RX4 25 RX5, Cond.instantiable RX5 2, Cond.initialized RX5, Cond.fieldLink RX4 28 "LeftProfile$Scene" "sight" "LLeftProfile$Sight;", Cond.instanceMethod yX1_init, Cond.code yX1_init cX1_init 1 none, Cond.methodLink RX1 3 objectInit, Cond.fieldLink RX1 9 "LeftProfile$Hall" "walls" "I", Cond.fieldLink RX1 15 "LeftProfile$Hall" "floors" "I", Cond.fieldLink RX1 18 "LeftProfile$Hall" "readings" "I", Cond.instanceMethod yX0_init, Cond.code yX0_init cX0_init 1 none, Cond.methodLink RX0 3 objectInit]
def wsX4_init_r2 : List Cond := [Cond.fieldLink RX0 9 "LeftProfile$Court" "stance" "I", Cond.fieldLink RX0 15 "LeftProfile$Court" "acts" "I", Cond.fieldLink RX0 18 "LeftProfile$Court" "size" "I", Cond.arrayClass .int, Cond.fieldLink RX0 21 "LeftProfile$Court" "kinds" "[I", Cond.fieldLink RX0 25 "LeftProfile$Court" "places" "[I", Cond.fieldLink RX0 28 "LeftProfile$Court" "sawLeft" "[I", Cond.fieldLink RX0 31 "LeftProfile$Court" "sawRight" "[I", Cond.fieldLink RX0 34 "LeftProfile$Court" "told" "[I", Cond.methodLink RX4 27 yX5_init, Cond.instanceMethod yX5_init, Cond.code yX5_init cX5_init 3 none, Cond.methodLink RX5 3 objectInit, Cond.fieldLink RX5 9 "LeftProfile$Sight" "ways" "[I", Cond.fieldLink RX5 15 "LeftProfile$Sight" "between" "[I", Cond.methodLink RX5 18 yJ7_fill_53178, Cond.static yJ7_fill_53178, Cond.initialized RJ7, Cond.code yJ7_fill_53178 cJ7_fill_53178 4 none, Cond.methodLink RX5 24 yX5_follow, Cond.instanceMethod yX5_follow, Cond.selects RX5 yX5_follow yX5_follow, Cond.code yX5_follow cX5_follow 6 none, Cond.static yX6_neighbour]
def wsX4_init_r3 : List Cond := [Cond.initialized RX6, Cond.code yX6_neighbour cX6_neighbour 4 (some .int), Cond.fieldLink RX6 240 "LeftProfile" "ROWS_ON" "[I", Cond.fieldLink RX6 243 "LeftProfile" "COLUMNS_ON" "[I", Cond.methodLink RX6 77 yX6_isPlace, Cond.static yX6_isPlace, Cond.code yX6_isPlace cX6_isPlace 1 (some .boolean), Cond.static yX6_bit, Cond.code yX6_bit cX6_bit 1 (some .int)]
def wsX4_init : List Cond := .code yX4_init cX4_init 1 none :: ((wsX4_init_r1 ++ (wsX4_init_r2 ++ wsX4_init_r3)) ++ wsX10 ++ wsX40 ++ wsX00 ++ wsX50)
def wsX4_taken : List Cond := .code yX4_taken cX4_taken 2 (some .int) :: ([.fieldLink RX4 12 "LeftProfile$Scene" "hall" "LLeftProfile$Hall;", .fieldLink RX4 32 "LeftProfile$Hall" "walls" "I", .fieldLink RX4 21 "LeftProfile$Scene" "court" "LLeftProfile$Court;", .fieldLink RX4 40 "LeftProfile$Court" "stance" "I", .methodLink RX4 36 yX0_people, .instanceMethod yX0_people, .selects RX0 yX0_people yX0_people, .initialized RX0, .code yX0_people cX0_people 3 (some .int), .fieldLink RX0 18 "LeftProfile$Court" "size" "I", .fieldLink RX0 25 "LeftProfile$Court" "places" "[I", .static yX6_bit, .initialized RX6, .code yX6_bit cX6_bit 1 (some .int), .static yX6_placeOf, .code yX6_placeOf cX6_placeOf 1 (some .int)] ++ wsX40 ++ wsX10 ++ wsX00)
def wsX4_seenIf_r1 : List Cond := [Cond.fieldLink RX4 21 "LeftProfile$Scene" "court" "LLeftProfile$Court;", Cond.fieldLink RX4 28 "LeftProfile$Scene" "sight" "LLeftProfile$Sight;", Cond.fieldLink RX4 58 "LeftProfile$Court" "kinds" "[I", Cond.fieldLink RX4 62 "LeftProfile$Court" "places" "[I", Cond.fieldLink RX4 12 "LeftProfile$Scene" "hall" "LLeftProfile$Hall;", Cond.fieldLink RX4 32 "LeftProfile$Hall" "walls" "I", Cond.methodLink RX4 54 yX0_has, Cond.instanceMethod yX0_has, Cond.selects RX0 yX0_has yX0_has, Cond.initialized RX0, Cond.code yX0_has cX0_has 2 (some .boolean), Cond.fieldLink RX0 18 "LeftProfile$Court" "size" "I", Cond.methodLink RX4 65 yX5_seen, Cond.instanceMethod yX5_seen, Cond.selects RX5 yX5_seen yX5_seen, Cond.initialized RX5, Cond.code yX5_seen cX5_seen 9 (some .int), Cond.fieldLink RX5 9 "LeftProfile$Sight" "ways" "[I", Cond.fieldLink RX5 15 "LeftProfile$Sight" "between" "[I", Cond.static yX6_placeOf, Cond.initialized RX6, Cond.code yX6_placeOf cX6_placeOf 1 (some .int), Cond.static yX6_isPlace, Cond.code yX6_isPlace cX6_isPlace 1 (some .boolean)]
def wsX4_seenIf_r2 : List Cond := [Cond.methodLink RX5 43 yX5_isBarred, Cond.static yX5_isBarred, Cond.code yX5_isBarred cX5_isBarred 4 (some .boolean), Cond.methodLink RX5 62 yJ6_bitCount_0f7a4, Cond.static yJ6_bitCount_0f7a4, Cond.initialized RJ6, Cond.code yJ6_bitCount_0f7a4 cJ6_bitCount_0f7a4 1 (some .int), Cond.constant RJ6 265 (1431655765), Cond.constant RJ6 266 (858993459), Cond.constant RJ6 267 (252645135), Cond.static yX6_isOfKind, Cond.code yX6_isOfKind cX6_isOfKind 2 (some .boolean), Cond.static yX6_sideOf, Cond.code yX6_sideOf cX6_sideOf 1 (some .int), Cond.methodLink RX5 50 yJ9_floorMod_7cf53, Cond.static yJ9_floorMod_7cf53, Cond.initialized RJ9, Cond.code yJ9_floorMod_7cf53 cJ9_floorMod_7cf53 3 (some .int), Cond.methodLink RX5 55 yX5_cheekFrom, Cond.static yX5_cheekFrom, Cond.code yX5_cheekFrom cX5_cheekFrom 1 (some .int)]
def wsX4_seenIf : List Cond := .code yX4_seenIf cX4_seenIf 4 (some .int) :: ((wsX4_seenIf_r1 ++ wsX4_seenIf_r2) ++ wsX40 ++ wsX00 ++ wsX10 ++ wsX50)
def wsX4_seenBy_r1 : List Cond := [Cond.fieldLink RX4 21 "LeftProfile$Scene" "court" "LLeftProfile$Court;", Cond.fieldLink RX4 40 "LeftProfile$Court" "stance" "I", Cond.methodLink RX4 36 yX0_people, Cond.instanceMethod yX0_people, Cond.selects RX0 yX0_people yX0_people, Cond.initialized RX0, Cond.code yX0_people cX0_people 3 (some .int), Cond.fieldLink RX0 18 "LeftProfile$Court" "size" "I", Cond.fieldLink RX0 25 "LeftProfile$Court" "places" "[I", Cond.static yX6_bit, Cond.initialized RX6, Cond.code yX6_bit cX6_bit 1 (some .int), Cond.methodLink RX4 50 yX4_seenIf, Cond.instanceMethod yX4_seenIf, Cond.selects RX4 yX4_seenIf yX4_seenIf, Cond.initialized RX4, Cond.code yX4_seenIf cX4_seenIf 4 (some .int), Cond.fieldLink RX4 28 "LeftProfile$Scene" "sight" "LLeftProfile$Sight;", Cond.fieldLink RX4 58 "LeftProfile$Court" "kinds" "[I", Cond.fieldLink RX4 62 "LeftProfile$Court" "places" "[I", Cond.fieldLink RX4 12 "LeftProfile$Scene" "hall" "LLeftProfile$Hall;", Cond.fieldLink RX4 32 "LeftProfile$Hall" "walls" "I", Cond.methodLink RX4 54 yX0_has, Cond.instanceMethod yX0_has]
def wsX4_seenBy_r2 : List Cond := [Cond.selects RX0 yX0_has yX0_has, Cond.code yX0_has cX0_has 2 (some .boolean), Cond.methodLink RX4 65 yX5_seen, Cond.instanceMethod yX5_seen, Cond.selects RX5 yX5_seen yX5_seen, Cond.initialized RX5, Cond.code yX5_seen cX5_seen 9 (some .int), Cond.fieldLink RX5 9 "LeftProfile$Sight" "ways" "[I", Cond.fieldLink RX5 15 "LeftProfile$Sight" "between" "[I", Cond.static yX6_placeOf, Cond.code yX6_placeOf cX6_placeOf 1 (some .int), Cond.static yX6_isPlace, Cond.code yX6_isPlace cX6_isPlace 1 (some .boolean), Cond.methodLink RX5 43 yX5_isBarred, Cond.static yX5_isBarred, Cond.code yX5_isBarred cX5_isBarred 4 (some .boolean), Cond.methodLink RX5 62 yJ6_bitCount_0f7a4, Cond.static yJ6_bitCount_0f7a4, Cond.initialized RJ6, Cond.code yJ6_bitCount_0f7a4 cJ6_bitCount_0f7a4 1 (some .int), Cond.constant RJ6 265 (1431655765), Cond.constant RJ6 266 (858993459), Cond.constant RJ6 267 (252645135), Cond.static yX6_isOfKind]
def wsX4_seenBy_r3 : List Cond := [Cond.code yX6_isOfKind cX6_isOfKind 2 (some .boolean), Cond.static yX6_sideOf, Cond.code yX6_sideOf cX6_sideOf 1 (some .int), Cond.methodLink RX5 50 yJ9_floorMod_7cf53, Cond.static yJ9_floorMod_7cf53, Cond.initialized RJ9, Cond.code yJ9_floorMod_7cf53 cJ9_floorMod_7cf53 3 (some .int), Cond.methodLink RX5 55 yX5_cheekFrom, Cond.static yX5_cheekFrom, Cond.code yX5_cheekFrom cX5_cheekFrom 1 (some .int)]
def wsX4_seenBy : List Cond := .code yX4_seenBy cX4_seenBy 2 (some .int) :: ((wsX4_seenBy_r1 ++ (wsX4_seenBy_r2 ++ wsX4_seenBy_r3)) ++ wsX40 ++ wsX00 ++ wsX10 ++ wsX50)
def wsX4_everybodyLooks_r1 : List Cond := [Cond.fieldLink RX4 21 "LeftProfile$Scene" "court" "LLeftProfile$Court;", Cond.fieldLink RX4 69 "LeftProfile$Court" "size" "I", Cond.fieldLink RX4 40 "LeftProfile$Court" "stance" "I", Cond.methodLink RX4 36 yX0_people, Cond.instanceMethod yX0_people, Cond.selects RX0 yX0_people yX0_people, Cond.initialized RX0, Cond.code yX0_people cX0_people 3 (some .int), Cond.fieldLink RX0 18 "LeftProfile$Court" "size" "I", Cond.fieldLink RX0 25 "LeftProfile$Court" "places" "[I", Cond.static yX6_bit, Cond.initialized RX6, Cond.code yX6_bit cX6_bit 1 (some .int), Cond.methodLink RX4 50 yX4_seenIf, Cond.instanceMethod yX4_seenIf, Cond.selects RX4 yX4_seenIf yX4_seenIf, Cond.initialized RX4, Cond.code yX4_seenIf cX4_seenIf 4 (some .int), Cond.fieldLink RX4 28 "LeftProfile$Scene" "sight" "LLeftProfile$Sight;", Cond.fieldLink RX4 58 "LeftProfile$Court" "kinds" "[I", Cond.fieldLink RX4 62 "LeftProfile$Court" "places" "[I", Cond.fieldLink RX4 12 "LeftProfile$Scene" "hall" "LLeftProfile$Hall;", Cond.fieldLink RX4 32 "LeftProfile$Hall" "walls" "I", Cond.methodLink RX4 54 yX0_has]
def wsX4_everybodyLooks_r2 : List Cond := [Cond.instanceMethod yX0_has, Cond.selects RX0 yX0_has yX0_has, Cond.code yX0_has cX0_has 2 (some .boolean), Cond.methodLink RX4 65 yX5_seen, Cond.instanceMethod yX5_seen, Cond.selects RX5 yX5_seen yX5_seen, Cond.initialized RX5, Cond.code yX5_seen cX5_seen 9 (some .int), Cond.fieldLink RX5 9 "LeftProfile$Sight" "ways" "[I", Cond.fieldLink RX5 15 "LeftProfile$Sight" "between" "[I", Cond.static yX6_placeOf, Cond.code yX6_placeOf cX6_placeOf 1 (some .int), Cond.static yX6_isPlace, Cond.code yX6_isPlace cX6_isPlace 1 (some .boolean), Cond.methodLink RX5 43 yX5_isBarred, Cond.static yX5_isBarred, Cond.code yX5_isBarred cX5_isBarred 4 (some .boolean), Cond.methodLink RX5 62 yJ6_bitCount_0f7a4, Cond.static yJ6_bitCount_0f7a4, Cond.initialized RJ6, Cond.code yJ6_bitCount_0f7a4 cJ6_bitCount_0f7a4 1 (some .int), Cond.constant RJ6 265 (1431655765), Cond.constant RJ6 266 (858993459), Cond.constant RJ6 267 (252645135)]
def wsX4_everybodyLooks_r3 : List Cond := [Cond.static yX6_isOfKind, Cond.code yX6_isOfKind cX6_isOfKind 2 (some .boolean), Cond.static yX6_sideOf, Cond.code yX6_sideOf cX6_sideOf 1 (some .int), Cond.methodLink RX5 50 yJ9_floorMod_7cf53, Cond.static yJ9_floorMod_7cf53, Cond.initialized RJ9, Cond.code yJ9_floorMod_7cf53 cJ9_floorMod_7cf53 3 (some .int), Cond.methodLink RX5 55 yX5_cheekFrom, Cond.static yX5_cheekFrom, Cond.code yX5_cheekFrom cX5_cheekFrom 1 (some .int), Cond.methodLink RX4 72 yX0_look, Cond.instanceMethod yX0_look, Cond.selects RX0 yX0_look yX0_look, Cond.code yX0_look cX0_look 3 none, Cond.fieldLink RX0 28 "LeftProfile$Court" "sawLeft" "[I", Cond.fieldLink RX0 31 "LeftProfile$Court" "sawRight" "[I", Cond.methodLink RX0 47 yX0_has]
def wsX4_everybodyLooks : List Cond := .code yX4_everybodyLooks cX4_everybodyLooks 3 none :: ((wsX4_everybodyLooks_r1 ++ (wsX4_everybodyLooks_r2 ++ wsX4_everybodyLooks_r3)) ++ wsX40 ++ wsX00 ++ wsX10 ++ wsX50)
def wsX4_roomFor_r1 : List Cond := [Cond.fieldLink RX4 21 "LeftProfile$Scene" "court" "LLeftProfile$Court;", Cond.fieldLink RX4 40 "LeftProfile$Court" "stance" "I", Cond.fieldLink RX4 12 "LeftProfile$Scene" "hall" "LLeftProfile$Hall;", Cond.fieldLink RX4 32 "LeftProfile$Hall" "walls" "I", Cond.fieldLink RX4 28 "LeftProfile$Scene" "sight" "LLeftProfile$Sight;", Cond.methodLink RX4 94 yX4_guiltyIf, Cond.instanceMethod yX4_guiltyIf, Cond.selects RX4 yX4_guiltyIf yX4_guiltyIf, Cond.initialized RX4, Cond.code yX4_guiltyIf cX4_guiltyIf 6 (some .int), Cond.fieldLink RX4 69 "LeftProfile$Court" "size" "I", Cond.fieldLink RX4 58 "LeftProfile$Court" "kinds" "[I", Cond.fieldLink RX4 62 "LeftProfile$Court" "places" "[I", Cond.methodLink RX4 36 yX0_people, Cond.instanceMethod yX0_people, Cond.selects RX0 yX0_people yX0_people, Cond.initialized RX0, Cond.code yX0_people cX0_people 3 (some .int), Cond.fieldLink RX0 18 "LeftProfile$Court" "size" "I", Cond.fieldLink RX0 25 "LeftProfile$Court" "places" "[I", Cond.static yX6_bit, Cond.initialized RX6, Cond.code yX6_bit cX6_bit 1 (some .int), Cond.methodLink RX4 76 yX5_isGuilty]
def wsX4_roomFor_r2 : List Cond := [Cond.instanceMethod yX5_isGuilty, Cond.selects RX5 yX5_isGuilty yX5_isGuilty, Cond.initialized RX5, Cond.code yX5_isGuilty cX5_isGuilty 7 (some .boolean), Cond.methodLink RX5 58 yX5_seen, Cond.instanceMethod yX5_seen, Cond.selects RX5 yX5_seen yX5_seen, Cond.code yX5_seen cX5_seen 9 (some .int), Cond.fieldLink RX5 9 "LeftProfile$Sight" "ways" "[I", Cond.fieldLink RX5 15 "LeftProfile$Sight" "between" "[I", Cond.static yX6_placeOf, Cond.code yX6_placeOf cX6_placeOf 1 (some .int), Cond.static yX6_isPlace, Cond.code yX6_isPlace cX6_isPlace 1 (some .boolean), Cond.methodLink RX5 43 yX5_isBarred, Cond.static yX5_isBarred, Cond.code yX5_isBarred cX5_isBarred 4 (some .boolean), Cond.methodLink RX5 62 yJ6_bitCount_0f7a4, Cond.static yJ6_bitCount_0f7a4, Cond.initialized RJ6, Cond.code yJ6_bitCount_0f7a4 cJ6_bitCount_0f7a4 1 (some .int), Cond.constant RJ6 265 (1431655765), Cond.constant RJ6 266 (858993459), Cond.constant RJ6 267 (252645135)]
def wsX4_roomFor_r3 : List Cond := [Cond.static yX6_isOfKind, Cond.code yX6_isOfKind cX6_isOfKind 2 (some .boolean), Cond.static yX6_sideOf, Cond.code yX6_sideOf cX6_sideOf 1 (some .int), Cond.methodLink RX5 50 yJ9_floorMod_7cf53, Cond.static yJ9_floorMod_7cf53, Cond.initialized RJ9, Cond.code yJ9_floorMod_7cf53 cJ9_floorMod_7cf53 3 (some .int), Cond.methodLink RX5 55 yX5_cheekFrom, Cond.static yX5_cheekFrom, Cond.code yX5_cheekFrom cX5_cheekFrom 1 (some .int), Cond.methodLink RX4 97 yX4_taken, Cond.instanceMethod yX4_taken, Cond.selects RX4 yX4_taken yX4_taken, Cond.code yX4_taken cX4_taken 2 (some .int), Cond.static yX6_isOpen, Cond.code yX6_isOpen cX6_isOpen 2 (some .boolean), Cond.methodLink RX6 77 yX6_isPlace, Cond.methodLink RX6 132 yX6_bit]
def wsX4_roomFor : List Cond := .code yX4_roomFor cX4_roomFor 7 (some .int) :: ((wsX4_roomFor_r1 ++ (wsX4_roomFor_r2 ++ wsX4_roomFor_r3)) ++ wsX40 ++ wsX00 ++ wsX10 ++ wsX50)
def wsX4_bestBrick_r1 : List Cond := [Cond.fieldLink RX4 21 "LeftProfile$Scene" "court" "LLeftProfile$Court;", Cond.fieldLink RX4 40 "LeftProfile$Court" "stance" "I", Cond.fieldLink RX4 12 "LeftProfile$Scene" "hall" "LLeftProfile$Hall;", Cond.fieldLink RX4 32 "LeftProfile$Hall" "walls" "I", Cond.methodLink RX4 97 yX4_taken, Cond.instanceMethod yX4_taken, Cond.selects RX4 yX4_taken yX4_taken, Cond.initialized RX4, Cond.code yX4_taken cX4_taken 2 (some .int), Cond.methodLink RX4 36 yX0_people, Cond.instanceMethod yX0_people, Cond.selects RX0 yX0_people yX0_people, Cond.initialized RX0, Cond.code yX0_people cX0_people 3 (some .int), Cond.fieldLink RX0 18 "LeftProfile$Court" "size" "I", Cond.fieldLink RX0 25 "LeftProfile$Court" "places" "[I", Cond.static yX6_bit, Cond.initialized RX6, Cond.code yX6_bit cX6_bit 1 (some .int), Cond.static yX6_placeOf, Cond.code yX6_placeOf cX6_placeOf 1 (some .int), Cond.methodLink RX4 94 yX4_guiltyIf, Cond.instanceMethod yX4_guiltyIf, Cond.selects RX4 yX4_guiltyIf yX4_guiltyIf]
def wsX4_bestBrick_r2 : List Cond := [Cond.code yX4_guiltyIf cX4_guiltyIf 6 (some .int), Cond.fieldLink RX4 69 "LeftProfile$Court" "size" "I", Cond.fieldLink RX4 28 "LeftProfile$Scene" "sight" "LLeftProfile$Sight;", Cond.fieldLink RX4 58 "LeftProfile$Court" "kinds" "[I", Cond.fieldLink RX4 62 "LeftProfile$Court" "places" "[I", Cond.methodLink RX4 76 yX5_isGuilty, Cond.instanceMethod yX5_isGuilty, Cond.selects RX5 yX5_isGuilty yX5_isGuilty, Cond.initialized RX5, Cond.code yX5_isGuilty cX5_isGuilty 7 (some .boolean), Cond.methodLink RX5 58 yX5_seen, Cond.instanceMethod yX5_seen, Cond.selects RX5 yX5_seen yX5_seen, Cond.code yX5_seen cX5_seen 9 (some .int), Cond.fieldLink RX5 9 "LeftProfile$Sight" "ways" "[I", Cond.fieldLink RX5 15 "LeftProfile$Sight" "between" "[I", Cond.static yX6_isPlace, Cond.code yX6_isPlace cX6_isPlace 1 (some .boolean), Cond.methodLink RX5 43 yX5_isBarred, Cond.static yX5_isBarred, Cond.code yX5_isBarred cX5_isBarred 4 (some .boolean), Cond.methodLink RX5 62 yJ6_bitCount_0f7a4, Cond.static yJ6_bitCount_0f7a4, Cond.initialized RJ6]
def wsX4_bestBrick_r3 : List Cond := [Cond.code yJ6_bitCount_0f7a4 cJ6_bitCount_0f7a4 1 (some .int), Cond.constant RJ6 265 (1431655765), Cond.constant RJ6 266 (858993459), Cond.constant RJ6 267 (252645135), Cond.static yX6_isOfKind, Cond.code yX6_isOfKind cX6_isOfKind 2 (some .boolean), Cond.static yX6_sideOf, Cond.code yX6_sideOf cX6_sideOf 1 (some .int), Cond.methodLink RX5 50 yJ9_floorMod_7cf53, Cond.static yJ9_floorMod_7cf53, Cond.initialized RJ9, Cond.code yJ9_floorMod_7cf53 cJ9_floorMod_7cf53 3 (some .int), Cond.methodLink RX5 55 yX5_cheekFrom, Cond.static yX5_cheekFrom, Cond.code yX5_cheekFrom cX5_cheekFrom 1 (some .int), Cond.methodLink RX4 100 yJ6_bitCount_0f7a4, Cond.static yX6_isOpen, Cond.code yX6_isOpen cX6_isOpen 2 (some .boolean), Cond.methodLink RX6 77 yX6_isPlace, Cond.methodLink RX6 132 yX6_bit]
def wsX4_bestBrick : List Cond := .code yX4_bestBrick cX4_bestBrick 6 (some .int) :: ((wsX4_bestBrick_r1 ++ (wsX4_bestBrick_r2 ++ wsX4_bestBrick_r3)) ++ wsX40 ++ wsX00 ++ wsX10 ++ wsX50)
def wsX4_isAsTold_r1 : List Cond := [Cond.fieldLink RX4 21 "LeftProfile$Scene" "court" "LLeftProfile$Court;", Cond.fieldLink RX4 69 "LeftProfile$Court" "size" "I", Cond.fieldLink RX4 108 "LeftProfile$Court" "told" "[I", Cond.methodLink RX4 36 yX0_people, Cond.instanceMethod yX0_people, Cond.selects RX0 yX0_people yX0_people, Cond.initialized RX0, Cond.code yX0_people cX0_people 3 (some .int), Cond.fieldLink RX0 18 "LeftProfile$Court" "size" "I", Cond.fieldLink RX0 25 "LeftProfile$Court" "places" "[I", Cond.static yX6_bit, Cond.initialized RX6, Cond.code yX6_bit cX6_bit 1 (some .int), Cond.methodLink RX4 50 yX4_seenIf, Cond.instanceMethod yX4_seenIf, Cond.selects RX4 yX4_seenIf yX4_seenIf, Cond.initialized RX4, Cond.code yX4_seenIf cX4_seenIf 4 (some .int), Cond.fieldLink RX4 28 "LeftProfile$Scene" "sight" "LLeftProfile$Sight;", Cond.fieldLink RX4 58 "LeftProfile$Court" "kinds" "[I", Cond.fieldLink RX4 62 "LeftProfile$Court" "places" "[I", Cond.fieldLink RX4 12 "LeftProfile$Scene" "hall" "LLeftProfile$Hall;", Cond.fieldLink RX4 32 "LeftProfile$Hall" "walls" "I", Cond.methodLink RX4 54 yX0_has]
def wsX4_isAsTold_r2 : List Cond := [Cond.instanceMethod yX0_has, Cond.selects RX0 yX0_has yX0_has, Cond.code yX0_has cX0_has 2 (some .boolean), Cond.methodLink RX4 65 yX5_seen, Cond.instanceMethod yX5_seen, Cond.selects RX5 yX5_seen yX5_seen, Cond.initialized RX5, Cond.code yX5_seen cX5_seen 9 (some .int), Cond.fieldLink RX5 9 "LeftProfile$Sight" "ways" "[I", Cond.fieldLink RX5 15 "LeftProfile$Sight" "between" "[I", Cond.static yX6_placeOf, Cond.code yX6_placeOf cX6_placeOf 1 (some .int), Cond.static yX6_isPlace, Cond.code yX6_isPlace cX6_isPlace 1 (some .boolean), Cond.methodLink RX5 43 yX5_isBarred, Cond.static yX5_isBarred, Cond.code yX5_isBarred cX5_isBarred 4 (some .boolean), Cond.methodLink RX5 62 yJ6_bitCount_0f7a4, Cond.static yJ6_bitCount_0f7a4, Cond.initialized RJ6, Cond.code yJ6_bitCount_0f7a4 cJ6_bitCount_0f7a4 1 (some .int), Cond.constant RJ6 265 (1431655765), Cond.constant RJ6 266 (858993459), Cond.constant RJ6 267 (252645135)]
def wsX4_isAsTold_r3 : List Cond := [Cond.static yX6_isOfKind, Cond.code yX6_isOfKind cX6_isOfKind 2 (some .boolean), Cond.static yX6_sideOf, Cond.code yX6_sideOf cX6_sideOf 1 (some .int), Cond.methodLink RX5 50 yJ9_floorMod_7cf53, Cond.static yJ9_floorMod_7cf53, Cond.initialized RJ9, Cond.code yJ9_floorMod_7cf53 cJ9_floorMod_7cf53 3 (some .int), Cond.methodLink RX5 55 yX5_cheekFrom, Cond.static yX5_cheekFrom, Cond.code yX5_cheekFrom cX5_cheekFrom 1 (some .int)]
def wsX4_isAsTold : List Cond := .code yX4_isAsTold cX4_isAsTold 4 (some .boolean) :: ((wsX4_isAsTold_r1 ++ (wsX4_isAsTold_r2 ++ wsX4_isAsTold_r3)) ++ wsX40 ++ wsX00 ++ wsX10 ++ wsX50)
def wsX4_whereHeStood_r1 : List Cond := [Cond.fieldLink RX4 12 "LeftProfile$Scene" "hall" "LLeftProfile$Hall;", Cond.fieldLink RX4 32 "LeftProfile$Hall" "walls" "I", Cond.fieldLink RX4 21 "LeftProfile$Scene" "court" "LLeftProfile$Court;", Cond.methodLink RX4 36 yX0_people, Cond.instanceMethod yX0_people, Cond.selects RX0 yX0_people yX0_people, Cond.initialized RX0, Cond.code yX0_people cX0_people 3 (some .int), Cond.fieldLink RX0 18 "LeftProfile$Court" "size" "I", Cond.fieldLink RX0 25 "LeftProfile$Court" "places" "[I", Cond.static yX6_bit, Cond.initialized RX6, Cond.code yX6_bit cX6_bit 1 (some .int), Cond.static yX6_placeOf, Cond.code yX6_placeOf cX6_placeOf 1 (some .int), Cond.static yX6_isOpen, Cond.code yX6_isOpen cX6_isOpen 2 (some .boolean), Cond.methodLink RX6 77 yX6_isPlace, Cond.static yX6_isPlace, Cond.code yX6_isPlace cX6_isPlace 1 (some .boolean), Cond.methodLink RX6 132 yX6_bit, Cond.methodLink RX4 105 yX4_isAsTold, Cond.instanceMethod yX4_isAsTold, Cond.selects RX4 yX4_isAsTold yX4_isAsTold]
def wsX4_whereHeStood_r2 : List Cond := [Cond.initialized RX4, Cond.code yX4_isAsTold cX4_isAsTold 4 (some .boolean), Cond.fieldLink RX4 69 "LeftProfile$Court" "size" "I", Cond.fieldLink RX4 108 "LeftProfile$Court" "told" "[I", Cond.methodLink RX4 50 yX4_seenIf, Cond.instanceMethod yX4_seenIf, Cond.selects RX4 yX4_seenIf yX4_seenIf, Cond.code yX4_seenIf cX4_seenIf 4 (some .int), Cond.fieldLink RX4 28 "LeftProfile$Scene" "sight" "LLeftProfile$Sight;", Cond.fieldLink RX4 58 "LeftProfile$Court" "kinds" "[I", Cond.fieldLink RX4 62 "LeftProfile$Court" "places" "[I", Cond.methodLink RX4 54 yX0_has, Cond.instanceMethod yX0_has, Cond.selects RX0 yX0_has yX0_has, Cond.code yX0_has cX0_has 2 (some .boolean), Cond.methodLink RX4 65 yX5_seen, Cond.instanceMethod yX5_seen, Cond.selects RX5 yX5_seen yX5_seen, Cond.initialized RX5, Cond.code yX5_seen cX5_seen 9 (some .int), Cond.fieldLink RX5 9 "LeftProfile$Sight" "ways" "[I", Cond.fieldLink RX5 15 "LeftProfile$Sight" "between" "[I", Cond.methodLink RX5 43 yX5_isBarred, Cond.static yX5_isBarred]
def wsX4_whereHeStood_r3 : List Cond := [Cond.code yX5_isBarred cX5_isBarred 4 (some .boolean), Cond.methodLink RX5 62 yJ6_bitCount_0f7a4, Cond.static yJ6_bitCount_0f7a4, Cond.initialized RJ6, Cond.code yJ6_bitCount_0f7a4 cJ6_bitCount_0f7a4 1 (some .int), Cond.constant RJ6 265 (1431655765), Cond.constant RJ6 266 (858993459), Cond.constant RJ6 267 (252645135), Cond.static yX6_isOfKind, Cond.code yX6_isOfKind cX6_isOfKind 2 (some .boolean), Cond.static yX6_sideOf, Cond.code yX6_sideOf cX6_sideOf 1 (some .int), Cond.methodLink RX5 50 yJ9_floorMod_7cf53, Cond.static yJ9_floorMod_7cf53, Cond.initialized RJ9, Cond.code yJ9_floorMod_7cf53 cJ9_floorMod_7cf53 3 (some .int), Cond.methodLink RX5 55 yX5_cheekFrom, Cond.static yX5_cheekFrom, Cond.code yX5_cheekFrom cX5_cheekFrom 1 (some .int)]
def wsX4_whereHeStood : List Cond := .code yX4_whereHeStood cX4_whereHeStood 7 (some .int) :: ((wsX4_whereHeStood_r1 ++ (wsX4_whereHeStood_r2 ++ wsX4_whereHeStood_r3)) ++ wsX40 ++ wsX10 ++ wsX00 ++ wsX50)
def wsX4_nextSeed : List Cond := .code yX4_nextSeed cX4_nextSeed 1 (some .int) :: ([.constantLong RX4 118 (1103515245), .constantLong RX4 120 (12345), .constantLong RX4 122 (2147483648)])
def wsX4_afterWalk_r1 : List Cond := [Cond.fieldLink RX4 21 "LeftProfile$Scene" "court" "LLeftProfile$Court;", Cond.fieldLink RX4 40 "LeftProfile$Court" "stance" "I", Cond.constant RX4 114 (65536), Cond.fieldLink RX4 12 "LeftProfile$Scene" "hall" "LLeftProfile$Hall;", Cond.fieldLink RX4 32 "LeftProfile$Hall" "walls" "I", Cond.methodLink RX4 111 yX4_nextSeed, Cond.static yX4_nextSeed, Cond.initialized RX4, Cond.code yX4_nextSeed cX4_nextSeed 1 (some .int), Cond.constantLong RX4 118 (1103515245), Cond.constantLong RX4 120 (12345), Cond.constantLong RX4 122 (2147483648), Cond.methodLink RX4 115 yX4_after, Cond.instanceMethod yX4_after, Cond.selects RX4 yX4_after yX4_after, Cond.code yX4_after cX4_after 7 (some .int), Cond.static yX6_placeOf, Cond.initialized RX6, Cond.code yX6_placeOf cX6_placeOf 1 (some .int), Cond.static yX6_sideOf, Cond.code yX6_sideOf cX6_sideOf 1 (some .int), Cond.static yX6_stanceOf, Cond.code yX6_stanceOf cX6_stanceOf 2 (some .int), Cond.static yX6_neighbour]
def wsX4_afterWalk_r2 : List Cond := [Cond.code yX6_neighbour cX6_neighbour 4 (some .int), Cond.fieldLink RX6 240 "LeftProfile" "ROWS_ON" "[I", Cond.fieldLink RX6 243 "LeftProfile" "COLUMNS_ON" "[I", Cond.methodLink RX6 77 yX6_isPlace, Cond.static yX6_isPlace, Cond.code yX6_isPlace cX6_isPlace 1 (some .boolean), Cond.methodLink RX4 36 yX0_people, Cond.instanceMethod yX0_people, Cond.selects RX0 yX0_people yX0_people, Cond.initialized RX0, Cond.code yX0_people cX0_people 3 (some .int), Cond.fieldLink RX0 18 "LeftProfile$Court" "size" "I", Cond.fieldLink RX0 25 "LeftProfile$Court" "places" "[I", Cond.static yX6_bit, Cond.code yX6_bit cX6_bit 1 (some .int), Cond.static yX6_isOpen, Cond.code yX6_isOpen cX6_isOpen 2 (some .boolean), Cond.methodLink RX6 132 yX6_bit, Cond.methodLink RX4 94 yX4_guiltyIf, Cond.instanceMethod yX4_guiltyIf, Cond.selects RX4 yX4_guiltyIf yX4_guiltyIf, Cond.code yX4_guiltyIf cX4_guiltyIf 6 (some .int), Cond.fieldLink RX4 69 "LeftProfile$Court" "size" "I", Cond.fieldLink RX4 28 "LeftProfile$Scene" "sight" "LLeftProfile$Sight;"]
def wsX4_afterWalk_r3 : List Cond := [Cond.fieldLink RX4 58 "LeftProfile$Court" "kinds" "[I", Cond.fieldLink RX4 62 "LeftProfile$Court" "places" "[I", Cond.methodLink RX4 76 yX5_isGuilty, Cond.instanceMethod yX5_isGuilty, Cond.selects RX5 yX5_isGuilty yX5_isGuilty, Cond.initialized RX5, Cond.code yX5_isGuilty cX5_isGuilty 7 (some .boolean), Cond.methodLink RX5 58 yX5_seen, Cond.instanceMethod yX5_seen, Cond.selects RX5 yX5_seen yX5_seen, Cond.code yX5_seen cX5_seen 9 (some .int), Cond.fieldLink RX5 9 "LeftProfile$Sight" "ways" "[I", Cond.fieldLink RX5 15 "LeftProfile$Sight" "between" "[I", Cond.methodLink RX5 43 yX5_isBarred, Cond.static yX5_isBarred, Cond.code yX5_isBarred cX5_isBarred 4 (some .boolean), Cond.methodLink RX5 62 yJ6_bitCount_0f7a4, Cond.static yJ6_bitCount_0f7a4, Cond.initialized RJ6, Cond.code yJ6_bitCount_0f7a4 cJ6_bitCount_0f7a4 1 (some .int), Cond.constant RJ6 265 (1431655765), Cond.constant RJ6 266 (858993459), Cond.constant RJ6 267 (252645135), Cond.static yX6_isOfKind]
def wsX4_afterWalk_r4 : List Cond := [Cond.code yX6_isOfKind cX6_isOfKind 2 (some .boolean), Cond.methodLink RX5 50 yJ9_floorMod_7cf53, Cond.static yJ9_floorMod_7cf53, Cond.initialized RJ9, Cond.code yJ9_floorMod_7cf53 cJ9_floorMod_7cf53 3 (some .int), Cond.methodLink RX5 55 yX5_cheekFrom, Cond.static yX5_cheekFrom, Cond.code yX5_cheekFrom cX5_cheekFrom 1 (some .int), Cond.methodLink RX4 100 yJ6_bitCount_0f7a4]
def wsX4_afterWalk : List Cond := .code yX4_afterWalk cX4_afterWalk 9 (some .int) :: ((wsX4_afterWalk_r1 ++ (wsX4_afterWalk_r2 ++ (wsX4_afterWalk_r3 ++ wsX4_afterWalk_r4))) ++ wsX40 ++ wsX00 ++ wsX10 ++ wsX50)
def wsX6_init_r1 : List Cond := [Cond.methodLink RX6 3 objectInit, Cond.instanceMethod objectInit, Cond.code objectInit ⟨#[0xb1]⟩ 1 none, Cond.classLink RX6 9 RX2, Cond.instantiable RX2 2, Cond.initialized RX2, Cond.fieldLink RX6 12 "LeftProfile" "page" "LLeftProfile$Page;", Cond.classLink RX6 16 RX4, Cond.instantiable RX4 3, Cond.initialized RX4, Cond.fieldLink RX6 19 "LeftProfile" "scene" "LLeftProfile$Scene;", Cond.fieldLink RX6 23 "LeftProfile$Scene" "hall" "LLeftProfile$Hall;", Cond.fieldLink RX6 27 "LeftProfile" "hall" "LLeftProfile$Hall;", Cond.fieldLink RX6 28 "LeftProfile$Scene" "court" "LLeftProfile$Court;", Cond.fieldLink RX6 32 "LeftProfile" "court" "LLeftProfile$Court;", Cond.classLink RX6 33 RX0, Cond.instantiable RX0 8, Cond.initialized RX0, Cond.fieldLink RX6 36 "LeftProfile" "kept" "LLeftProfile$Court;", Cond.classLink RX6 39 RX3, Cond.instantiable RX3 4, Cond.initialized RX3, Cond.fieldLink RX6 42 "LeftProfile" "route" "LLeftProfile$Route;", Cond.fieldLink RX6 46 "LeftProfile" "keptReading" "I"]
def wsX6_init_r2 : List Cond := [Cond.instanceMethod yX2_init, Cond.code yX2_init cX2_init 1 none, Cond.methodLink RX2 3 objectInit, Cond.arrayClass .int, Cond.fieldLink RX2 11 "LeftProfile$Page" "codes" "[I", Cond.fieldLink RX2 15 "LeftProfile$Page" "size" "I", Cond.instanceMethod yX4_init, Cond.code yX4_init cX4_init 1 none, Cond.methodLink RX4 3 objectInit, Cond.classLink RX4 9 RX1, Cond.instantiable RX1 3, Cond.initialized RX1, Cond.fieldLink RX4 12 "LeftProfile$Scene" "hall" "LLeftProfile$Hall;", Cond.classLink RX4 18 RX0, Cond.fieldLink RX4 21 "LeftProfile$Scene" "court" "LLeftProfile$Court;", Cond.classLink RX4 25 RX5, Cond.instantiable RX5 2, Cond.initialized RX5, Cond.fieldLink RX4 28 "LeftProfile$Scene" "sight" "LLeftProfile$Sight;", Cond.instanceMethod yX1_init, Cond.code yX1_init cX1_init 1 none, Cond.methodLink RX1 3 objectInit, Cond.fieldLink RX1 9 "LeftProfile$Hall" "walls" "I", Cond.fieldLink RX1 15 "LeftProfile$Hall" "floors" "I"]
def wsX6_init_r3 : List Cond := [Cond.fieldLink RX1 18 "LeftProfile$Hall" "readings" "I", Cond.instanceMethod yX0_init, Cond.code yX0_init cX0_init 1 none, Cond.methodLink RX0 3 objectInit, Cond.fieldLink RX0 9 "LeftProfile$Court" "stance" "I", Cond.fieldLink RX0 15 "LeftProfile$Court" "acts" "I", Cond.fieldLink RX0 18 "LeftProfile$Court" "size" "I", Cond.fieldLink RX0 21 "LeftProfile$Court" "kinds" "[I", Cond.fieldLink RX0 25 "LeftProfile$Court" "places" "[I", Cond.fieldLink RX0 28 "LeftProfile$Court" "sawLeft" "[I", Cond.fieldLink RX0 31 "LeftProfile$Court" "sawRight" "[I", Cond.fieldLink RX0 34 "LeftProfile$Court" "told" "[I", Cond.methodLink RX4 27 yX5_init, Cond.instanceMethod yX5_init, Cond.code yX5_init cX5_init 3 none, Cond.methodLink RX5 3 objectInit, Cond.fieldLink RX5 9 "LeftProfile$Sight" "ways" "[I", Cond.fieldLink RX5 15 "LeftProfile$Sight" "between" "[I", Cond.methodLink RX5 18 yJ7_fill_53178, Cond.static yJ7_fill_53178, Cond.initialized RJ7, Cond.code yJ7_fill_53178 cJ7_fill_53178 4 none, Cond.methodLink RX5 24 yX5_follow, Cond.instanceMethod yX5_follow]
def wsX6_init_r4 : List Cond := [Cond.selects RX5 yX5_follow yX5_follow, Cond.code yX5_follow cX5_follow 6 none, Cond.static yX6_neighbour, Cond.initialized RX6, Cond.code yX6_neighbour cX6_neighbour 4 (some .int), Cond.fieldLink RX6 240 "LeftProfile" "ROWS_ON" "[I", Cond.fieldLink RX6 243 "LeftProfile" "COLUMNS_ON" "[I", Cond.methodLink RX6 77 yX6_isPlace, Cond.static yX6_isPlace, Cond.code yX6_isPlace cX6_isPlace 1 (some .boolean), Cond.static yX6_bit, Cond.code yX6_bit cX6_bit 1 (some .int), Cond.instanceMethod yX3_init, Cond.code yX3_init cX3_init 1 none, Cond.methodLink RX3 3 objectInit, Cond.fieldLink RX3 9 "LeftProfile$Route" "queue" "[I", Cond.fieldLink RX3 15 "LeftProfile$Route" "lengths" "[I", Cond.fieldLink RX3 18 "LeftProfile$Route" "firsts" "[I", Cond.fieldLink RX3 21 "LeftProfile$Route" "queued" "I"]
def wsX6_init : List Cond := .code yX6_init cX6_init 1 none :: ((wsX6_init_r1 ++ (wsX6_init_r2 ++ (wsX6_init_r3 ++ wsX6_init_r4))) ++ wsX20 ++ wsX60 ++ wsX40 ++ wsX00 ++ wsX30 ++ wsX10 ++ wsX50)
def wsX6_letter : List Cond := .code yX6_letter cX6_letter 2 (some .int) :: ([.fieldLink RX6 12 "LeftProfile" "page" "LLeftProfile$Page;", .methodLink RX6 50 yX2_add, .instanceMethod yX2_add, .selects RX2 yX2_add yX2_add, .initialized RX2, .code yX2_add cX2_add 2 (some .int), .fieldLink RX2 15 "LeftProfile$Page" "size" "I", .fieldLink RX2 11 "LeftProfile$Page" "codes" "[I"] ++ wsX60 ++ wsX20)
def wsX6_blank : List Cond := .code yX6_blank cX6_blank 1 (some .int) :: ([.fieldLink RX6 12 "LeftProfile" "page" "LLeftProfile$Page;", .methodLink RX6 54 yX2_clear, .instanceMethod yX2_clear, .selects RX2 yX2_clear yX2_clear, .initialized RX2, .code yX2_clear cX2_clear 2 (some .int), .fieldLink RX2 15 "LeftProfile$Page" "size" "I"] ++ wsX60 ++ wsX20)
def wsX6_fault : List Cond := .code yX6_fault cX6_fault 1 (some .int) :: ([.fieldLink RX6 12 "LeftProfile" "page" "LLeftProfile$Page;", .methodLink RX6 58 yX2_firstFault, .instanceMethod yX2_firstFault, .selects RX2 yX2_firstFault yX2_firstFault, .initialized RX2, .code yX2_firstFault cX2_firstFault 2 (some .int), .fieldLink RX2 15 "LeftProfile$Page" "size" "I", .methodLink RX2 19 yX2_fits, .instanceMethod yX2_fits, .selects RX2 yX2_fits yX2_fits, .code yX2_fits cX2_fits 3 (some .boolean), .methodLink RX2 27 yX2_codeAt, .instanceMethod yX2_codeAt, .selects RX2 yX2_codeAt yX2_codeAt, .code yX2_codeAt cX2_codeAt 2 (some .int), .fieldLink RX2 11 "LeftProfile$Page" "codes" "[I"] ++ wsX60 ++ wsX20)
def wsX6_hall_r1 : List Cond := [Cond.fieldLink RX6 12 "LeftProfile" "page" "LLeftProfile$Page;", Cond.fieldLink RX6 27 "LeftProfile" "hall" "LLeftProfile$Hall;", Cond.fieldLink RX6 32 "LeftProfile" "court" "LLeftProfile$Court;", Cond.fieldLink RX6 74 "LeftProfile$Hall" "floors" "I", Cond.methodLink RX6 61 yX2_isHall, Cond.instanceMethod yX2_isHall, Cond.selects RX2 yX2_isHall yX2_isHall, Cond.initialized RX2, Cond.code yX2_isHall cX2_isHall 1 (some .boolean), Cond.fieldLink RX2 15 "LeftProfile$Page" "size" "I", Cond.methodLink RX2 23 yX2_firstFault, Cond.instanceMethod yX2_firstFault, Cond.selects RX2 yX2_firstFault yX2_firstFault, Cond.code yX2_firstFault cX2_firstFault 2 (some .int), Cond.methodLink RX2 19 yX2_fits, Cond.instanceMethod yX2_fits, Cond.selects RX2 yX2_fits yX2_fits, Cond.code yX2_fits cX2_fits 3 (some .boolean), Cond.methodLink RX2 27 yX2_codeAt, Cond.instanceMethod yX2_codeAt, Cond.selects RX2 yX2_codeAt yX2_codeAt, Cond.code yX2_codeAt cX2_codeAt 2 (some .int), Cond.fieldLink RX2 11 "LeftProfile$Page" "codes" "[I", Cond.methodLink RX6 65 yX1_read]
def wsX6_hall_r2 : List Cond := [Cond.instanceMethod yX1_read, Cond.selects RX1 yX1_read yX1_read, Cond.initialized RX1, Cond.code yX1_read cX1_read 3 none, Cond.fieldLink RX1 9 "LeftProfile$Hall" "walls" "I", Cond.fieldLink RX1 15 "LeftProfile$Hall" "floors" "I", Cond.fieldLink RX1 18 "LeftProfile$Hall" "readings" "I", Cond.methodLink RX1 21 yX2_isWall, Cond.instanceMethod yX2_isWall, Cond.selects RX2 yX2_isWall yX2_isWall, Cond.code yX2_isWall cX2_isWall 2 (some .boolean), Cond.static yX6_bit, Cond.initialized RX6, Cond.code yX6_bit cX6_bit 1 (some .int), Cond.methodLink RX1 31 yJ6_bitCount_0f7a4, Cond.static yJ6_bitCount_0f7a4, Cond.initialized RJ6, Cond.code yJ6_bitCount_0f7a4 cJ6_bitCount_0f7a4 1 (some .int), Cond.constant RJ6 265 (1431655765), Cond.constant RJ6 266 (858993459), Cond.constant RJ6 267 (252645135), Cond.methodLink RX6 54 yX2_clear, Cond.instanceMethod yX2_clear, Cond.selects RX2 yX2_clear yX2_clear]
def wsX6_hall_r3 : List Cond := [Cond.code yX2_clear cX2_clear 2 (some .int), Cond.methodLink RX6 71 yX0_leave, Cond.instanceMethod yX0_leave, Cond.selects RX0 yX0_leave yX0_leave, Cond.initialized RX0, Cond.code yX0_leave cX0_leave 1 none, Cond.fieldLink RX0 9 "LeftProfile$Court" "stance" "I", Cond.fieldLink RX0 18 "LeftProfile$Court" "size" "I"]
def wsX6_hall : List Cond := .code yX6_hall cX6_hall 1 (some .int) :: ((wsX6_hall_r1 ++ (wsX6_hall_r2 ++ wsX6_hall_r3)) ++ wsX60 ++ wsX10 ++ wsX20 ++ wsX00)
def wsX6_on_r1 : List Cond := [Cond.fieldLink RX6 27 "LeftProfile" "hall" "LLeftProfile$Hall;", Cond.fieldLink RX6 84 "LeftProfile$Hall" "walls" "I", Cond.fieldLink RX6 32 "LeftProfile" "court" "LLeftProfile$Court;", Cond.fieldLink RX6 91 "LeftProfile$Court" "stance" "I", Cond.methodLink RX6 77 yX6_isPlace, Cond.static yX6_isPlace, Cond.initialized RX6, Cond.code yX6_isPlace cX6_isPlace 1 (some .boolean), Cond.methodLink RX6 81 yX1_isMissing, Cond.instanceMethod yX1_isMissing, Cond.selects RX1 yX1_isMissing yX1_isMissing, Cond.initialized RX1, Cond.code yX1_isMissing cX1_isMissing 1 (some .boolean), Cond.fieldLink RX1 18 "LeftProfile$Hall" "readings" "I", Cond.methodLink RX6 87 yX6_isOpen, Cond.static yX6_isOpen, Cond.code yX6_isOpen cX6_isOpen 2 (some .boolean), Cond.methodLink RX6 132 yX6_bit, Cond.static yX6_bit, Cond.code yX6_bit cX6_bit 1 (some .int), Cond.methodLink RX6 94 yX6_placeOf, Cond.static yX6_placeOf, Cond.code yX6_placeOf cX6_placeOf 1 (some .int), Cond.methodLink RX6 97 yX0_whoIsOn]
def wsX6_on_r2 : List Cond := [Cond.instanceMethod yX0_whoIsOn, Cond.selects RX0 yX0_whoIsOn yX0_whoIsOn, Cond.initialized RX0, Cond.code yX0_whoIsOn cX0_whoIsOn 3 (some .int), Cond.fieldLink RX0 18 "LeftProfile$Court" "size" "I", Cond.fieldLink RX0 25 "LeftProfile$Court" "places" "[I"]
def wsX6_on : List Cond := .code yX6_on cX6_on 2 (some .int) :: ((wsX6_on_r1 ++ wsX6_on_r2) ++ wsX60 ++ wsX10 ++ wsX00)
def wsX6_duke_r1 : List Cond := [Cond.fieldLink RX6 27 "LeftProfile" "hall" "LLeftProfile$Hall;", Cond.fieldLink RX6 84 "LeftProfile$Hall" "walls" "I", Cond.fieldLink RX6 32 "LeftProfile" "court" "LLeftProfile$Court;", Cond.fieldLink RX6 91 "LeftProfile$Court" "stance" "I", Cond.methodLink RX6 77 yX6_isPlace, Cond.static yX6_isPlace, Cond.initialized RX6, Cond.code yX6_isPlace cX6_isPlace 1 (some .boolean), Cond.methodLink RX6 81 yX1_isMissing, Cond.instanceMethod yX1_isMissing, Cond.selects RX1 yX1_isMissing yX1_isMissing, Cond.initialized RX1, Cond.code yX1_isMissing cX1_isMissing 1 (some .boolean), Cond.fieldLink RX1 18 "LeftProfile$Hall" "readings" "I", Cond.methodLink RX6 100 yX0_people, Cond.instanceMethod yX0_people, Cond.selects RX0 yX0_people yX0_people, Cond.initialized RX0, Cond.code yX0_people cX0_people 3 (some .int), Cond.fieldLink RX0 18 "LeftProfile$Court" "size" "I", Cond.fieldLink RX0 25 "LeftProfile$Court" "places" "[I", Cond.static yX6_bit, Cond.code yX6_bit cX6_bit 1 (some .int), Cond.methodLink RX6 87 yX6_isOpen]
def wsX6_duke_r2 : List Cond := [Cond.static yX6_isOpen, Cond.code yX6_isOpen cX6_isOpen 2 (some .boolean), Cond.methodLink RX6 132 yX6_bit, Cond.methodLink RX6 103 yX6_stanceOf, Cond.static yX6_stanceOf, Cond.code yX6_stanceOf cX6_stanceOf 2 (some .int)]
def wsX6_duke : List Cond := .code yX6_duke cX6_duke 3 (some .int) :: ((wsX6_duke_r1 ++ wsX6_duke_r2) ++ wsX60 ++ wsX10 ++ wsX00)
def wsX6_isKind : List Cond := .code yX6_isKind cX6_isKind 1 (some .boolean) :: ([])
def wsX6_courtier_r1 : List Cond := [Cond.fieldLink RX6 27 "LeftProfile" "hall" "LLeftProfile$Hall;", Cond.fieldLink RX6 19 "LeftProfile" "scene" "LLeftProfile$Scene;", Cond.fieldLink RX6 32 "LeftProfile" "court" "LLeftProfile$Court;", Cond.methodLink RX6 77 yX6_isPlace, Cond.static yX6_isPlace, Cond.initialized RX6, Cond.code yX6_isPlace cX6_isPlace 1 (some .boolean), Cond.methodLink RX6 107 yX6_isKind, Cond.static yX6_isKind, Cond.code yX6_isKind cX6_isKind 1 (some .boolean), Cond.methodLink RX6 81 yX1_isMissing, Cond.instanceMethod yX1_isMissing, Cond.selects RX1 yX1_isMissing yX1_isMissing, Cond.initialized RX1, Cond.code yX1_isMissing cX1_isMissing 1 (some .boolean), Cond.fieldLink RX1 18 "LeftProfile$Hall" "readings" "I", Cond.methodLink RX6 110 yX4_taken, Cond.instanceMethod yX4_taken, Cond.selects RX4 yX4_taken yX4_taken, Cond.initialized RX4, Cond.code yX4_taken cX4_taken 2 (some .int), Cond.fieldLink RX4 12 "LeftProfile$Scene" "hall" "LLeftProfile$Hall;", Cond.fieldLink RX4 32 "LeftProfile$Hall" "walls" "I", Cond.fieldLink RX4 21 "LeftProfile$Scene" "court" "LLeftProfile$Court;"]
def wsX6_courtier_r2 : List Cond := [Cond.fieldLink RX4 40 "LeftProfile$Court" "stance" "I", Cond.methodLink RX4 36 yX0_people, Cond.instanceMethod yX0_people, Cond.selects RX0 yX0_people yX0_people, Cond.initialized RX0, Cond.code yX0_people cX0_people 3 (some .int), Cond.fieldLink RX0 18 "LeftProfile$Court" "size" "I", Cond.fieldLink RX0 25 "LeftProfile$Court" "places" "[I", Cond.static yX6_bit, Cond.code yX6_bit cX6_bit 1 (some .int), Cond.static yX6_placeOf, Cond.code yX6_placeOf cX6_placeOf 1 (some .int), Cond.methodLink RX6 87 yX6_isOpen, Cond.static yX6_isOpen, Cond.code yX6_isOpen cX6_isOpen 2 (some .boolean), Cond.methodLink RX6 132 yX6_bit, Cond.methodLink RX6 113 yX0_join, Cond.instanceMethod yX0_join, Cond.selects RX0 yX0_join yX0_join, Cond.code yX0_join cX0_join 4 (some .int), Cond.fieldLink RX0 21 "LeftProfile$Court" "kinds" "[I", Cond.fieldLink RX0 28 "LeftProfile$Court" "sawLeft" "[I", Cond.fieldLink RX0 31 "LeftProfile$Court" "sawRight" "[I", Cond.fieldLink RX0 34 "LeftProfile$Court" "told" "[I"]
def wsX6_courtier : List Cond := .code yX6_courtier cX6_courtier 3 (some .int) :: ((wsX6_courtier_r1 ++ wsX6_courtier_r2) ++ wsX60 ++ wsX10 ++ wsX40 ++ wsX00)
def wsX6_about_r1 : List Cond := [Cond.fieldLink RX6 32 "LeftProfile" "court" "LLeftProfile$Court;", Cond.fieldLink RX6 119 "LeftProfile$Court" "kinds" "[I", Cond.fieldLink RX6 123 "LeftProfile$Court" "places" "[I", Cond.fieldLink RX6 19 "LeftProfile" "scene" "LLeftProfile$Scene;", Cond.fieldLink RX6 91 "LeftProfile$Court" "stance" "I", Cond.fieldLink RX6 27 "LeftProfile" "hall" "LLeftProfile$Hall;", Cond.fieldLink RX6 84 "LeftProfile$Hall" "walls" "I", Cond.fieldLink RX6 135 "LeftProfile$Court" "sawLeft" "[I", Cond.fieldLink RX6 138 "LeftProfile$Court" "sawRight" "[I", Cond.methodLink RX6 116 yX0_has, Cond.instanceMethod yX0_has, Cond.selects RX0 yX0_has yX0_has, Cond.initialized RX0, Cond.code yX0_has cX0_has 2 (some .boolean), Cond.fieldLink RX0 18 "LeftProfile$Court" "size" "I", Cond.methodLink RX6 126 yX4_seenBy, Cond.instanceMethod yX4_seenBy, Cond.selects RX4 yX4_seenBy yX4_seenBy, Cond.initialized RX4, Cond.code yX4_seenBy cX4_seenBy 2 (some .int), Cond.fieldLink RX4 21 "LeftProfile$Scene" "court" "LLeftProfile$Court;", Cond.fieldLink RX4 40 "LeftProfile$Court" "stance" "I", Cond.methodLink RX4 36 yX0_people, Cond.instanceMethod yX0_people]
def wsX6_about_r2 : List Cond := [Cond.selects RX0 yX0_people yX0_people, Cond.code yX0_people cX0_people 3 (some .int), Cond.fieldLink RX0 25 "LeftProfile$Court" "places" "[I", Cond.static yX6_bit, Cond.initialized RX6, Cond.code yX6_bit cX6_bit 1 (some .int), Cond.methodLink RX4 50 yX4_seenIf, Cond.instanceMethod yX4_seenIf, Cond.selects RX4 yX4_seenIf yX4_seenIf, Cond.code yX4_seenIf cX4_seenIf 4 (some .int), Cond.fieldLink RX4 28 "LeftProfile$Scene" "sight" "LLeftProfile$Sight;", Cond.fieldLink RX4 58 "LeftProfile$Court" "kinds" "[I", Cond.fieldLink RX4 62 "LeftProfile$Court" "places" "[I", Cond.fieldLink RX4 12 "LeftProfile$Scene" "hall" "LLeftProfile$Hall;", Cond.fieldLink RX4 32 "LeftProfile$Hall" "walls" "I", Cond.methodLink RX4 54 yX0_has, Cond.methodLink RX4 65 yX5_seen, Cond.instanceMethod yX5_seen, Cond.selects RX5 yX5_seen yX5_seen, Cond.initialized RX5, Cond.code yX5_seen cX5_seen 9 (some .int), Cond.fieldLink RX5 9 "LeftProfile$Sight" "ways" "[I", Cond.fieldLink RX5 15 "LeftProfile$Sight" "between" "[I", Cond.static yX6_placeOf]
def wsX6_about_r3 : List Cond := [Cond.code yX6_placeOf cX6_placeOf 1 (some .int), Cond.static yX6_isPlace, Cond.code yX6_isPlace cX6_isPlace 1 (some .boolean), Cond.methodLink RX5 43 yX5_isBarred, Cond.static yX5_isBarred, Cond.code yX5_isBarred cX5_isBarred 4 (some .boolean), Cond.methodLink RX5 62 yJ6_bitCount_0f7a4, Cond.static yJ6_bitCount_0f7a4, Cond.initialized RJ6, Cond.code yJ6_bitCount_0f7a4 cJ6_bitCount_0f7a4 1 (some .int), Cond.constant RJ6 265 (1431655765), Cond.constant RJ6 266 (858993459), Cond.constant RJ6 267 (252645135), Cond.static yX6_isOfKind, Cond.code yX6_isOfKind cX6_isOfKind 2 (some .boolean), Cond.static yX6_sideOf, Cond.code yX6_sideOf cX6_sideOf 1 (some .int), Cond.methodLink RX5 50 yJ9_floorMod_7cf53, Cond.static yJ9_floorMod_7cf53, Cond.initialized RJ9, Cond.code yJ9_floorMod_7cf53 cJ9_floorMod_7cf53 3 (some .int), Cond.methodLink RX5 55 yX5_cheekFrom, Cond.static yX5_cheekFrom, Cond.code yX5_cheekFrom cX5_cheekFrom 1 (some .int)]
def wsX6_about_r4 : List Cond := [Cond.methodLink RX6 129 yX4_guiltyIf, Cond.instanceMethod yX4_guiltyIf, Cond.selects RX4 yX4_guiltyIf yX4_guiltyIf, Cond.code yX4_guiltyIf cX4_guiltyIf 6 (some .int), Cond.fieldLink RX4 69 "LeftProfile$Court" "size" "I", Cond.methodLink RX4 76 yX5_isGuilty, Cond.instanceMethod yX5_isGuilty, Cond.selects RX5 yX5_isGuilty yX5_isGuilty, Cond.code yX5_isGuilty cX5_isGuilty 7 (some .boolean), Cond.methodLink RX5 58 yX5_seen, Cond.methodLink RX6 132 yX6_bit]
def wsX6_about : List Cond := .code yX6_about cX6_about 3 (some .int) :: ((wsX6_about_r1 ++ (wsX6_about_r2 ++ (wsX6_about_r3 ++ wsX6_about_r4))) ++ wsX60 ++ wsX00 ++ wsX10 ++ wsX40 ++ wsX50)
def wsX6_as : List Cond := .code yX6_as cX6_as 3 (some .int) :: ([.fieldLink RX6 32 "LeftProfile" "court" "LLeftProfile$Court;", .fieldLink RX6 119 "LeftProfile$Court" "kinds" "[I", .methodLink RX6 116 yX0_has, .instanceMethod yX0_has, .selects RX0 yX0_has yX0_has, .initialized RX0, .code yX0_has cX0_has 2 (some .boolean), .fieldLink RX0 18 "LeftProfile$Court" "size" "I", .methodLink RX6 107 yX6_isKind, .static yX6_isKind, .initialized RX6, .code yX6_isKind cX6_isKind 1 (some .boolean), .methodLink RX6 141 yX6_isOfKind, .static yX6_isOfKind, .code yX6_isOfKind cX6_isOfKind 2 (some .boolean)] ++ wsX60 ++ wsX00)
def wsX6_go_r1 : List Cond := [Cond.fieldLink RX6 32 "LeftProfile" "court" "LLeftProfile$Court;", Cond.fieldLink RX6 19 "LeftProfile" "scene" "LLeftProfile$Scene;", Cond.fieldLink RX6 123 "LeftProfile$Court" "places" "[I", Cond.methodLink RX6 116 yX0_has, Cond.instanceMethod yX0_has, Cond.selects RX0 yX0_has yX0_has, Cond.initialized RX0, Cond.code yX0_has cX0_has 2 (some .boolean), Cond.fieldLink RX0 18 "LeftProfile$Court" "size" "I", Cond.methodLink RX6 77 yX6_isPlace, Cond.static yX6_isPlace, Cond.initialized RX6, Cond.code yX6_isPlace cX6_isPlace 1 (some .boolean), Cond.methodLink RX6 110 yX4_taken, Cond.instanceMethod yX4_taken, Cond.selects RX4 yX4_taken yX4_taken, Cond.initialized RX4, Cond.code yX4_taken cX4_taken 2 (some .int), Cond.fieldLink RX4 12 "LeftProfile$Scene" "hall" "LLeftProfile$Hall;", Cond.fieldLink RX4 32 "LeftProfile$Hall" "walls" "I", Cond.fieldLink RX4 21 "LeftProfile$Scene" "court" "LLeftProfile$Court;", Cond.fieldLink RX4 40 "LeftProfile$Court" "stance" "I", Cond.methodLink RX4 36 yX0_people, Cond.instanceMethod yX0_people]
def wsX6_go_r2 : List Cond := [Cond.selects RX0 yX0_people yX0_people, Cond.code yX0_people cX0_people 3 (some .int), Cond.fieldLink RX0 25 "LeftProfile$Court" "places" "[I", Cond.static yX6_bit, Cond.code yX6_bit cX6_bit 1 (some .int), Cond.static yX6_placeOf, Cond.code yX6_placeOf cX6_placeOf 1 (some .int), Cond.methodLink RX6 87 yX6_isOpen, Cond.static yX6_isOpen, Cond.code yX6_isOpen cX6_isOpen 2 (some .boolean), Cond.methodLink RX6 132 yX6_bit]
def wsX6_go : List Cond := .code yX6_go cX6_go 4 (some .int) :: ((wsX6_go_r1 ++ wsX6_go_r2) ++ wsX60 ++ wsX00 ++ wsX40 ++ wsX10)
def wsX6_act_r1 : List Cond := [Cond.fieldLink RX6 19 "LeftProfile" "scene" "LLeftProfile$Scene;", Cond.fieldLink RX6 32 "LeftProfile" "court" "LLeftProfile$Court;", Cond.fieldLink RX6 91 "LeftProfile$Court" "stance" "I", Cond.fieldLink RX6 147 "LeftProfile$Court" "acts" "I", Cond.fieldLink RX6 27 "LeftProfile" "hall" "LLeftProfile$Hall;", Cond.fieldLink RX6 84 "LeftProfile$Hall" "walls" "I", Cond.methodLink RX6 144 yX4_after, Cond.instanceMethod yX4_after, Cond.selects RX4 yX4_after yX4_after, Cond.initialized RX4, Cond.code yX4_after cX4_after 7 (some .int), Cond.fieldLink RX4 12 "LeftProfile$Scene" "hall" "LLeftProfile$Hall;", Cond.fieldLink RX4 32 "LeftProfile$Hall" "walls" "I", Cond.fieldLink RX4 21 "LeftProfile$Scene" "court" "LLeftProfile$Court;", Cond.static yX6_placeOf, Cond.initialized RX6, Cond.code yX6_placeOf cX6_placeOf 1 (some .int), Cond.static yX6_sideOf, Cond.code yX6_sideOf cX6_sideOf 1 (some .int), Cond.static yX6_stanceOf, Cond.code yX6_stanceOf cX6_stanceOf 2 (some .int), Cond.static yX6_neighbour, Cond.code yX6_neighbour cX6_neighbour 4 (some .int), Cond.fieldLink RX6 240 "LeftProfile" "ROWS_ON" "[I"]
def wsX6_act_r2 : List Cond := [Cond.fieldLink RX6 243 "LeftProfile" "COLUMNS_ON" "[I", Cond.methodLink RX6 77 yX6_isPlace, Cond.static yX6_isPlace, Cond.code yX6_isPlace cX6_isPlace 1 (some .boolean), Cond.methodLink RX4 36 yX0_people, Cond.instanceMethod yX0_people, Cond.selects RX0 yX0_people yX0_people, Cond.initialized RX0, Cond.code yX0_people cX0_people 3 (some .int), Cond.fieldLink RX0 18 "LeftProfile$Court" "size" "I", Cond.fieldLink RX0 25 "LeftProfile$Court" "places" "[I", Cond.static yX6_bit, Cond.code yX6_bit cX6_bit 1 (some .int), Cond.static yX6_isOpen, Cond.code yX6_isOpen cX6_isOpen 2 (some .boolean), Cond.methodLink RX6 132 yX6_bit, Cond.methodLink RX6 150 yX4_everybodyLooks, Cond.instanceMethod yX4_everybodyLooks, Cond.selects RX4 yX4_everybodyLooks yX4_everybodyLooks, Cond.code yX4_everybodyLooks cX4_everybodyLooks 3 none, Cond.fieldLink RX4 69 "LeftProfile$Court" "size" "I", Cond.fieldLink RX4 40 "LeftProfile$Court" "stance" "I", Cond.methodLink RX4 50 yX4_seenIf, Cond.instanceMethod yX4_seenIf]
def wsX6_act_r3 : List Cond := [Cond.selects RX4 yX4_seenIf yX4_seenIf, Cond.code yX4_seenIf cX4_seenIf 4 (some .int), Cond.fieldLink RX4 28 "LeftProfile$Scene" "sight" "LLeftProfile$Sight;", Cond.fieldLink RX4 58 "LeftProfile$Court" "kinds" "[I", Cond.fieldLink RX4 62 "LeftProfile$Court" "places" "[I", Cond.methodLink RX4 54 yX0_has, Cond.instanceMethod yX0_has, Cond.selects RX0 yX0_has yX0_has, Cond.code yX0_has cX0_has 2 (some .boolean), Cond.methodLink RX4 65 yX5_seen, Cond.instanceMethod yX5_seen, Cond.selects RX5 yX5_seen yX5_seen, Cond.initialized RX5, Cond.code yX5_seen cX5_seen 9 (some .int), Cond.fieldLink RX5 9 "LeftProfile$Sight" "ways" "[I", Cond.fieldLink RX5 15 "LeftProfile$Sight" "between" "[I", Cond.methodLink RX5 43 yX5_isBarred, Cond.static yX5_isBarred, Cond.code yX5_isBarred cX5_isBarred 4 (some .boolean), Cond.methodLink RX5 62 yJ6_bitCount_0f7a4, Cond.static yJ6_bitCount_0f7a4, Cond.initialized RJ6, Cond.code yJ6_bitCount_0f7a4 cJ6_bitCount_0f7a4 1 (some .int), Cond.constant RJ6 265 (1431655765)]
def wsX6_act_r4 : List Cond := [Cond.constant RJ6 266 (858993459), Cond.constant RJ6 267 (252645135), Cond.static yX6_isOfKind, Cond.code yX6_isOfKind cX6_isOfKind 2 (some .boolean), Cond.methodLink RX5 50 yJ9_floorMod_7cf53, Cond.static yJ9_floorMod_7cf53, Cond.initialized RJ9, Cond.code yJ9_floorMod_7cf53 cJ9_floorMod_7cf53 3 (some .int), Cond.methodLink RX5 55 yX5_cheekFrom, Cond.static yX5_cheekFrom, Cond.code yX5_cheekFrom cX5_cheekFrom 1 (some .int), Cond.methodLink RX4 72 yX0_look, Cond.instanceMethod yX0_look, Cond.selects RX0 yX0_look yX0_look, Cond.code yX0_look cX0_look 3 none, Cond.fieldLink RX0 28 "LeftProfile$Court" "sawLeft" "[I", Cond.fieldLink RX0 31 "LeftProfile$Court" "sawRight" "[I", Cond.methodLink RX0 47 yX0_has, Cond.methodLink RX6 129 yX4_guiltyIf, Cond.instanceMethod yX4_guiltyIf, Cond.selects RX4 yX4_guiltyIf yX4_guiltyIf, Cond.code yX4_guiltyIf cX4_guiltyIf 6 (some .int), Cond.methodLink RX4 76 yX5_isGuilty, Cond.instanceMethod yX5_isGuilty]
def wsX6_act_r5 : List Cond := [Cond.selects RX5 yX5_isGuilty yX5_isGuilty, Cond.code yX5_isGuilty cX5_isGuilty 7 (some .boolean), Cond.methodLink RX5 58 yX5_seen, Cond.methodLink RX6 153 yJ6_bitCount_0f7a4]
def wsX6_act : List Cond := .code yX6_act cX6_act 3 (some .int) :: ((wsX6_act_r1 ++ (wsX6_act_r2 ++ (wsX6_act_r3 ++ (wsX6_act_r4 ++ wsX6_act_r5)))) ++ wsX60 ++ wsX00 ++ wsX10 ++ wsX40 ++ wsX50)
def wsX6_guilty_r1 : List Cond := [Cond.fieldLink RX6 19 "LeftProfile" "scene" "LLeftProfile$Scene;", Cond.fieldLink RX6 32 "LeftProfile" "court" "LLeftProfile$Court;", Cond.fieldLink RX6 91 "LeftProfile$Court" "stance" "I", Cond.fieldLink RX6 27 "LeftProfile" "hall" "LLeftProfile$Hall;", Cond.fieldLink RX6 84 "LeftProfile$Hall" "walls" "I", Cond.methodLink RX6 129 yX4_guiltyIf, Cond.instanceMethod yX4_guiltyIf, Cond.selects RX4 yX4_guiltyIf yX4_guiltyIf, Cond.initialized RX4, Cond.code yX4_guiltyIf cX4_guiltyIf 6 (some .int), Cond.fieldLink RX4 21 "LeftProfile$Scene" "court" "LLeftProfile$Court;", Cond.fieldLink RX4 69 "LeftProfile$Court" "size" "I", Cond.fieldLink RX4 28 "LeftProfile$Scene" "sight" "LLeftProfile$Sight;", Cond.fieldLink RX4 58 "LeftProfile$Court" "kinds" "[I", Cond.fieldLink RX4 62 "LeftProfile$Court" "places" "[I", Cond.methodLink RX4 36 yX0_people, Cond.instanceMethod yX0_people, Cond.selects RX0 yX0_people yX0_people, Cond.initialized RX0, Cond.code yX0_people cX0_people 3 (some .int), Cond.fieldLink RX0 18 "LeftProfile$Court" "size" "I", Cond.fieldLink RX0 25 "LeftProfile$Court" "places" "[I", Cond.static yX6_bit, Cond.initialized RX6]
def wsX6_guilty_r2 : List Cond := [Cond.code yX6_bit cX6_bit 1 (some .int), Cond.methodLink RX4 76 yX5_isGuilty, Cond.instanceMethod yX5_isGuilty, Cond.selects RX5 yX5_isGuilty yX5_isGuilty, Cond.initialized RX5, Cond.code yX5_isGuilty cX5_isGuilty 7 (some .boolean), Cond.methodLink RX5 58 yX5_seen, Cond.instanceMethod yX5_seen, Cond.selects RX5 yX5_seen yX5_seen, Cond.code yX5_seen cX5_seen 9 (some .int), Cond.fieldLink RX5 9 "LeftProfile$Sight" "ways" "[I", Cond.fieldLink RX5 15 "LeftProfile$Sight" "between" "[I", Cond.static yX6_placeOf, Cond.code yX6_placeOf cX6_placeOf 1 (some .int), Cond.static yX6_isPlace, Cond.code yX6_isPlace cX6_isPlace 1 (some .boolean), Cond.methodLink RX5 43 yX5_isBarred, Cond.static yX5_isBarred, Cond.code yX5_isBarred cX5_isBarred 4 (some .boolean), Cond.methodLink RX5 62 yJ6_bitCount_0f7a4, Cond.static yJ6_bitCount_0f7a4, Cond.initialized RJ6, Cond.code yJ6_bitCount_0f7a4 cJ6_bitCount_0f7a4 1 (some .int), Cond.constant RJ6 265 (1431655765)]
def wsX6_guilty_r3 : List Cond := [Cond.constant RJ6 266 (858993459), Cond.constant RJ6 267 (252645135), Cond.static yX6_isOfKind, Cond.code yX6_isOfKind cX6_isOfKind 2 (some .boolean), Cond.static yX6_sideOf, Cond.code yX6_sideOf cX6_sideOf 1 (some .int), Cond.methodLink RX5 50 yJ9_floorMod_7cf53, Cond.static yJ9_floorMod_7cf53, Cond.initialized RJ9, Cond.code yJ9_floorMod_7cf53 cJ9_floorMod_7cf53 3 (some .int), Cond.methodLink RX5 55 yX5_cheekFrom, Cond.static yX5_cheekFrom, Cond.code yX5_cheekFrom cX5_cheekFrom 1 (some .int)]
def wsX6_guilty : List Cond := .code yX6_guilty cX6_guilty 1 (some .int) :: ((wsX6_guilty_r1 ++ (wsX6_guilty_r2 ++ wsX6_guilty_r3)) ++ wsX60 ++ wsX00 ++ wsX10 ++ wsX40 ++ wsX50)
def wsX6_placeInSet : List Cond := .code yX6_placeInSet cX6_placeInSet 4 (some .int) :: ([.methodLink RX6 132 yX6_bit, .static yX6_bit, .initialized RX6, .code yX6_bit cX6_bit 1 (some .int)])
def wsX6_room_r1 : List Cond := [Cond.fieldLink RX6 32 "LeftProfile" "court" "LLeftProfile$Court;", Cond.fieldLink RX6 91 "LeftProfile$Court" "stance" "I", Cond.fieldLink RX6 19 "LeftProfile" "scene" "LLeftProfile$Scene;", Cond.methodLink RX6 158 yX4_roomFor, Cond.instanceMethod yX4_roomFor, Cond.selects RX4 yX4_roomFor yX4_roomFor, Cond.initialized RX4, Cond.code yX4_roomFor cX4_roomFor 7 (some .int), Cond.fieldLink RX4 21 "LeftProfile$Scene" "court" "LLeftProfile$Court;", Cond.fieldLink RX4 40 "LeftProfile$Court" "stance" "I", Cond.fieldLink RX4 12 "LeftProfile$Scene" "hall" "LLeftProfile$Hall;", Cond.fieldLink RX4 32 "LeftProfile$Hall" "walls" "I", Cond.fieldLink RX4 28 "LeftProfile$Scene" "sight" "LLeftProfile$Sight;", Cond.methodLink RX4 94 yX4_guiltyIf, Cond.instanceMethod yX4_guiltyIf, Cond.selects RX4 yX4_guiltyIf yX4_guiltyIf, Cond.code yX4_guiltyIf cX4_guiltyIf 6 (some .int), Cond.fieldLink RX4 69 "LeftProfile$Court" "size" "I", Cond.fieldLink RX4 58 "LeftProfile$Court" "kinds" "[I", Cond.fieldLink RX4 62 "LeftProfile$Court" "places" "[I", Cond.methodLink RX4 36 yX0_people, Cond.instanceMethod yX0_people, Cond.selects RX0 yX0_people yX0_people, Cond.initialized RX0]
def wsX6_room_r2 : List Cond := [Cond.code yX0_people cX0_people 3 (some .int), Cond.fieldLink RX0 18 "LeftProfile$Court" "size" "I", Cond.fieldLink RX0 25 "LeftProfile$Court" "places" "[I", Cond.static yX6_bit, Cond.initialized RX6, Cond.code yX6_bit cX6_bit 1 (some .int), Cond.methodLink RX4 76 yX5_isGuilty, Cond.instanceMethod yX5_isGuilty, Cond.selects RX5 yX5_isGuilty yX5_isGuilty, Cond.initialized RX5, Cond.code yX5_isGuilty cX5_isGuilty 7 (some .boolean), Cond.methodLink RX5 58 yX5_seen, Cond.instanceMethod yX5_seen, Cond.selects RX5 yX5_seen yX5_seen, Cond.code yX5_seen cX5_seen 9 (some .int), Cond.fieldLink RX5 9 "LeftProfile$Sight" "ways" "[I", Cond.fieldLink RX5 15 "LeftProfile$Sight" "between" "[I", Cond.static yX6_placeOf, Cond.code yX6_placeOf cX6_placeOf 1 (some .int), Cond.static yX6_isPlace, Cond.code yX6_isPlace cX6_isPlace 1 (some .boolean), Cond.methodLink RX5 43 yX5_isBarred, Cond.static yX5_isBarred, Cond.code yX5_isBarred cX5_isBarred 4 (some .boolean)]
def wsX6_room_r3 : List Cond := [Cond.methodLink RX5 62 yJ6_bitCount_0f7a4, Cond.static yJ6_bitCount_0f7a4, Cond.initialized RJ6, Cond.code yJ6_bitCount_0f7a4 cJ6_bitCount_0f7a4 1 (some .int), Cond.constant RJ6 265 (1431655765), Cond.constant RJ6 266 (858993459), Cond.constant RJ6 267 (252645135), Cond.static yX6_isOfKind, Cond.code yX6_isOfKind cX6_isOfKind 2 (some .boolean), Cond.static yX6_sideOf, Cond.code yX6_sideOf cX6_sideOf 1 (some .int), Cond.methodLink RX5 50 yJ9_floorMod_7cf53, Cond.static yJ9_floorMod_7cf53, Cond.initialized RJ9, Cond.code yJ9_floorMod_7cf53 cJ9_floorMod_7cf53 3 (some .int), Cond.methodLink RX5 55 yX5_cheekFrom, Cond.static yX5_cheekFrom, Cond.code yX5_cheekFrom cX5_cheekFrom 1 (some .int), Cond.methodLink RX4 97 yX4_taken, Cond.instanceMethod yX4_taken, Cond.selects RX4 yX4_taken yX4_taken, Cond.code yX4_taken cX4_taken 2 (some .int), Cond.static yX6_isOpen, Cond.code yX6_isOpen cX6_isOpen 2 (some .boolean)]
def wsX6_room_r4 : List Cond := [Cond.methodLink RX6 77 yX6_isPlace, Cond.methodLink RX6 132 yX6_bit, Cond.methodLink RX6 161 yX6_placeInSet, Cond.static yX6_placeInSet, Cond.code yX6_placeInSet cX6_placeInSet 4 (some .int)]
def wsX6_room : List Cond := .code yX6_room cX6_room 3 (some .int) :: ((wsX6_room_r1 ++ (wsX6_room_r2 ++ (wsX6_room_r3 ++ wsX6_room_r4))) ++ wsX60 ++ wsX00 ++ wsX40 ++ wsX10 ++ wsX50)
def wsX6_brick_r1 : List Cond := [Cond.fieldLink RX6 32 "LeftProfile" "court" "LLeftProfile$Court;", Cond.fieldLink RX6 91 "LeftProfile$Court" "stance" "I", Cond.fieldLink RX6 19 "LeftProfile" "scene" "LLeftProfile$Scene;", Cond.fieldLink RX6 27 "LeftProfile" "hall" "LLeftProfile$Hall;", Cond.fieldLink RX6 84 "LeftProfile$Hall" "walls" "I", Cond.methodLink RX6 164 yX4_bestBrick, Cond.instanceMethod yX4_bestBrick, Cond.selects RX4 yX4_bestBrick yX4_bestBrick, Cond.initialized RX4, Cond.code yX4_bestBrick cX4_bestBrick 6 (some .int), Cond.fieldLink RX4 21 "LeftProfile$Scene" "court" "LLeftProfile$Court;", Cond.fieldLink RX4 40 "LeftProfile$Court" "stance" "I", Cond.fieldLink RX4 12 "LeftProfile$Scene" "hall" "LLeftProfile$Hall;", Cond.fieldLink RX4 32 "LeftProfile$Hall" "walls" "I", Cond.methodLink RX4 97 yX4_taken, Cond.instanceMethod yX4_taken, Cond.selects RX4 yX4_taken yX4_taken, Cond.code yX4_taken cX4_taken 2 (some .int), Cond.methodLink RX4 36 yX0_people, Cond.instanceMethod yX0_people, Cond.selects RX0 yX0_people yX0_people, Cond.initialized RX0, Cond.code yX0_people cX0_people 3 (some .int), Cond.fieldLink RX0 18 "LeftProfile$Court" "size" "I"]
def wsX6_brick_r2 : List Cond := [Cond.fieldLink RX0 25 "LeftProfile$Court" "places" "[I", Cond.static yX6_bit, Cond.initialized RX6, Cond.code yX6_bit cX6_bit 1 (some .int), Cond.static yX6_placeOf, Cond.code yX6_placeOf cX6_placeOf 1 (some .int), Cond.methodLink RX4 94 yX4_guiltyIf, Cond.instanceMethod yX4_guiltyIf, Cond.selects RX4 yX4_guiltyIf yX4_guiltyIf, Cond.code yX4_guiltyIf cX4_guiltyIf 6 (some .int), Cond.fieldLink RX4 69 "LeftProfile$Court" "size" "I", Cond.fieldLink RX4 28 "LeftProfile$Scene" "sight" "LLeftProfile$Sight;", Cond.fieldLink RX4 58 "LeftProfile$Court" "kinds" "[I", Cond.fieldLink RX4 62 "LeftProfile$Court" "places" "[I", Cond.methodLink RX4 76 yX5_isGuilty, Cond.instanceMethod yX5_isGuilty, Cond.selects RX5 yX5_isGuilty yX5_isGuilty, Cond.initialized RX5, Cond.code yX5_isGuilty cX5_isGuilty 7 (some .boolean), Cond.methodLink RX5 58 yX5_seen, Cond.instanceMethod yX5_seen, Cond.selects RX5 yX5_seen yX5_seen, Cond.code yX5_seen cX5_seen 9 (some .int), Cond.fieldLink RX5 9 "LeftProfile$Sight" "ways" "[I"]
def wsX6_brick_r3 : List Cond := [Cond.fieldLink RX5 15 "LeftProfile$Sight" "between" "[I", Cond.static yX6_isPlace, Cond.code yX6_isPlace cX6_isPlace 1 (some .boolean), Cond.methodLink RX5 43 yX5_isBarred, Cond.static yX5_isBarred, Cond.code yX5_isBarred cX5_isBarred 4 (some .boolean), Cond.methodLink RX5 62 yJ6_bitCount_0f7a4, Cond.static yJ6_bitCount_0f7a4, Cond.initialized RJ6, Cond.code yJ6_bitCount_0f7a4 cJ6_bitCount_0f7a4 1 (some .int), Cond.constant RJ6 265 (1431655765), Cond.constant RJ6 266 (858993459), Cond.constant RJ6 267 (252645135), Cond.static yX6_isOfKind, Cond.code yX6_isOfKind cX6_isOfKind 2 (some .boolean), Cond.static yX6_sideOf, Cond.code yX6_sideOf cX6_sideOf 1 (some .int), Cond.methodLink RX5 50 yJ9_floorMod_7cf53, Cond.static yJ9_floorMod_7cf53, Cond.initialized RJ9, Cond.code yJ9_floorMod_7cf53 cJ9_floorMod_7cf53 3 (some .int), Cond.methodLink RX5 55 yX5_cheekFrom, Cond.static yX5_cheekFrom, Cond.code yX5_cheekFrom cX5_cheekFrom 1 (some .int)]
def wsX6_brick_r4 : List Cond := [Cond.methodLink RX4 100 yJ6_bitCount_0f7a4, Cond.static yX6_isOpen, Cond.code yX6_isOpen cX6_isOpen 2 (some .boolean), Cond.methodLink RX6 77 yX6_isPlace, Cond.methodLink RX6 132 yX6_bit, Cond.methodLink RX6 129 yX4_guiltyIf, Cond.methodLink RX6 153 yJ6_bitCount_0f7a4]
def wsX6_brick : List Cond := .code yX6_brick cX6_brick 3 (some .int) :: ((wsX6_brick_r1 ++ (wsX6_brick_r2 ++ (wsX6_brick_r3 ++ wsX6_brick_r4))) ++ wsX60 ++ wsX00 ++ wsX10 ++ wsX40 ++ wsX50)
def wsX6_way_r1 : List Cond := [Cond.fieldLink RX6 32 "LeftProfile" "court" "LLeftProfile$Court;", Cond.fieldLink RX6 91 "LeftProfile$Court" "stance" "I", Cond.fieldLink RX6 42 "LeftProfile" "route" "LLeftProfile$Route;", Cond.fieldLink RX6 19 "LeftProfile" "scene" "LLeftProfile$Scene;", Cond.methodLink RX6 77 yX6_isPlace, Cond.static yX6_isPlace, Cond.initialized RX6, Cond.code yX6_isPlace cX6_isPlace 1 (some .boolean), Cond.methodLink RX6 167 yX3_find, Cond.instanceMethod yX3_find, Cond.selects RX3 yX3_find yX3_find, Cond.initialized RX3, Cond.code yX3_find cX3_find 8 (some .int), Cond.fieldLink RX3 15 "LeftProfile$Route" "lengths" "[I", Cond.fieldLink RX3 21 "LeftProfile$Route" "queued" "I", Cond.fieldLink RX3 9 "LeftProfile$Route" "queue" "[I", Cond.fieldLink RX3 49 "LeftProfile$Scene" "hall" "LLeftProfile$Hall;", Cond.fieldLink RX3 53 "LeftProfile$Hall" "walls" "I", Cond.methodLink RX3 25 yJ7_fill_53178, Cond.static yJ7_fill_53178, Cond.initialized RJ7, Cond.code yJ7_fill_53178 cJ7_fill_53178 4 none, Cond.methodLink RX3 31 yX3_reach, Cond.instanceMethod yX3_reach]
def wsX6_way_r2 : List Cond := [Cond.selects RX3 yX3_reach yX3_reach, Cond.code yX3_reach cX3_reach 4 none, Cond.fieldLink RX3 18 "LeftProfile$Route" "firsts" "[I", Cond.methodLink RX3 45 yX3_isStance, Cond.static yX3_isStance, Cond.code yX3_isStance cX3_isStance 1 (some .boolean), Cond.static yX6_placeOf, Cond.code yX6_placeOf cX6_placeOf 1 (some .int), Cond.methodLink RX3 39 yX4_after, Cond.instanceMethod yX4_after, Cond.selects RX4 yX4_after yX4_after, Cond.initialized RX4, Cond.code yX4_after cX4_after 7 (some .int), Cond.fieldLink RX4 12 "LeftProfile$Scene" "hall" "LLeftProfile$Hall;", Cond.fieldLink RX4 32 "LeftProfile$Hall" "walls" "I", Cond.fieldLink RX4 21 "LeftProfile$Scene" "court" "LLeftProfile$Court;", Cond.static yX6_sideOf, Cond.code yX6_sideOf cX6_sideOf 1 (some .int), Cond.static yX6_stanceOf, Cond.code yX6_stanceOf cX6_stanceOf 2 (some .int), Cond.static yX6_neighbour, Cond.code yX6_neighbour cX6_neighbour 4 (some .int), Cond.fieldLink RX6 240 "LeftProfile" "ROWS_ON" "[I", Cond.fieldLink RX6 243 "LeftProfile" "COLUMNS_ON" "[I"]
def wsX6_way_r3 : List Cond := [Cond.methodLink RX4 36 yX0_people, Cond.instanceMethod yX0_people, Cond.selects RX0 yX0_people yX0_people, Cond.initialized RX0, Cond.code yX0_people cX0_people 3 (some .int), Cond.fieldLink RX0 18 "LeftProfile$Court" "size" "I", Cond.fieldLink RX0 25 "LeftProfile$Court" "places" "[I", Cond.static yX6_bit, Cond.code yX6_bit cX6_bit 1 (some .int), Cond.static yX6_isOpen, Cond.code yX6_isOpen cX6_isOpen 2 (some .boolean), Cond.methodLink RX6 132 yX6_bit, Cond.methodLink RX3 58 yX4_guiltyIf, Cond.instanceMethod yX4_guiltyIf, Cond.selects RX4 yX4_guiltyIf yX4_guiltyIf, Cond.code yX4_guiltyIf cX4_guiltyIf 6 (some .int), Cond.fieldLink RX4 69 "LeftProfile$Court" "size" "I", Cond.fieldLink RX4 28 "LeftProfile$Scene" "sight" "LLeftProfile$Sight;", Cond.fieldLink RX4 58 "LeftProfile$Court" "kinds" "[I", Cond.fieldLink RX4 62 "LeftProfile$Court" "places" "[I", Cond.methodLink RX4 76 yX5_isGuilty, Cond.instanceMethod yX5_isGuilty, Cond.selects RX5 yX5_isGuilty yX5_isGuilty, Cond.initialized RX5]
def wsX6_way_r4 : List Cond := [Cond.code yX5_isGuilty cX5_isGuilty 7 (some .boolean), Cond.methodLink RX5 58 yX5_seen, Cond.instanceMethod yX5_seen, Cond.selects RX5 yX5_seen yX5_seen, Cond.code yX5_seen cX5_seen 9 (some .int), Cond.fieldLink RX5 9 "LeftProfile$Sight" "ways" "[I", Cond.fieldLink RX5 15 "LeftProfile$Sight" "between" "[I", Cond.methodLink RX5 43 yX5_isBarred, Cond.static yX5_isBarred, Cond.code yX5_isBarred cX5_isBarred 4 (some .boolean), Cond.methodLink RX5 62 yJ6_bitCount_0f7a4, Cond.static yJ6_bitCount_0f7a4, Cond.initialized RJ6, Cond.code yJ6_bitCount_0f7a4 cJ6_bitCount_0f7a4 1 (some .int), Cond.constant RJ6 265 (1431655765), Cond.constant RJ6 266 (858993459), Cond.constant RJ6 267 (252645135), Cond.static yX6_isOfKind, Cond.code yX6_isOfKind cX6_isOfKind 2 (some .boolean), Cond.methodLink RX5 50 yJ9_floorMod_7cf53, Cond.static yJ9_floorMod_7cf53, Cond.initialized RJ9, Cond.code yJ9_floorMod_7cf53 cJ9_floorMod_7cf53 3 (some .int), Cond.methodLink RX5 55 yX5_cheekFrom]
def wsX6_way_r5 : List Cond := [Cond.static yX5_cheekFrom, Cond.code yX5_cheekFrom cX5_cheekFrom 1 (some .int), Cond.methodLink RX3 61 yX3_lengthTo, Cond.instanceMethod yX3_lengthTo, Cond.selects RX3 yX3_lengthTo yX3_lengthTo, Cond.code yX3_lengthTo cX3_lengthTo 2 (some .int), Cond.methodLink RX3 64 yX3_firstTo, Cond.instanceMethod yX3_firstTo, Cond.selects RX3 yX3_firstTo yX3_firstTo, Cond.code yX3_firstTo cX3_firstTo 2 (some .int), Cond.methodLink RX6 171 yX3_lengthTo, Cond.methodLink RX6 174 yX3_firstTo]
def wsX6_way : List Cond := .code yX6_way cX6_way 4 (some .int) :: ((wsX6_way_r1 ++ (wsX6_way_r2 ++ (wsX6_way_r3 ++ (wsX6_way_r4 ++ wsX6_way_r5)))) ++ wsX60 ++ wsX00 ++ wsX30 ++ wsX40 ++ wsX10 ++ wsX50)
def wsX6_told : List Cond := .code yX6_told cX6_told 4 (some .int) :: ([.fieldLink RX6 32 "LeftProfile" "court" "LLeftProfile$Court;", .fieldLink RX6 177 "LeftProfile$Court" "told" "[I", .methodLink RX6 116 yX0_has, .instanceMethod yX0_has, .selects RX0 yX0_has yX0_has, .initialized RX0, .code yX0_has cX0_has 2 (some .boolean), .fieldLink RX0 18 "LeftProfile$Court" "size" "I"] ++ wsX60 ++ wsX00)
def wsX6_stood_r1 : List Cond := [Cond.fieldLink RX6 27 "LeftProfile" "hall" "LLeftProfile$Hall;", Cond.fieldLink RX6 19 "LeftProfile" "scene" "LLeftProfile$Scene;", Cond.methodLink RX6 81 yX1_isMissing, Cond.instanceMethod yX1_isMissing, Cond.selects RX1 yX1_isMissing yX1_isMissing, Cond.initialized RX1, Cond.code yX1_isMissing cX1_isMissing 1 (some .boolean), Cond.fieldLink RX1 18 "LeftProfile$Hall" "readings" "I", Cond.methodLink RX6 180 yX4_whereHeStood, Cond.instanceMethod yX4_whereHeStood, Cond.selects RX4 yX4_whereHeStood yX4_whereHeStood, Cond.initialized RX4, Cond.code yX4_whereHeStood cX4_whereHeStood 7 (some .int), Cond.fieldLink RX4 12 "LeftProfile$Scene" "hall" "LLeftProfile$Hall;", Cond.fieldLink RX4 32 "LeftProfile$Hall" "walls" "I", Cond.fieldLink RX4 21 "LeftProfile$Scene" "court" "LLeftProfile$Court;", Cond.methodLink RX4 36 yX0_people, Cond.instanceMethod yX0_people, Cond.selects RX0 yX0_people yX0_people, Cond.initialized RX0, Cond.code yX0_people cX0_people 3 (some .int), Cond.fieldLink RX0 18 "LeftProfile$Court" "size" "I", Cond.fieldLink RX0 25 "LeftProfile$Court" "places" "[I", Cond.static yX6_bit]
def wsX6_stood_r2 : List Cond := [Cond.initialized RX6, Cond.code yX6_bit cX6_bit 1 (some .int), Cond.static yX6_placeOf, Cond.code yX6_placeOf cX6_placeOf 1 (some .int), Cond.static yX6_isOpen, Cond.code yX6_isOpen cX6_isOpen 2 (some .boolean), Cond.methodLink RX6 77 yX6_isPlace, Cond.static yX6_isPlace, Cond.code yX6_isPlace cX6_isPlace 1 (some .boolean), Cond.methodLink RX6 132 yX6_bit, Cond.methodLink RX4 105 yX4_isAsTold, Cond.instanceMethod yX4_isAsTold, Cond.selects RX4 yX4_isAsTold yX4_isAsTold, Cond.code yX4_isAsTold cX4_isAsTold 4 (some .boolean), Cond.fieldLink RX4 69 "LeftProfile$Court" "size" "I", Cond.fieldLink RX4 108 "LeftProfile$Court" "told" "[I", Cond.methodLink RX4 50 yX4_seenIf, Cond.instanceMethod yX4_seenIf, Cond.selects RX4 yX4_seenIf yX4_seenIf, Cond.code yX4_seenIf cX4_seenIf 4 (some .int), Cond.fieldLink RX4 28 "LeftProfile$Scene" "sight" "LLeftProfile$Sight;", Cond.fieldLink RX4 58 "LeftProfile$Court" "kinds" "[I", Cond.fieldLink RX4 62 "LeftProfile$Court" "places" "[I", Cond.methodLink RX4 54 yX0_has]
def wsX6_stood_r3 : List Cond := [Cond.instanceMethod yX0_has, Cond.selects RX0 yX0_has yX0_has, Cond.code yX0_has cX0_has 2 (some .boolean), Cond.methodLink RX4 65 yX5_seen, Cond.instanceMethod yX5_seen, Cond.selects RX5 yX5_seen yX5_seen, Cond.initialized RX5, Cond.code yX5_seen cX5_seen 9 (some .int), Cond.fieldLink RX5 9 "LeftProfile$Sight" "ways" "[I", Cond.fieldLink RX5 15 "LeftProfile$Sight" "between" "[I", Cond.methodLink RX5 43 yX5_isBarred, Cond.static yX5_isBarred, Cond.code yX5_isBarred cX5_isBarred 4 (some .boolean), Cond.methodLink RX5 62 yJ6_bitCount_0f7a4, Cond.static yJ6_bitCount_0f7a4, Cond.initialized RJ6, Cond.code yJ6_bitCount_0f7a4 cJ6_bitCount_0f7a4 1 (some .int), Cond.constant RJ6 265 (1431655765), Cond.constant RJ6 266 (858993459), Cond.constant RJ6 267 (252645135), Cond.static yX6_isOfKind, Cond.code yX6_isOfKind cX6_isOfKind 2 (some .boolean), Cond.static yX6_sideOf, Cond.code yX6_sideOf cX6_sideOf 1 (some .int)]
def wsX6_stood_r4 : List Cond := [Cond.methodLink RX5 50 yJ9_floorMod_7cf53, Cond.static yJ9_floorMod_7cf53, Cond.initialized RJ9, Cond.code yJ9_floorMod_7cf53 cJ9_floorMod_7cf53 3 (some .int), Cond.methodLink RX5 55 yX5_cheekFrom, Cond.static yX5_cheekFrom, Cond.code yX5_cheekFrom cX5_cheekFrom 1 (some .int)]
def wsX6_stood : List Cond := .code yX6_stood cX6_stood 2 (some .int) :: ((wsX6_stood_r1 ++ (wsX6_stood_r2 ++ (wsX6_stood_r3 ++ wsX6_stood_r4))) ++ wsX60 ++ wsX10 ++ wsX40 ++ wsX00 ++ wsX50)
def wsX6_walk_r1 : List Cond := [Cond.fieldLink RX6 32 "LeftProfile" "court" "LLeftProfile$Court;", Cond.fieldLink RX6 91 "LeftProfile$Court" "stance" "I", Cond.fieldLink RX6 19 "LeftProfile" "scene" "LLeftProfile$Scene;", Cond.methodLink RX6 183 yX4_afterWalk, Cond.instanceMethod yX4_afterWalk, Cond.selects RX4 yX4_afterWalk yX4_afterWalk, Cond.initialized RX4, Cond.code yX4_afterWalk cX4_afterWalk 9 (some .int), Cond.fieldLink RX4 21 "LeftProfile$Scene" "court" "LLeftProfile$Court;", Cond.fieldLink RX4 40 "LeftProfile$Court" "stance" "I", Cond.constant RX4 114 (65536), Cond.fieldLink RX4 12 "LeftProfile$Scene" "hall" "LLeftProfile$Hall;", Cond.fieldLink RX4 32 "LeftProfile$Hall" "walls" "I", Cond.methodLink RX4 111 yX4_nextSeed, Cond.static yX4_nextSeed, Cond.code yX4_nextSeed cX4_nextSeed 1 (some .int), Cond.constantLong RX4 118 (1103515245), Cond.constantLong RX4 120 (12345), Cond.constantLong RX4 122 (2147483648), Cond.methodLink RX4 115 yX4_after, Cond.instanceMethod yX4_after, Cond.selects RX4 yX4_after yX4_after, Cond.code yX4_after cX4_after 7 (some .int), Cond.static yX6_placeOf]
def wsX6_walk_r2 : List Cond := [Cond.initialized RX6, Cond.code yX6_placeOf cX6_placeOf 1 (some .int), Cond.static yX6_sideOf, Cond.code yX6_sideOf cX6_sideOf 1 (some .int), Cond.static yX6_stanceOf, Cond.code yX6_stanceOf cX6_stanceOf 2 (some .int), Cond.static yX6_neighbour, Cond.code yX6_neighbour cX6_neighbour 4 (some .int), Cond.fieldLink RX6 240 "LeftProfile" "ROWS_ON" "[I", Cond.fieldLink RX6 243 "LeftProfile" "COLUMNS_ON" "[I", Cond.methodLink RX6 77 yX6_isPlace, Cond.static yX6_isPlace, Cond.code yX6_isPlace cX6_isPlace 1 (some .boolean), Cond.methodLink RX4 36 yX0_people, Cond.instanceMethod yX0_people, Cond.selects RX0 yX0_people yX0_people, Cond.initialized RX0, Cond.code yX0_people cX0_people 3 (some .int), Cond.fieldLink RX0 18 "LeftProfile$Court" "size" "I", Cond.fieldLink RX0 25 "LeftProfile$Court" "places" "[I", Cond.static yX6_bit, Cond.code yX6_bit cX6_bit 1 (some .int), Cond.static yX6_isOpen, Cond.code yX6_isOpen cX6_isOpen 2 (some .boolean)]
def wsX6_walk_r3 : List Cond := [Cond.methodLink RX6 132 yX6_bit, Cond.methodLink RX4 94 yX4_guiltyIf, Cond.instanceMethod yX4_guiltyIf, Cond.selects RX4 yX4_guiltyIf yX4_guiltyIf, Cond.code yX4_guiltyIf cX4_guiltyIf 6 (some .int), Cond.fieldLink RX4 69 "LeftProfile$Court" "size" "I", Cond.fieldLink RX4 28 "LeftProfile$Scene" "sight" "LLeftProfile$Sight;", Cond.fieldLink RX4 58 "LeftProfile$Court" "kinds" "[I", Cond.fieldLink RX4 62 "LeftProfile$Court" "places" "[I", Cond.methodLink RX4 76 yX5_isGuilty, Cond.instanceMethod yX5_isGuilty, Cond.selects RX5 yX5_isGuilty yX5_isGuilty, Cond.initialized RX5, Cond.code yX5_isGuilty cX5_isGuilty 7 (some .boolean), Cond.methodLink RX5 58 yX5_seen, Cond.instanceMethod yX5_seen, Cond.selects RX5 yX5_seen yX5_seen, Cond.code yX5_seen cX5_seen 9 (some .int), Cond.fieldLink RX5 9 "LeftProfile$Sight" "ways" "[I", Cond.fieldLink RX5 15 "LeftProfile$Sight" "between" "[I", Cond.methodLink RX5 43 yX5_isBarred, Cond.static yX5_isBarred, Cond.code yX5_isBarred cX5_isBarred 4 (some .boolean), Cond.methodLink RX5 62 yJ6_bitCount_0f7a4]
def wsX6_walk_r4 : List Cond := [Cond.static yJ6_bitCount_0f7a4, Cond.initialized RJ6, Cond.code yJ6_bitCount_0f7a4 cJ6_bitCount_0f7a4 1 (some .int), Cond.constant RJ6 265 (1431655765), Cond.constant RJ6 266 (858993459), Cond.constant RJ6 267 (252645135), Cond.static yX6_isOfKind, Cond.code yX6_isOfKind cX6_isOfKind 2 (some .boolean), Cond.methodLink RX5 50 yJ9_floorMod_7cf53, Cond.static yJ9_floorMod_7cf53, Cond.initialized RJ9, Cond.code yJ9_floorMod_7cf53 cJ9_floorMod_7cf53 3 (some .int), Cond.methodLink RX5 55 yX5_cheekFrom, Cond.static yX5_cheekFrom, Cond.code yX5_cheekFrom cX5_cheekFrom 1 (some .int), Cond.methodLink RX4 100 yJ6_bitCount_0f7a4]
def wsX6_walk : List Cond := .code yX6_walk cX6_walk 4 (some .int) :: ((wsX6_walk_r1 ++ (wsX6_walk_r2 ++ (wsX6_walk_r3 ++ wsX6_walk_r4))) ++ wsX60 ++ wsX00 ++ wsX40 ++ wsX10 ++ wsX50)
def wsX6_image_r1 : List Cond := [Cond.fieldLink RX6 27 "LeftProfile" "hall" "LLeftProfile$Hall;", Cond.fieldLink RX6 36 "LeftProfile" "kept" "LLeftProfile$Court;", Cond.fieldLink RX6 32 "LeftProfile" "court" "LLeftProfile$Court;", Cond.fieldLink RX6 191 "LeftProfile$Hall" "readings" "I", Cond.fieldLink RX6 46 "LeftProfile" "keptReading" "I", Cond.fieldLink RX6 194 "LeftProfile$Court" "size" "I", Cond.methodLink RX6 81 yX1_isMissing, Cond.instanceMethod yX1_isMissing, Cond.selects RX1 yX1_isMissing yX1_isMissing, Cond.initialized RX1, Cond.code yX1_isMissing cX1_isMissing 1 (some .boolean), Cond.fieldLink RX1 18 "LeftProfile$Hall" "readings" "I", Cond.methodLink RX6 187 yX0_takeFrom, Cond.instanceMethod yX0_takeFrom, Cond.selects RX0 yX0_takeFrom yX0_takeFrom, Cond.initialized RX0, Cond.code yX0_takeFrom cX0_takeFrom 2 none, Cond.fieldLink RX0 9 "LeftProfile$Court" "stance" "I", Cond.fieldLink RX0 15 "LeftProfile$Court" "acts" "I", Cond.fieldLink RX0 18 "LeftProfile$Court" "size" "I", Cond.fieldLink RX0 21 "LeftProfile$Court" "kinds" "[I", Cond.methodLink RX0 37 arraycopyName, Cond.native arraycopyName, Cond.static arraycopyName]
def wsX6_image_r2 : List Cond := [Cond.initialized "java/lang/System", Cond.fieldLink RX0 25 "LeftProfile$Court" "places" "[I", Cond.fieldLink RX0 28 "LeftProfile$Court" "sawLeft" "[I", Cond.fieldLink RX0 31 "LeftProfile$Court" "sawRight" "[I", Cond.fieldLink RX0 34 "LeftProfile$Court" "told" "[I"]
def wsX6_image : List Cond := .code yX6_image cX6_image 1 (some .int) :: ((wsX6_image_r1 ++ wsX6_image_r2) ++ wsX60 ++ wsX10 ++ wsX00)
def wsX6_restore : List Cond := .code yX6_restore cX6_restore 1 (some .int) :: ([.fieldLink RX6 46 "LeftProfile" "keptReading" "I", .fieldLink RX6 27 "LeftProfile" "hall" "LLeftProfile$Hall;", .fieldLink RX6 191 "LeftProfile$Hall" "readings" "I", .fieldLink RX6 32 "LeftProfile" "court" "LLeftProfile$Court;", .fieldLink RX6 36 "LeftProfile" "kept" "LLeftProfile$Court;", .fieldLink RX6 194 "LeftProfile$Court" "size" "I", .methodLink RX6 187 yX0_takeFrom, .instanceMethod yX0_takeFrom, .selects RX0 yX0_takeFrom yX0_takeFrom, .initialized RX0, .code yX0_takeFrom cX0_takeFrom 2 none, .fieldLink RX0 9 "LeftProfile$Court" "stance" "I", .fieldLink RX0 15 "LeftProfile$Court" "acts" "I", .fieldLink RX0 18 "LeftProfile$Court" "size" "I", .fieldLink RX0 21 "LeftProfile$Court" "kinds" "[I", .methodLink RX0 37 arraycopyName, .native arraycopyName, .static arraycopyName, .initialized "java/lang/System", .fieldLink RX0 25 "LeftProfile$Court" "places" "[I", .fieldLink RX0 28 "LeftProfile$Court" "sawLeft" "[I", .fieldLink RX0 31 "LeftProfile$Court" "sawRight" "[I", .fieldLink RX0 34 "LeftProfile$Court" "told" "[I"] ++ wsX60 ++ wsX10 ++ wsX00)
def wsX6_count_r1 : List Cond := [Cond.fieldLink RX6 27 "LeftProfile" "hall" "LLeftProfile$Hall;", Cond.fieldLink RX6 74 "LeftProfile$Hall" "floors" "I", Cond.fieldLink RX6 32 "LeftProfile" "court" "LLeftProfile$Court;", Cond.fieldLink RX6 194 "LeftProfile$Court" "size" "I", Cond.fieldLink RX6 91 "LeftProfile$Court" "stance" "I", Cond.fieldLink RX6 19 "LeftProfile" "scene" "LLeftProfile$Scene;", Cond.fieldLink RX6 84 "LeftProfile$Hall" "walls" "I", Cond.fieldLink RX6 147 "LeftProfile$Court" "acts" "I", Cond.fieldLink RX6 12 "LeftProfile" "page" "LLeftProfile$Page;", Cond.fieldLink RX6 203 "LeftProfile$Page" "size" "I", Cond.fieldLink RX6 191 "LeftProfile$Hall" "readings" "I", Cond.methodLink RX6 94 yX6_placeOf, Cond.static yX6_placeOf, Cond.initialized RX6, Cond.code yX6_placeOf cX6_placeOf 1 (some .int), Cond.methodLink RX6 197 yX6_sideOf, Cond.static yX6_sideOf, Cond.code yX6_sideOf cX6_sideOf 1 (some .int), Cond.methodLink RX6 129 yX4_guiltyIf, Cond.instanceMethod yX4_guiltyIf, Cond.selects RX4 yX4_guiltyIf yX4_guiltyIf, Cond.initialized RX4, Cond.code yX4_guiltyIf cX4_guiltyIf 6 (some .int), Cond.fieldLink RX4 21 "LeftProfile$Scene" "court" "LLeftProfile$Court;"]
def wsX6_count_r2 : List Cond := [Cond.fieldLink RX4 69 "LeftProfile$Court" "size" "I", Cond.fieldLink RX4 28 "LeftProfile$Scene" "sight" "LLeftProfile$Sight;", Cond.fieldLink RX4 58 "LeftProfile$Court" "kinds" "[I", Cond.fieldLink RX4 62 "LeftProfile$Court" "places" "[I", Cond.methodLink RX4 36 yX0_people, Cond.instanceMethod yX0_people, Cond.selects RX0 yX0_people yX0_people, Cond.initialized RX0, Cond.code yX0_people cX0_people 3 (some .int), Cond.fieldLink RX0 18 "LeftProfile$Court" "size" "I", Cond.fieldLink RX0 25 "LeftProfile$Court" "places" "[I", Cond.static yX6_bit, Cond.code yX6_bit cX6_bit 1 (some .int), Cond.methodLink RX4 76 yX5_isGuilty, Cond.instanceMethod yX5_isGuilty, Cond.selects RX5 yX5_isGuilty yX5_isGuilty, Cond.initialized RX5, Cond.code yX5_isGuilty cX5_isGuilty 7 (some .boolean), Cond.methodLink RX5 58 yX5_seen, Cond.instanceMethod yX5_seen, Cond.selects RX5 yX5_seen yX5_seen, Cond.code yX5_seen cX5_seen 9 (some .int), Cond.fieldLink RX5 9 "LeftProfile$Sight" "ways" "[I", Cond.fieldLink RX5 15 "LeftProfile$Sight" "between" "[I"]
def wsX6_count_r3 : List Cond := [Cond.static yX6_isPlace, Cond.code yX6_isPlace cX6_isPlace 1 (some .boolean), Cond.methodLink RX5 43 yX5_isBarred, Cond.static yX5_isBarred, Cond.code yX5_isBarred cX5_isBarred 4 (some .boolean), Cond.methodLink RX5 62 yJ6_bitCount_0f7a4, Cond.static yJ6_bitCount_0f7a4, Cond.initialized RJ6, Cond.code yJ6_bitCount_0f7a4 cJ6_bitCount_0f7a4 1 (some .int), Cond.constant RJ6 265 (1431655765), Cond.constant RJ6 266 (858993459), Cond.constant RJ6 267 (252645135), Cond.static yX6_isOfKind, Cond.code yX6_isOfKind cX6_isOfKind 2 (some .boolean), Cond.methodLink RX5 50 yJ9_floorMod_7cf53, Cond.static yJ9_floorMod_7cf53, Cond.initialized RJ9, Cond.code yJ9_floorMod_7cf53 cJ9_floorMod_7cf53 3 (some .int), Cond.methodLink RX5 55 yX5_cheekFrom, Cond.static yX5_cheekFrom, Cond.code yX5_cheekFrom cX5_cheekFrom 1 (some .int), Cond.methodLink RX6 153 yJ6_bitCount_0f7a4, Cond.methodLink RX6 200 yX0_howManyTold, Cond.instanceMethod yX0_howManyTold]
def wsX6_count_r4 : List Cond := [Cond.selects RX0 yX0_howManyTold yX0_howManyTold, Cond.code yX0_howManyTold cX0_howManyTold 3 (some .int), Cond.fieldLink RX0 34 "LeftProfile$Court" "told" "[I"]
def wsX6_count : List Cond := .code yX6_count cX6_count 2 (some .int) :: ((wsX6_count_r1 ++ (wsX6_count_r2 ++ (wsX6_count_r3 ++ wsX6_count_r4))) ++ wsX60 ++ wsX10 ++ wsX00 ++ wsX20 ++ wsX40 ++ wsX50)
def wsX6_mixed : List Cond := .code yX6_mixed cX6_mixed 3 (some .long) :: ([.constantLong RX6 238 (31)])
def wsX6_mixedCourtiers_r1 : List Cond := [Cond.fieldLink RX6 32 "LeftProfile" "court" "LLeftProfile$Court;", Cond.fieldLink RX6 194 "LeftProfile$Court" "size" "I", Cond.fieldLink RX6 177 "LeftProfile$Court" "told" "[I", Cond.methodLink RX6 235 yX6_about, Cond.instanceMethod yX6_about, Cond.selects RX6 yX6_about yX6_about, Cond.initialized RX6, Cond.code yX6_about cX6_about 3 (some .int), Cond.fieldLink RX6 119 "LeftProfile$Court" "kinds" "[I", Cond.fieldLink RX6 123 "LeftProfile$Court" "places" "[I", Cond.fieldLink RX6 19 "LeftProfile" "scene" "LLeftProfile$Scene;", Cond.fieldLink RX6 91 "LeftProfile$Court" "stance" "I", Cond.fieldLink RX6 27 "LeftProfile" "hall" "LLeftProfile$Hall;", Cond.fieldLink RX6 84 "LeftProfile$Hall" "walls" "I", Cond.fieldLink RX6 135 "LeftProfile$Court" "sawLeft" "[I", Cond.fieldLink RX6 138 "LeftProfile$Court" "sawRight" "[I", Cond.methodLink RX6 116 yX0_has, Cond.instanceMethod yX0_has, Cond.selects RX0 yX0_has yX0_has, Cond.initialized RX0, Cond.code yX0_has cX0_has 2 (some .boolean), Cond.fieldLink RX0 18 "LeftProfile$Court" "size" "I", Cond.methodLink RX6 126 yX4_seenBy, Cond.instanceMethod yX4_seenBy]
def wsX6_mixedCourtiers_r2 : List Cond := [Cond.selects RX4 yX4_seenBy yX4_seenBy, Cond.initialized RX4, Cond.code yX4_seenBy cX4_seenBy 2 (some .int), Cond.fieldLink RX4 21 "LeftProfile$Scene" "court" "LLeftProfile$Court;", Cond.fieldLink RX4 40 "LeftProfile$Court" "stance" "I", Cond.methodLink RX4 36 yX0_people, Cond.instanceMethod yX0_people, Cond.selects RX0 yX0_people yX0_people, Cond.code yX0_people cX0_people 3 (some .int), Cond.fieldLink RX0 25 "LeftProfile$Court" "places" "[I", Cond.static yX6_bit, Cond.code yX6_bit cX6_bit 1 (some .int), Cond.methodLink RX4 50 yX4_seenIf, Cond.instanceMethod yX4_seenIf, Cond.selects RX4 yX4_seenIf yX4_seenIf, Cond.code yX4_seenIf cX4_seenIf 4 (some .int), Cond.fieldLink RX4 28 "LeftProfile$Scene" "sight" "LLeftProfile$Sight;", Cond.fieldLink RX4 58 "LeftProfile$Court" "kinds" "[I", Cond.fieldLink RX4 62 "LeftProfile$Court" "places" "[I", Cond.fieldLink RX4 12 "LeftProfile$Scene" "hall" "LLeftProfile$Hall;", Cond.fieldLink RX4 32 "LeftProfile$Hall" "walls" "I", Cond.methodLink RX4 54 yX0_has, Cond.methodLink RX4 65 yX5_seen, Cond.instanceMethod yX5_seen]
def wsX6_mixedCourtiers_r3 : List Cond := [Cond.selects RX5 yX5_seen yX5_seen, Cond.initialized RX5, Cond.code yX5_seen cX5_seen 9 (some .int), Cond.fieldLink RX5 9 "LeftProfile$Sight" "ways" "[I", Cond.fieldLink RX5 15 "LeftProfile$Sight" "between" "[I", Cond.static yX6_placeOf, Cond.code yX6_placeOf cX6_placeOf 1 (some .int), Cond.static yX6_isPlace, Cond.code yX6_isPlace cX6_isPlace 1 (some .boolean), Cond.methodLink RX5 43 yX5_isBarred, Cond.static yX5_isBarred, Cond.code yX5_isBarred cX5_isBarred 4 (some .boolean), Cond.methodLink RX5 62 yJ6_bitCount_0f7a4, Cond.static yJ6_bitCount_0f7a4, Cond.initialized RJ6, Cond.code yJ6_bitCount_0f7a4 cJ6_bitCount_0f7a4 1 (some .int), Cond.constant RJ6 265 (1431655765), Cond.constant RJ6 266 (858993459), Cond.constant RJ6 267 (252645135), Cond.static yX6_isOfKind, Cond.code yX6_isOfKind cX6_isOfKind 2 (some .boolean), Cond.static yX6_sideOf, Cond.code yX6_sideOf cX6_sideOf 1 (some .int), Cond.methodLink RX5 50 yJ9_floorMod_7cf53]
def wsX6_mixedCourtiers_r4 : List Cond := [Cond.static yJ9_floorMod_7cf53, Cond.initialized RJ9, Cond.code yJ9_floorMod_7cf53 cJ9_floorMod_7cf53 3 (some .int), Cond.methodLink RX5 55 yX5_cheekFrom, Cond.static yX5_cheekFrom, Cond.code yX5_cheekFrom cX5_cheekFrom 1 (some .int), Cond.methodLink RX6 129 yX4_guiltyIf, Cond.instanceMethod yX4_guiltyIf, Cond.selects RX4 yX4_guiltyIf yX4_guiltyIf, Cond.code yX4_guiltyIf cX4_guiltyIf 6 (some .int), Cond.fieldLink RX4 69 "LeftProfile$Court" "size" "I", Cond.methodLink RX4 76 yX5_isGuilty, Cond.instanceMethod yX5_isGuilty, Cond.selects RX5 yX5_isGuilty yX5_isGuilty, Cond.code yX5_isGuilty cX5_isGuilty 7 (some .boolean), Cond.methodLink RX5 58 yX5_seen, Cond.methodLink RX6 132 yX6_bit, Cond.methodLink RX6 209 yX6_mixed, Cond.static yX6_mixed, Cond.code yX6_mixed cX6_mixed 3 (some .long), Cond.constantLong RX6 238 (31)]
def wsX6_mixedCourtiers : List Cond := .code yX6_mixedCourtiers cX6_mixedCourtiers 7 (some .long) :: ((wsX6_mixedCourtiers_r1 ++ (wsX6_mixedCourtiers_r2 ++ (wsX6_mixedCourtiers_r3 ++ wsX6_mixedCourtiers_r4))) ++ wsX60 ++ wsX00 ++ wsX10 ++ wsX40 ++ wsX50)
def wsX6_digest_r1 : List Cond := [Cond.constantLong RX6 204 (719), Cond.fieldLink RX6 27 "LeftProfile" "hall" "LLeftProfile$Hall;", Cond.fieldLink RX6 32 "LeftProfile" "court" "LLeftProfile$Court;", Cond.fieldLink RX6 91 "LeftProfile$Court" "stance" "I", Cond.fieldLink RX6 12 "LeftProfile" "page" "LLeftProfile$Page;", Cond.fieldLink RX6 203 "LeftProfile$Page" "size" "I", Cond.methodLink RX6 81 yX1_isMissing, Cond.instanceMethod yX1_isMissing, Cond.selects RX1 yX1_isMissing yX1_isMissing, Cond.initialized RX1, Cond.code yX1_isMissing cX1_isMissing 1 (some .boolean), Cond.fieldLink RX1 18 "LeftProfile$Hall" "readings" "I", Cond.methodLink RX6 206 yX6_on, Cond.instanceMethod yX6_on, Cond.selects RX6 yX6_on yX6_on, Cond.initialized RX6, Cond.code yX6_on cX6_on 2 (some .int), Cond.fieldLink RX6 84 "LeftProfile$Hall" "walls" "I", Cond.methodLink RX6 77 yX6_isPlace, Cond.static yX6_isPlace, Cond.code yX6_isPlace cX6_isPlace 1 (some .boolean), Cond.methodLink RX6 87 yX6_isOpen, Cond.static yX6_isOpen, Cond.code yX6_isOpen cX6_isOpen 2 (some .boolean)]
def wsX6_digest_r2 : List Cond := [Cond.methodLink RX6 132 yX6_bit, Cond.static yX6_bit, Cond.code yX6_bit cX6_bit 1 (some .int), Cond.methodLink RX6 94 yX6_placeOf, Cond.static yX6_placeOf, Cond.code yX6_placeOf cX6_placeOf 1 (some .int), Cond.methodLink RX6 97 yX0_whoIsOn, Cond.instanceMethod yX0_whoIsOn, Cond.selects RX0 yX0_whoIsOn yX0_whoIsOn, Cond.initialized RX0, Cond.code yX0_whoIsOn cX0_whoIsOn 3 (some .int), Cond.fieldLink RX0 18 "LeftProfile$Court" "size" "I", Cond.fieldLink RX0 25 "LeftProfile$Court" "places" "[I", Cond.methodLink RX6 209 yX6_mixed, Cond.static yX6_mixed, Cond.code yX6_mixed cX6_mixed 3 (some .long), Cond.constantLong RX6 238 (31), Cond.methodLink RX6 213 yX6_mixedCourtiers, Cond.instanceMethod yX6_mixedCourtiers, Cond.selects RX6 yX6_mixedCourtiers yX6_mixedCourtiers, Cond.code yX6_mixedCourtiers cX6_mixedCourtiers 7 (some .long), Cond.fieldLink RX6 194 "LeftProfile$Court" "size" "I", Cond.fieldLink RX6 177 "LeftProfile$Court" "told" "[I", Cond.methodLink RX6 235 yX6_about]
def wsX6_digest_r3 : List Cond := [Cond.instanceMethod yX6_about, Cond.selects RX6 yX6_about yX6_about, Cond.code yX6_about cX6_about 3 (some .int), Cond.fieldLink RX6 119 "LeftProfile$Court" "kinds" "[I", Cond.fieldLink RX6 123 "LeftProfile$Court" "places" "[I", Cond.fieldLink RX6 19 "LeftProfile" "scene" "LLeftProfile$Scene;", Cond.fieldLink RX6 135 "LeftProfile$Court" "sawLeft" "[I", Cond.fieldLink RX6 138 "LeftProfile$Court" "sawRight" "[I", Cond.methodLink RX6 116 yX0_has, Cond.instanceMethod yX0_has, Cond.selects RX0 yX0_has yX0_has, Cond.code yX0_has cX0_has 2 (some .boolean), Cond.methodLink RX6 126 yX4_seenBy, Cond.instanceMethod yX4_seenBy, Cond.selects RX4 yX4_seenBy yX4_seenBy, Cond.initialized RX4, Cond.code yX4_seenBy cX4_seenBy 2 (some .int), Cond.fieldLink RX4 21 "LeftProfile$Scene" "court" "LLeftProfile$Court;", Cond.fieldLink RX4 40 "LeftProfile$Court" "stance" "I", Cond.methodLink RX4 36 yX0_people, Cond.instanceMethod yX0_people, Cond.selects RX0 yX0_people yX0_people, Cond.code yX0_people cX0_people 3 (some .int), Cond.methodLink RX4 50 yX4_seenIf]
def wsX6_digest_r4 : List Cond := [Cond.instanceMethod yX4_seenIf, Cond.selects RX4 yX4_seenIf yX4_seenIf, Cond.code yX4_seenIf cX4_seenIf 4 (some .int), Cond.fieldLink RX4 28 "LeftProfile$Scene" "sight" "LLeftProfile$Sight;", Cond.fieldLink RX4 58 "LeftProfile$Court" "kinds" "[I", Cond.fieldLink RX4 62 "LeftProfile$Court" "places" "[I", Cond.fieldLink RX4 12 "LeftProfile$Scene" "hall" "LLeftProfile$Hall;", Cond.fieldLink RX4 32 "LeftProfile$Hall" "walls" "I", Cond.methodLink RX4 54 yX0_has, Cond.methodLink RX4 65 yX5_seen, Cond.instanceMethod yX5_seen, Cond.selects RX5 yX5_seen yX5_seen, Cond.initialized RX5, Cond.code yX5_seen cX5_seen 9 (some .int), Cond.fieldLink RX5 9 "LeftProfile$Sight" "ways" "[I", Cond.fieldLink RX5 15 "LeftProfile$Sight" "between" "[I", Cond.methodLink RX5 43 yX5_isBarred, Cond.static yX5_isBarred, Cond.code yX5_isBarred cX5_isBarred 4 (some .boolean), Cond.methodLink RX5 62 yJ6_bitCount_0f7a4, Cond.static yJ6_bitCount_0f7a4, Cond.initialized RJ6, Cond.code yJ6_bitCount_0f7a4 cJ6_bitCount_0f7a4 1 (some .int), Cond.constant RJ6 265 (1431655765)]
def wsX6_digest_r5 : List Cond := [Cond.constant RJ6 266 (858993459), Cond.constant RJ6 267 (252645135), Cond.static yX6_isOfKind, Cond.code yX6_isOfKind cX6_isOfKind 2 (some .boolean), Cond.static yX6_sideOf, Cond.code yX6_sideOf cX6_sideOf 1 (some .int), Cond.methodLink RX5 50 yJ9_floorMod_7cf53, Cond.static yJ9_floorMod_7cf53, Cond.initialized RJ9, Cond.code yJ9_floorMod_7cf53 cJ9_floorMod_7cf53 3 (some .int), Cond.methodLink RX5 55 yX5_cheekFrom, Cond.static yX5_cheekFrom, Cond.code yX5_cheekFrom cX5_cheekFrom 1 (some .int), Cond.methodLink RX6 129 yX4_guiltyIf, Cond.instanceMethod yX4_guiltyIf, Cond.selects RX4 yX4_guiltyIf yX4_guiltyIf, Cond.code yX4_guiltyIf cX4_guiltyIf 6 (some .int), Cond.fieldLink RX4 69 "LeftProfile$Court" "size" "I", Cond.methodLink RX4 76 yX5_isGuilty, Cond.instanceMethod yX5_isGuilty, Cond.selects RX5 yX5_isGuilty yX5_isGuilty, Cond.code yX5_isGuilty cX5_isGuilty 7 (some .boolean), Cond.methodLink RX5 58 yX5_seen, Cond.methodLink RX6 217 yX6_room]
def wsX6_digest_r6 : List Cond := [Cond.instanceMethod yX6_room, Cond.selects RX6 yX6_room yX6_room, Cond.code yX6_room cX6_room 3 (some .int), Cond.methodLink RX6 158 yX4_roomFor, Cond.instanceMethod yX4_roomFor, Cond.selects RX4 yX4_roomFor yX4_roomFor, Cond.code yX4_roomFor cX4_roomFor 7 (some .int), Cond.methodLink RX4 94 yX4_guiltyIf, Cond.methodLink RX4 97 yX4_taken, Cond.instanceMethod yX4_taken, Cond.selects RX4 yX4_taken yX4_taken, Cond.code yX4_taken cX4_taken 2 (some .int), Cond.methodLink RX6 161 yX6_placeInSet, Cond.static yX6_placeInSet, Cond.code yX6_placeInSet cX6_placeInSet 4 (some .int), Cond.methodLink RX6 220 yX6_brick, Cond.instanceMethod yX6_brick, Cond.selects RX6 yX6_brick yX6_brick, Cond.code yX6_brick cX6_brick 3 (some .int), Cond.methodLink RX6 164 yX4_bestBrick, Cond.instanceMethod yX4_bestBrick, Cond.selects RX4 yX4_bestBrick yX4_bestBrick, Cond.code yX4_bestBrick cX4_bestBrick 6 (some .int), Cond.methodLink RX4 100 yJ6_bitCount_0f7a4]
def wsX6_digest_r7 : List Cond := [Cond.methodLink RX6 153 yJ6_bitCount_0f7a4, Cond.methodLink RX6 223 yX6_way, Cond.instanceMethod yX6_way, Cond.selects RX6 yX6_way yX6_way, Cond.code yX6_way cX6_way 4 (some .int), Cond.fieldLink RX6 42 "LeftProfile" "route" "LLeftProfile$Route;", Cond.methodLink RX6 167 yX3_find, Cond.instanceMethod yX3_find, Cond.selects RX3 yX3_find yX3_find, Cond.initialized RX3, Cond.code yX3_find cX3_find 8 (some .int), Cond.fieldLink RX3 15 "LeftProfile$Route" "lengths" "[I", Cond.fieldLink RX3 21 "LeftProfile$Route" "queued" "I", Cond.fieldLink RX3 9 "LeftProfile$Route" "queue" "[I", Cond.fieldLink RX3 49 "LeftProfile$Scene" "hall" "LLeftProfile$Hall;", Cond.fieldLink RX3 53 "LeftProfile$Hall" "walls" "I", Cond.methodLink RX3 25 yJ7_fill_53178, Cond.static yJ7_fill_53178, Cond.initialized RJ7, Cond.code yJ7_fill_53178 cJ7_fill_53178 4 none, Cond.methodLink RX3 31 yX3_reach, Cond.instanceMethod yX3_reach, Cond.selects RX3 yX3_reach yX3_reach, Cond.code yX3_reach cX3_reach 4 none]
def wsX6_digest_r8 : List Cond := [Cond.fieldLink RX3 18 "LeftProfile$Route" "firsts" "[I", Cond.methodLink RX3 45 yX3_isStance, Cond.static yX3_isStance, Cond.code yX3_isStance cX3_isStance 1 (some .boolean), Cond.methodLink RX3 39 yX4_after, Cond.instanceMethod yX4_after, Cond.selects RX4 yX4_after yX4_after, Cond.code yX4_after cX4_after 7 (some .int), Cond.static yX6_stanceOf, Cond.code yX6_stanceOf cX6_stanceOf 2 (some .int), Cond.static yX6_neighbour, Cond.code yX6_neighbour cX6_neighbour 4 (some .int), Cond.fieldLink RX6 240 "LeftProfile" "ROWS_ON" "[I", Cond.fieldLink RX6 243 "LeftProfile" "COLUMNS_ON" "[I", Cond.methodLink RX3 58 yX4_guiltyIf, Cond.methodLink RX3 61 yX3_lengthTo, Cond.instanceMethod yX3_lengthTo, Cond.selects RX3 yX3_lengthTo yX3_lengthTo, Cond.code yX3_lengthTo cX3_lengthTo 2 (some .int), Cond.methodLink RX3 64 yX3_firstTo, Cond.instanceMethod yX3_firstTo, Cond.selects RX3 yX3_firstTo yX3_firstTo, Cond.code yX3_firstTo cX3_firstTo 2 (some .int), Cond.methodLink RX6 171 yX3_lengthTo]
def wsX6_digest_r9 : List Cond := [Cond.methodLink RX6 174 yX3_firstTo, Cond.methodLink RX6 226 yX6_stood, Cond.instanceMethod yX6_stood, Cond.selects RX6 yX6_stood yX6_stood, Cond.code yX6_stood cX6_stood 2 (some .int), Cond.methodLink RX6 180 yX4_whereHeStood, Cond.instanceMethod yX4_whereHeStood, Cond.selects RX4 yX4_whereHeStood yX4_whereHeStood, Cond.code yX4_whereHeStood cX4_whereHeStood 7 (some .int), Cond.methodLink RX4 105 yX4_isAsTold, Cond.instanceMethod yX4_isAsTold, Cond.selects RX4 yX4_isAsTold yX4_isAsTold, Cond.code yX4_isAsTold cX4_isAsTold 4 (some .boolean), Cond.fieldLink RX4 108 "LeftProfile$Court" "told" "[I", Cond.methodLink RX6 229 yX2_codeAt, Cond.instanceMethod yX2_codeAt, Cond.selects RX2 yX2_codeAt yX2_codeAt, Cond.initialized RX2, Cond.code yX2_codeAt cX2_codeAt 2 (some .int), Cond.fieldLink RX2 15 "LeftProfile$Page" "size" "I", Cond.fieldLink RX2 11 "LeftProfile$Page" "codes" "[I", Cond.methodLink RX6 232 yX6_count, Cond.instanceMethod yX6_count, Cond.selects RX6 yX6_count yX6_count]
def wsX6_digest_r10 : List Cond := [Cond.code yX6_count cX6_count 2 (some .int), Cond.fieldLink RX6 74 "LeftProfile$Hall" "floors" "I", Cond.fieldLink RX6 147 "LeftProfile$Court" "acts" "I", Cond.fieldLink RX6 191 "LeftProfile$Hall" "readings" "I", Cond.methodLink RX6 197 yX6_sideOf, Cond.methodLink RX6 200 yX0_howManyTold, Cond.instanceMethod yX0_howManyTold, Cond.selects RX0 yX0_howManyTold yX0_howManyTold, Cond.code yX0_howManyTold cX0_howManyTold 3 (some .int), Cond.fieldLink RX0 34 "LeftProfile$Court" "told" "[I"]
def wsX6_digest : List Cond := .code yX6_digest cX6_digest 4 (some .long) :: ((wsX6_digest_r1 ++ (wsX6_digest_r2 ++ (wsX6_digest_r3 ++ (wsX6_digest_r4 ++ (wsX6_digest_r5 ++ (wsX6_digest_r6 ++ (wsX6_digest_r7 ++ (wsX6_digest_r8 ++ (wsX6_digest_r9 ++ wsX6_digest_r10))))))))) ++ wsX60 ++ wsX00 ++ wsX20 ++ wsX10 ++ wsX40 ++ wsX50 ++ wsX30)
def wsX7_init : List Cond := .code yX7_init cX7_init 1 none :: ([.methodLink RX7 1 objectInit, .instanceMethod objectInit, .code objectInit ⟨#[0xb1]⟩ 1 none, .fieldLink RX7 7 "LeftProfileModel" "dukeAt" "I", .fieldLink RX7 13 "LeftProfileModel" "dukeSide" "I", .arrayClass .int, .fieldLink RX7 16 "LeftProfileModel" "kindOf" "[I", .fieldLink RX7 20 "LeftProfileModel" "placeOf" "[I", .fieldLink RX7 23 "LeftProfileModel" "sawLeft" "[I", .fieldLink RX7 26 "LeftProfileModel" "sawRight" "[I", .fieldLink RX7 29 "LeftProfileModel" "toldOf" "[I", .arrayClass .byte, .fieldLink RX7 32 "LeftProfileModel" "page" "[B", .fieldLink RX7 36 "LeftProfileModel" "roomAt" "[I", .fieldLink RX7 39 "LeftProfileModel" "firstOf" "[I", .fieldLink RX7 42 "LeftProfileModel" "queue" "[I", .fieldLink RX7 45 "LeftProfileModel" "keptPlace" "[I", .fieldLink RX7 48 "LeftProfileModel" "keptLeft" "[I", .fieldLink RX7 51 "LeftProfileModel" "keptRight" "[I", .fieldLink RX7 54 "LeftProfileModel" "keptTold" "[I"] ++ wsX70)
def wsX7_within : List Cond := .code yX7_within cX7_within 3 (some .boolean) :: ([])
def wsX7_has : List Cond := .code yX7_has cX7_has 2 (some .boolean) :: ([])
def wsX7_size : List Cond := .code yX7_size cX7_size 3 (some .int) :: ([])
def wsX7_isPlace : List Cond := .code yX7_isPlace cX7_isPlace 1 (some .boolean) :: ([.methodLink RX7 57 yX7_within, .static yX7_within, .initialized RX7, .code yX7_within cX7_within 3 (some .boolean)])
def wsX7_letter : List Cond := .code yX7_letter cX7_letter 2 (some .int) :: ([.fieldLink RX7 61 "LeftProfileModel" "pageLength" "I", .fieldLink RX7 32 "LeftProfileModel" "page" "[B", .methodLink RX7 57 yX7_within, .static yX7_within, .initialized RX7, .code yX7_within cX7_within 3 (some .boolean)] ++ wsX70)
def wsX7_blank : List Cond := .code yX7_blank cX7_blank 2 (some .int) :: ([.fieldLink RX7 61 "LeftProfileModel" "pageLength" "I"] ++ wsX70)
def wsX7_readHall : List Cond := .code yX7_readHall cX7_readHall 4 none :: ([.fieldLink RX7 64 "LeftProfileModel" "newFloor" "I", .fieldLink RX7 61 "LeftProfileModel" "pageLength" "I", .fieldLink RX7 32 "LeftProfileModel" "page" "[B", .fieldLink RX7 67 "LeftProfileModel" "faultAt" "I"] ++ wsX70)
def wsX7_fault : List Cond := .code yX7_fault cX7_fault 1 (some .int) :: ([.fieldLink RX7 67 "LeftProfileModel" "faultAt" "I", .methodLink RX7 70 yX7_readHall, .instanceMethod yX7_readHall, .selects RX7 yX7_readHall yX7_readHall, .initialized RX7, .code yX7_readHall cX7_readHall 4 none, .fieldLink RX7 64 "LeftProfileModel" "newFloor" "I", .fieldLink RX7 61 "LeftProfileModel" "pageLength" "I", .fieldLink RX7 32 "LeftProfileModel" "page" "[B"] ++ wsX70)
def wsX7_hall : List Cond := .code yX7_hall cX7_hall 1 (some .int) :: ([.fieldLink RX7 67 "LeftProfileModel" "faultAt" "I", .fieldLink RX7 61 "LeftProfileModel" "pageLength" "I", .fieldLink RX7 64 "LeftProfileModel" "newFloor" "I", .fieldLink RX7 73 "LeftProfileModel" "floor" "I", .fieldLink RX7 76 "LeftProfileModel" "isHall" "Z", .fieldLink RX7 80 "LeftProfileModel" "halls" "I", .fieldLink RX7 7 "LeftProfileModel" "dukeAt" "I", .fieldLink RX7 13 "LeftProfileModel" "dukeSide" "I", .fieldLink RX7 83 "LeftProfileModel" "acts" "I", .fieldLink RX7 86 "LeftProfileModel" "courtiers" "I", .methodLink RX7 70 yX7_readHall, .instanceMethod yX7_readHall, .selects RX7 yX7_readHall yX7_readHall, .initialized RX7, .code yX7_readHall cX7_readHall 4 none, .fieldLink RX7 32 "LeftProfileModel" "page" "[B", .methodLink RX7 89 yX7_size, .static yX7_size, .code yX7_size cX7_size 3 (some .int)] ++ wsX70)
def wsX7_whoOn : List Cond := .code yX7_whoOn cX7_whoOn 4 (some .int) :: ([.fieldLink RX7 7 "LeftProfileModel" "dukeAt" "I", .fieldLink RX7 86 "LeftProfileModel" "courtiers" "I", .fieldLink RX7 20 "LeftProfileModel" "placeOf" "[I"] ++ wsX70)
def wsX7_onNow : List Cond := .code yX7_onNow cX7_onNow 2 (some .int) :: ([.fieldLink RX7 73 "LeftProfileModel" "floor" "I", .methodLink RX7 93 yX7_has, .static yX7_has, .initialized RX7, .code yX7_has cX7_has 2 (some .boolean), .methodLink RX7 97 yX7_whoOn, .instanceMethod yX7_whoOn, .selects RX7 yX7_whoOn yX7_whoOn, .code yX7_whoOn cX7_whoOn 4 (some .int), .fieldLink RX7 7 "LeftProfileModel" "dukeAt" "I", .fieldLink RX7 86 "LeftProfileModel" "courtiers" "I", .fieldLink RX7 20 "LeftProfileModel" "placeOf" "[I"] ++ wsX70)
def wsX7_on : List Cond := .code yX7_on cX7_on 2 (some .int) :: ([.fieldLink RX7 76 "LeftProfileModel" "isHall" "Z", .methodLink RX7 100 yX7_isPlace, .static yX7_isPlace, .initialized RX7, .code yX7_isPlace cX7_isPlace 1 (some .boolean), .methodLink RX7 57 yX7_within, .static yX7_within, .code yX7_within cX7_within 3 (some .boolean), .methodLink RX7 104 yX7_onNow, .instanceMethod yX7_onNow, .selects RX7 yX7_onNow yX7_onNow, .code yX7_onNow cX7_onNow 2 (some .int), .fieldLink RX7 73 "LeftProfileModel" "floor" "I", .methodLink RX7 93 yX7_has, .static yX7_has, .code yX7_has cX7_has 2 (some .boolean), .methodLink RX7 97 yX7_whoOn, .instanceMethod yX7_whoOn, .selects RX7 yX7_whoOn yX7_whoOn, .code yX7_whoOn cX7_whoOn 4 (some .int), .fieldLink RX7 7 "LeftProfileModel" "dukeAt" "I", .fieldLink RX7 86 "LeftProfileModel" "courtiers" "I", .fieldLink RX7 20 "LeftProfileModel" "placeOf" "[I"] ++ wsX70)
def wsX7_isEmpty : List Cond := .code yX7_isEmpty cX7_isEmpty 2 (some .boolean) :: ([.fieldLink RX7 73 "LeftProfileModel" "floor" "I", .methodLink RX7 93 yX7_has, .static yX7_has, .initialized RX7, .code yX7_has cX7_has 2 (some .boolean), .methodLink RX7 97 yX7_whoOn, .instanceMethod yX7_whoOn, .selects RX7 yX7_whoOn yX7_whoOn, .code yX7_whoOn cX7_whoOn 4 (some .int), .fieldLink RX7 7 "LeftProfileModel" "dukeAt" "I", .fieldLink RX7 86 "LeftProfileModel" "courtiers" "I", .fieldLink RX7 20 "LeftProfileModel" "placeOf" "[I"] ++ wsX70)
def wsX7_duke : List Cond := .code yX7_duke cX7_duke 3 (some .int) :: ([.fieldLink RX7 76 "LeftProfileModel" "isHall" "Z", .fieldLink RX7 7 "LeftProfileModel" "dukeAt" "I", .fieldLink RX7 13 "LeftProfileModel" "dukeSide" "I", .methodLink RX7 100 yX7_isPlace, .static yX7_isPlace, .initialized RX7, .code yX7_isPlace cX7_isPlace 1 (some .boolean), .methodLink RX7 57 yX7_within, .static yX7_within, .code yX7_within cX7_within 3 (some .boolean), .methodLink RX7 107 yX7_isEmpty, .instanceMethod yX7_isEmpty, .selects RX7 yX7_isEmpty yX7_isEmpty, .code yX7_isEmpty cX7_isEmpty 2 (some .boolean), .fieldLink RX7 73 "LeftProfileModel" "floor" "I", .methodLink RX7 93 yX7_has, .static yX7_has, .code yX7_has cX7_has 2 (some .boolean), .methodLink RX7 97 yX7_whoOn, .instanceMethod yX7_whoOn, .selects RX7 yX7_whoOn yX7_whoOn, .code yX7_whoOn cX7_whoOn 4 (some .int), .fieldLink RX7 86 "LeftProfileModel" "courtiers" "I", .fieldLink RX7 20 "LeftProfileModel" "placeOf" "[I"] ++ wsX70)
def wsX7_lay : List Cond := .code yX7_lay cX7_lay 3 none :: ([.fieldLink RX7 16 "LeftProfileModel" "kindOf" "[I", .fieldLink RX7 86 "LeftProfileModel" "courtiers" "I", .fieldLink RX7 20 "LeftProfileModel" "placeOf" "[I", .fieldLink RX7 23 "LeftProfileModel" "sawLeft" "[I", .fieldLink RX7 26 "LeftProfileModel" "sawRight" "[I", .fieldLink RX7 29 "LeftProfileModel" "toldOf" "[I"] ++ wsX70)
def wsX7_courtier_r1 : List Cond := [Cond.fieldLink RX7 76 "LeftProfileModel" "isHall" "Z", Cond.fieldLink RX7 86 "LeftProfileModel" "courtiers" "I", Cond.methodLink RX7 100 yX7_isPlace, Cond.static yX7_isPlace, Cond.initialized RX7, Cond.code yX7_isPlace cX7_isPlace 1 (some .boolean), Cond.methodLink RX7 57 yX7_within, Cond.static yX7_within, Cond.code yX7_within cX7_within 3 (some .boolean), Cond.methodLink RX7 107 yX7_isEmpty, Cond.instanceMethod yX7_isEmpty, Cond.selects RX7 yX7_isEmpty yX7_isEmpty, Cond.code yX7_isEmpty cX7_isEmpty 2 (some .boolean), Cond.fieldLink RX7 73 "LeftProfileModel" "floor" "I", Cond.methodLink RX7 93 yX7_has, Cond.static yX7_has, Cond.code yX7_has cX7_has 2 (some .boolean), Cond.methodLink RX7 97 yX7_whoOn, Cond.instanceMethod yX7_whoOn, Cond.selects RX7 yX7_whoOn yX7_whoOn, Cond.code yX7_whoOn cX7_whoOn 4 (some .int), Cond.fieldLink RX7 7 "LeftProfileModel" "dukeAt" "I", Cond.fieldLink RX7 20 "LeftProfileModel" "placeOf" "[I", Cond.methodLink RX7 110 yX7_lay]
def wsX7_courtier_r2 : List Cond := [Cond.instanceMethod yX7_lay, Cond.selects RX7 yX7_lay yX7_lay, Cond.code yX7_lay cX7_lay 3 none, Cond.fieldLink RX7 16 "LeftProfileModel" "kindOf" "[I", Cond.fieldLink RX7 23 "LeftProfileModel" "sawLeft" "[I", Cond.fieldLink RX7 26 "LeftProfileModel" "sawRight" "[I", Cond.fieldLink RX7 29 "LeftProfileModel" "toldOf" "[I"]
def wsX7_courtier : List Cond := .code yX7_courtier cX7_courtier 3 (some .int) :: ((wsX7_courtier_r1 ++ wsX7_courtier_r2) ++ wsX70)
def wsX7_isCourtier : List Cond := .code yX7_isCourtier cX7_isCourtier 2 (some .boolean) :: ([.fieldLink RX7 86 "LeftProfileModel" "courtiers" "I", .methodLink RX7 57 yX7_within, .static yX7_within, .initialized RX7, .code yX7_within cX7_within 3 (some .boolean)] ++ wsX70)
def wsX7_sign : List Cond := .code yX7_sign cX7_sign 1 (some .int) :: ([])
def wsX7_sized : List Cond := .code yX7_sized cX7_sized 1 (some .int) :: ([])
def wsX7_wayTo : List Cond := .code yX7_wayTo cX7_wayTo 5 (some .int) :: ([.methodLink RX7 114 yX7_sized, .static yX7_sized, .initialized RX7, .code yX7_sized cX7_sized 1 (some .int), .methodLink RX7 117 yX7_sign, .static yX7_sign, .code yX7_sign cX7_sign 1 (some .int)])
def wsX7_far : List Cond := .code yX7_far cX7_far 4 (some .int) :: ([.methodLink RX7 114 yX7_sized, .static yX7_sized, .initialized RX7, .code yX7_sized cX7_sized 1 (some .int)])
def wsX7_isClear : List Cond := .code yX7_isClear cX7_isClear 7 (some .boolean) :: ([.fieldLink RX7 73 "LeftProfileModel" "floor" "I", .methodLink RX7 117 yX7_sign, .static yX7_sign, .initialized RX7, .code yX7_sign cX7_sign 1 (some .int), .methodLink RX7 93 yX7_has, .static yX7_has, .code yX7_has cX7_has 2 (some .boolean), .methodLink RX7 97 yX7_whoOn, .instanceMethod yX7_whoOn, .selects RX7 yX7_whoOn yX7_whoOn, .code yX7_whoOn cX7_whoOn 4 (some .int), .fieldLink RX7 7 "LeftProfileModel" "dukeAt" "I", .fieldLink RX7 86 "LeftProfileModel" "courtiers" "I", .fieldLink RX7 20 "LeftProfileModel" "placeOf" "[I"] ++ wsX70)
def wsX7_seesNow_r1 : List Cond := [Cond.fieldLink RX7 7 "LeftProfileModel" "dukeAt" "I", Cond.fieldLink RX7 20 "LeftProfileModel" "placeOf" "[I", Cond.fieldLink RX7 16 "LeftProfileModel" "kindOf" "[I", Cond.fieldLink RX7 13 "LeftProfileModel" "dukeSide" "I", Cond.methodLink RX7 120 yX7_wayTo, Cond.static yX7_wayTo, Cond.initialized RX7, Cond.code yX7_wayTo cX7_wayTo 5 (some .int), Cond.methodLink RX7 114 yX7_sized, Cond.static yX7_sized, Cond.code yX7_sized cX7_sized 1 (some .int), Cond.methodLink RX7 117 yX7_sign, Cond.static yX7_sign, Cond.code yX7_sign cX7_sign 1 (some .int), Cond.methodLink RX7 124 yX7_far, Cond.static yX7_far, Cond.code yX7_far cX7_far 4 (some .int), Cond.methodLink RX7 127 yX7_isClear, Cond.instanceMethod yX7_isClear, Cond.selects RX7 yX7_isClear yX7_isClear, Cond.code yX7_isClear cX7_isClear 7 (some .boolean), Cond.fieldLink RX7 73 "LeftProfileModel" "floor" "I", Cond.methodLink RX7 93 yX7_has, Cond.static yX7_has]
def wsX7_seesNow_r2 : List Cond := [Cond.code yX7_has cX7_has 2 (some .boolean), Cond.methodLink RX7 97 yX7_whoOn, Cond.instanceMethod yX7_whoOn, Cond.selects RX7 yX7_whoOn yX7_whoOn, Cond.code yX7_whoOn cX7_whoOn 4 (some .int), Cond.fieldLink RX7 86 "LeftProfileModel" "courtiers" "I"]
def wsX7_seesNow : List Cond := .code yX7_seesNow cX7_seesNow 4 (some .int) :: ((wsX7_seesNow_r1 ++ wsX7_seesNow_r2) ++ wsX70)
def wsX7_isGuilty_r1 : List Cond := [Cond.fieldLink RX7 16 "LeftProfileModel" "kindOf" "[I", Cond.methodLink RX7 131 yX7_seesNow, Cond.instanceMethod yX7_seesNow, Cond.selects RX7 yX7_seesNow yX7_seesNow, Cond.initialized RX7, Cond.code yX7_seesNow cX7_seesNow 4 (some .int), Cond.fieldLink RX7 7 "LeftProfileModel" "dukeAt" "I", Cond.fieldLink RX7 20 "LeftProfileModel" "placeOf" "[I", Cond.fieldLink RX7 13 "LeftProfileModel" "dukeSide" "I", Cond.methodLink RX7 120 yX7_wayTo, Cond.static yX7_wayTo, Cond.code yX7_wayTo cX7_wayTo 5 (some .int), Cond.methodLink RX7 114 yX7_sized, Cond.static yX7_sized, Cond.code yX7_sized cX7_sized 1 (some .int), Cond.methodLink RX7 117 yX7_sign, Cond.static yX7_sign, Cond.code yX7_sign cX7_sign 1 (some .int), Cond.methodLink RX7 124 yX7_far, Cond.static yX7_far, Cond.code yX7_far cX7_far 4 (some .int), Cond.methodLink RX7 127 yX7_isClear, Cond.instanceMethod yX7_isClear, Cond.selects RX7 yX7_isClear yX7_isClear]
def wsX7_isGuilty_r2 : List Cond := [Cond.code yX7_isClear cX7_isClear 7 (some .boolean), Cond.fieldLink RX7 73 "LeftProfileModel" "floor" "I", Cond.methodLink RX7 93 yX7_has, Cond.static yX7_has, Cond.code yX7_has cX7_has 2 (some .boolean), Cond.methodLink RX7 97 yX7_whoOn, Cond.instanceMethod yX7_whoOn, Cond.selects RX7 yX7_whoOn yX7_whoOn, Cond.code yX7_whoOn cX7_whoOn 4 (some .int), Cond.fieldLink RX7 86 "LeftProfileModel" "courtiers" "I"]
def wsX7_isGuilty : List Cond := .code yX7_isGuilty cX7_isGuilty 3 (some .boolean) :: ((wsX7_isGuilty_r1 ++ wsX7_isGuilty_r2) ++ wsX70)
def wsX7_guiltySet_r1 : List Cond := [Cond.fieldLink RX7 86 "LeftProfileModel" "courtiers" "I", Cond.methodLink RX7 134 yX7_isGuilty, Cond.instanceMethod yX7_isGuilty, Cond.selects RX7 yX7_isGuilty yX7_isGuilty, Cond.initialized RX7, Cond.code yX7_isGuilty cX7_isGuilty 3 (some .boolean), Cond.fieldLink RX7 16 "LeftProfileModel" "kindOf" "[I", Cond.methodLink RX7 131 yX7_seesNow, Cond.instanceMethod yX7_seesNow, Cond.selects RX7 yX7_seesNow yX7_seesNow, Cond.code yX7_seesNow cX7_seesNow 4 (some .int), Cond.fieldLink RX7 7 "LeftProfileModel" "dukeAt" "I", Cond.fieldLink RX7 20 "LeftProfileModel" "placeOf" "[I", Cond.fieldLink RX7 13 "LeftProfileModel" "dukeSide" "I", Cond.methodLink RX7 120 yX7_wayTo, Cond.static yX7_wayTo, Cond.code yX7_wayTo cX7_wayTo 5 (some .int), Cond.methodLink RX7 114 yX7_sized, Cond.static yX7_sized, Cond.code yX7_sized cX7_sized 1 (some .int), Cond.methodLink RX7 117 yX7_sign, Cond.static yX7_sign, Cond.code yX7_sign cX7_sign 1 (some .int), Cond.methodLink RX7 124 yX7_far]
def wsX7_guiltySet_r2 : List Cond := [Cond.static yX7_far, Cond.code yX7_far cX7_far 4 (some .int), Cond.methodLink RX7 127 yX7_isClear, Cond.instanceMethod yX7_isClear, Cond.selects RX7 yX7_isClear yX7_isClear, Cond.code yX7_isClear cX7_isClear 7 (some .boolean), Cond.fieldLink RX7 73 "LeftProfileModel" "floor" "I", Cond.methodLink RX7 93 yX7_has, Cond.static yX7_has, Cond.code yX7_has cX7_has 2 (some .boolean), Cond.methodLink RX7 97 yX7_whoOn, Cond.instanceMethod yX7_whoOn, Cond.selects RX7 yX7_whoOn yX7_whoOn, Cond.code yX7_whoOn cX7_whoOn 4 (some .int)]
def wsX7_guiltySet : List Cond := .code yX7_guiltySet cX7_guiltySet 3 (some .int) :: ((wsX7_guiltySet_r1 ++ wsX7_guiltySet_r2) ++ wsX70)
def wsX7_courtierNow_r1 : List Cond := [Cond.fieldLink RX7 16 "LeftProfileModel" "kindOf" "[I", Cond.fieldLink RX7 20 "LeftProfileModel" "placeOf" "[I", Cond.fieldLink RX7 23 "LeftProfileModel" "sawLeft" "[I", Cond.fieldLink RX7 26 "LeftProfileModel" "sawRight" "[I", Cond.methodLink RX7 131 yX7_seesNow, Cond.instanceMethod yX7_seesNow, Cond.selects RX7 yX7_seesNow yX7_seesNow, Cond.initialized RX7, Cond.code yX7_seesNow cX7_seesNow 4 (some .int), Cond.fieldLink RX7 7 "LeftProfileModel" "dukeAt" "I", Cond.fieldLink RX7 13 "LeftProfileModel" "dukeSide" "I", Cond.methodLink RX7 120 yX7_wayTo, Cond.static yX7_wayTo, Cond.code yX7_wayTo cX7_wayTo 5 (some .int), Cond.methodLink RX7 114 yX7_sized, Cond.static yX7_sized, Cond.code yX7_sized cX7_sized 1 (some .int), Cond.methodLink RX7 117 yX7_sign, Cond.static yX7_sign, Cond.code yX7_sign cX7_sign 1 (some .int), Cond.methodLink RX7 124 yX7_far, Cond.static yX7_far, Cond.code yX7_far cX7_far 4 (some .int), Cond.methodLink RX7 127 yX7_isClear]
def wsX7_courtierNow_r2 : List Cond := [Cond.instanceMethod yX7_isClear, Cond.selects RX7 yX7_isClear yX7_isClear, Cond.code yX7_isClear cX7_isClear 7 (some .boolean), Cond.fieldLink RX7 73 "LeftProfileModel" "floor" "I", Cond.methodLink RX7 93 yX7_has, Cond.static yX7_has, Cond.code yX7_has cX7_has 2 (some .boolean), Cond.methodLink RX7 97 yX7_whoOn, Cond.instanceMethod yX7_whoOn, Cond.selects RX7 yX7_whoOn yX7_whoOn, Cond.code yX7_whoOn cX7_whoOn 4 (some .int), Cond.fieldLink RX7 86 "LeftProfileModel" "courtiers" "I", Cond.methodLink RX7 134 yX7_isGuilty, Cond.instanceMethod yX7_isGuilty, Cond.selects RX7 yX7_isGuilty yX7_isGuilty, Cond.code yX7_isGuilty cX7_isGuilty 3 (some .boolean)]
def wsX7_courtierNow : List Cond := .code yX7_courtierNow cX7_courtierNow 3 (some .int) :: ((wsX7_courtierNow_r1 ++ wsX7_courtierNow_r2) ++ wsX70)
def wsX7_about_r1 : List Cond := [Cond.methodLink RX7 137 yX7_isCourtier, Cond.instanceMethod yX7_isCourtier, Cond.selects RX7 yX7_isCourtier yX7_isCourtier, Cond.initialized RX7, Cond.code yX7_isCourtier cX7_isCourtier 2 (some .boolean), Cond.fieldLink RX7 86 "LeftProfileModel" "courtiers" "I", Cond.methodLink RX7 57 yX7_within, Cond.static yX7_within, Cond.code yX7_within cX7_within 3 (some .boolean), Cond.methodLink RX7 140 yX7_courtierNow, Cond.instanceMethod yX7_courtierNow, Cond.selects RX7 yX7_courtierNow yX7_courtierNow, Cond.code yX7_courtierNow cX7_courtierNow 3 (some .int), Cond.fieldLink RX7 16 "LeftProfileModel" "kindOf" "[I", Cond.fieldLink RX7 20 "LeftProfileModel" "placeOf" "[I", Cond.fieldLink RX7 23 "LeftProfileModel" "sawLeft" "[I", Cond.fieldLink RX7 26 "LeftProfileModel" "sawRight" "[I", Cond.methodLink RX7 131 yX7_seesNow, Cond.instanceMethod yX7_seesNow, Cond.selects RX7 yX7_seesNow yX7_seesNow, Cond.code yX7_seesNow cX7_seesNow 4 (some .int), Cond.fieldLink RX7 7 "LeftProfileModel" "dukeAt" "I", Cond.fieldLink RX7 13 "LeftProfileModel" "dukeSide" "I", Cond.methodLink RX7 120 yX7_wayTo]
def wsX7_about_r2 : List Cond := [Cond.static yX7_wayTo, Cond.code yX7_wayTo cX7_wayTo 5 (some .int), Cond.methodLink RX7 114 yX7_sized, Cond.static yX7_sized, Cond.code yX7_sized cX7_sized 1 (some .int), Cond.methodLink RX7 117 yX7_sign, Cond.static yX7_sign, Cond.code yX7_sign cX7_sign 1 (some .int), Cond.methodLink RX7 124 yX7_far, Cond.static yX7_far, Cond.code yX7_far cX7_far 4 (some .int), Cond.methodLink RX7 127 yX7_isClear, Cond.instanceMethod yX7_isClear, Cond.selects RX7 yX7_isClear yX7_isClear, Cond.code yX7_isClear cX7_isClear 7 (some .boolean), Cond.fieldLink RX7 73 "LeftProfileModel" "floor" "I", Cond.methodLink RX7 93 yX7_has, Cond.static yX7_has, Cond.code yX7_has cX7_has 2 (some .boolean), Cond.methodLink RX7 97 yX7_whoOn, Cond.instanceMethod yX7_whoOn, Cond.selects RX7 yX7_whoOn yX7_whoOn, Cond.code yX7_whoOn cX7_whoOn 4 (some .int), Cond.methodLink RX7 134 yX7_isGuilty]
def wsX7_about_r3 : List Cond := [Cond.instanceMethod yX7_isGuilty, Cond.selects RX7 yX7_isGuilty yX7_isGuilty, Cond.code yX7_isGuilty cX7_isGuilty 3 (some .boolean)]
def wsX7_about : List Cond := .code yX7_about cX7_about 3 (some .int) :: ((wsX7_about_r1 ++ (wsX7_about_r2 ++ wsX7_about_r3)) ++ wsX70)
def wsX7_as : List Cond := .code yX7_as cX7_as 4 (some .int) :: ([.fieldLink RX7 16 "LeftProfileModel" "kindOf" "[I", .methodLink RX7 137 yX7_isCourtier, .instanceMethod yX7_isCourtier, .selects RX7 yX7_isCourtier yX7_isCourtier, .initialized RX7, .code yX7_isCourtier cX7_isCourtier 2 (some .boolean), .fieldLink RX7 86 "LeftProfileModel" "courtiers" "I", .methodLink RX7 57 yX7_within, .static yX7_within, .code yX7_within cX7_within 3 (some .boolean)] ++ wsX70)
def wsX7_go_r1 : List Cond := [Cond.fieldLink RX7 20 "LeftProfileModel" "placeOf" "[I", Cond.methodLink RX7 137 yX7_isCourtier, Cond.instanceMethod yX7_isCourtier, Cond.selects RX7 yX7_isCourtier yX7_isCourtier, Cond.initialized RX7, Cond.code yX7_isCourtier cX7_isCourtier 2 (some .boolean), Cond.fieldLink RX7 86 "LeftProfileModel" "courtiers" "I", Cond.methodLink RX7 57 yX7_within, Cond.static yX7_within, Cond.code yX7_within cX7_within 3 (some .boolean), Cond.methodLink RX7 100 yX7_isPlace, Cond.static yX7_isPlace, Cond.code yX7_isPlace cX7_isPlace 1 (some .boolean), Cond.methodLink RX7 107 yX7_isEmpty, Cond.instanceMethod yX7_isEmpty, Cond.selects RX7 yX7_isEmpty yX7_isEmpty, Cond.code yX7_isEmpty cX7_isEmpty 2 (some .boolean), Cond.fieldLink RX7 73 "LeftProfileModel" "floor" "I", Cond.methodLink RX7 93 yX7_has, Cond.static yX7_has, Cond.code yX7_has cX7_has 2 (some .boolean), Cond.methodLink RX7 97 yX7_whoOn, Cond.instanceMethod yX7_whoOn, Cond.selects RX7 yX7_whoOn yX7_whoOn]
def wsX7_go_r2 : List Cond := [Cond.code yX7_whoOn cX7_whoOn 4 (some .int), Cond.fieldLink RX7 7 "LeftProfileModel" "dukeAt" "I"]
def wsX7_go : List Cond := .code yX7_go cX7_go 4 (some .int) :: ((wsX7_go_r1 ++ wsX7_go_r2) ++ wsX70)
def wsX7_ahead : List Cond := .code yX7_ahead cX7_ahead 2 (some .int) :: ([])
def wsX7_mayAct : List Cond := .code yX7_mayAct cX7_mayAct 3 (some .boolean) :: ([.fieldLink RX7 7 "LeftProfileModel" "dukeAt" "I", .fieldLink RX7 13 "LeftProfileModel" "dukeSide" "I", .methodLink RX7 143 yX7_ahead, .static yX7_ahead, .initialized RX7, .code yX7_ahead cX7_ahead 2 (some .int), .methodLink RX7 107 yX7_isEmpty, .instanceMethod yX7_isEmpty, .selects RX7 yX7_isEmpty yX7_isEmpty, .code yX7_isEmpty cX7_isEmpty 2 (some .boolean), .fieldLink RX7 73 "LeftProfileModel" "floor" "I", .methodLink RX7 93 yX7_has, .static yX7_has, .code yX7_has cX7_has 2 (some .boolean), .methodLink RX7 97 yX7_whoOn, .instanceMethod yX7_whoOn, .selects RX7 yX7_whoOn yX7_whoOn, .code yX7_whoOn cX7_whoOn 4 (some .int), .fieldLink RX7 86 "LeftProfileModel" "courtiers" "I", .fieldLink RX7 20 "LeftProfileModel" "placeOf" "[I"] ++ wsX70)
def wsX7_doAct : List Cond := .code yX7_doAct cX7_doAct 2 none :: ([.fieldLink RX7 7 "LeftProfileModel" "dukeAt" "I", .fieldLink RX7 13 "LeftProfileModel" "dukeSide" "I", .methodLink RX7 143 yX7_ahead, .static yX7_ahead, .initialized RX7, .code yX7_ahead cX7_ahead 2 (some .int)] ++ wsX70)
def wsX7_act_r1 : List Cond := [Cond.fieldLink RX7 7 "LeftProfileModel" "dukeAt" "I", Cond.fieldLink RX7 83 "LeftProfileModel" "acts" "I", Cond.fieldLink RX7 86 "LeftProfileModel" "courtiers" "I", Cond.fieldLink RX7 23 "LeftProfileModel" "sawLeft" "[I", Cond.fieldLink RX7 26 "LeftProfileModel" "sawRight" "[I", Cond.methodLink RX7 57 yX7_within, Cond.static yX7_within, Cond.initialized RX7, Cond.code yX7_within cX7_within 3 (some .boolean), Cond.methodLink RX7 146 yX7_mayAct, Cond.instanceMethod yX7_mayAct, Cond.selects RX7 yX7_mayAct yX7_mayAct, Cond.code yX7_mayAct cX7_mayAct 3 (some .boolean), Cond.fieldLink RX7 13 "LeftProfileModel" "dukeSide" "I", Cond.methodLink RX7 143 yX7_ahead, Cond.static yX7_ahead, Cond.code yX7_ahead cX7_ahead 2 (some .int), Cond.methodLink RX7 107 yX7_isEmpty, Cond.instanceMethod yX7_isEmpty, Cond.selects RX7 yX7_isEmpty yX7_isEmpty, Cond.code yX7_isEmpty cX7_isEmpty 2 (some .boolean), Cond.fieldLink RX7 73 "LeftProfileModel" "floor" "I", Cond.methodLink RX7 93 yX7_has, Cond.static yX7_has]
def wsX7_act_r2 : List Cond := [Cond.code yX7_has cX7_has 2 (some .boolean), Cond.methodLink RX7 97 yX7_whoOn, Cond.instanceMethod yX7_whoOn, Cond.selects RX7 yX7_whoOn yX7_whoOn, Cond.code yX7_whoOn cX7_whoOn 4 (some .int), Cond.fieldLink RX7 20 "LeftProfileModel" "placeOf" "[I", Cond.methodLink RX7 149 yX7_doAct, Cond.instanceMethod yX7_doAct, Cond.selects RX7 yX7_doAct yX7_doAct, Cond.code yX7_doAct cX7_doAct 2 none, Cond.methodLink RX7 131 yX7_seesNow, Cond.instanceMethod yX7_seesNow, Cond.selects RX7 yX7_seesNow yX7_seesNow, Cond.code yX7_seesNow cX7_seesNow 4 (some .int), Cond.fieldLink RX7 16 "LeftProfileModel" "kindOf" "[I", Cond.methodLink RX7 120 yX7_wayTo, Cond.static yX7_wayTo, Cond.code yX7_wayTo cX7_wayTo 5 (some .int), Cond.methodLink RX7 114 yX7_sized, Cond.static yX7_sized, Cond.code yX7_sized cX7_sized 1 (some .int), Cond.methodLink RX7 117 yX7_sign, Cond.static yX7_sign, Cond.code yX7_sign cX7_sign 1 (some .int)]
def wsX7_act_r3 : List Cond := [Cond.methodLink RX7 124 yX7_far, Cond.static yX7_far, Cond.code yX7_far cX7_far 4 (some .int), Cond.methodLink RX7 127 yX7_isClear, Cond.instanceMethod yX7_isClear, Cond.selects RX7 yX7_isClear yX7_isClear, Cond.code yX7_isClear cX7_isClear 7 (some .boolean), Cond.methodLink RX7 153 yX7_guiltySet, Cond.instanceMethod yX7_guiltySet, Cond.selects RX7 yX7_guiltySet yX7_guiltySet, Cond.code yX7_guiltySet cX7_guiltySet 3 (some .int), Cond.methodLink RX7 134 yX7_isGuilty, Cond.instanceMethod yX7_isGuilty, Cond.selects RX7 yX7_isGuilty yX7_isGuilty, Cond.code yX7_isGuilty cX7_isGuilty 3 (some .boolean), Cond.methodLink RX7 89 yX7_size, Cond.static yX7_size, Cond.code yX7_size cX7_size 3 (some .int)]
def wsX7_act : List Cond := .code yX7_act cX7_act 4 (some .int) :: ((wsX7_act_r1 ++ (wsX7_act_r2 ++ wsX7_act_r3)) ++ wsX70)
def wsX7_guilty_r1 : List Cond := [Cond.methodLink RX7 153 yX7_guiltySet, Cond.instanceMethod yX7_guiltySet, Cond.selects RX7 yX7_guiltySet yX7_guiltySet, Cond.initialized RX7, Cond.code yX7_guiltySet cX7_guiltySet 3 (some .int), Cond.fieldLink RX7 86 "LeftProfileModel" "courtiers" "I", Cond.methodLink RX7 134 yX7_isGuilty, Cond.instanceMethod yX7_isGuilty, Cond.selects RX7 yX7_isGuilty yX7_isGuilty, Cond.code yX7_isGuilty cX7_isGuilty 3 (some .boolean), Cond.fieldLink RX7 16 "LeftProfileModel" "kindOf" "[I", Cond.methodLink RX7 131 yX7_seesNow, Cond.instanceMethod yX7_seesNow, Cond.selects RX7 yX7_seesNow yX7_seesNow, Cond.code yX7_seesNow cX7_seesNow 4 (some .int), Cond.fieldLink RX7 7 "LeftProfileModel" "dukeAt" "I", Cond.fieldLink RX7 20 "LeftProfileModel" "placeOf" "[I", Cond.fieldLink RX7 13 "LeftProfileModel" "dukeSide" "I", Cond.methodLink RX7 120 yX7_wayTo, Cond.static yX7_wayTo, Cond.code yX7_wayTo cX7_wayTo 5 (some .int), Cond.methodLink RX7 114 yX7_sized, Cond.static yX7_sized, Cond.code yX7_sized cX7_sized 1 (some .int)]
def wsX7_guilty_r2 : List Cond := [Cond.methodLink RX7 117 yX7_sign, Cond.static yX7_sign, Cond.code yX7_sign cX7_sign 1 (some .int), Cond.methodLink RX7 124 yX7_far, Cond.static yX7_far, Cond.code yX7_far cX7_far 4 (some .int), Cond.methodLink RX7 127 yX7_isClear, Cond.instanceMethod yX7_isClear, Cond.selects RX7 yX7_isClear yX7_isClear, Cond.code yX7_isClear cX7_isClear 7 (some .boolean), Cond.fieldLink RX7 73 "LeftProfileModel" "floor" "I", Cond.methodLink RX7 93 yX7_has, Cond.static yX7_has, Cond.code yX7_has cX7_has 2 (some .boolean), Cond.methodLink RX7 97 yX7_whoOn, Cond.instanceMethod yX7_whoOn, Cond.selects RX7 yX7_whoOn yX7_whoOn, Cond.code yX7_whoOn cX7_whoOn 4 (some .int)]
def wsX7_guilty : List Cond := .code yX7_guilty cX7_guilty 1 (some .int) :: ((wsX7_guilty_r1 ++ wsX7_guilty_r2) ++ wsX70)
def wsX7_isMore : List Cond := .code yX7_isMore cX7_isMore 5 (some .boolean) :: ([.fieldLink RX7 36 "LeftProfileModel" "roomAt" "[I"] ++ wsX70)
def wsX7_isGuiltyAt_r1 : List Cond := [Cond.fieldLink RX7 7 "LeftProfileModel" "dukeAt" "I", Cond.fieldLink RX7 13 "LeftProfileModel" "dukeSide" "I", Cond.methodLink RX7 120 yX7_wayTo, Cond.static yX7_wayTo, Cond.initialized RX7, Cond.code yX7_wayTo cX7_wayTo 5 (some .int), Cond.methodLink RX7 114 yX7_sized, Cond.static yX7_sized, Cond.code yX7_sized cX7_sized 1 (some .int), Cond.methodLink RX7 117 yX7_sign, Cond.static yX7_sign, Cond.code yX7_sign cX7_sign 1 (some .int), Cond.methodLink RX7 124 yX7_far, Cond.static yX7_far, Cond.code yX7_far cX7_far 4 (some .int), Cond.methodLink RX7 127 yX7_isClear, Cond.instanceMethod yX7_isClear, Cond.selects RX7 yX7_isClear yX7_isClear, Cond.code yX7_isClear cX7_isClear 7 (some .boolean), Cond.fieldLink RX7 73 "LeftProfileModel" "floor" "I", Cond.methodLink RX7 93 yX7_has, Cond.static yX7_has, Cond.code yX7_has cX7_has 2 (some .boolean), Cond.methodLink RX7 97 yX7_whoOn]
def wsX7_isGuiltyAt_r2 : List Cond := [Cond.instanceMethod yX7_whoOn, Cond.selects RX7 yX7_whoOn yX7_whoOn, Cond.code yX7_whoOn cX7_whoOn 4 (some .int), Cond.fieldLink RX7 86 "LeftProfileModel" "courtiers" "I", Cond.fieldLink RX7 20 "LeftProfileModel" "placeOf" "[I", Cond.methodLink RX7 160 yX7_isMore, Cond.instanceMethod yX7_isMore, Cond.selects RX7 yX7_isMore yX7_isMore, Cond.code yX7_isMore cX7_isMore 5 (some .boolean), Cond.fieldLink RX7 36 "LeftProfileModel" "roomAt" "[I"]
def wsX7_isGuiltyAt : List Cond := .code yX7_isGuiltyAt cX7_isGuiltyAt 8 (some .boolean) :: ((wsX7_isGuiltyAt_r1 ++ wsX7_isGuiltyAt_r2) ++ wsX70)
def wsX7_isRoom_r1 : List Cond := [Cond.fieldLink RX7 86 "LeftProfileModel" "courtiers" "I", Cond.fieldLink RX7 16 "LeftProfileModel" "kindOf" "[I", Cond.fieldLink RX7 20 "LeftProfileModel" "placeOf" "[I", Cond.fieldLink RX7 36 "LeftProfileModel" "roomAt" "[I", Cond.methodLink RX7 157 yX7_isGuiltyAt, Cond.instanceMethod yX7_isGuiltyAt, Cond.selects RX7 yX7_isGuiltyAt yX7_isGuiltyAt, Cond.initialized RX7, Cond.code yX7_isGuiltyAt cX7_isGuiltyAt 8 (some .boolean), Cond.fieldLink RX7 7 "LeftProfileModel" "dukeAt" "I", Cond.fieldLink RX7 13 "LeftProfileModel" "dukeSide" "I", Cond.methodLink RX7 120 yX7_wayTo, Cond.static yX7_wayTo, Cond.code yX7_wayTo cX7_wayTo 5 (some .int), Cond.methodLink RX7 114 yX7_sized, Cond.static yX7_sized, Cond.code yX7_sized cX7_sized 1 (some .int), Cond.methodLink RX7 117 yX7_sign, Cond.static yX7_sign, Cond.code yX7_sign cX7_sign 1 (some .int), Cond.methodLink RX7 124 yX7_far, Cond.static yX7_far, Cond.code yX7_far cX7_far 4 (some .int), Cond.methodLink RX7 127 yX7_isClear]
def wsX7_isRoom_r2 : List Cond := [Cond.instanceMethod yX7_isClear, Cond.selects RX7 yX7_isClear yX7_isClear, Cond.code yX7_isClear cX7_isClear 7 (some .boolean), Cond.fieldLink RX7 73 "LeftProfileModel" "floor" "I", Cond.methodLink RX7 93 yX7_has, Cond.static yX7_has, Cond.code yX7_has cX7_has 2 (some .boolean), Cond.methodLink RX7 97 yX7_whoOn, Cond.instanceMethod yX7_whoOn, Cond.selects RX7 yX7_whoOn yX7_whoOn, Cond.code yX7_whoOn cX7_whoOn 4 (some .int), Cond.methodLink RX7 160 yX7_isMore, Cond.instanceMethod yX7_isMore, Cond.selects RX7 yX7_isMore yX7_isMore, Cond.code yX7_isMore cX7_isMore 5 (some .boolean)]
def wsX7_isRoom : List Cond := .code yX7_isRoom cX7_isRoom 6 (some .boolean) :: ((wsX7_isRoom_r1 ++ wsX7_isRoom_r2) ++ wsX70)
def wsX7_findRoom_r1 : List Cond := [Cond.fieldLink RX7 36 "LeftProfileModel" "roomAt" "[I", Cond.methodLink RX7 107 yX7_isEmpty, Cond.instanceMethod yX7_isEmpty, Cond.selects RX7 yX7_isEmpty yX7_isEmpty, Cond.initialized RX7, Cond.code yX7_isEmpty cX7_isEmpty 2 (some .boolean), Cond.fieldLink RX7 73 "LeftProfileModel" "floor" "I", Cond.methodLink RX7 93 yX7_has, Cond.static yX7_has, Cond.code yX7_has cX7_has 2 (some .boolean), Cond.methodLink RX7 97 yX7_whoOn, Cond.instanceMethod yX7_whoOn, Cond.selects RX7 yX7_whoOn yX7_whoOn, Cond.code yX7_whoOn cX7_whoOn 4 (some .int), Cond.fieldLink RX7 7 "LeftProfileModel" "dukeAt" "I", Cond.fieldLink RX7 86 "LeftProfileModel" "courtiers" "I", Cond.fieldLink RX7 20 "LeftProfileModel" "placeOf" "[I", Cond.methodLink RX7 163 yX7_isRoom, Cond.instanceMethod yX7_isRoom, Cond.selects RX7 yX7_isRoom yX7_isRoom, Cond.code yX7_isRoom cX7_isRoom 6 (some .boolean), Cond.fieldLink RX7 16 "LeftProfileModel" "kindOf" "[I", Cond.methodLink RX7 157 yX7_isGuiltyAt, Cond.instanceMethod yX7_isGuiltyAt]
def wsX7_findRoom_r2 : List Cond := [Cond.selects RX7 yX7_isGuiltyAt yX7_isGuiltyAt, Cond.code yX7_isGuiltyAt cX7_isGuiltyAt 8 (some .boolean), Cond.fieldLink RX7 13 "LeftProfileModel" "dukeSide" "I", Cond.methodLink RX7 120 yX7_wayTo, Cond.static yX7_wayTo, Cond.code yX7_wayTo cX7_wayTo 5 (some .int), Cond.methodLink RX7 114 yX7_sized, Cond.static yX7_sized, Cond.code yX7_sized cX7_sized 1 (some .int), Cond.methodLink RX7 117 yX7_sign, Cond.static yX7_sign, Cond.code yX7_sign cX7_sign 1 (some .int), Cond.methodLink RX7 124 yX7_far, Cond.static yX7_far, Cond.code yX7_far cX7_far 4 (some .int), Cond.methodLink RX7 127 yX7_isClear, Cond.instanceMethod yX7_isClear, Cond.selects RX7 yX7_isClear yX7_isClear, Cond.code yX7_isClear cX7_isClear 7 (some .boolean), Cond.methodLink RX7 160 yX7_isMore, Cond.instanceMethod yX7_isMore, Cond.selects RX7 yX7_isMore yX7_isMore, Cond.code yX7_isMore cX7_isMore 5 (some .boolean)]
def wsX7_findRoom : List Cond := .code yX7_findRoom cX7_findRoom 6 (some .boolean) :: ((wsX7_findRoom_r1 ++ wsX7_findRoom_r2) ++ wsX70)
def wsX7_roomNow_r1 : List Cond := [Cond.fieldLink RX7 36 "LeftProfileModel" "roomAt" "[I", Cond.methodLink RX7 166 yX7_findRoom, Cond.instanceMethod yX7_findRoom, Cond.selects RX7 yX7_findRoom yX7_findRoom, Cond.initialized RX7, Cond.code yX7_findRoom cX7_findRoom 6 (some .boolean), Cond.methodLink RX7 107 yX7_isEmpty, Cond.instanceMethod yX7_isEmpty, Cond.selects RX7 yX7_isEmpty yX7_isEmpty, Cond.code yX7_isEmpty cX7_isEmpty 2 (some .boolean), Cond.fieldLink RX7 73 "LeftProfileModel" "floor" "I", Cond.methodLink RX7 93 yX7_has, Cond.static yX7_has, Cond.code yX7_has cX7_has 2 (some .boolean), Cond.methodLink RX7 97 yX7_whoOn, Cond.instanceMethod yX7_whoOn, Cond.selects RX7 yX7_whoOn yX7_whoOn, Cond.code yX7_whoOn cX7_whoOn 4 (some .int), Cond.fieldLink RX7 7 "LeftProfileModel" "dukeAt" "I", Cond.fieldLink RX7 86 "LeftProfileModel" "courtiers" "I", Cond.fieldLink RX7 20 "LeftProfileModel" "placeOf" "[I", Cond.methodLink RX7 163 yX7_isRoom, Cond.instanceMethod yX7_isRoom, Cond.selects RX7 yX7_isRoom yX7_isRoom]
def wsX7_roomNow_r2 : List Cond := [Cond.code yX7_isRoom cX7_isRoom 6 (some .boolean), Cond.fieldLink RX7 16 "LeftProfileModel" "kindOf" "[I", Cond.methodLink RX7 157 yX7_isGuiltyAt, Cond.instanceMethod yX7_isGuiltyAt, Cond.selects RX7 yX7_isGuiltyAt yX7_isGuiltyAt, Cond.code yX7_isGuiltyAt cX7_isGuiltyAt 8 (some .boolean), Cond.fieldLink RX7 13 "LeftProfileModel" "dukeSide" "I", Cond.methodLink RX7 120 yX7_wayTo, Cond.static yX7_wayTo, Cond.code yX7_wayTo cX7_wayTo 5 (some .int), Cond.methodLink RX7 114 yX7_sized, Cond.static yX7_sized, Cond.code yX7_sized cX7_sized 1 (some .int), Cond.methodLink RX7 117 yX7_sign, Cond.static yX7_sign, Cond.code yX7_sign cX7_sign 1 (some .int), Cond.methodLink RX7 124 yX7_far, Cond.static yX7_far, Cond.code yX7_far cX7_far 4 (some .int), Cond.methodLink RX7 127 yX7_isClear, Cond.instanceMethod yX7_isClear, Cond.selects RX7 yX7_isClear yX7_isClear, Cond.code yX7_isClear cX7_isClear 7 (some .boolean), Cond.methodLink RX7 160 yX7_isMore]
def wsX7_roomNow_r3 : List Cond := [Cond.instanceMethod yX7_isMore, Cond.selects RX7 yX7_isMore yX7_isMore, Cond.code yX7_isMore cX7_isMore 5 (some .boolean)]
def wsX7_roomNow : List Cond := .code yX7_roomNow cX7_roomNow 3 (some .int) :: ((wsX7_roomNow_r1 ++ (wsX7_roomNow_r2 ++ wsX7_roomNow_r3)) ++ wsX70)
def wsX7_room_r1 : List Cond := [Cond.fieldLink RX7 7 "LeftProfileModel" "dukeAt" "I", Cond.methodLink RX7 57 yX7_within, Cond.static yX7_within, Cond.initialized RX7, Cond.code yX7_within cX7_within 3 (some .boolean), Cond.methodLink RX7 169 yX7_roomNow, Cond.instanceMethod yX7_roomNow, Cond.selects RX7 yX7_roomNow yX7_roomNow, Cond.code yX7_roomNow cX7_roomNow 3 (some .int), Cond.fieldLink RX7 36 "LeftProfileModel" "roomAt" "[I", Cond.methodLink RX7 166 yX7_findRoom, Cond.instanceMethod yX7_findRoom, Cond.selects RX7 yX7_findRoom yX7_findRoom, Cond.code yX7_findRoom cX7_findRoom 6 (some .boolean), Cond.methodLink RX7 107 yX7_isEmpty, Cond.instanceMethod yX7_isEmpty, Cond.selects RX7 yX7_isEmpty yX7_isEmpty, Cond.code yX7_isEmpty cX7_isEmpty 2 (some .boolean), Cond.fieldLink RX7 73 "LeftProfileModel" "floor" "I", Cond.methodLink RX7 93 yX7_has, Cond.static yX7_has, Cond.code yX7_has cX7_has 2 (some .boolean), Cond.methodLink RX7 97 yX7_whoOn, Cond.instanceMethod yX7_whoOn]
def wsX7_room_r2 : List Cond := [Cond.selects RX7 yX7_whoOn yX7_whoOn, Cond.code yX7_whoOn cX7_whoOn 4 (some .int), Cond.fieldLink RX7 86 "LeftProfileModel" "courtiers" "I", Cond.fieldLink RX7 20 "LeftProfileModel" "placeOf" "[I", Cond.methodLink RX7 163 yX7_isRoom, Cond.instanceMethod yX7_isRoom, Cond.selects RX7 yX7_isRoom yX7_isRoom, Cond.code yX7_isRoom cX7_isRoom 6 (some .boolean), Cond.fieldLink RX7 16 "LeftProfileModel" "kindOf" "[I", Cond.methodLink RX7 157 yX7_isGuiltyAt, Cond.instanceMethod yX7_isGuiltyAt, Cond.selects RX7 yX7_isGuiltyAt yX7_isGuiltyAt, Cond.code yX7_isGuiltyAt cX7_isGuiltyAt 8 (some .boolean), Cond.fieldLink RX7 13 "LeftProfileModel" "dukeSide" "I", Cond.methodLink RX7 120 yX7_wayTo, Cond.static yX7_wayTo, Cond.code yX7_wayTo cX7_wayTo 5 (some .int), Cond.methodLink RX7 114 yX7_sized, Cond.static yX7_sized, Cond.code yX7_sized cX7_sized 1 (some .int), Cond.methodLink RX7 117 yX7_sign, Cond.static yX7_sign, Cond.code yX7_sign cX7_sign 1 (some .int), Cond.methodLink RX7 124 yX7_far]
def wsX7_room_r3 : List Cond := [Cond.static yX7_far, Cond.code yX7_far cX7_far 4 (some .int), Cond.methodLink RX7 127 yX7_isClear, Cond.instanceMethod yX7_isClear, Cond.selects RX7 yX7_isClear yX7_isClear, Cond.code yX7_isClear cX7_isClear 7 (some .boolean), Cond.methodLink RX7 160 yX7_isMore, Cond.instanceMethod yX7_isMore, Cond.selects RX7 yX7_isMore yX7_isMore, Cond.code yX7_isMore cX7_isMore 5 (some .boolean)]
def wsX7_room : List Cond := .code yX7_room cX7_room 3 (some .int) :: ((wsX7_room_r1 ++ (wsX7_room_r2 ++ wsX7_room_r3)) ++ wsX70)
def wsX7_brickNow_r1 : List Cond := [Cond.fieldLink RX7 73 "LeftProfileModel" "floor" "I", Cond.methodLink RX7 107 yX7_isEmpty, Cond.instanceMethod yX7_isEmpty, Cond.selects RX7 yX7_isEmpty yX7_isEmpty, Cond.initialized RX7, Cond.code yX7_isEmpty cX7_isEmpty 2 (some .boolean), Cond.methodLink RX7 93 yX7_has, Cond.static yX7_has, Cond.code yX7_has cX7_has 2 (some .boolean), Cond.methodLink RX7 97 yX7_whoOn, Cond.instanceMethod yX7_whoOn, Cond.selects RX7 yX7_whoOn yX7_whoOn, Cond.code yX7_whoOn cX7_whoOn 4 (some .int), Cond.fieldLink RX7 7 "LeftProfileModel" "dukeAt" "I", Cond.fieldLink RX7 86 "LeftProfileModel" "courtiers" "I", Cond.fieldLink RX7 20 "LeftProfileModel" "placeOf" "[I", Cond.methodLink RX7 153 yX7_guiltySet, Cond.instanceMethod yX7_guiltySet, Cond.selects RX7 yX7_guiltySet yX7_guiltySet, Cond.code yX7_guiltySet cX7_guiltySet 3 (some .int), Cond.methodLink RX7 134 yX7_isGuilty, Cond.instanceMethod yX7_isGuilty, Cond.selects RX7 yX7_isGuilty yX7_isGuilty, Cond.code yX7_isGuilty cX7_isGuilty 3 (some .boolean)]
def wsX7_brickNow_r2 : List Cond := [Cond.fieldLink RX7 16 "LeftProfileModel" "kindOf" "[I", Cond.methodLink RX7 131 yX7_seesNow, Cond.instanceMethod yX7_seesNow, Cond.selects RX7 yX7_seesNow yX7_seesNow, Cond.code yX7_seesNow cX7_seesNow 4 (some .int), Cond.fieldLink RX7 13 "LeftProfileModel" "dukeSide" "I", Cond.methodLink RX7 120 yX7_wayTo, Cond.static yX7_wayTo, Cond.code yX7_wayTo cX7_wayTo 5 (some .int), Cond.methodLink RX7 114 yX7_sized, Cond.static yX7_sized, Cond.code yX7_sized cX7_sized 1 (some .int), Cond.methodLink RX7 117 yX7_sign, Cond.static yX7_sign, Cond.code yX7_sign cX7_sign 1 (some .int), Cond.methodLink RX7 124 yX7_far, Cond.static yX7_far, Cond.code yX7_far cX7_far 4 (some .int), Cond.methodLink RX7 127 yX7_isClear, Cond.instanceMethod yX7_isClear, Cond.selects RX7 yX7_isClear yX7_isClear, Cond.code yX7_isClear cX7_isClear 7 (some .boolean), Cond.methodLink RX7 89 yX7_size, Cond.static yX7_size]
def wsX7_brickNow_r3 : List Cond := [Cond.code yX7_size cX7_size 3 (some .int)]
def wsX7_brickNow : List Cond := .code yX7_brickNow cX7_brickNow 7 (some .int) :: ((wsX7_brickNow_r1 ++ (wsX7_brickNow_r2 ++ wsX7_brickNow_r3)) ++ wsX70)
def wsX7_brick_r1 : List Cond := [Cond.fieldLink RX7 7 "LeftProfileModel" "dukeAt" "I", Cond.methodLink RX7 57 yX7_within, Cond.static yX7_within, Cond.initialized RX7, Cond.code yX7_within cX7_within 3 (some .boolean), Cond.methodLink RX7 172 yX7_brickNow, Cond.instanceMethod yX7_brickNow, Cond.selects RX7 yX7_brickNow yX7_brickNow, Cond.code yX7_brickNow cX7_brickNow 7 (some .int), Cond.fieldLink RX7 73 "LeftProfileModel" "floor" "I", Cond.methodLink RX7 107 yX7_isEmpty, Cond.instanceMethod yX7_isEmpty, Cond.selects RX7 yX7_isEmpty yX7_isEmpty, Cond.code yX7_isEmpty cX7_isEmpty 2 (some .boolean), Cond.methodLink RX7 93 yX7_has, Cond.static yX7_has, Cond.code yX7_has cX7_has 2 (some .boolean), Cond.methodLink RX7 97 yX7_whoOn, Cond.instanceMethod yX7_whoOn, Cond.selects RX7 yX7_whoOn yX7_whoOn, Cond.code yX7_whoOn cX7_whoOn 4 (some .int), Cond.fieldLink RX7 86 "LeftProfileModel" "courtiers" "I", Cond.fieldLink RX7 20 "LeftProfileModel" "placeOf" "[I", Cond.methodLink RX7 153 yX7_guiltySet]
def wsX7_brick_r2 : List Cond := [Cond.instanceMethod yX7_guiltySet, Cond.selects RX7 yX7_guiltySet yX7_guiltySet, Cond.code yX7_guiltySet cX7_guiltySet 3 (some .int), Cond.methodLink RX7 134 yX7_isGuilty, Cond.instanceMethod yX7_isGuilty, Cond.selects RX7 yX7_isGuilty yX7_isGuilty, Cond.code yX7_isGuilty cX7_isGuilty 3 (some .boolean), Cond.fieldLink RX7 16 "LeftProfileModel" "kindOf" "[I", Cond.methodLink RX7 131 yX7_seesNow, Cond.instanceMethod yX7_seesNow, Cond.selects RX7 yX7_seesNow yX7_seesNow, Cond.code yX7_seesNow cX7_seesNow 4 (some .int), Cond.fieldLink RX7 13 "LeftProfileModel" "dukeSide" "I", Cond.methodLink RX7 120 yX7_wayTo, Cond.static yX7_wayTo, Cond.code yX7_wayTo cX7_wayTo 5 (some .int), Cond.methodLink RX7 114 yX7_sized, Cond.static yX7_sized, Cond.code yX7_sized cX7_sized 1 (some .int), Cond.methodLink RX7 117 yX7_sign, Cond.static yX7_sign, Cond.code yX7_sign cX7_sign 1 (some .int), Cond.methodLink RX7 124 yX7_far, Cond.static yX7_far]
def wsX7_brick_r3 : List Cond := [Cond.code yX7_far cX7_far 4 (some .int), Cond.methodLink RX7 127 yX7_isClear, Cond.instanceMethod yX7_isClear, Cond.selects RX7 yX7_isClear yX7_isClear, Cond.code yX7_isClear cX7_isClear 7 (some .boolean), Cond.methodLink RX7 89 yX7_size, Cond.static yX7_size, Cond.code yX7_size cX7_size 3 (some .int)]
def wsX7_brick : List Cond := .code yX7_brick cX7_brick 2 (some .int) :: ((wsX7_brick_r1 ++ (wsX7_brick_r2 ++ wsX7_brick_r3)) ++ wsX70)
def wsX7_actsFrom_r1 : List Cond := [Cond.fieldLink RX7 7 "LeftProfileModel" "dukeAt" "I", Cond.fieldLink RX7 13 "LeftProfileModel" "dukeSide" "I", Cond.fieldLink RX7 39 "LeftProfileModel" "firstOf" "[I", Cond.fieldLink RX7 42 "LeftProfileModel" "queue" "[I", Cond.methodLink RX7 146 yX7_mayAct, Cond.instanceMethod yX7_mayAct, Cond.selects RX7 yX7_mayAct yX7_mayAct, Cond.initialized RX7, Cond.code yX7_mayAct cX7_mayAct 3 (some .boolean), Cond.methodLink RX7 143 yX7_ahead, Cond.static yX7_ahead, Cond.code yX7_ahead cX7_ahead 2 (some .int), Cond.methodLink RX7 107 yX7_isEmpty, Cond.instanceMethod yX7_isEmpty, Cond.selects RX7 yX7_isEmpty yX7_isEmpty, Cond.code yX7_isEmpty cX7_isEmpty 2 (some .boolean), Cond.fieldLink RX7 73 "LeftProfileModel" "floor" "I", Cond.methodLink RX7 93 yX7_has, Cond.static yX7_has, Cond.code yX7_has cX7_has 2 (some .boolean), Cond.methodLink RX7 97 yX7_whoOn, Cond.instanceMethod yX7_whoOn, Cond.selects RX7 yX7_whoOn yX7_whoOn, Cond.code yX7_whoOn cX7_whoOn 4 (some .int)]
def wsX7_actsFrom_r2 : List Cond := [Cond.fieldLink RX7 86 "LeftProfileModel" "courtiers" "I", Cond.fieldLink RX7 20 "LeftProfileModel" "placeOf" "[I", Cond.methodLink RX7 149 yX7_doAct, Cond.instanceMethod yX7_doAct, Cond.selects RX7 yX7_doAct yX7_doAct, Cond.code yX7_doAct cX7_doAct 2 none, Cond.methodLink RX7 153 yX7_guiltySet, Cond.instanceMethod yX7_guiltySet, Cond.selects RX7 yX7_guiltySet yX7_guiltySet, Cond.code yX7_guiltySet cX7_guiltySet 3 (some .int), Cond.methodLink RX7 134 yX7_isGuilty, Cond.instanceMethod yX7_isGuilty, Cond.selects RX7 yX7_isGuilty yX7_isGuilty, Cond.code yX7_isGuilty cX7_isGuilty 3 (some .boolean), Cond.fieldLink RX7 16 "LeftProfileModel" "kindOf" "[I", Cond.methodLink RX7 131 yX7_seesNow, Cond.instanceMethod yX7_seesNow, Cond.selects RX7 yX7_seesNow yX7_seesNow, Cond.code yX7_seesNow cX7_seesNow 4 (some .int), Cond.methodLink RX7 120 yX7_wayTo, Cond.static yX7_wayTo, Cond.code yX7_wayTo cX7_wayTo 5 (some .int), Cond.methodLink RX7 114 yX7_sized, Cond.static yX7_sized]
def wsX7_actsFrom_r3 : List Cond := [Cond.code yX7_sized cX7_sized 1 (some .int), Cond.methodLink RX7 117 yX7_sign, Cond.static yX7_sign, Cond.code yX7_sign cX7_sign 1 (some .int), Cond.methodLink RX7 124 yX7_far, Cond.static yX7_far, Cond.code yX7_far cX7_far 4 (some .int), Cond.methodLink RX7 127 yX7_isClear, Cond.instanceMethod yX7_isClear, Cond.selects RX7 yX7_isClear yX7_isClear, Cond.code yX7_isClear cX7_isClear 7 (some .boolean)]
def wsX7_actsFrom : List Cond := .code yX7_actsFrom cX7_actsFrom 6 (some .int) :: ((wsX7_actsFrom_r1 ++ (wsX7_actsFrom_r2 ++ wsX7_actsFrom_r3)) ++ wsX70)
def wsX7_wayNow_r1 : List Cond := [Cond.fieldLink RX7 7 "LeftProfileModel" "dukeAt" "I", Cond.fieldLink RX7 13 "LeftProfileModel" "dukeSide" "I", Cond.fieldLink RX7 39 "LeftProfileModel" "firstOf" "[I", Cond.fieldLink RX7 42 "LeftProfileModel" "queue" "[I", Cond.methodLink RX7 175 yX7_actsFrom, Cond.instanceMethod yX7_actsFrom, Cond.selects RX7 yX7_actsFrom yX7_actsFrom, Cond.initialized RX7, Cond.code yX7_actsFrom cX7_actsFrom 6 (some .int), Cond.methodLink RX7 146 yX7_mayAct, Cond.instanceMethod yX7_mayAct, Cond.selects RX7 yX7_mayAct yX7_mayAct, Cond.code yX7_mayAct cX7_mayAct 3 (some .boolean), Cond.methodLink RX7 143 yX7_ahead, Cond.static yX7_ahead, Cond.code yX7_ahead cX7_ahead 2 (some .int), Cond.methodLink RX7 107 yX7_isEmpty, Cond.instanceMethod yX7_isEmpty, Cond.selects RX7 yX7_isEmpty yX7_isEmpty, Cond.code yX7_isEmpty cX7_isEmpty 2 (some .boolean), Cond.fieldLink RX7 73 "LeftProfileModel" "floor" "I", Cond.methodLink RX7 93 yX7_has, Cond.static yX7_has, Cond.code yX7_has cX7_has 2 (some .boolean)]
def wsX7_wayNow_r2 : List Cond := [Cond.methodLink RX7 97 yX7_whoOn, Cond.instanceMethod yX7_whoOn, Cond.selects RX7 yX7_whoOn yX7_whoOn, Cond.code yX7_whoOn cX7_whoOn 4 (some .int), Cond.fieldLink RX7 86 "LeftProfileModel" "courtiers" "I", Cond.fieldLink RX7 20 "LeftProfileModel" "placeOf" "[I", Cond.methodLink RX7 149 yX7_doAct, Cond.instanceMethod yX7_doAct, Cond.selects RX7 yX7_doAct yX7_doAct, Cond.code yX7_doAct cX7_doAct 2 none, Cond.methodLink RX7 153 yX7_guiltySet, Cond.instanceMethod yX7_guiltySet, Cond.selects RX7 yX7_guiltySet yX7_guiltySet, Cond.code yX7_guiltySet cX7_guiltySet 3 (some .int), Cond.methodLink RX7 134 yX7_isGuilty, Cond.instanceMethod yX7_isGuilty, Cond.selects RX7 yX7_isGuilty yX7_isGuilty, Cond.code yX7_isGuilty cX7_isGuilty 3 (some .boolean), Cond.fieldLink RX7 16 "LeftProfileModel" "kindOf" "[I", Cond.methodLink RX7 131 yX7_seesNow, Cond.instanceMethod yX7_seesNow, Cond.selects RX7 yX7_seesNow yX7_seesNow, Cond.code yX7_seesNow cX7_seesNow 4 (some .int), Cond.methodLink RX7 120 yX7_wayTo]
def wsX7_wayNow_r3 : List Cond := [Cond.static yX7_wayTo, Cond.code yX7_wayTo cX7_wayTo 5 (some .int), Cond.methodLink RX7 114 yX7_sized, Cond.static yX7_sized, Cond.code yX7_sized cX7_sized 1 (some .int), Cond.methodLink RX7 117 yX7_sign, Cond.static yX7_sign, Cond.code yX7_sign cX7_sign 1 (some .int), Cond.methodLink RX7 124 yX7_far, Cond.static yX7_far, Cond.code yX7_far cX7_far 4 (some .int), Cond.methodLink RX7 127 yX7_isClear, Cond.instanceMethod yX7_isClear, Cond.selects RX7 yX7_isClear yX7_isClear, Cond.code yX7_isClear cX7_isClear 7 (some .boolean)]
def wsX7_wayNow : List Cond := .code yX7_wayNow cX7_wayNow 12 (some .int) :: ((wsX7_wayNow_r1 ++ (wsX7_wayNow_r2 ++ wsX7_wayNow_r3)) ++ wsX70)
def wsX7_way_r1 : List Cond := [Cond.fieldLink RX7 7 "LeftProfileModel" "dukeAt" "I", Cond.methodLink RX7 100 yX7_isPlace, Cond.static yX7_isPlace, Cond.initialized RX7, Cond.code yX7_isPlace cX7_isPlace 1 (some .boolean), Cond.methodLink RX7 57 yX7_within, Cond.static yX7_within, Cond.code yX7_within cX7_within 3 (some .boolean), Cond.methodLink RX7 178 yX7_wayNow, Cond.instanceMethod yX7_wayNow, Cond.selects RX7 yX7_wayNow yX7_wayNow, Cond.code yX7_wayNow cX7_wayNow 12 (some .int), Cond.fieldLink RX7 13 "LeftProfileModel" "dukeSide" "I", Cond.fieldLink RX7 39 "LeftProfileModel" "firstOf" "[I", Cond.fieldLink RX7 42 "LeftProfileModel" "queue" "[I", Cond.methodLink RX7 175 yX7_actsFrom, Cond.instanceMethod yX7_actsFrom, Cond.selects RX7 yX7_actsFrom yX7_actsFrom, Cond.code yX7_actsFrom cX7_actsFrom 6 (some .int), Cond.methodLink RX7 146 yX7_mayAct, Cond.instanceMethod yX7_mayAct, Cond.selects RX7 yX7_mayAct yX7_mayAct, Cond.code yX7_mayAct cX7_mayAct 3 (some .boolean), Cond.methodLink RX7 143 yX7_ahead]
def wsX7_way_r2 : List Cond := [Cond.static yX7_ahead, Cond.code yX7_ahead cX7_ahead 2 (some .int), Cond.methodLink RX7 107 yX7_isEmpty, Cond.instanceMethod yX7_isEmpty, Cond.selects RX7 yX7_isEmpty yX7_isEmpty, Cond.code yX7_isEmpty cX7_isEmpty 2 (some .boolean), Cond.fieldLink RX7 73 "LeftProfileModel" "floor" "I", Cond.methodLink RX7 93 yX7_has, Cond.static yX7_has, Cond.code yX7_has cX7_has 2 (some .boolean), Cond.methodLink RX7 97 yX7_whoOn, Cond.instanceMethod yX7_whoOn, Cond.selects RX7 yX7_whoOn yX7_whoOn, Cond.code yX7_whoOn cX7_whoOn 4 (some .int), Cond.fieldLink RX7 86 "LeftProfileModel" "courtiers" "I", Cond.fieldLink RX7 20 "LeftProfileModel" "placeOf" "[I", Cond.methodLink RX7 149 yX7_doAct, Cond.instanceMethod yX7_doAct, Cond.selects RX7 yX7_doAct yX7_doAct, Cond.code yX7_doAct cX7_doAct 2 none, Cond.methodLink RX7 153 yX7_guiltySet, Cond.instanceMethod yX7_guiltySet, Cond.selects RX7 yX7_guiltySet yX7_guiltySet, Cond.code yX7_guiltySet cX7_guiltySet 3 (some .int)]
def wsX7_way_r3 : List Cond := [Cond.methodLink RX7 134 yX7_isGuilty, Cond.instanceMethod yX7_isGuilty, Cond.selects RX7 yX7_isGuilty yX7_isGuilty, Cond.code yX7_isGuilty cX7_isGuilty 3 (some .boolean), Cond.fieldLink RX7 16 "LeftProfileModel" "kindOf" "[I", Cond.methodLink RX7 131 yX7_seesNow, Cond.instanceMethod yX7_seesNow, Cond.selects RX7 yX7_seesNow yX7_seesNow, Cond.code yX7_seesNow cX7_seesNow 4 (some .int), Cond.methodLink RX7 120 yX7_wayTo, Cond.static yX7_wayTo, Cond.code yX7_wayTo cX7_wayTo 5 (some .int), Cond.methodLink RX7 114 yX7_sized, Cond.static yX7_sized, Cond.code yX7_sized cX7_sized 1 (some .int), Cond.methodLink RX7 117 yX7_sign, Cond.static yX7_sign, Cond.code yX7_sign cX7_sign 1 (some .int), Cond.methodLink RX7 124 yX7_far, Cond.static yX7_far, Cond.code yX7_far cX7_far 4 (some .int), Cond.methodLink RX7 127 yX7_isClear, Cond.instanceMethod yX7_isClear, Cond.selects RX7 yX7_isClear yX7_isClear]
def wsX7_way_r4 : List Cond := [Cond.code yX7_isClear cX7_isClear 7 (some .boolean)]
def wsX7_way : List Cond := .code yX7_way cX7_way 3 (some .int) :: ((wsX7_way_r1 ++ (wsX7_way_r2 ++ (wsX7_way_r3 ++ wsX7_way_r4))) ++ wsX70)
def wsX7_told : List Cond := .code yX7_told cX7_told 4 (some .int) :: ([.fieldLink RX7 29 "LeftProfileModel" "toldOf" "[I", .methodLink RX7 137 yX7_isCourtier, .instanceMethod yX7_isCourtier, .selects RX7 yX7_isCourtier yX7_isCourtier, .initialized RX7, .code yX7_isCourtier cX7_isCourtier 2 (some .boolean), .fieldLink RX7 86 "LeftProfileModel" "courtiers" "I", .methodLink RX7 57 yX7_within, .static yX7_within, .code yX7_within cX7_within 3 (some .boolean)] ++ wsX70)
def wsX7_isToldSo_r1 : List Cond := [Cond.fieldLink RX7 86 "LeftProfileModel" "courtiers" "I", Cond.fieldLink RX7 29 "LeftProfileModel" "toldOf" "[I", Cond.methodLink RX7 131 yX7_seesNow, Cond.instanceMethod yX7_seesNow, Cond.selects RX7 yX7_seesNow yX7_seesNow, Cond.initialized RX7, Cond.code yX7_seesNow cX7_seesNow 4 (some .int), Cond.fieldLink RX7 7 "LeftProfileModel" "dukeAt" "I", Cond.fieldLink RX7 20 "LeftProfileModel" "placeOf" "[I", Cond.fieldLink RX7 16 "LeftProfileModel" "kindOf" "[I", Cond.fieldLink RX7 13 "LeftProfileModel" "dukeSide" "I", Cond.methodLink RX7 120 yX7_wayTo, Cond.static yX7_wayTo, Cond.code yX7_wayTo cX7_wayTo 5 (some .int), Cond.methodLink RX7 114 yX7_sized, Cond.static yX7_sized, Cond.code yX7_sized cX7_sized 1 (some .int), Cond.methodLink RX7 117 yX7_sign, Cond.static yX7_sign, Cond.code yX7_sign cX7_sign 1 (some .int), Cond.methodLink RX7 124 yX7_far, Cond.static yX7_far, Cond.code yX7_far cX7_far 4 (some .int), Cond.methodLink RX7 127 yX7_isClear]
def wsX7_isToldSo_r2 : List Cond := [Cond.instanceMethod yX7_isClear, Cond.selects RX7 yX7_isClear yX7_isClear, Cond.code yX7_isClear cX7_isClear 7 (some .boolean), Cond.fieldLink RX7 73 "LeftProfileModel" "floor" "I", Cond.methodLink RX7 93 yX7_has, Cond.static yX7_has, Cond.code yX7_has cX7_has 2 (some .boolean), Cond.methodLink RX7 97 yX7_whoOn, Cond.instanceMethod yX7_whoOn, Cond.selects RX7 yX7_whoOn yX7_whoOn, Cond.code yX7_whoOn cX7_whoOn 4 (some .int)]
def wsX7_isToldSo : List Cond := .code yX7_isToldSo cX7_isToldSo 3 (some .boolean) :: ((wsX7_isToldSo_r1 ++ wsX7_isToldSo_r2) ++ wsX70)
def wsX7_only : List Cond := .code yX7_only cX7_only 3 (some .int) :: ([])
def wsX7_stoodNow_r1 : List Cond := [Cond.fieldLink RX7 7 "LeftProfileModel" "dukeAt" "I", Cond.fieldLink RX7 13 "LeftProfileModel" "dukeSide" "I", Cond.methodLink RX7 107 yX7_isEmpty, Cond.instanceMethod yX7_isEmpty, Cond.selects RX7 yX7_isEmpty yX7_isEmpty, Cond.initialized RX7, Cond.code yX7_isEmpty cX7_isEmpty 2 (some .boolean), Cond.fieldLink RX7 73 "LeftProfileModel" "floor" "I", Cond.methodLink RX7 93 yX7_has, Cond.static yX7_has, Cond.code yX7_has cX7_has 2 (some .boolean), Cond.methodLink RX7 97 yX7_whoOn, Cond.instanceMethod yX7_whoOn, Cond.selects RX7 yX7_whoOn yX7_whoOn, Cond.code yX7_whoOn cX7_whoOn 4 (some .int), Cond.fieldLink RX7 86 "LeftProfileModel" "courtiers" "I", Cond.fieldLink RX7 20 "LeftProfileModel" "placeOf" "[I", Cond.methodLink RX7 181 yX7_isToldSo, Cond.instanceMethod yX7_isToldSo, Cond.selects RX7 yX7_isToldSo yX7_isToldSo, Cond.code yX7_isToldSo cX7_isToldSo 3 (some .boolean), Cond.fieldLink RX7 29 "LeftProfileModel" "toldOf" "[I", Cond.methodLink RX7 131 yX7_seesNow, Cond.instanceMethod yX7_seesNow]
def wsX7_stoodNow_r2 : List Cond := [Cond.selects RX7 yX7_seesNow yX7_seesNow, Cond.code yX7_seesNow cX7_seesNow 4 (some .int), Cond.fieldLink RX7 16 "LeftProfileModel" "kindOf" "[I", Cond.methodLink RX7 120 yX7_wayTo, Cond.static yX7_wayTo, Cond.code yX7_wayTo cX7_wayTo 5 (some .int), Cond.methodLink RX7 114 yX7_sized, Cond.static yX7_sized, Cond.code yX7_sized cX7_sized 1 (some .int), Cond.methodLink RX7 117 yX7_sign, Cond.static yX7_sign, Cond.code yX7_sign cX7_sign 1 (some .int), Cond.methodLink RX7 124 yX7_far, Cond.static yX7_far, Cond.code yX7_far cX7_far 4 (some .int), Cond.methodLink RX7 127 yX7_isClear, Cond.instanceMethod yX7_isClear, Cond.selects RX7 yX7_isClear yX7_isClear, Cond.code yX7_isClear cX7_isClear 7 (some .boolean), Cond.methodLink RX7 185 yX7_only, Cond.static yX7_only, Cond.code yX7_only cX7_only 3 (some .int)]
def wsX7_stoodNow : List Cond := .code yX7_stoodNow cX7_stoodNow 9 (some .int) :: ((wsX7_stoodNow_r1 ++ wsX7_stoodNow_r2) ++ wsX70)
def wsX7_stood_r1 : List Cond := [Cond.fieldLink RX7 76 "LeftProfileModel" "isHall" "Z", Cond.methodLink RX7 57 yX7_within, Cond.static yX7_within, Cond.initialized RX7, Cond.code yX7_within cX7_within 3 (some .boolean), Cond.methodLink RX7 188 yX7_stoodNow, Cond.instanceMethod yX7_stoodNow, Cond.selects RX7 yX7_stoodNow yX7_stoodNow, Cond.code yX7_stoodNow cX7_stoodNow 9 (some .int), Cond.fieldLink RX7 7 "LeftProfileModel" "dukeAt" "I", Cond.fieldLink RX7 13 "LeftProfileModel" "dukeSide" "I", Cond.methodLink RX7 107 yX7_isEmpty, Cond.instanceMethod yX7_isEmpty, Cond.selects RX7 yX7_isEmpty yX7_isEmpty, Cond.code yX7_isEmpty cX7_isEmpty 2 (some .boolean), Cond.fieldLink RX7 73 "LeftProfileModel" "floor" "I", Cond.methodLink RX7 93 yX7_has, Cond.static yX7_has, Cond.code yX7_has cX7_has 2 (some .boolean), Cond.methodLink RX7 97 yX7_whoOn, Cond.instanceMethod yX7_whoOn, Cond.selects RX7 yX7_whoOn yX7_whoOn, Cond.code yX7_whoOn cX7_whoOn 4 (some .int), Cond.fieldLink RX7 86 "LeftProfileModel" "courtiers" "I"]
def wsX7_stood_r2 : List Cond := [Cond.fieldLink RX7 20 "LeftProfileModel" "placeOf" "[I", Cond.methodLink RX7 181 yX7_isToldSo, Cond.instanceMethod yX7_isToldSo, Cond.selects RX7 yX7_isToldSo yX7_isToldSo, Cond.code yX7_isToldSo cX7_isToldSo 3 (some .boolean), Cond.fieldLink RX7 29 "LeftProfileModel" "toldOf" "[I", Cond.methodLink RX7 131 yX7_seesNow, Cond.instanceMethod yX7_seesNow, Cond.selects RX7 yX7_seesNow yX7_seesNow, Cond.code yX7_seesNow cX7_seesNow 4 (some .int), Cond.fieldLink RX7 16 "LeftProfileModel" "kindOf" "[I", Cond.methodLink RX7 120 yX7_wayTo, Cond.static yX7_wayTo, Cond.code yX7_wayTo cX7_wayTo 5 (some .int), Cond.methodLink RX7 114 yX7_sized, Cond.static yX7_sized, Cond.code yX7_sized cX7_sized 1 (some .int), Cond.methodLink RX7 117 yX7_sign, Cond.static yX7_sign, Cond.code yX7_sign cX7_sign 1 (some .int), Cond.methodLink RX7 124 yX7_far, Cond.static yX7_far, Cond.code yX7_far cX7_far 4 (some .int), Cond.methodLink RX7 127 yX7_isClear]
def wsX7_stood_r3 : List Cond := [Cond.instanceMethod yX7_isClear, Cond.selects RX7 yX7_isClear yX7_isClear, Cond.code yX7_isClear cX7_isClear 7 (some .boolean), Cond.methodLink RX7 185 yX7_only, Cond.static yX7_only, Cond.code yX7_only cX7_only 3 (some .int)]
def wsX7_stood : List Cond := .code yX7_stood cX7_stood 2 (some .int) :: ((wsX7_stood_r1 ++ (wsX7_stood_r2 ++ wsX7_stood_r3)) ++ wsX70)
def wsX7_draw : List Cond := .code yX7_draw cX7_draw 2 (some .int) :: ([.constantLong RX7 191 (1103515245), .fieldLink RX7 193 "LeftProfileModel" "seedNow" "J", .constantLong RX7 197 (12345), .constantLong RX7 199 (2147483647), .constantLong RX7 201 (65536)] ++ wsX70)
def wsX7_walkNow_r1 : List Cond := [Cond.fieldLink RX7 7 "LeftProfileModel" "dukeAt" "I", Cond.fieldLink RX7 13 "LeftProfileModel" "dukeSide" "I", Cond.fieldLink RX7 193 "LeftProfileModel" "seedNow" "J", Cond.methodLink RX7 203 yX7_draw, Cond.instanceMethod yX7_draw, Cond.selects RX7 yX7_draw yX7_draw, Cond.initialized RX7, Cond.code yX7_draw cX7_draw 2 (some .int), Cond.constantLong RX7 191 (1103515245), Cond.constantLong RX7 197 (12345), Cond.constantLong RX7 199 (2147483647), Cond.constantLong RX7 201 (65536), Cond.methodLink RX7 146 yX7_mayAct, Cond.instanceMethod yX7_mayAct, Cond.selects RX7 yX7_mayAct yX7_mayAct, Cond.code yX7_mayAct cX7_mayAct 3 (some .boolean), Cond.methodLink RX7 143 yX7_ahead, Cond.static yX7_ahead, Cond.code yX7_ahead cX7_ahead 2 (some .int), Cond.methodLink RX7 107 yX7_isEmpty, Cond.instanceMethod yX7_isEmpty, Cond.selects RX7 yX7_isEmpty yX7_isEmpty, Cond.code yX7_isEmpty cX7_isEmpty 2 (some .boolean), Cond.fieldLink RX7 73 "LeftProfileModel" "floor" "I"]
def wsX7_walkNow_r2 : List Cond := [Cond.methodLink RX7 93 yX7_has, Cond.static yX7_has, Cond.code yX7_has cX7_has 2 (some .boolean), Cond.methodLink RX7 97 yX7_whoOn, Cond.instanceMethod yX7_whoOn, Cond.selects RX7 yX7_whoOn yX7_whoOn, Cond.code yX7_whoOn cX7_whoOn 4 (some .int), Cond.fieldLink RX7 86 "LeftProfileModel" "courtiers" "I", Cond.fieldLink RX7 20 "LeftProfileModel" "placeOf" "[I", Cond.methodLink RX7 149 yX7_doAct, Cond.instanceMethod yX7_doAct, Cond.selects RX7 yX7_doAct yX7_doAct, Cond.code yX7_doAct cX7_doAct 2 none, Cond.methodLink RX7 153 yX7_guiltySet, Cond.instanceMethod yX7_guiltySet, Cond.selects RX7 yX7_guiltySet yX7_guiltySet, Cond.code yX7_guiltySet cX7_guiltySet 3 (some .int), Cond.methodLink RX7 134 yX7_isGuilty, Cond.instanceMethod yX7_isGuilty, Cond.selects RX7 yX7_isGuilty yX7_isGuilty, Cond.code yX7_isGuilty cX7_isGuilty 3 (some .boolean), Cond.fieldLink RX7 16 "LeftProfileModel" "kindOf" "[I", Cond.methodLink RX7 131 yX7_seesNow, Cond.instanceMethod yX7_seesNow]
def wsX7_walkNow_r3 : List Cond := [Cond.selects RX7 yX7_seesNow yX7_seesNow, Cond.code yX7_seesNow cX7_seesNow 4 (some .int), Cond.methodLink RX7 120 yX7_wayTo, Cond.static yX7_wayTo, Cond.code yX7_wayTo cX7_wayTo 5 (some .int), Cond.methodLink RX7 114 yX7_sized, Cond.static yX7_sized, Cond.code yX7_sized cX7_sized 1 (some .int), Cond.methodLink RX7 117 yX7_sign, Cond.static yX7_sign, Cond.code yX7_sign cX7_sign 1 (some .int), Cond.methodLink RX7 124 yX7_far, Cond.static yX7_far, Cond.code yX7_far cX7_far 4 (some .int), Cond.methodLink RX7 127 yX7_isClear, Cond.instanceMethod yX7_isClear, Cond.selects RX7 yX7_isClear yX7_isClear, Cond.code yX7_isClear cX7_isClear 7 (some .boolean), Cond.methodLink RX7 89 yX7_size, Cond.static yX7_size, Cond.code yX7_size cX7_size 3 (some .int)]
def wsX7_walkNow : List Cond := .code yX7_walkNow cX7_walkNow 9 (some .int) :: ((wsX7_walkNow_r1 ++ (wsX7_walkNow_r2 ++ wsX7_walkNow_r3)) ++ wsX70)
def wsX7_walk_r1 : List Cond := [Cond.fieldLink RX7 7 "LeftProfileModel" "dukeAt" "I", Cond.methodLink RX7 57 yX7_within, Cond.static yX7_within, Cond.initialized RX7, Cond.code yX7_within cX7_within 3 (some .boolean), Cond.methodLink RX7 206 yX7_walkNow, Cond.instanceMethod yX7_walkNow, Cond.selects RX7 yX7_walkNow yX7_walkNow, Cond.code yX7_walkNow cX7_walkNow 9 (some .int), Cond.fieldLink RX7 13 "LeftProfileModel" "dukeSide" "I", Cond.fieldLink RX7 193 "LeftProfileModel" "seedNow" "J", Cond.methodLink RX7 203 yX7_draw, Cond.instanceMethod yX7_draw, Cond.selects RX7 yX7_draw yX7_draw, Cond.code yX7_draw cX7_draw 2 (some .int), Cond.constantLong RX7 191 (1103515245), Cond.constantLong RX7 197 (12345), Cond.constantLong RX7 199 (2147483647), Cond.constantLong RX7 201 (65536), Cond.methodLink RX7 146 yX7_mayAct, Cond.instanceMethod yX7_mayAct, Cond.selects RX7 yX7_mayAct yX7_mayAct, Cond.code yX7_mayAct cX7_mayAct 3 (some .boolean), Cond.methodLink RX7 143 yX7_ahead]
def wsX7_walk_r2 : List Cond := [Cond.static yX7_ahead, Cond.code yX7_ahead cX7_ahead 2 (some .int), Cond.methodLink RX7 107 yX7_isEmpty, Cond.instanceMethod yX7_isEmpty, Cond.selects RX7 yX7_isEmpty yX7_isEmpty, Cond.code yX7_isEmpty cX7_isEmpty 2 (some .boolean), Cond.fieldLink RX7 73 "LeftProfileModel" "floor" "I", Cond.methodLink RX7 93 yX7_has, Cond.static yX7_has, Cond.code yX7_has cX7_has 2 (some .boolean), Cond.methodLink RX7 97 yX7_whoOn, Cond.instanceMethod yX7_whoOn, Cond.selects RX7 yX7_whoOn yX7_whoOn, Cond.code yX7_whoOn cX7_whoOn 4 (some .int), Cond.fieldLink RX7 86 "LeftProfileModel" "courtiers" "I", Cond.fieldLink RX7 20 "LeftProfileModel" "placeOf" "[I", Cond.methodLink RX7 149 yX7_doAct, Cond.instanceMethod yX7_doAct, Cond.selects RX7 yX7_doAct yX7_doAct, Cond.code yX7_doAct cX7_doAct 2 none, Cond.methodLink RX7 153 yX7_guiltySet, Cond.instanceMethod yX7_guiltySet, Cond.selects RX7 yX7_guiltySet yX7_guiltySet, Cond.code yX7_guiltySet cX7_guiltySet 3 (some .int)]
def wsX7_walk_r3 : List Cond := [Cond.methodLink RX7 134 yX7_isGuilty, Cond.instanceMethod yX7_isGuilty, Cond.selects RX7 yX7_isGuilty yX7_isGuilty, Cond.code yX7_isGuilty cX7_isGuilty 3 (some .boolean), Cond.fieldLink RX7 16 "LeftProfileModel" "kindOf" "[I", Cond.methodLink RX7 131 yX7_seesNow, Cond.instanceMethod yX7_seesNow, Cond.selects RX7 yX7_seesNow yX7_seesNow, Cond.code yX7_seesNow cX7_seesNow 4 (some .int), Cond.methodLink RX7 120 yX7_wayTo, Cond.static yX7_wayTo, Cond.code yX7_wayTo cX7_wayTo 5 (some .int), Cond.methodLink RX7 114 yX7_sized, Cond.static yX7_sized, Cond.code yX7_sized cX7_sized 1 (some .int), Cond.methodLink RX7 117 yX7_sign, Cond.static yX7_sign, Cond.code yX7_sign cX7_sign 1 (some .int), Cond.methodLink RX7 124 yX7_far, Cond.static yX7_far, Cond.code yX7_far cX7_far 4 (some .int), Cond.methodLink RX7 127 yX7_isClear, Cond.instanceMethod yX7_isClear, Cond.selects RX7 yX7_isClear yX7_isClear]
def wsX7_walk_r4 : List Cond := [Cond.code yX7_isClear cX7_isClear 7 (some .boolean), Cond.methodLink RX7 89 yX7_size, Cond.static yX7_size, Cond.code yX7_size cX7_size 3 (some .int)]
def wsX7_walk : List Cond := .code yX7_walk cX7_walk 4 (some .int) :: ((wsX7_walk_r1 ++ (wsX7_walk_r2 ++ (wsX7_walk_r3 ++ wsX7_walk_r4))) ++ wsX70)
def wsX7_image : List Cond := .code yX7_image cX7_image 2 (some .int) :: ([.fieldLink RX7 76 "LeftProfileModel" "isHall" "Z", .fieldLink RX7 210 "LeftProfileModel" "isKept" "Z", .fieldLink RX7 80 "LeftProfileModel" "halls" "I", .fieldLink RX7 213 "LeftProfileModel" "keptHall" "I", .fieldLink RX7 86 "LeftProfileModel" "courtiers" "I", .fieldLink RX7 216 "LeftProfileModel" "keptMany" "I", .fieldLink RX7 7 "LeftProfileModel" "dukeAt" "I", .fieldLink RX7 219 "LeftProfileModel" "keptAt" "I", .fieldLink RX7 13 "LeftProfileModel" "dukeSide" "I", .fieldLink RX7 222 "LeftProfileModel" "keptSide" "I", .fieldLink RX7 83 "LeftProfileModel" "acts" "I", .fieldLink RX7 225 "LeftProfileModel" "keptActs" "I", .fieldLink RX7 45 "LeftProfileModel" "keptPlace" "[I", .fieldLink RX7 20 "LeftProfileModel" "placeOf" "[I", .fieldLink RX7 48 "LeftProfileModel" "keptLeft" "[I", .fieldLink RX7 23 "LeftProfileModel" "sawLeft" "[I", .fieldLink RX7 51 "LeftProfileModel" "keptRight" "[I", .fieldLink RX7 26 "LeftProfileModel" "sawRight" "[I", .fieldLink RX7 54 "LeftProfileModel" "keptTold" "[I", .fieldLink RX7 29 "LeftProfileModel" "toldOf" "[I"] ++ wsX70)
def wsX7_restore : List Cond := .code yX7_restore cX7_restore 2 (some .int) :: ([.fieldLink RX7 210 "LeftProfileModel" "isKept" "Z", .fieldLink RX7 213 "LeftProfileModel" "keptHall" "I", .fieldLink RX7 80 "LeftProfileModel" "halls" "I", .fieldLink RX7 216 "LeftProfileModel" "keptMany" "I", .fieldLink RX7 86 "LeftProfileModel" "courtiers" "I", .fieldLink RX7 219 "LeftProfileModel" "keptAt" "I", .fieldLink RX7 7 "LeftProfileModel" "dukeAt" "I", .fieldLink RX7 222 "LeftProfileModel" "keptSide" "I", .fieldLink RX7 13 "LeftProfileModel" "dukeSide" "I", .fieldLink RX7 225 "LeftProfileModel" "keptActs" "I", .fieldLink RX7 83 "LeftProfileModel" "acts" "I", .fieldLink RX7 20 "LeftProfileModel" "placeOf" "[I", .fieldLink RX7 45 "LeftProfileModel" "keptPlace" "[I", .fieldLink RX7 23 "LeftProfileModel" "sawLeft" "[I", .fieldLink RX7 48 "LeftProfileModel" "keptLeft" "[I", .fieldLink RX7 26 "LeftProfileModel" "sawRight" "[I", .fieldLink RX7 51 "LeftProfileModel" "keptRight" "[I", .fieldLink RX7 29 "LeftProfileModel" "toldOf" "[I", .fieldLink RX7 54 "LeftProfileModel" "keptTold" "[I"] ++ wsX70)
def wsX7_toldMany : List Cond := .code yX7_toldMany cX7_toldMany 3 (some .int) :: ([.fieldLink RX7 86 "LeftProfileModel" "courtiers" "I", .fieldLink RX7 29 "LeftProfileModel" "toldOf" "[I"] ++ wsX70)
def wsX7_howMany_r1 : List Cond := [Cond.fieldLink RX7 73 "LeftProfileModel" "floor" "I", Cond.fieldLink RX7 86 "LeftProfileModel" "courtiers" "I", Cond.fieldLink RX7 7 "LeftProfileModel" "dukeAt" "I", Cond.fieldLink RX7 13 "LeftProfileModel" "dukeSide" "I", Cond.fieldLink RX7 83 "LeftProfileModel" "acts" "I", Cond.fieldLink RX7 61 "LeftProfileModel" "pageLength" "I", Cond.fieldLink RX7 80 "LeftProfileModel" "halls" "I", Cond.methodLink RX7 89 yX7_size, Cond.static yX7_size, Cond.initialized RX7, Cond.code yX7_size cX7_size 3 (some .int), Cond.methodLink RX7 153 yX7_guiltySet, Cond.instanceMethod yX7_guiltySet, Cond.selects RX7 yX7_guiltySet yX7_guiltySet, Cond.code yX7_guiltySet cX7_guiltySet 3 (some .int), Cond.methodLink RX7 134 yX7_isGuilty, Cond.instanceMethod yX7_isGuilty, Cond.selects RX7 yX7_isGuilty yX7_isGuilty, Cond.code yX7_isGuilty cX7_isGuilty 3 (some .boolean), Cond.fieldLink RX7 16 "LeftProfileModel" "kindOf" "[I", Cond.methodLink RX7 131 yX7_seesNow, Cond.instanceMethod yX7_seesNow, Cond.selects RX7 yX7_seesNow yX7_seesNow, Cond.code yX7_seesNow cX7_seesNow 4 (some .int)]
def wsX7_howMany_r2 : List Cond := [Cond.fieldLink RX7 20 "LeftProfileModel" "placeOf" "[I", Cond.methodLink RX7 120 yX7_wayTo, Cond.static yX7_wayTo, Cond.code yX7_wayTo cX7_wayTo 5 (some .int), Cond.methodLink RX7 114 yX7_sized, Cond.static yX7_sized, Cond.code yX7_sized cX7_sized 1 (some .int), Cond.methodLink RX7 117 yX7_sign, Cond.static yX7_sign, Cond.code yX7_sign cX7_sign 1 (some .int), Cond.methodLink RX7 124 yX7_far, Cond.static yX7_far, Cond.code yX7_far cX7_far 4 (some .int), Cond.methodLink RX7 127 yX7_isClear, Cond.instanceMethod yX7_isClear, Cond.selects RX7 yX7_isClear yX7_isClear, Cond.code yX7_isClear cX7_isClear 7 (some .boolean), Cond.methodLink RX7 93 yX7_has, Cond.static yX7_has, Cond.code yX7_has cX7_has 2 (some .boolean), Cond.methodLink RX7 97 yX7_whoOn, Cond.instanceMethod yX7_whoOn, Cond.selects RX7 yX7_whoOn yX7_whoOn, Cond.code yX7_whoOn cX7_whoOn 4 (some .int)]
def wsX7_howMany_r3 : List Cond := [Cond.methodLink RX7 228 yX7_toldMany, Cond.instanceMethod yX7_toldMany, Cond.selects RX7 yX7_toldMany yX7_toldMany, Cond.code yX7_toldMany cX7_toldMany 3 (some .int), Cond.fieldLink RX7 29 "LeftProfileModel" "toldOf" "[I"]
def wsX7_howMany : List Cond := .code yX7_howMany cX7_howMany 2 (some .int) :: ((wsX7_howMany_r1 ++ (wsX7_howMany_r2 ++ wsX7_howMany_r3)) ++ wsX70)
def wsX7_count_r1 : List Cond := [Cond.methodLink RX7 231 yX7_howMany, Cond.instanceMethod yX7_howMany, Cond.selects RX7 yX7_howMany yX7_howMany, Cond.initialized RX7, Cond.code yX7_howMany cX7_howMany 2 (some .int), Cond.fieldLink RX7 73 "LeftProfileModel" "floor" "I", Cond.fieldLink RX7 86 "LeftProfileModel" "courtiers" "I", Cond.fieldLink RX7 7 "LeftProfileModel" "dukeAt" "I", Cond.fieldLink RX7 13 "LeftProfileModel" "dukeSide" "I", Cond.fieldLink RX7 83 "LeftProfileModel" "acts" "I", Cond.fieldLink RX7 61 "LeftProfileModel" "pageLength" "I", Cond.fieldLink RX7 80 "LeftProfileModel" "halls" "I", Cond.methodLink RX7 89 yX7_size, Cond.static yX7_size, Cond.code yX7_size cX7_size 3 (some .int), Cond.methodLink RX7 153 yX7_guiltySet, Cond.instanceMethod yX7_guiltySet, Cond.selects RX7 yX7_guiltySet yX7_guiltySet, Cond.code yX7_guiltySet cX7_guiltySet 3 (some .int), Cond.methodLink RX7 134 yX7_isGuilty, Cond.instanceMethod yX7_isGuilty, Cond.selects RX7 yX7_isGuilty yX7_isGuilty, Cond.code yX7_isGuilty cX7_isGuilty 3 (some .boolean), Cond.fieldLink RX7 16 "LeftProfileModel" "kindOf" "[I"]
def wsX7_count_r2 : List Cond := [Cond.methodLink RX7 131 yX7_seesNow, Cond.instanceMethod yX7_seesNow, Cond.selects RX7 yX7_seesNow yX7_seesNow, Cond.code yX7_seesNow cX7_seesNow 4 (some .int), Cond.fieldLink RX7 20 "LeftProfileModel" "placeOf" "[I", Cond.methodLink RX7 120 yX7_wayTo, Cond.static yX7_wayTo, Cond.code yX7_wayTo cX7_wayTo 5 (some .int), Cond.methodLink RX7 114 yX7_sized, Cond.static yX7_sized, Cond.code yX7_sized cX7_sized 1 (some .int), Cond.methodLink RX7 117 yX7_sign, Cond.static yX7_sign, Cond.code yX7_sign cX7_sign 1 (some .int), Cond.methodLink RX7 124 yX7_far, Cond.static yX7_far, Cond.code yX7_far cX7_far 4 (some .int), Cond.methodLink RX7 127 yX7_isClear, Cond.instanceMethod yX7_isClear, Cond.selects RX7 yX7_isClear yX7_isClear, Cond.code yX7_isClear cX7_isClear 7 (some .boolean), Cond.methodLink RX7 93 yX7_has, Cond.static yX7_has, Cond.code yX7_has cX7_has 2 (some .boolean)]
def wsX7_count_r3 : List Cond := [Cond.methodLink RX7 97 yX7_whoOn, Cond.instanceMethod yX7_whoOn, Cond.selects RX7 yX7_whoOn yX7_whoOn, Cond.code yX7_whoOn cX7_whoOn 4 (some .int), Cond.methodLink RX7 228 yX7_toldMany, Cond.instanceMethod yX7_toldMany, Cond.selects RX7 yX7_toldMany yX7_toldMany, Cond.code yX7_toldMany cX7_toldMany 3 (some .int), Cond.fieldLink RX7 29 "LeftProfileModel" "toldOf" "[I"]
def wsX7_count : List Cond := .code yX7_count cX7_count 2 (some .int) :: ((wsX7_count_r1 ++ (wsX7_count_r2 ++ wsX7_count_r3)) ++ wsX70)
def wsX7_mix : List Cond := .code yX7_mix cX7_mix 3 none :: ([.constantLong RX7 234 (31), .fieldLink RX7 236 "LeftProfileModel" "h" "J"] ++ wsX70)
def wsX7_digest_r1 : List Cond := [Cond.constantLong RX7 239 (719), Cond.fieldLink RX7 236 "LeftProfileModel" "h" "J", Cond.fieldLink RX7 76 "LeftProfileModel" "isHall" "Z", Cond.fieldLink RX7 86 "LeftProfileModel" "courtiers" "I", Cond.fieldLink RX7 29 "LeftProfileModel" "toldOf" "[I", Cond.fieldLink RX7 7 "LeftProfileModel" "dukeAt" "I", Cond.fieldLink RX7 61 "LeftProfileModel" "pageLength" "I", Cond.fieldLink RX7 32 "LeftProfileModel" "page" "[B", Cond.methodLink RX7 104 yX7_onNow, Cond.instanceMethod yX7_onNow, Cond.selects RX7 yX7_onNow yX7_onNow, Cond.initialized RX7, Cond.code yX7_onNow cX7_onNow 2 (some .int), Cond.fieldLink RX7 73 "LeftProfileModel" "floor" "I", Cond.methodLink RX7 93 yX7_has, Cond.static yX7_has, Cond.code yX7_has cX7_has 2 (some .boolean), Cond.methodLink RX7 97 yX7_whoOn, Cond.instanceMethod yX7_whoOn, Cond.selects RX7 yX7_whoOn yX7_whoOn, Cond.code yX7_whoOn cX7_whoOn 4 (some .int), Cond.fieldLink RX7 20 "LeftProfileModel" "placeOf" "[I", Cond.methodLink RX7 241 yX7_mix, Cond.instanceMethod yX7_mix]
def wsX7_digest_r2 : List Cond := [Cond.selects RX7 yX7_mix yX7_mix, Cond.code yX7_mix cX7_mix 3 none, Cond.constantLong RX7 234 (31), Cond.methodLink RX7 140 yX7_courtierNow, Cond.instanceMethod yX7_courtierNow, Cond.selects RX7 yX7_courtierNow yX7_courtierNow, Cond.code yX7_courtierNow cX7_courtierNow 3 (some .int), Cond.fieldLink RX7 16 "LeftProfileModel" "kindOf" "[I", Cond.fieldLink RX7 23 "LeftProfileModel" "sawLeft" "[I", Cond.fieldLink RX7 26 "LeftProfileModel" "sawRight" "[I", Cond.methodLink RX7 131 yX7_seesNow, Cond.instanceMethod yX7_seesNow, Cond.selects RX7 yX7_seesNow yX7_seesNow, Cond.code yX7_seesNow cX7_seesNow 4 (some .int), Cond.fieldLink RX7 13 "LeftProfileModel" "dukeSide" "I", Cond.methodLink RX7 120 yX7_wayTo, Cond.static yX7_wayTo, Cond.code yX7_wayTo cX7_wayTo 5 (some .int), Cond.methodLink RX7 114 yX7_sized, Cond.static yX7_sized, Cond.code yX7_sized cX7_sized 1 (some .int), Cond.methodLink RX7 117 yX7_sign, Cond.static yX7_sign, Cond.code yX7_sign cX7_sign 1 (some .int)]
def wsX7_digest_r3 : List Cond := [Cond.methodLink RX7 124 yX7_far, Cond.static yX7_far, Cond.code yX7_far cX7_far 4 (some .int), Cond.methodLink RX7 127 yX7_isClear, Cond.instanceMethod yX7_isClear, Cond.selects RX7 yX7_isClear yX7_isClear, Cond.code yX7_isClear cX7_isClear 7 (some .boolean), Cond.methodLink RX7 134 yX7_isGuilty, Cond.instanceMethod yX7_isGuilty, Cond.selects RX7 yX7_isGuilty yX7_isGuilty, Cond.code yX7_isGuilty cX7_isGuilty 3 (some .boolean), Cond.methodLink RX7 169 yX7_roomNow, Cond.instanceMethod yX7_roomNow, Cond.selects RX7 yX7_roomNow yX7_roomNow, Cond.code yX7_roomNow cX7_roomNow 3 (some .int), Cond.fieldLink RX7 36 "LeftProfileModel" "roomAt" "[I", Cond.methodLink RX7 166 yX7_findRoom, Cond.instanceMethod yX7_findRoom, Cond.selects RX7 yX7_findRoom yX7_findRoom, Cond.code yX7_findRoom cX7_findRoom 6 (some .boolean), Cond.methodLink RX7 107 yX7_isEmpty, Cond.instanceMethod yX7_isEmpty, Cond.selects RX7 yX7_isEmpty yX7_isEmpty, Cond.code yX7_isEmpty cX7_isEmpty 2 (some .boolean)]
def wsX7_digest_r4 : List Cond := [Cond.methodLink RX7 163 yX7_isRoom, Cond.instanceMethod yX7_isRoom, Cond.selects RX7 yX7_isRoom yX7_isRoom, Cond.code yX7_isRoom cX7_isRoom 6 (some .boolean), Cond.methodLink RX7 157 yX7_isGuiltyAt, Cond.instanceMethod yX7_isGuiltyAt, Cond.selects RX7 yX7_isGuiltyAt yX7_isGuiltyAt, Cond.code yX7_isGuiltyAt cX7_isGuiltyAt 8 (some .boolean), Cond.methodLink RX7 160 yX7_isMore, Cond.instanceMethod yX7_isMore, Cond.selects RX7 yX7_isMore yX7_isMore, Cond.code yX7_isMore cX7_isMore 5 (some .boolean), Cond.methodLink RX7 172 yX7_brickNow, Cond.instanceMethod yX7_brickNow, Cond.selects RX7 yX7_brickNow yX7_brickNow, Cond.code yX7_brickNow cX7_brickNow 7 (some .int), Cond.methodLink RX7 153 yX7_guiltySet, Cond.instanceMethod yX7_guiltySet, Cond.selects RX7 yX7_guiltySet yX7_guiltySet, Cond.code yX7_guiltySet cX7_guiltySet 3 (some .int), Cond.methodLink RX7 89 yX7_size, Cond.static yX7_size, Cond.code yX7_size cX7_size 3 (some .int), Cond.methodLink RX7 178 yX7_wayNow]
def wsX7_digest_r5 : List Cond := [Cond.instanceMethod yX7_wayNow, Cond.selects RX7 yX7_wayNow yX7_wayNow, Cond.code yX7_wayNow cX7_wayNow 12 (some .int), Cond.fieldLink RX7 39 "LeftProfileModel" "firstOf" "[I", Cond.fieldLink RX7 42 "LeftProfileModel" "queue" "[I", Cond.methodLink RX7 175 yX7_actsFrom, Cond.instanceMethod yX7_actsFrom, Cond.selects RX7 yX7_actsFrom yX7_actsFrom, Cond.code yX7_actsFrom cX7_actsFrom 6 (some .int), Cond.methodLink RX7 146 yX7_mayAct, Cond.instanceMethod yX7_mayAct, Cond.selects RX7 yX7_mayAct yX7_mayAct, Cond.code yX7_mayAct cX7_mayAct 3 (some .boolean), Cond.methodLink RX7 143 yX7_ahead, Cond.static yX7_ahead, Cond.code yX7_ahead cX7_ahead 2 (some .int), Cond.methodLink RX7 149 yX7_doAct, Cond.instanceMethod yX7_doAct, Cond.selects RX7 yX7_doAct yX7_doAct, Cond.code yX7_doAct cX7_doAct 2 none, Cond.methodLink RX7 188 yX7_stoodNow, Cond.instanceMethod yX7_stoodNow, Cond.selects RX7 yX7_stoodNow yX7_stoodNow, Cond.code yX7_stoodNow cX7_stoodNow 9 (some .int)]
def wsX7_digest_r6 : List Cond := [Cond.methodLink RX7 181 yX7_isToldSo, Cond.instanceMethod yX7_isToldSo, Cond.selects RX7 yX7_isToldSo yX7_isToldSo, Cond.code yX7_isToldSo cX7_isToldSo 3 (some .boolean), Cond.methodLink RX7 185 yX7_only, Cond.static yX7_only, Cond.code yX7_only cX7_only 3 (some .int), Cond.methodLink RX7 231 yX7_howMany, Cond.instanceMethod yX7_howMany, Cond.selects RX7 yX7_howMany yX7_howMany, Cond.code yX7_howMany cX7_howMany 2 (some .int), Cond.fieldLink RX7 83 "LeftProfileModel" "acts" "I", Cond.fieldLink RX7 80 "LeftProfileModel" "halls" "I", Cond.methodLink RX7 228 yX7_toldMany, Cond.instanceMethod yX7_toldMany, Cond.selects RX7 yX7_toldMany yX7_toldMany, Cond.code yX7_toldMany cX7_toldMany 3 (some .int)]
def wsX7_digest : List Cond := .code yX7_digest cX7_digest 3 (some .long) :: ((wsX7_digest_r1 ++ (wsX7_digest_r2 ++ (wsX7_digest_r3 ++ (wsX7_digest_r4 ++ (wsX7_digest_r5 ++ wsX7_digest_r6))))) ++ wsX70)
def wsL_law_r1 : List Cond := [Cond.classLink RL 7 RX6, Cond.instantiable RX6 7, Cond.initialized RX6, Cond.classLink RL 10 RX7, Cond.instantiable RX7 31, Cond.initialized RX7, Cond.methodLink RL 9 yX6_init, Cond.instanceMethod yX6_init, Cond.code yX6_init cX6_init 1 none, Cond.methodLink RX6 3 objectInit, Cond.instanceMethod objectInit, Cond.code objectInit ⟨#[0xb1]⟩ 1 none, Cond.classLink RX6 9 RX2, Cond.instantiable RX2 2, Cond.initialized RX2, Cond.fieldLink RX6 12 "LeftProfile" "page" "LLeftProfile$Page;", Cond.classLink RX6 16 RX4, Cond.instantiable RX4 3, Cond.initialized RX4, Cond.fieldLink RX6 19 "LeftProfile" "scene" "LLeftProfile$Scene;", Cond.fieldLink RX6 23 "LeftProfile$Scene" "hall" "LLeftProfile$Hall;", Cond.fieldLink RX6 27 "LeftProfile" "hall" "LLeftProfile$Hall;", Cond.fieldLink RX6 28 "LeftProfile$Scene" "court" "LLeftProfile$Court;", Cond.fieldLink RX6 32 "LeftProfile" "court" "LLeftProfile$Court;"]
def wsL_law_r2 : List Cond := [Cond.classLink RX6 33 RX0, Cond.instantiable RX0 8, Cond.initialized RX0, Cond.fieldLink RX6 36 "LeftProfile" "kept" "LLeftProfile$Court;", Cond.classLink RX6 39 RX3, Cond.instantiable RX3 4, Cond.initialized RX3, Cond.fieldLink RX6 42 "LeftProfile" "route" "LLeftProfile$Route;", Cond.fieldLink RX6 46 "LeftProfile" "keptReading" "I", Cond.instanceMethod yX2_init, Cond.code yX2_init cX2_init 1 none, Cond.methodLink RX2 3 objectInit, Cond.arrayClass .int, Cond.fieldLink RX2 11 "LeftProfile$Page" "codes" "[I", Cond.fieldLink RX2 15 "LeftProfile$Page" "size" "I", Cond.instanceMethod yX4_init, Cond.code yX4_init cX4_init 1 none, Cond.methodLink RX4 3 objectInit, Cond.classLink RX4 9 RX1, Cond.instantiable RX1 3, Cond.initialized RX1, Cond.fieldLink RX4 12 "LeftProfile$Scene" "hall" "LLeftProfile$Hall;", Cond.classLink RX4 18 RX0, Cond.fieldLink RX4 21 "LeftProfile$Scene" "court" "LLeftProfile$Court;"]
def wsL_law_r3 : List Cond := [Cond.classLink RX4 25 RX5, Cond.instantiable RX5 2, Cond.initialized RX5, Cond.fieldLink RX4 28 "LeftProfile$Scene" "sight" "LLeftProfile$Sight;", Cond.instanceMethod yX1_init, Cond.code yX1_init cX1_init 1 none, Cond.methodLink RX1 3 objectInit, Cond.fieldLink RX1 9 "LeftProfile$Hall" "walls" "I", Cond.fieldLink RX1 15 "LeftProfile$Hall" "floors" "I", Cond.fieldLink RX1 18 "LeftProfile$Hall" "readings" "I", Cond.instanceMethod yX0_init, Cond.code yX0_init cX0_init 1 none, Cond.methodLink RX0 3 objectInit, Cond.fieldLink RX0 9 "LeftProfile$Court" "stance" "I", Cond.fieldLink RX0 15 "LeftProfile$Court" "acts" "I", Cond.fieldLink RX0 18 "LeftProfile$Court" "size" "I", Cond.fieldLink RX0 21 "LeftProfile$Court" "kinds" "[I", Cond.fieldLink RX0 25 "LeftProfile$Court" "places" "[I", Cond.fieldLink RX0 28 "LeftProfile$Court" "sawLeft" "[I", Cond.fieldLink RX0 31 "LeftProfile$Court" "sawRight" "[I", Cond.fieldLink RX0 34 "LeftProfile$Court" "told" "[I", Cond.methodLink RX4 27 yX5_init, Cond.instanceMethod yX5_init, Cond.code yX5_init cX5_init 3 none]
def wsL_law_r4 : List Cond := [Cond.methodLink RX5 3 objectInit, Cond.fieldLink RX5 9 "LeftProfile$Sight" "ways" "[I", Cond.fieldLink RX5 15 "LeftProfile$Sight" "between" "[I", Cond.methodLink RX5 18 yJ7_fill_53178, Cond.static yJ7_fill_53178, Cond.initialized RJ7, Cond.code yJ7_fill_53178 cJ7_fill_53178 4 none, Cond.methodLink RX5 24 yX5_follow, Cond.instanceMethod yX5_follow, Cond.selects RX5 yX5_follow yX5_follow, Cond.code yX5_follow cX5_follow 6 none, Cond.static yX6_neighbour, Cond.code yX6_neighbour cX6_neighbour 4 (some .int), Cond.fieldLink RX6 240 "LeftProfile" "ROWS_ON" "[I", Cond.fieldLink RX6 243 "LeftProfile" "COLUMNS_ON" "[I", Cond.methodLink RX6 77 yX6_isPlace, Cond.static yX6_isPlace, Cond.code yX6_isPlace cX6_isPlace 1 (some .boolean), Cond.static yX6_bit, Cond.code yX6_bit cX6_bit 1 (some .int), Cond.instanceMethod yX3_init, Cond.code yX3_init cX3_init 1 none, Cond.methodLink RX3 3 objectInit, Cond.fieldLink RX3 9 "LeftProfile$Route" "queue" "[I"]
def wsL_law_r5 : List Cond := [Cond.fieldLink RX3 15 "LeftProfile$Route" "lengths" "[I", Cond.fieldLink RX3 18 "LeftProfile$Route" "firsts" "[I", Cond.fieldLink RX3 21 "LeftProfile$Route" "queued" "I", Cond.methodLink RL 12 yX7_init, Cond.instanceMethod yX7_init, Cond.code yX7_init cX7_init 1 none, Cond.methodLink RX7 1 objectInit, Cond.fieldLink RX7 7 "LeftProfileModel" "dukeAt" "I", Cond.fieldLink RX7 13 "LeftProfileModel" "dukeSide" "I", Cond.fieldLink RX7 16 "LeftProfileModel" "kindOf" "[I", Cond.fieldLink RX7 20 "LeftProfileModel" "placeOf" "[I", Cond.fieldLink RX7 23 "LeftProfileModel" "sawLeft" "[I", Cond.fieldLink RX7 26 "LeftProfileModel" "sawRight" "[I", Cond.fieldLink RX7 29 "LeftProfileModel" "toldOf" "[I", Cond.arrayClass .byte, Cond.fieldLink RX7 32 "LeftProfileModel" "page" "[B", Cond.fieldLink RX7 36 "LeftProfileModel" "roomAt" "[I", Cond.fieldLink RX7 39 "LeftProfileModel" "firstOf" "[I", Cond.fieldLink RX7 42 "LeftProfileModel" "queue" "[I", Cond.fieldLink RX7 45 "LeftProfileModel" "keptPlace" "[I", Cond.fieldLink RX7 48 "LeftProfileModel" "keptLeft" "[I", Cond.fieldLink RX7 51 "LeftProfileModel" "keptRight" "[I", Cond.fieldLink RX7 54 "LeftProfileModel" "keptTold" "[I", Cond.methodLink RL 13 yX6_letter]
def wsL_law_r6 : List Cond := [Cond.instanceMethod yX6_letter, Cond.selects RX6 yX6_letter yX6_letter, Cond.code yX6_letter cX6_letter 2 (some .int), Cond.methodLink RX6 50 yX2_add, Cond.instanceMethod yX2_add, Cond.selects RX2 yX2_add yX2_add, Cond.code yX2_add cX2_add 2 (some .int), Cond.methodLink RL 17 yX7_letter, Cond.instanceMethod yX7_letter, Cond.selects RX7 yX7_letter yX7_letter, Cond.code yX7_letter cX7_letter 2 (some .int), Cond.fieldLink RX7 61 "LeftProfileModel" "pageLength" "I", Cond.methodLink RX7 57 yX7_within, Cond.static yX7_within, Cond.code yX7_within cX7_within 3 (some .boolean), Cond.methodLink RL 18 yX6_blank, Cond.instanceMethod yX6_blank, Cond.selects RX6 yX6_blank yX6_blank, Cond.code yX6_blank cX6_blank 1 (some .int), Cond.methodLink RX6 54 yX2_clear, Cond.instanceMethod yX2_clear, Cond.selects RX2 yX2_clear yX2_clear, Cond.code yX2_clear cX2_clear 2 (some .int), Cond.methodLink RL 22 yX7_blank]
def wsL_law_r7 : List Cond := [Cond.instanceMethod yX7_blank, Cond.selects RX7 yX7_blank yX7_blank, Cond.code yX7_blank cX7_blank 2 (some .int), Cond.methodLink RL 23 yX6_fault, Cond.instanceMethod yX6_fault, Cond.selects RX6 yX6_fault yX6_fault, Cond.code yX6_fault cX6_fault 1 (some .int), Cond.methodLink RX6 58 yX2_firstFault, Cond.instanceMethod yX2_firstFault, Cond.selects RX2 yX2_firstFault yX2_firstFault, Cond.code yX2_firstFault cX2_firstFault 2 (some .int), Cond.methodLink RX2 19 yX2_fits, Cond.instanceMethod yX2_fits, Cond.selects RX2 yX2_fits yX2_fits, Cond.code yX2_fits cX2_fits 3 (some .boolean), Cond.methodLink RX2 27 yX2_codeAt, Cond.instanceMethod yX2_codeAt, Cond.selects RX2 yX2_codeAt yX2_codeAt, Cond.code yX2_codeAt cX2_codeAt 2 (some .int), Cond.methodLink RL 26 yX7_fault, Cond.instanceMethod yX7_fault, Cond.selects RX7 yX7_fault yX7_fault, Cond.code yX7_fault cX7_fault 1 (some .int), Cond.fieldLink RX7 67 "LeftProfileModel" "faultAt" "I"]
def wsL_law_r8 : List Cond := [Cond.methodLink RX7 70 yX7_readHall, Cond.instanceMethod yX7_readHall, Cond.selects RX7 yX7_readHall yX7_readHall, Cond.code yX7_readHall cX7_readHall 4 none, Cond.fieldLink RX7 64 "LeftProfileModel" "newFloor" "I", Cond.methodLink RL 27 yX6_hall, Cond.instanceMethod yX6_hall, Cond.selects RX6 yX6_hall yX6_hall, Cond.code yX6_hall cX6_hall 1 (some .int), Cond.fieldLink RX6 74 "LeftProfile$Hall" "floors" "I", Cond.methodLink RX6 61 yX2_isHall, Cond.instanceMethod yX2_isHall, Cond.selects RX2 yX2_isHall yX2_isHall, Cond.code yX2_isHall cX2_isHall 1 (some .boolean), Cond.methodLink RX2 23 yX2_firstFault, Cond.methodLink RX6 65 yX1_read, Cond.instanceMethod yX1_read, Cond.selects RX1 yX1_read yX1_read, Cond.code yX1_read cX1_read 3 none, Cond.methodLink RX1 21 yX2_isWall, Cond.instanceMethod yX2_isWall, Cond.selects RX2 yX2_isWall yX2_isWall, Cond.code yX2_isWall cX2_isWall 2 (some .boolean), Cond.methodLink RX1 31 yJ6_bitCount_0f7a4]
def wsL_law_r9 : List Cond := [Cond.static yJ6_bitCount_0f7a4, Cond.initialized RJ6, Cond.code yJ6_bitCount_0f7a4 cJ6_bitCount_0f7a4 1 (some .int), Cond.constant RJ6 265 (1431655765), Cond.constant RJ6 266 (858993459), Cond.constant RJ6 267 (252645135), Cond.methodLink RX6 71 yX0_leave, Cond.instanceMethod yX0_leave, Cond.selects RX0 yX0_leave yX0_leave, Cond.code yX0_leave cX0_leave 1 none, Cond.methodLink RL 30 yX7_hall, Cond.instanceMethod yX7_hall, Cond.selects RX7 yX7_hall yX7_hall, Cond.code yX7_hall cX7_hall 1 (some .int), Cond.fieldLink RX7 73 "LeftProfileModel" "floor" "I", Cond.fieldLink RX7 76 "LeftProfileModel" "isHall" "Z", Cond.fieldLink RX7 80 "LeftProfileModel" "halls" "I", Cond.fieldLink RX7 83 "LeftProfileModel" "acts" "I", Cond.fieldLink RX7 86 "LeftProfileModel" "courtiers" "I", Cond.methodLink RX7 89 yX7_size, Cond.static yX7_size, Cond.code yX7_size cX7_size 3 (some .int), Cond.methodLink RL 31 yX6_on, Cond.instanceMethod yX6_on]
def wsL_law_r10 : List Cond := [Cond.selects RX6 yX6_on yX6_on, Cond.code yX6_on cX6_on 2 (some .int), Cond.fieldLink RX6 84 "LeftProfile$Hall" "walls" "I", Cond.fieldLink RX6 91 "LeftProfile$Court" "stance" "I", Cond.methodLink RX6 81 yX1_isMissing, Cond.instanceMethod yX1_isMissing, Cond.selects RX1 yX1_isMissing yX1_isMissing, Cond.code yX1_isMissing cX1_isMissing 1 (some .boolean), Cond.methodLink RX6 87 yX6_isOpen, Cond.static yX6_isOpen, Cond.code yX6_isOpen cX6_isOpen 2 (some .boolean), Cond.methodLink RX6 132 yX6_bit, Cond.methodLink RX6 94 yX6_placeOf, Cond.static yX6_placeOf, Cond.code yX6_placeOf cX6_placeOf 1 (some .int), Cond.methodLink RX6 97 yX0_whoIsOn, Cond.instanceMethod yX0_whoIsOn, Cond.selects RX0 yX0_whoIsOn yX0_whoIsOn, Cond.code yX0_whoIsOn cX0_whoIsOn 3 (some .int), Cond.methodLink RL 34 yX7_on, Cond.instanceMethod yX7_on, Cond.selects RX7 yX7_on yX7_on, Cond.code yX7_on cX7_on 2 (some .int), Cond.methodLink RX7 100 yX7_isPlace]
def wsL_law_r11 : List Cond := [Cond.static yX7_isPlace, Cond.code yX7_isPlace cX7_isPlace 1 (some .boolean), Cond.methodLink RX7 104 yX7_onNow, Cond.instanceMethod yX7_onNow, Cond.selects RX7 yX7_onNow yX7_onNow, Cond.code yX7_onNow cX7_onNow 2 (some .int), Cond.methodLink RX7 93 yX7_has, Cond.static yX7_has, Cond.code yX7_has cX7_has 2 (some .boolean), Cond.methodLink RX7 97 yX7_whoOn, Cond.instanceMethod yX7_whoOn, Cond.selects RX7 yX7_whoOn yX7_whoOn, Cond.code yX7_whoOn cX7_whoOn 4 (some .int), Cond.methodLink RL 35 yX6_duke, Cond.instanceMethod yX6_duke, Cond.selects RX6 yX6_duke yX6_duke, Cond.code yX6_duke cX6_duke 3 (some .int), Cond.methodLink RX6 100 yX0_people, Cond.instanceMethod yX0_people, Cond.selects RX0 yX0_people yX0_people, Cond.code yX0_people cX0_people 3 (some .int), Cond.methodLink RX6 103 yX6_stanceOf, Cond.static yX6_stanceOf, Cond.code yX6_stanceOf cX6_stanceOf 2 (some .int)]
def wsL_law_r12 : List Cond := [Cond.methodLink RL 39 yX7_duke, Cond.instanceMethod yX7_duke, Cond.selects RX7 yX7_duke yX7_duke, Cond.code yX7_duke cX7_duke 3 (some .int), Cond.methodLink RX7 107 yX7_isEmpty, Cond.instanceMethod yX7_isEmpty, Cond.selects RX7 yX7_isEmpty yX7_isEmpty, Cond.code yX7_isEmpty cX7_isEmpty 2 (some .boolean), Cond.methodLink RL 40 yX6_courtier, Cond.instanceMethod yX6_courtier, Cond.selects RX6 yX6_courtier yX6_courtier, Cond.code yX6_courtier cX6_courtier 3 (some .int), Cond.methodLink RX6 107 yX6_isKind, Cond.static yX6_isKind, Cond.code yX6_isKind cX6_isKind 1 (some .boolean), Cond.methodLink RX6 110 yX4_taken, Cond.instanceMethod yX4_taken, Cond.selects RX4 yX4_taken yX4_taken, Cond.code yX4_taken cX4_taken 2 (some .int), Cond.fieldLink RX4 32 "LeftProfile$Hall" "walls" "I", Cond.fieldLink RX4 40 "LeftProfile$Court" "stance" "I", Cond.methodLink RX4 36 yX0_people, Cond.methodLink RX6 113 yX0_join, Cond.instanceMethod yX0_join]
def wsL_law_r13 : List Cond := [Cond.selects RX0 yX0_join yX0_join, Cond.code yX0_join cX0_join 4 (some .int), Cond.methodLink RL 43 yX7_courtier, Cond.instanceMethod yX7_courtier, Cond.selects RX7 yX7_courtier yX7_courtier, Cond.code yX7_courtier cX7_courtier 3 (some .int), Cond.methodLink RX7 110 yX7_lay, Cond.instanceMethod yX7_lay, Cond.selects RX7 yX7_lay yX7_lay, Cond.code yX7_lay cX7_lay 3 none, Cond.methodLink RL 44 yX6_about, Cond.instanceMethod yX6_about, Cond.selects RX6 yX6_about yX6_about, Cond.code yX6_about cX6_about 3 (some .int), Cond.fieldLink RX6 119 "LeftProfile$Court" "kinds" "[I", Cond.fieldLink RX6 123 "LeftProfile$Court" "places" "[I", Cond.fieldLink RX6 135 "LeftProfile$Court" "sawLeft" "[I", Cond.fieldLink RX6 138 "LeftProfile$Court" "sawRight" "[I", Cond.methodLink RX6 116 yX0_has, Cond.instanceMethod yX0_has, Cond.selects RX0 yX0_has yX0_has, Cond.code yX0_has cX0_has 2 (some .boolean), Cond.methodLink RX6 126 yX4_seenBy, Cond.instanceMethod yX4_seenBy]
def wsL_law_r14 : List Cond := [Cond.selects RX4 yX4_seenBy yX4_seenBy, Cond.code yX4_seenBy cX4_seenBy 2 (some .int), Cond.methodLink RX4 50 yX4_seenIf, Cond.instanceMethod yX4_seenIf, Cond.selects RX4 yX4_seenIf yX4_seenIf, Cond.code yX4_seenIf cX4_seenIf 4 (some .int), Cond.fieldLink RX4 58 "LeftProfile$Court" "kinds" "[I", Cond.fieldLink RX4 62 "LeftProfile$Court" "places" "[I", Cond.methodLink RX4 54 yX0_has, Cond.methodLink RX4 65 yX5_seen, Cond.instanceMethod yX5_seen, Cond.selects RX5 yX5_seen yX5_seen, Cond.code yX5_seen cX5_seen 9 (some .int), Cond.methodLink RX5 43 yX5_isBarred, Cond.static yX5_isBarred, Cond.code yX5_isBarred cX5_isBarred 4 (some .boolean), Cond.methodLink RX5 62 yJ6_bitCount_0f7a4, Cond.static yX6_isOfKind, Cond.code yX6_isOfKind cX6_isOfKind 2 (some .boolean), Cond.static yX6_sideOf, Cond.code yX6_sideOf cX6_sideOf 1 (some .int), Cond.methodLink RX5 50 yJ9_floorMod_7cf53, Cond.static yJ9_floorMod_7cf53, Cond.initialized RJ9]
def wsL_law_r15 : List Cond := [Cond.code yJ9_floorMod_7cf53 cJ9_floorMod_7cf53 3 (some .int), Cond.methodLink RX5 55 yX5_cheekFrom, Cond.static yX5_cheekFrom, Cond.code yX5_cheekFrom cX5_cheekFrom 1 (some .int), Cond.methodLink RX6 129 yX4_guiltyIf, Cond.instanceMethod yX4_guiltyIf, Cond.selects RX4 yX4_guiltyIf yX4_guiltyIf, Cond.code yX4_guiltyIf cX4_guiltyIf 6 (some .int), Cond.fieldLink RX4 69 "LeftProfile$Court" "size" "I", Cond.methodLink RX4 76 yX5_isGuilty, Cond.instanceMethod yX5_isGuilty, Cond.selects RX5 yX5_isGuilty yX5_isGuilty, Cond.code yX5_isGuilty cX5_isGuilty 7 (some .boolean), Cond.methodLink RX5 58 yX5_seen, Cond.methodLink RL 47 yX7_about, Cond.instanceMethod yX7_about, Cond.selects RX7 yX7_about yX7_about, Cond.code yX7_about cX7_about 3 (some .int), Cond.methodLink RX7 137 yX7_isCourtier, Cond.instanceMethod yX7_isCourtier, Cond.selects RX7 yX7_isCourtier yX7_isCourtier, Cond.code yX7_isCourtier cX7_isCourtier 2 (some .boolean), Cond.methodLink RX7 140 yX7_courtierNow, Cond.instanceMethod yX7_courtierNow]
def wsL_law_r16 : List Cond := [Cond.selects RX7 yX7_courtierNow yX7_courtierNow, Cond.code yX7_courtierNow cX7_courtierNow 3 (some .int), Cond.methodLink RX7 131 yX7_seesNow, Cond.instanceMethod yX7_seesNow, Cond.selects RX7 yX7_seesNow yX7_seesNow, Cond.code yX7_seesNow cX7_seesNow 4 (some .int), Cond.methodLink RX7 120 yX7_wayTo, Cond.static yX7_wayTo, Cond.code yX7_wayTo cX7_wayTo 5 (some .int), Cond.methodLink RX7 114 yX7_sized, Cond.static yX7_sized, Cond.code yX7_sized cX7_sized 1 (some .int), Cond.methodLink RX7 117 yX7_sign, Cond.static yX7_sign, Cond.code yX7_sign cX7_sign 1 (some .int), Cond.methodLink RX7 124 yX7_far, Cond.static yX7_far, Cond.code yX7_far cX7_far 4 (some .int), Cond.methodLink RX7 127 yX7_isClear, Cond.instanceMethod yX7_isClear, Cond.selects RX7 yX7_isClear yX7_isClear, Cond.code yX7_isClear cX7_isClear 7 (some .boolean), Cond.methodLink RX7 134 yX7_isGuilty, Cond.instanceMethod yX7_isGuilty]
def wsL_law_r17 : List Cond := [Cond.selects RX7 yX7_isGuilty yX7_isGuilty, Cond.code yX7_isGuilty cX7_isGuilty 3 (some .boolean), Cond.methodLink RL 48 yX6_as, Cond.instanceMethod yX6_as, Cond.selects RX6 yX6_as yX6_as, Cond.code yX6_as cX6_as 3 (some .int), Cond.methodLink RX6 141 yX6_isOfKind, Cond.methodLink RL 51 yX7_as, Cond.instanceMethod yX7_as, Cond.selects RX7 yX7_as yX7_as, Cond.code yX7_as cX7_as 4 (some .int), Cond.methodLink RL 52 yX6_go, Cond.instanceMethod yX6_go, Cond.selects RX6 yX6_go yX6_go, Cond.code yX6_go cX6_go 4 (some .int), Cond.methodLink RL 55 yX7_go, Cond.instanceMethod yX7_go, Cond.selects RX7 yX7_go yX7_go, Cond.code yX7_go cX7_go 4 (some .int), Cond.methodLink RL 56 yX6_act, Cond.instanceMethod yX6_act, Cond.selects RX6 yX6_act yX6_act, Cond.code yX6_act cX6_act 3 (some .int), Cond.fieldLink RX6 147 "LeftProfile$Court" "acts" "I"]
def wsL_law_r18 : List Cond := [Cond.methodLink RX6 144 yX4_after, Cond.instanceMethod yX4_after, Cond.selects RX4 yX4_after yX4_after, Cond.code yX4_after cX4_after 7 (some .int), Cond.methodLink RX6 150 yX4_everybodyLooks, Cond.instanceMethod yX4_everybodyLooks, Cond.selects RX4 yX4_everybodyLooks yX4_everybodyLooks, Cond.code yX4_everybodyLooks cX4_everybodyLooks 3 none, Cond.methodLink RX4 72 yX0_look, Cond.instanceMethod yX0_look, Cond.selects RX0 yX0_look yX0_look, Cond.code yX0_look cX0_look 3 none, Cond.methodLink RX0 47 yX0_has, Cond.methodLink RX6 153 yJ6_bitCount_0f7a4, Cond.methodLink RL 59 yX7_act, Cond.instanceMethod yX7_act, Cond.selects RX7 yX7_act yX7_act, Cond.code yX7_act cX7_act 4 (some .int), Cond.methodLink RX7 146 yX7_mayAct, Cond.instanceMethod yX7_mayAct, Cond.selects RX7 yX7_mayAct yX7_mayAct, Cond.code yX7_mayAct cX7_mayAct 3 (some .boolean), Cond.methodLink RX7 143 yX7_ahead, Cond.static yX7_ahead]
def wsL_law_r19 : List Cond := [Cond.code yX7_ahead cX7_ahead 2 (some .int), Cond.methodLink RX7 149 yX7_doAct, Cond.instanceMethod yX7_doAct, Cond.selects RX7 yX7_doAct yX7_doAct, Cond.code yX7_doAct cX7_doAct 2 none, Cond.methodLink RX7 153 yX7_guiltySet, Cond.instanceMethod yX7_guiltySet, Cond.selects RX7 yX7_guiltySet yX7_guiltySet, Cond.code yX7_guiltySet cX7_guiltySet 3 (some .int), Cond.methodLink RL 60 yX6_guilty, Cond.instanceMethod yX6_guilty, Cond.selects RX6 yX6_guilty yX6_guilty, Cond.code yX6_guilty cX6_guilty 1 (some .int), Cond.methodLink RL 63 yX7_guilty, Cond.instanceMethod yX7_guilty, Cond.selects RX7 yX7_guilty yX7_guilty, Cond.code yX7_guilty cX7_guilty 1 (some .int), Cond.methodLink RL 64 yX6_room, Cond.instanceMethod yX6_room, Cond.selects RX6 yX6_room yX6_room, Cond.code yX6_room cX6_room 3 (some .int), Cond.methodLink RX6 158 yX4_roomFor, Cond.instanceMethod yX4_roomFor, Cond.selects RX4 yX4_roomFor yX4_roomFor]
def wsL_law_r20 : List Cond := [Cond.code yX4_roomFor cX4_roomFor 7 (some .int), Cond.methodLink RX4 94 yX4_guiltyIf, Cond.methodLink RX4 97 yX4_taken, Cond.methodLink RX6 161 yX6_placeInSet, Cond.static yX6_placeInSet, Cond.code yX6_placeInSet cX6_placeInSet 4 (some .int), Cond.methodLink RL 67 yX7_room, Cond.instanceMethod yX7_room, Cond.selects RX7 yX7_room yX7_room, Cond.code yX7_room cX7_room 3 (some .int), Cond.methodLink RX7 169 yX7_roomNow, Cond.instanceMethod yX7_roomNow, Cond.selects RX7 yX7_roomNow yX7_roomNow, Cond.code yX7_roomNow cX7_roomNow 3 (some .int), Cond.methodLink RX7 166 yX7_findRoom, Cond.instanceMethod yX7_findRoom, Cond.selects RX7 yX7_findRoom yX7_findRoom, Cond.code yX7_findRoom cX7_findRoom 6 (some .boolean), Cond.methodLink RX7 163 yX7_isRoom, Cond.instanceMethod yX7_isRoom, Cond.selects RX7 yX7_isRoom yX7_isRoom, Cond.code yX7_isRoom cX7_isRoom 6 (some .boolean), Cond.methodLink RX7 157 yX7_isGuiltyAt, Cond.instanceMethod yX7_isGuiltyAt]
def wsL_law_r21 : List Cond := [Cond.selects RX7 yX7_isGuiltyAt yX7_isGuiltyAt, Cond.code yX7_isGuiltyAt cX7_isGuiltyAt 8 (some .boolean), Cond.methodLink RX7 160 yX7_isMore, Cond.instanceMethod yX7_isMore, Cond.selects RX7 yX7_isMore yX7_isMore, Cond.code yX7_isMore cX7_isMore 5 (some .boolean), Cond.methodLink RL 68 yX6_brick, Cond.instanceMethod yX6_brick, Cond.selects RX6 yX6_brick yX6_brick, Cond.code yX6_brick cX6_brick 3 (some .int), Cond.methodLink RX6 164 yX4_bestBrick, Cond.instanceMethod yX4_bestBrick, Cond.selects RX4 yX4_bestBrick yX4_bestBrick, Cond.code yX4_bestBrick cX4_bestBrick 6 (some .int), Cond.methodLink RX4 100 yJ6_bitCount_0f7a4, Cond.methodLink RL 71 yX7_brick, Cond.instanceMethod yX7_brick, Cond.selects RX7 yX7_brick yX7_brick, Cond.code yX7_brick cX7_brick 2 (some .int), Cond.methodLink RX7 172 yX7_brickNow, Cond.instanceMethod yX7_brickNow, Cond.selects RX7 yX7_brickNow yX7_brickNow, Cond.code yX7_brickNow cX7_brickNow 7 (some .int), Cond.methodLink RL 72 yX6_way]
def wsL_law_r22 : List Cond := [Cond.instanceMethod yX6_way, Cond.selects RX6 yX6_way yX6_way, Cond.code yX6_way cX6_way 4 (some .int), Cond.methodLink RX6 167 yX3_find, Cond.instanceMethod yX3_find, Cond.selects RX3 yX3_find yX3_find, Cond.code yX3_find cX3_find 8 (some .int), Cond.fieldLink RX3 49 "LeftProfile$Scene" "hall" "LLeftProfile$Hall;", Cond.fieldLink RX3 53 "LeftProfile$Hall" "walls" "I", Cond.methodLink RX3 25 yJ7_fill_53178, Cond.methodLink RX3 31 yX3_reach, Cond.instanceMethod yX3_reach, Cond.selects RX3 yX3_reach yX3_reach, Cond.code yX3_reach cX3_reach 4 none, Cond.methodLink RX3 45 yX3_isStance, Cond.static yX3_isStance, Cond.code yX3_isStance cX3_isStance 1 (some .boolean), Cond.methodLink RX3 39 yX4_after, Cond.methodLink RX3 58 yX4_guiltyIf, Cond.methodLink RX3 61 yX3_lengthTo, Cond.instanceMethod yX3_lengthTo, Cond.selects RX3 yX3_lengthTo yX3_lengthTo, Cond.code yX3_lengthTo cX3_lengthTo 2 (some .int), Cond.methodLink RX3 64 yX3_firstTo]
def wsL_law_r23 : List Cond := [Cond.instanceMethod yX3_firstTo, Cond.selects RX3 yX3_firstTo yX3_firstTo, Cond.code yX3_firstTo cX3_firstTo 2 (some .int), Cond.methodLink RX6 171 yX3_lengthTo, Cond.methodLink RX6 174 yX3_firstTo, Cond.methodLink RL 75 yX7_way, Cond.instanceMethod yX7_way, Cond.selects RX7 yX7_way yX7_way, Cond.code yX7_way cX7_way 3 (some .int), Cond.methodLink RX7 178 yX7_wayNow, Cond.instanceMethod yX7_wayNow, Cond.selects RX7 yX7_wayNow yX7_wayNow, Cond.code yX7_wayNow cX7_wayNow 12 (some .int), Cond.methodLink RX7 175 yX7_actsFrom, Cond.instanceMethod yX7_actsFrom, Cond.selects RX7 yX7_actsFrom yX7_actsFrom, Cond.code yX7_actsFrom cX7_actsFrom 6 (some .int), Cond.methodLink RL 76 yX6_told, Cond.instanceMethod yX6_told, Cond.selects RX6 yX6_told yX6_told, Cond.code yX6_told cX6_told 4 (some .int), Cond.fieldLink RX6 177 "LeftProfile$Court" "told" "[I", Cond.methodLink RL 79 yX7_told, Cond.instanceMethod yX7_told]
def wsL_law_r24 : List Cond := [Cond.selects RX7 yX7_told yX7_told, Cond.code yX7_told cX7_told 4 (some .int), Cond.methodLink RL 80 yX6_stood, Cond.instanceMethod yX6_stood, Cond.selects RX6 yX6_stood yX6_stood, Cond.code yX6_stood cX6_stood 2 (some .int), Cond.methodLink RX6 180 yX4_whereHeStood, Cond.instanceMethod yX4_whereHeStood, Cond.selects RX4 yX4_whereHeStood yX4_whereHeStood, Cond.code yX4_whereHeStood cX4_whereHeStood 7 (some .int), Cond.methodLink RX4 105 yX4_isAsTold, Cond.instanceMethod yX4_isAsTold, Cond.selects RX4 yX4_isAsTold yX4_isAsTold, Cond.code yX4_isAsTold cX4_isAsTold 4 (some .boolean), Cond.fieldLink RX4 108 "LeftProfile$Court" "told" "[I", Cond.methodLink RL 83 yX7_stood, Cond.instanceMethod yX7_stood, Cond.selects RX7 yX7_stood yX7_stood, Cond.code yX7_stood cX7_stood 2 (some .int), Cond.methodLink RX7 188 yX7_stoodNow, Cond.instanceMethod yX7_stoodNow, Cond.selects RX7 yX7_stoodNow yX7_stoodNow, Cond.code yX7_stoodNow cX7_stoodNow 9 (some .int), Cond.methodLink RX7 181 yX7_isToldSo]
def wsL_law_r25 : List Cond := [Cond.instanceMethod yX7_isToldSo, Cond.selects RX7 yX7_isToldSo yX7_isToldSo, Cond.code yX7_isToldSo cX7_isToldSo 3 (some .boolean), Cond.methodLink RX7 185 yX7_only, Cond.static yX7_only, Cond.code yX7_only cX7_only 3 (some .int), Cond.methodLink RL 84 yX6_walk, Cond.instanceMethod yX6_walk, Cond.selects RX6 yX6_walk yX6_walk, Cond.code yX6_walk cX6_walk 4 (some .int), Cond.methodLink RX6 183 yX4_afterWalk, Cond.instanceMethod yX4_afterWalk, Cond.selects RX4 yX4_afterWalk yX4_afterWalk, Cond.code yX4_afterWalk cX4_afterWalk 9 (some .int), Cond.constant RX4 114 (65536), Cond.methodLink RX4 111 yX4_nextSeed, Cond.static yX4_nextSeed, Cond.code yX4_nextSeed cX4_nextSeed 1 (some .int), Cond.constantLong RX4 118 (1103515245), Cond.constantLong RX4 120 (12345), Cond.constantLong RX4 122 (2147483648), Cond.methodLink RX4 115 yX4_after, Cond.methodLink RL 88 yX7_walk, Cond.instanceMethod yX7_walk]
def wsL_law_r26 : List Cond := [Cond.selects RX7 yX7_walk yX7_walk, Cond.code yX7_walk cX7_walk 4 (some .int), Cond.methodLink RX7 206 yX7_walkNow, Cond.instanceMethod yX7_walkNow, Cond.selects RX7 yX7_walkNow yX7_walkNow, Cond.code yX7_walkNow cX7_walkNow 9 (some .int), Cond.fieldLink RX7 193 "LeftProfileModel" "seedNow" "J", Cond.methodLink RX7 203 yX7_draw, Cond.instanceMethod yX7_draw, Cond.selects RX7 yX7_draw yX7_draw, Cond.code yX7_draw cX7_draw 2 (some .int), Cond.constantLong RX7 191 (1103515245), Cond.constantLong RX7 197 (12345), Cond.constantLong RX7 199 (2147483647), Cond.constantLong RX7 201 (65536), Cond.methodLink RL 89 yX6_image, Cond.instanceMethod yX6_image, Cond.selects RX6 yX6_image yX6_image, Cond.code yX6_image cX6_image 1 (some .int), Cond.fieldLink RX6 191 "LeftProfile$Hall" "readings" "I", Cond.fieldLink RX6 194 "LeftProfile$Court" "size" "I", Cond.methodLink RX6 187 yX0_takeFrom, Cond.instanceMethod yX0_takeFrom, Cond.selects RX0 yX0_takeFrom yX0_takeFrom]
def wsL_law_r27 : List Cond := [Cond.code yX0_takeFrom cX0_takeFrom 2 none, Cond.methodLink RX0 37 arraycopyName, Cond.native arraycopyName, Cond.static arraycopyName, Cond.initialized "java/lang/System", Cond.methodLink RL 92 yX7_image, Cond.instanceMethod yX7_image, Cond.selects RX7 yX7_image yX7_image, Cond.code yX7_image cX7_image 2 (some .int), Cond.fieldLink RX7 210 "LeftProfileModel" "isKept" "Z", Cond.fieldLink RX7 213 "LeftProfileModel" "keptHall" "I", Cond.fieldLink RX7 216 "LeftProfileModel" "keptMany" "I", Cond.fieldLink RX7 219 "LeftProfileModel" "keptAt" "I", Cond.fieldLink RX7 222 "LeftProfileModel" "keptSide" "I", Cond.fieldLink RX7 225 "LeftProfileModel" "keptActs" "I", Cond.methodLink RL 93 yX6_restore, Cond.instanceMethod yX6_restore, Cond.selects RX6 yX6_restore yX6_restore, Cond.code yX6_restore cX6_restore 1 (some .int), Cond.methodLink RL 96 yX7_restore, Cond.instanceMethod yX7_restore, Cond.selects RX7 yX7_restore yX7_restore, Cond.code yX7_restore cX7_restore 2 (some .int), Cond.methodLink RL 97 yX6_count]
def wsL_law_r28 : List Cond := [Cond.instanceMethod yX6_count, Cond.selects RX6 yX6_count yX6_count, Cond.code yX6_count cX6_count 2 (some .int), Cond.fieldLink RX6 203 "LeftProfile$Page" "size" "I", Cond.methodLink RX6 197 yX6_sideOf, Cond.methodLink RX6 200 yX0_howManyTold, Cond.instanceMethod yX0_howManyTold, Cond.selects RX0 yX0_howManyTold yX0_howManyTold, Cond.code yX0_howManyTold cX0_howManyTold 3 (some .int), Cond.methodLink RL 100 yX7_count, Cond.instanceMethod yX7_count, Cond.selects RX7 yX7_count yX7_count, Cond.code yX7_count cX7_count 2 (some .int), Cond.methodLink RX7 231 yX7_howMany, Cond.instanceMethod yX7_howMany, Cond.selects RX7 yX7_howMany yX7_howMany, Cond.code yX7_howMany cX7_howMany 2 (some .int), Cond.methodLink RX7 228 yX7_toldMany, Cond.instanceMethod yX7_toldMany, Cond.selects RX7 yX7_toldMany yX7_toldMany, Cond.code yX7_toldMany cX7_toldMany 3 (some .int), Cond.methodLink RL 101 yX6_digest, Cond.instanceMethod yX6_digest, Cond.selects RX6 yX6_digest yX6_digest]
def wsL_law_r29 : List Cond := [Cond.code yX6_digest cX6_digest 4 (some .long), Cond.constantLong RX6 204 (719), Cond.methodLink RX6 206 yX6_on, Cond.methodLink RX6 209 yX6_mixed, Cond.static yX6_mixed, Cond.code yX6_mixed cX6_mixed 3 (some .long), Cond.constantLong RX6 238 (31), Cond.methodLink RX6 213 yX6_mixedCourtiers, Cond.instanceMethod yX6_mixedCourtiers, Cond.selects RX6 yX6_mixedCourtiers yX6_mixedCourtiers, Cond.code yX6_mixedCourtiers cX6_mixedCourtiers 7 (some .long), Cond.methodLink RX6 235 yX6_about, Cond.methodLink RX6 217 yX6_room, Cond.methodLink RX6 220 yX6_brick, Cond.methodLink RX6 223 yX6_way, Cond.methodLink RX6 226 yX6_stood, Cond.methodLink RX6 229 yX2_codeAt, Cond.methodLink RX6 232 yX6_count, Cond.methodLink RL 105 yX7_digest, Cond.instanceMethod yX7_digest, Cond.selects RX7 yX7_digest yX7_digest, Cond.code yX7_digest cX7_digest 3 (some .long), Cond.constantLong RX7 239 (719), Cond.fieldLink RX7 236 "LeftProfileModel" "h" "J"]
def wsL_law_r30 : List Cond := [Cond.methodLink RX7 241 yX7_mix, Cond.instanceMethod yX7_mix, Cond.selects RX7 yX7_mix yX7_mix, Cond.code yX7_mix cX7_mix 3 none, Cond.constantLong RX7 234 (31)]
def wsL_law : List Cond := (wsL_law_r1 ++ (wsL_law_r2 ++ (wsL_law_r3 ++ (wsL_law_r4 ++ (wsL_law_r5 ++ (wsL_law_r6 ++ (wsL_law_r7 ++ (wsL_law_r8 ++ (wsL_law_r9 ++ (wsL_law_r10 ++ (wsL_law_r11 ++ (wsL_law_r12 ++ (wsL_law_r13 ++ (wsL_law_r14 ++ (wsL_law_r15 ++ (wsL_law_r16 ++ (wsL_law_r17 ++ (wsL_law_r18 ++ (wsL_law_r19 ++ (wsL_law_r20 ++ (wsL_law_r21 ++ (wsL_law_r22 ++ (wsL_law_r23 ++ (wsL_law_r24 ++ (wsL_law_r25 ++ (wsL_law_r26 ++ (wsL_law_r27 ++ (wsL_law_r28 ++ (wsL_law_r29 ++ wsL_law_r30))))))))))))))))))))))))))))) ++ wsX60 ++ wsX70 ++ wsX20 ++ wsX40 ++ wsX00 ++ wsX30 ++ wsX10 ++ wsX50 ++ ([] : List Cond)
end
section
theorem cz_inr {big : List Cond} (ws : List Cond) (ps : List Nat) (hp : ws = ps.filterMap (fun i => big[i]?)) : ∀ w ∈ ws, w ∈ big := by
  intro w hw
  rw [hp] at hw
  obtain ⟨i, -, hi⟩ := List.mem_filterMap.mp hw
  first | exact List.mem_of_getElem? hi | exact List.getElem?_mem hi
set_option maxRecDepth 20000 in
theorem cz_lr1 : ∀ w ∈ wsL_law_r1, w ∈ lw_tbl := cz_inr _ [47, 48, 35, 550, 551, 43, 49, 50, 51, 52, 53, 54, 55, 56, 36, 209, 70, 71, 37, 210, 176, 211, 179, 212] (by decide +kernel)
set_option maxRecDepth 20000 in
theorem cz_lr2 : ∀ w ∈ wsL_law_r2, w ∈ lw_tbl := cz_inr _ [188, 98, 39, 213, 190, 191, 42, 214, 215, 58, 59, 60, 69, 61, 62, 73, 74, 75, 76, 77, 38, 175, 97, 178] (by decide +kernel)
set_option maxRecDepth 20000 in
theorem cz_lr3 : ∀ w ∈ wsL_law_r3, w ∈ lw_tbl := cz_inr _ [141, 142, 40, 180, 79, 80, 81, 82, 86, 88, 100, 101, 102, 103, 106, 108, 111, 114, 117, 119, 121, 143, 144, 145] (by decide +kernel)
set_option maxRecDepth 20000 in
theorem cz_lr4 : ∀ w ∈ wsL_law_r4, w ∈ lw_tbl := cz_inr _ [146, 168, 169, 147, 148, 41, 149, 150, 152, 0, 153, 155, 156, 160, 162, 157, 158, 159, 166, 167, 193, 194, 195, 196] (by decide +kernel)
set_option maxRecDepth 20000 in
theorem cz_lr5 : ∀ w ∈ wsL_law_r5, w ∈ lw_tbl := cz_inr _ [197, 198, 199, 552, 553, 554, 555, 559, 560, 563, 564, 565, 566, 567, 650, 569, 572, 573, 574, 582, 583, 584, 585, 231] (by decide +kernel)
set_option maxRecDepth 20000 in
theorem cz_lr6 : ∀ w ∈ wsL_law_r6, w ∈ lw_tbl := cz_inr _ [232, 233, 234, 235, 236, 237, 238, 651, 652, 653, 654, 568, 655, 656, 657, 239, 240, 241, 242, 243, 244, 245, 246, 658] (by decide +kernel)
set_option maxRecDepth 20000 in
theorem cz_lr7 : ∀ w ∈ wsL_law_r7, w ∈ lw_tbl := cz_inr _ [659, 660, 661, 247, 248, 249, 250, 251, 252, 253, 254, 255, 257, 1, 258, 259, 260, 261, 262, 662, 663, 664, 665, 570] (by decide +kernel)
set_option maxRecDepth 20000 in
theorem cz_lr8 : ∀ w ∈ wsL_law_r8, w ∈ lw_tbl := cz_inr _ [666, 668, 6, 669, 571, 263, 264, 265, 266, 87, 267, 268, 269, 270, 271, 272, 273, 274, 275, 276, 277, 278, 279, 281] (by decide +kernel)
set_option maxRecDepth 20000 in
theorem cz_lr9 : ∀ w ∈ wsL_law_r9, w ∈ lw_tbl := cz_inr _ [282, 44, 283, 284, 285, 286, 287, 288, 289, 290, 670, 671, 672, 673, 558, 556, 557, 561, 562, 674, 675, 676, 291, 292] (by decide +kernel)
set_option maxRecDepth 20000 in
theorem cz_lr10 : ∀ w ∈ wsL_law_r10, w ∈ lw_tbl := cz_inr _ [293, 294, 85, 105, 295, 296, 297, 298, 299, 300, 301, 302, 303, 304, 305, 306, 307, 308, 309, 677, 678, 679, 680, 681] (by decide +kernel)
set_option maxRecDepth 20000 in
theorem cz_lr11 : ∀ w ∈ wsL_law_r11, w ∈ lw_tbl := cz_inr _ [682, 683, 684, 686, 7, 687, 688, 689, 690, 691, 693, 8, 694, 310, 311, 312, 313, 314, 315, 316, 317, 319, 320, 321] (by decide +kernel)
set_option maxRecDepth 20000 in
theorem cz_lr12 : ∀ w ∈ wsL_law_r12, w ∈ lw_tbl := cz_inr _ [695, 696, 697, 698, 699, 701, 9, 702, 322, 323, 324, 325, 326, 327, 328, 329, 330, 331, 332, 83, 104, 333, 336, 337] (by decide +kernel)
set_option maxRecDepth 20000 in
theorem cz_lr13 : ∀ w ∈ wsL_law_r13, w ∈ lw_tbl := cz_inr _ [338, 339, 703, 704, 705, 706, 707, 709, 10, 710, 340, 341, 342, 343, 113, 116, 118, 120, 344, 345, 346, 347, 348, 349] (by decide +kernel)
set_option maxRecDepth 20000 in
theorem cz_lr14 : ∀ w ∈ wsL_law_r14, w ∈ lw_tbl := cz_inr _ [350, 351, 352, 354, 2, 355, 112, 115, 356, 357, 358, 359, 360, 362, 363, 364, 365, 367, 368, 370, 371, 372, 373, 45] (by decide +kernel)
set_option maxRecDepth 20000 in
theorem cz_lr15 : ∀ w ∈ wsL_law_r15, w ∈ lw_tbl := cz_inr _ [374, 375, 376, 377, 378, 379, 380, 381, 109, 382, 383, 384, 385, 386, 711, 712, 713, 714, 715, 717, 11, 718, 719, 721] (by decide +kernel)
set_option maxRecDepth 20000 in
theorem cz_lr16 : ∀ w ∈ wsL_law_r16, w ∈ lw_tbl := cz_inr _ [12, 722, 723, 725, 13, 726, 727, 728, 729, 730, 731, 732, 733, 734, 735, 736, 737, 738, 739, 741, 14, 742, 743, 745] (by decide +kernel)
set_option maxRecDepth 20000 in
theorem cz_lr17 : ∀ w ∈ wsL_law_r17, w ∈ lw_tbl := cz_inr _ [15, 746, 387, 388, 389, 390, 391, 747, 748, 749, 750, 392, 393, 394, 395, 751, 752, 753, 754, 396, 397, 398, 399, 107] (by decide +kernel)
set_option maxRecDepth 20000 in
theorem cz_lr18 : ∀ w ∈ wsL_law_r18, w ∈ lw_tbl := cz_inr _ [400, 401, 402, 403, 408, 409, 410, 411, 412, 413, 414, 415, 416, 417, 755, 756, 757, 758, 759, 761, 16, 762, 763, 764] (by decide +kernel)
set_option maxRecDepth 20000 in
theorem cz_lr19 : ∀ w ∈ wsL_law_r19, w ∈ lw_tbl := cz_inr _ [765, 766, 768, 17, 769, 770, 772, 18, 773, 418, 419, 420, 421, 774, 775, 776, 777, 422, 423, 424, 425, 426, 427, 428] (by decide +kernel)
set_option maxRecDepth 20000 in
theorem cz_lr20 : ∀ w ∈ wsL_law_r20, w ∈ lw_tbl := cz_inr _ [429, 430, 431, 432, 433, 434, 778, 779, 780, 781, 782, 784, 19, 785, 786, 788, 20, 789, 790, 792, 21, 793, 794, 796] (by decide +kernel)
set_option maxRecDepth 20000 in
theorem cz_lr21 : ∀ w ∈ wsL_law_r21, w ∈ lw_tbl := cz_inr _ [22, 797, 798, 800, 23, 801, 435, 436, 437, 438, 439, 440, 441, 442, 443, 802, 803, 804, 805, 806, 808, 24, 809, 444] (by decide +kernel)
set_option maxRecDepth 20000 in
theorem cz_lr22 : ∀ w ∈ wsL_law_r22, w ∈ lw_tbl := cz_inr _ [445, 446, 447, 448, 449, 450, 451, 177, 84, 452, 453, 455, 3, 456, 457, 458, 459, 461, 462, 463, 464, 465, 466, 467] (by decide +kernel)
set_option maxRecDepth 20000 in
theorem cz_lr23 : ∀ w ∈ wsL_law_r23, w ∈ lw_tbl := cz_inr _ [468, 469, 470, 471, 472, 810, 811, 812, 813, 814, 816, 25, 817, 818, 820, 26, 821, 473, 474, 475, 476, 123, 822, 823] (by decide +kernel)
set_option maxRecDepth 20000 in
theorem cz_lr24 : ∀ w ∈ wsL_law_r24, w ∈ lw_tbl := cz_inr _ [824, 825, 477, 478, 479, 480, 481, 482, 483, 484, 485, 487, 4, 488, 122, 826, 827, 828, 829, 830, 832, 27, 833, 834] (by decide +kernel)
set_option maxRecDepth 20000 in
theorem cz_lr25 : ∀ w ∈ wsL_law_r25, w ∈ lw_tbl := cz_inr _ [836, 28, 837, 838, 839, 840, 489, 490, 491, 492, 493, 494, 495, 496, 503, 497, 498, 499, 500, 501, 502, 504, 841, 842] (by decide +kernel)
set_option maxRecDepth 20000 in
theorem cz_lr26 : ∀ w ∈ wsL_law_r26, w ∈ lw_tbl := cz_inr _ [843, 844, 845, 847, 29, 848, 575, 849, 851, 30, 852, 853, 854, 855, 856, 505, 506, 507, 508, 89, 110, 509, 510, 511] (by decide +kernel)
set_option maxRecDepth 20000 in
theorem cz_lr27 : ∀ w ∈ wsL_law_r27, w ∈ lw_tbl := cz_inr _ [512, 513, 515, 514, 46, 857, 858, 859, 860, 576, 577, 578, 579, 580, 581, 516, 517, 518, 519, 861, 862, 863, 864, 520] (by decide +kernel)
set_option maxRecDepth 20000 in
theorem cz_lr28 : ∀ w ∈ wsL_law_r28, w ∈ lw_tbl := cz_inr _ [521, 522, 523, 63, 524, 525, 526, 527, 528, 865, 866, 867, 868, 869, 871, 31, 872, 873, 875, 32, 876, 529, 530, 531] (by decide +kernel)
set_option maxRecDepth 20000 in
theorem cz_lr29 : ∀ w ∈ wsL_law_r29, w ∈ lw_tbl := cz_inr _ [532, 533, 534, 535, 536, 537, 538, 539, 541, 5, 542, 543, 544, 545, 546, 547, 548, 549, 877, 878, 879, 880, 881, 586] (by decide +kernel)
set_option maxRecDepth 20000 in
theorem cz_lr30 : ∀ w ∈ wsL_law_r30, w ∈ lw_tbl := cz_inr _ [882, 884, 33, 885, 886] (by decide +kernel)
set_option maxRecDepth 20000 in
theorem cz_lx6 : ∀ w ∈ wsX60, w ∈ lw_tbl := cz_inr _ [216, 218, 220, 222, 224, 226, 228] (by decide +kernel)
set_option maxRecDepth 20000 in
theorem cz_lx7 : ∀ w ∈ wsX70, w ∈ lw_tbl := cz_inr _ [587, 589, 591, 593, 595, 597, 599, 601, 603, 605, 607, 609, 611, 613, 615, 617, 619, 621, 623, 625, 627, 629, 631, 633, 635, 637, 639, 641, 643, 645, 647] (by decide +kernel)
set_option maxRecDepth 20000 in
theorem cz_lx2 : ∀ w ∈ wsX20, w ∈ lw_tbl := cz_inr _ [64, 66] (by decide +kernel)
set_option maxRecDepth 20000 in
theorem cz_lx4 : ∀ w ∈ wsX40, w ∈ lw_tbl := cz_inr _ [181, 183, 185] (by decide +kernel)
set_option maxRecDepth 20000 in
theorem cz_lx0 : ∀ w ∈ wsX00, w ∈ lw_tbl := cz_inr _ [124, 126, 128, 130, 132, 134, 136, 138] (by decide +kernel)
set_option maxRecDepth 20000 in
theorem cz_lx3 : ∀ w ∈ wsX30, w ∈ lw_tbl := cz_inr _ [200, 202, 204, 206] (by decide +kernel)
set_option maxRecDepth 20000 in
theorem cz_lx1 : ∀ w ∈ wsX10, w ∈ lw_tbl := cz_inr _ [90, 92, 94] (by decide +kernel)
set_option maxRecDepth 20000 in
theorem cz_lx5 : ∀ w ∈ wsX50, w ∈ lw_tbl := cz_inr _ [170, 172] (by decide +kernel)
theorem wsL_law_in : ∀ w ∈ wsL_law, w ∈ lw_tbl := (List.forall_mem_append.mpr ⟨(List.forall_mem_append.mpr ⟨(List.forall_mem_append.mpr ⟨(List.forall_mem_append.mpr ⟨(List.forall_mem_append.mpr ⟨(List.forall_mem_append.mpr ⟨(List.forall_mem_append.mpr ⟨(List.forall_mem_append.mpr ⟨(List.forall_mem_append.mpr ⟨(List.forall_mem_append.mpr ⟨cz_lr1, (List.forall_mem_append.mpr ⟨cz_lr2, (List.forall_mem_append.mpr ⟨cz_lr3, (List.forall_mem_append.mpr ⟨cz_lr4, (List.forall_mem_append.mpr ⟨cz_lr5, (List.forall_mem_append.mpr ⟨cz_lr6, (List.forall_mem_append.mpr ⟨cz_lr7, (List.forall_mem_append.mpr ⟨cz_lr8, (List.forall_mem_append.mpr ⟨cz_lr9, (List.forall_mem_append.mpr ⟨cz_lr10, (List.forall_mem_append.mpr ⟨cz_lr11, (List.forall_mem_append.mpr ⟨cz_lr12, (List.forall_mem_append.mpr ⟨cz_lr13, (List.forall_mem_append.mpr ⟨cz_lr14, (List.forall_mem_append.mpr ⟨cz_lr15, (List.forall_mem_append.mpr ⟨cz_lr16, (List.forall_mem_append.mpr ⟨cz_lr17, (List.forall_mem_append.mpr ⟨cz_lr18, (List.forall_mem_append.mpr ⟨cz_lr19, (List.forall_mem_append.mpr ⟨cz_lr20, (List.forall_mem_append.mpr ⟨cz_lr21, (List.forall_mem_append.mpr ⟨cz_lr22, (List.forall_mem_append.mpr ⟨cz_lr23, (List.forall_mem_append.mpr ⟨cz_lr24, (List.forall_mem_append.mpr ⟨cz_lr25, (List.forall_mem_append.mpr ⟨cz_lr26, (List.forall_mem_append.mpr ⟨cz_lr27, (List.forall_mem_append.mpr ⟨cz_lr28, (List.forall_mem_append.mpr ⟨cz_lr29, cz_lr30⟩)⟩)⟩)⟩)⟩)⟩)⟩)⟩)⟩)⟩)⟩)⟩)⟩)⟩)⟩)⟩)⟩)⟩)⟩)⟩)⟩)⟩)⟩)⟩)⟩)⟩)⟩)⟩)⟩), cz_lx6⟩), cz_lx7⟩), cz_lx2⟩), cz_lx4⟩), cz_lx0⟩), cz_lx3⟩), cz_lx1⟩), cz_lx5⟩), fun _ h => absurd h List.not_mem_nil⟩)
theorem inlX0 : ∀ w ∈ wsX00, w ∈ wsL_law := fun _ h => List.mem_append_left _ (List.mem_append_left _ (List.mem_append_left _ (List.mem_append_left _ (List.mem_append_right _ h))))
theorem inX0 : ∀ w ∈ wsX00, w ∈ lw_tbl := fun w h => wsL_law_in w (inlX0 w h)
theorem inlX1 : ∀ w ∈ wsX10, w ∈ wsL_law := fun _ h => List.mem_append_left _ (List.mem_append_left _ (List.mem_append_right _ h))
theorem inX1 : ∀ w ∈ wsX10, w ∈ lw_tbl := fun w h => wsL_law_in w (inlX1 w h)
theorem inlX2 : ∀ w ∈ wsX20, w ∈ wsL_law := fun _ h => List.mem_append_left _ (List.mem_append_left _ (List.mem_append_left _ (List.mem_append_left _ (List.mem_append_left _ (List.mem_append_left _ (List.mem_append_right _ h))))))
theorem inX2 : ∀ w ∈ wsX20, w ∈ lw_tbl := fun w h => wsL_law_in w (inlX2 w h)
theorem inlX3 : ∀ w ∈ wsX30, w ∈ wsL_law := fun _ h => List.mem_append_left _ (List.mem_append_left _ (List.mem_append_left _ (List.mem_append_right _ h)))
theorem inX3 : ∀ w ∈ wsX30, w ∈ lw_tbl := fun w h => wsL_law_in w (inlX3 w h)
theorem inlX4 : ∀ w ∈ wsX40, w ∈ wsL_law := fun _ h => List.mem_append_left _ (List.mem_append_left _ (List.mem_append_left _ (List.mem_append_left _ (List.mem_append_left _ (List.mem_append_right _ h)))))
theorem inX4 : ∀ w ∈ wsX40, w ∈ lw_tbl := fun w h => wsL_law_in w (inlX4 w h)
theorem inlX5 : ∀ w ∈ wsX50, w ∈ wsL_law := fun _ h => List.mem_append_left _ (List.mem_append_right _ h)
theorem inX5 : ∀ w ∈ wsX50, w ∈ lw_tbl := fun w h => wsL_law_in w (inlX5 w h)
theorem inlX6 : ∀ w ∈ wsX60, w ∈ wsL_law := fun _ h => List.mem_append_left _ (List.mem_append_left _ (List.mem_append_left _ (List.mem_append_left _ (List.mem_append_left _ (List.mem_append_left _ (List.mem_append_left _ (List.mem_append_left _ (List.mem_append_right _ h))))))))
theorem inX6 : ∀ w ∈ wsX60, w ∈ lw_tbl := fun w h => wsL_law_in w (inlX6 w h)
theorem inlX7 : ∀ w ∈ wsX70, w ∈ wsL_law := fun _ h => List.mem_append_left _ (List.mem_append_left _ (List.mem_append_left _ (List.mem_append_left _ (List.mem_append_left _ (List.mem_append_left _ (List.mem_append_left _ (List.mem_append_right _ h)))))))
theorem inX7 : ∀ w ∈ wsX70, w ∈ lw_tbl := fun w h => wsL_law_in w (inlX7 w h)
theorem inJ6 : ∀ w ∈ wsJ60, w ∈ lw_tbl := by decide +kernel
theorem inJ9 : ∀ w ∈ wsJ90, w ∈ lw_tbl := by decide +kernel
theorem inJ10 : ∀ w ∈ wsJ100, w ∈ lw_tbl := by decide +kernel
theorem inJ7 : ∀ w ∈ wsJ70, w ∈ lw_tbl := by decide +kernel
set_option maxRecDepth 20000 in
theorem ggX1_read_J6_bitCount_0f7a4 : GoodIn wsX1_read wsJ6_bitCount_0f7a4 := goodIn_r _ [21, 22, 23, 24] (by decide +kernel) (by decide +kernel)
set_option maxRecDepth 20000 in
theorem gX1_read_J6_bitCount_0f7a4 : GoodIn wsX1_read (va_wsS RX1 31 yJ6_bitCount_0f7a4 wsJ6_bitCount_0f7a4) := goodIn_app (goodIn_of _ (by decide +kernel)) ggX1_read_J6_bitCount_0f7a4
set_option maxRecDepth 20000 in
theorem ggX3_find_J7_fill_53178 : GoodIn wsX3_find wsJ7_fill_53178 := goodIn_r _ [9] (by decide +kernel) (by decide +kernel)
set_option maxRecDepth 20000 in
theorem gX3_find_J7_fill_53178 : GoodIn wsX3_find (va_wsS RX3 25 yJ7_fill_53178 wsJ7_fill_53178) := goodIn_app (goodIn_of _ (by decide +kernel)) ggX3_find_J7_fill_53178
set_option maxRecDepth 20000 in
theorem ggX4_bestBrick_J6_bitCount_0f7a4 : GoodIn wsX4_bestBrick wsJ6_bitCount_0f7a4 := goodIn_r _ [49, 50, 51, 52] (by decide +kernel) (by decide +kernel)
set_option maxRecDepth 20000 in
theorem gX4_bestBrick_J6_bitCount_0f7a4 : GoodIn wsX4_bestBrick (va_wsS RX4 100 yJ6_bitCount_0f7a4 wsJ6_bitCount_0f7a4) := goodIn_app (goodIn_of _ (by decide +kernel)) ggX4_bestBrick_J6_bitCount_0f7a4
set_option maxRecDepth 20000 in
theorem ggX4_afterWalk_J6_bitCount_0f7a4 : GoodIn wsX4_afterWalk wsJ6_bitCount_0f7a4 := goodIn_r _ [68, 69, 70, 71] (by decide +kernel) (by decide +kernel)
set_option maxRecDepth 20000 in
theorem gX4_afterWalk_J6_bitCount_0f7a4 : GoodIn wsX4_afterWalk (va_wsS RX4 100 yJ6_bitCount_0f7a4 wsJ6_bitCount_0f7a4) := goodIn_app (goodIn_of _ (by decide +kernel)) ggX4_afterWalk_J6_bitCount_0f7a4
set_option maxRecDepth 20000 in
theorem ggX5_init_J7_fill_53178 : GoodIn wsX5_init wsJ7_fill_53178 := goodIn_r _ [10] (by decide +kernel) (by decide +kernel)
set_option maxRecDepth 20000 in
theorem gX5_init_J7_fill_53178 : GoodIn wsX5_init (va_wsS RX5 18 yJ7_fill_53178 wsJ7_fill_53178) := goodIn_app (goodIn_of _ (by decide +kernel)) ggX5_init_J7_fill_53178
set_option maxRecDepth 20000 in
theorem ggX5_seen_J9_floorMod_7cf53 : GoodIn wsX5_seen wsJ9_floorMod_7cf53 := goodIn_r _ [26] (by decide +kernel) (by decide +kernel)
set_option maxRecDepth 20000 in
theorem gX5_seen_J9_floorMod_7cf53 : GoodIn wsX5_seen (va_wsS RX5 50 yJ9_floorMod_7cf53 wsJ9_floorMod_7cf53) := goodIn_app (goodIn_of _ (by decide +kernel)) ggX5_seen_J9_floorMod_7cf53
set_option maxRecDepth 20000 in
theorem ggX5_isBarred_J6_bitCount_0f7a4 : GoodIn wsX5_isBarred wsJ6_bitCount_0f7a4 := goodIn_r _ [4, 5, 6, 7] (by decide +kernel) (by decide +kernel)
set_option maxRecDepth 20000 in
theorem gX5_isBarred_J6_bitCount_0f7a4 : GoodIn wsX5_isBarred (va_wsS RX5 62 yJ6_bitCount_0f7a4 wsJ6_bitCount_0f7a4) := goodIn_app (goodIn_of _ (by decide +kernel)) ggX5_isBarred_J6_bitCount_0f7a4
set_option maxRecDepth 20000 in
theorem ggX6_act_J6_bitCount_0f7a4 : GoodIn wsX6_act wsJ6_bitCount_0f7a4 := goodIn_r _ [71, 72, 73, 74] (by decide +kernel) (by decide +kernel)
set_option maxRecDepth 20000 in
theorem gX6_act_J6_bitCount_0f7a4 : GoodIn wsX6_act (va_wsS RX6 153 yJ6_bitCount_0f7a4 wsJ6_bitCount_0f7a4) := goodIn_app (goodIn_of _ (by decide +kernel)) ggX6_act_J6_bitCount_0f7a4
set_option maxRecDepth 20000 in
theorem ggX6_brick_J6_bitCount_0f7a4 : GoodIn wsX6_brick wsJ6_bitCount_0f7a4 := goodIn_r _ [58, 59, 60, 61] (by decide +kernel) (by decide +kernel)
set_option maxRecDepth 20000 in
theorem gX6_brick_J6_bitCount_0f7a4 : GoodIn wsX6_brick (va_wsS RX6 153 yJ6_bitCount_0f7a4 wsJ6_bitCount_0f7a4) := goodIn_app (goodIn_of _ (by decide +kernel)) ggX6_brick_J6_bitCount_0f7a4
set_option maxRecDepth 20000 in
theorem ggX6_count_J6_bitCount_0f7a4 : GoodIn wsX6_count wsJ6_bitCount_0f7a4 := goodIn_r _ [57, 58, 59, 60] (by decide +kernel) (by decide +kernel)
set_option maxRecDepth 20000 in
theorem gX6_count_J6_bitCount_0f7a4 : GoodIn wsX6_count (va_wsS RX6 153 yJ6_bitCount_0f7a4 wsJ6_bitCount_0f7a4) := goodIn_app (goodIn_of _ (by decide +kernel)) ggX6_count_J6_bitCount_0f7a4
abbrev vwCl : List vw_C := [(RX0, TX0, 8), (RX1, TX1, 3), (RX2, TX2, 2), (RX3, TX3, 4), (RX4, TX4, 3), (RX5, TX5, 2), (RX6, TX6, 7), (RX7, TX7, 31)]
end
section
theorem dX0_init_0 : decode cX0_init 0 = .ok (.aload_n 0, 1) := by decide +kernel
theorem dX0_init_1 : decode cX0_init 1 = .ok (.invokespecial 3, 3) := by decide +kernel
theorem dX0_init_4 : decode cX0_init 4 = .ok (.aload_n 0, 1) := by decide +kernel
theorem dX0_init_5 : decode cX0_init 5 = .ok (.iconst (-1), 1) := by decide +kernel
theorem dX0_init_6 : decode cX0_init 6 = .ok (.putfield 9, 3) := by decide +kernel
theorem dX0_init_9 : decode cX0_init 9 = .ok (.aload_n 0, 1) := by decide +kernel
theorem dX0_init_10 : decode cX0_init 10 = .ok (.iconst 0, 1) := by decide +kernel
theorem dX0_init_11 : decode cX0_init 11 = .ok (.putfield 15, 3) := by decide +kernel
theorem dX0_init_14 : decode cX0_init 14 = .ok (.aload_n 0, 1) := by decide +kernel
theorem dX0_init_15 : decode cX0_init 15 = .ok (.iconst 0, 1) := by decide +kernel
theorem dX0_init_16 : decode cX0_init 16 = .ok (.putfield 18, 3) := by decide +kernel
theorem dX0_init_19 : decode cX0_init 19 = .ok (.aload_n 0, 1) := by decide +kernel
theorem dX0_init_20 : decode cX0_init 20 = .ok (.bipush 6, 2) := by decide +kernel
theorem dX0_init_22 : decode cX0_init 22 = .ok (.newarray .int, 2) := by decide +kernel
theorem dX0_init_24 : decode cX0_init 24 = .ok (.putfield 21, 3) := by decide +kernel
theorem dX0_init_27 : decode cX0_init 27 = .ok (.aload_n 0, 1) := by decide +kernel
theorem dX0_init_28 : decode cX0_init 28 = .ok (.bipush 6, 2) := by decide +kernel
theorem dX0_init_30 : decode cX0_init 30 = .ok (.newarray .int, 2) := by decide +kernel
theorem dX0_init_32 : decode cX0_init 32 = .ok (.putfield 25, 3) := by decide +kernel
theorem dX0_init_35 : decode cX0_init 35 = .ok (.aload_n 0, 1) := by decide +kernel
theorem dX0_init_36 : decode cX0_init 36 = .ok (.bipush 6, 2) := by decide +kernel
theorem dX0_init_38 : decode cX0_init 38 = .ok (.newarray .int, 2) := by decide +kernel
theorem dX0_init_40 : decode cX0_init 40 = .ok (.putfield 28, 3) := by decide +kernel
theorem dX0_init_43 : decode cX0_init 43 = .ok (.aload_n 0, 1) := by decide +kernel
theorem dX0_init_44 : decode cX0_init 44 = .ok (.bipush 6, 2) := by decide +kernel
theorem dX0_init_46 : decode cX0_init 46 = .ok (.newarray .int, 2) := by decide +kernel
theorem dX0_init_48 : decode cX0_init 48 = .ok (.putfield 31, 3) := by decide +kernel
theorem dX0_init_51 : decode cX0_init 51 = .ok (.aload_n 0, 1) := by decide +kernel
theorem dX0_init_52 : decode cX0_init 52 = .ok (.bipush 6, 2) := by decide +kernel
theorem dX0_init_54 : decode cX0_init 54 = .ok (.newarray .int, 2) := by decide +kernel
theorem dX0_init_56 : decode cX0_init 56 = .ok (.putfield 34, 3) := by decide +kernel
theorem dX0_init_59 : decode cX0_init 59 = .ok (.return_, 1) := by decide +kernel
theorem dX0_has_0 : decode cX0_has 0 = .ok (.iload_n 1, 1) := by decide +kernel
theorem dX0_has_1 : decode cX0_has 1 = .ok (.ifCond .lt 21, 3) := by decide +kernel
theorem dX0_has_4 : decode cX0_has 4 = .ok (.iload_n 1, 1) := by decide +kernel
theorem dX0_has_5 : decode cX0_has 5 = .ok (.aload_n 0, 1) := by decide +kernel
theorem dX0_has_6 : decode cX0_has 6 = .ok (.getfield 18, 3) := by decide +kernel
theorem dX0_has_9 : decode cX0_has 9 = .ok (.if_icmp .ge 13, 3) := by decide +kernel
theorem dX0_has_12 : decode cX0_has 12 = .ok (.iload_n 1, 1) := by decide +kernel
theorem dX0_has_13 : decode cX0_has 13 = .ok (.bipush 6, 2) := by decide +kernel
theorem dX0_has_15 : decode cX0_has 15 = .ok (.if_icmp .ge 7, 3) := by decide +kernel
theorem dX0_has_18 : decode cX0_has 18 = .ok (.iconst 1, 1) := by decide +kernel
theorem dX0_has_19 : decode cX0_has 19 = .ok (.goto 4, 3) := by decide +kernel
theorem dX0_has_22 : decode cX0_has 22 = .ok (.iconst 0, 1) := by decide +kernel
theorem dX0_has_23 : decode cX0_has 23 = .ok (.ireturn, 1) := by decide +kernel
set_option maxRecDepth 20000 in
theorem ggX0_people_X6_bit : GoodIn wsX0_people wsX6_bit := goodIn_r _ [5] (by decide +kernel) (by decide +kernel)
set_option maxRecDepth 20000 in
theorem gX0_people_X6_bit_n43 : GoodIn wsX0_people (wsX6_bit) := ggX0_people_X6_bit
theorem dX0_people_0 : decode cX0_people 0 = .ok (.iconst 0, 1) := by decide +kernel
theorem dX0_people_1 : decode cX0_people 1 = .ok (.istore_n 1, 1) := by decide +kernel
theorem dX0_people_2 : decode cX0_people 2 = .ok (.iconst 0, 1) := by decide +kernel
theorem dX0_people_3 : decode cX0_people 3 = .ok (.istore_n 2, 1) := by decide +kernel
theorem dX0_people_4 : decode cX0_people 4 = .ok (.iload_n 2, 1) := by decide +kernel
theorem dX0_people_5 : decode cX0_people 5 = .ok (.aload_n 0, 1) := by decide +kernel
theorem dX0_people_6 : decode cX0_people 6 = .ok (.getfield 18, 3) := by decide +kernel
theorem dX0_people_9 : decode cX0_people 9 = .ok (.if_icmp .ge 21, 3) := by decide +kernel
theorem dX0_people_12 : decode cX0_people 12 = .ok (.iload_n 1, 1) := by decide +kernel
theorem dX0_people_13 : decode cX0_people 13 = .ok (.aload_n 0, 1) := by decide +kernel
theorem dX0_people_14 : decode cX0_people 14 = .ok (.getfield 25, 3) := by decide +kernel
theorem dX0_people_17 : decode cX0_people 17 = .ok (.iload_n 2, 1) := by decide +kernel
theorem dX0_people_18 : decode cX0_people 18 = .ok (.iaload, 1) := by decide +kernel
theorem dX0_people_19 : decode cX0_people 19 = .ok (.invokestatic 43, 3) := by decide +kernel
theorem dX0_people_22 : decode cX0_people 22 = .ok (.ior, 1) := by decide +kernel
theorem dX0_people_23 : decode cX0_people 23 = .ok (.istore_n 1, 1) := by decide +kernel
theorem dX0_people_24 : decode cX0_people 24 = .ok (.iinc 2 1, 3) := by decide +kernel
theorem dX0_people_27 : decode cX0_people 27 = .ok (.goto (-23), 3) := by decide +kernel
theorem dX0_people_30 : decode cX0_people 30 = .ok (.iload_n 1, 1) := by decide +kernel
theorem dX0_people_31 : decode cX0_people 31 = .ok (.ireturn, 1) := by decide +kernel
theorem dX0_howManyTold_0 : decode cX0_howManyTold 0 = .ok (.iconst 0, 1) := by decide +kernel
theorem dX0_howManyTold_1 : decode cX0_howManyTold 1 = .ok (.istore_n 1, 1) := by decide +kernel
theorem dX0_howManyTold_2 : decode cX0_howManyTold 2 = .ok (.iconst 0, 1) := by decide +kernel
theorem dX0_howManyTold_3 : decode cX0_howManyTold 3 = .ok (.istore_n 2, 1) := by decide +kernel
theorem dX0_howManyTold_4 : decode cX0_howManyTold 4 = .ok (.iload_n 2, 1) := by decide +kernel
theorem dX0_howManyTold_5 : decode cX0_howManyTold 5 = .ok (.aload_n 0, 1) := by decide +kernel
theorem dX0_howManyTold_6 : decode cX0_howManyTold 6 = .ok (.getfield 18, 3) := by decide +kernel
theorem dX0_howManyTold_9 : decode cX0_howManyTold 9 = .ok (.if_icmp .ge 22, 3) := by decide +kernel
theorem dX0_howManyTold_12 : decode cX0_howManyTold 12 = .ok (.aload_n 0, 1) := by decide +kernel
theorem dX0_howManyTold_13 : decode cX0_howManyTold 13 = .ok (.getfield 34, 3) := by decide +kernel
theorem dX0_howManyTold_16 : decode cX0_howManyTold 16 = .ok (.iload_n 2, 1) := by decide +kernel
theorem dX0_howManyTold_17 : decode cX0_howManyTold 17 = .ok (.iaload, 1) := by decide +kernel
theorem dX0_howManyTold_18 : decode cX0_howManyTold 18 = .ok (.iconst (-1), 1) := by decide +kernel
theorem dX0_howManyTold_19 : decode cX0_howManyTold 19 = .ok (.if_icmp .eq 6, 3) := by decide +kernel
theorem dX0_howManyTold_22 : decode cX0_howManyTold 22 = .ok (.iinc 1 1, 3) := by decide +kernel
theorem dX0_howManyTold_25 : decode cX0_howManyTold 25 = .ok (.iinc 2 1, 3) := by decide +kernel
theorem dX0_howManyTold_28 : decode cX0_howManyTold 28 = .ok (.goto (-24), 3) := by decide +kernel
theorem dX0_howManyTold_31 : decode cX0_howManyTold 31 = .ok (.iload_n 1, 1) := by decide +kernel
theorem dX0_howManyTold_32 : decode cX0_howManyTold 32 = .ok (.ireturn, 1) := by decide +kernel
theorem dX1_init_0 : decode cX1_init 0 = .ok (.aload_n 0, 1) := by decide +kernel
theorem dX1_init_1 : decode cX1_init 1 = .ok (.invokespecial 3, 3) := by decide +kernel
theorem dX1_init_4 : decode cX1_init 4 = .ok (.aload_n 0, 1) := by decide +kernel
theorem dX1_init_5 : decode cX1_init 5 = .ok (.iconst 0, 1) := by decide +kernel
theorem dX1_init_6 : decode cX1_init 6 = .ok (.putfield 9, 3) := by decide +kernel
theorem dX1_init_9 : decode cX1_init 9 = .ok (.aload_n 0, 1) := by decide +kernel
theorem dX1_init_10 : decode cX1_init 10 = .ok (.iconst 0, 1) := by decide +kernel
theorem dX1_init_11 : decode cX1_init 11 = .ok (.putfield 15, 3) := by decide +kernel
theorem dX1_init_14 : decode cX1_init 14 = .ok (.aload_n 0, 1) := by decide +kernel
theorem dX1_init_15 : decode cX1_init 15 = .ok (.iconst 0, 1) := by decide +kernel
theorem dX1_init_16 : decode cX1_init 16 = .ok (.putfield 18, 3) := by decide +kernel
theorem dX1_init_19 : decode cX1_init 19 = .ok (.return_, 1) := by decide +kernel
theorem dX1_isMissing_0 : decode cX1_isMissing 0 = .ok (.aload_n 0, 1) := by decide +kernel
theorem dX1_isMissing_1 : decode cX1_isMissing 1 = .ok (.getfield 18, 3) := by decide +kernel
theorem dX1_isMissing_4 : decode cX1_isMissing 4 = .ok (.ifCond .ne 7, 3) := by decide +kernel
theorem dX1_isMissing_7 : decode cX1_isMissing 7 = .ok (.iconst 1, 1) := by decide +kernel
theorem dX1_isMissing_8 : decode cX1_isMissing 8 = .ok (.goto 4, 3) := by decide +kernel
theorem dX1_isMissing_11 : decode cX1_isMissing 11 = .ok (.iconst 0, 1) := by decide +kernel
theorem dX1_isMissing_12 : decode cX1_isMissing 12 = .ok (.ireturn, 1) := by decide +kernel
theorem dX2_init_0 : decode cX2_init 0 = .ok (.aload_n 0, 1) := by decide +kernel
theorem dX2_init_1 : decode cX2_init 1 = .ok (.invokespecial 3, 3) := by decide +kernel
theorem dX2_init_4 : decode cX2_init 4 = .ok (.aload_n 0, 1) := by decide +kernel
theorem dX2_init_5 : decode cX2_init 5 = .ok (.bipush 24, 2) := by decide +kernel
theorem dX2_init_7 : decode cX2_init 7 = .ok (.newarray .int, 2) := by decide +kernel
theorem dX2_init_9 : decode cX2_init 9 = .ok (.putfield 11, 3) := by decide +kernel
theorem dX2_init_12 : decode cX2_init 12 = .ok (.aload_n 0, 1) := by decide +kernel
theorem dX2_init_13 : decode cX2_init 13 = .ok (.iconst 0, 1) := by decide +kernel
theorem dX2_init_14 : decode cX2_init 14 = .ok (.putfield 15, 3) := by decide +kernel
theorem dX2_init_17 : decode cX2_init 17 = .ok (.return_, 1) := by decide +kernel
theorem dX2_add_0 : decode cX2_add 0 = .ok (.aload_n 0, 1) := by decide +kernel
theorem dX2_add_1 : decode cX2_add 1 = .ok (.getfield 15, 3) := by decide +kernel
theorem dX2_add_4 : decode cX2_add 4 = .ok (.bipush 24, 2) := by decide +kernel
theorem dX2_add_6 : decode cX2_add 6 = .ok (.if_icmp .lt 6, 3) := by decide +kernel
theorem dX2_add_9 : decode cX2_add 9 = .ok (.bipush (-104), 2) := by decide +kernel
theorem dX2_add_11 : decode cX2_add 11 = .ok (.ireturn, 1) := by decide +kernel
theorem dX2_add_12 : decode cX2_add 12 = .ok (.aload_n 0, 1) := by decide +kernel
theorem dX2_add_13 : decode cX2_add 13 = .ok (.getfield 11, 3) := by decide +kernel
theorem dX2_add_16 : decode cX2_add 16 = .ok (.aload_n 0, 1) := by decide +kernel
theorem dX2_add_17 : decode cX2_add 17 = .ok (.getfield 15, 3) := by decide +kernel
theorem dX2_add_20 : decode cX2_add 20 = .ok (.iload_n 1, 1) := by decide +kernel
theorem dX2_add_21 : decode cX2_add 21 = .ok (.iastore, 1) := by decide +kernel
theorem dX2_add_22 : decode cX2_add 22 = .ok (.aload_n 0, 1) := by decide +kernel
theorem dX2_add_23 : decode cX2_add 23 = .ok (.dup, 1) := by decide +kernel
theorem dX2_add_24 : decode cX2_add 24 = .ok (.getfield 15, 3) := by decide +kernel
theorem dX2_add_27 : decode cX2_add 27 = .ok (.iconst 1, 1) := by decide +kernel
theorem dX2_add_28 : decode cX2_add 28 = .ok (.iadd, 1) := by decide +kernel
theorem dX2_add_29 : decode cX2_add 29 = .ok (.putfield 15, 3) := by decide +kernel
theorem dX2_add_32 : decode cX2_add 32 = .ok (.aload_n 0, 1) := by decide +kernel
theorem dX2_add_33 : decode cX2_add 33 = .ok (.getfield 15, 3) := by decide +kernel
theorem dX2_add_36 : decode cX2_add 36 = .ok (.ireturn, 1) := by decide +kernel
theorem dX2_clear_0 : decode cX2_clear 0 = .ok (.aload_n 0, 1) := by decide +kernel
theorem dX2_clear_1 : decode cX2_clear 1 = .ok (.getfield 15, 3) := by decide +kernel
theorem dX2_clear_4 : decode cX2_clear 4 = .ok (.istore_n 1, 1) := by decide +kernel
theorem dX2_clear_5 : decode cX2_clear 5 = .ok (.aload_n 0, 1) := by decide +kernel
theorem dX2_clear_6 : decode cX2_clear 6 = .ok (.iconst 0, 1) := by decide +kernel
theorem dX2_clear_7 : decode cX2_clear 7 = .ok (.putfield 15, 3) := by decide +kernel
theorem dX2_clear_10 : decode cX2_clear 10 = .ok (.iload_n 1, 1) := by decide +kernel
theorem dX2_clear_11 : decode cX2_clear 11 = .ok (.ireturn, 1) := by decide +kernel
theorem dX2_firstFault_0 : decode cX2_firstFault 0 = .ok (.iconst 0, 1) := by decide +kernel
theorem dX2_firstFault_1 : decode cX2_firstFault 1 = .ok (.istore_n 1, 1) := by decide +kernel
theorem dX2_firstFault_2 : decode cX2_firstFault 2 = .ok (.iload_n 1, 1) := by decide +kernel
theorem dX2_firstFault_3 : decode cX2_firstFault 3 = .ok (.aload_n 0, 1) := by decide +kernel
theorem dX2_firstFault_4 : decode cX2_firstFault 4 = .ok (.getfield 15, 3) := by decide +kernel
theorem dX2_firstFault_7 : decode cX2_firstFault 7 = .ok (.if_icmp .ge 19, 3) := by decide +kernel
theorem dX2_firstFault_10 : decode cX2_firstFault 10 = .ok (.aload_n 0, 1) := by decide +kernel
theorem dX2_firstFault_11 : decode cX2_firstFault 11 = .ok (.iload_n 1, 1) := by decide +kernel
theorem dX2_firstFault_12 : decode cX2_firstFault 12 = .ok (.invokevirtual 19, 3) := by decide +kernel
theorem dX2_firstFault_15 : decode cX2_firstFault 15 = .ok (.ifCond .ne 5, 3) := by decide +kernel
theorem dX2_firstFault_18 : decode cX2_firstFault 18 = .ok (.iload_n 1, 1) := by decide +kernel
theorem dX2_firstFault_19 : decode cX2_firstFault 19 = .ok (.ireturn, 1) := by decide +kernel
theorem dX2_firstFault_20 : decode cX2_firstFault 20 = .ok (.iinc 1 1, 3) := by decide +kernel
theorem dX2_firstFault_23 : decode cX2_firstFault 23 = .ok (.goto (-21), 3) := by decide +kernel
theorem dX2_firstFault_26 : decode cX2_firstFault 26 = .ok (.aload_n 0, 1) := by decide +kernel
theorem dX2_firstFault_27 : decode cX2_firstFault 27 = .ok (.getfield 15, 3) := by decide +kernel
theorem dX2_firstFault_30 : decode cX2_firstFault 30 = .ok (.ireturn, 1) := by decide +kernel
set_option maxRecDepth 20000 in
theorem ggX2_isHall_X2_firstFault : GoodIn wsX2_isHall wsX2_firstFault := goodIn_r _ [6, 1, 7, 8, 9, 5, 10, 11, 12, 13, 14, 15, 16, 17] (by decide +kernel) (by decide +kernel)
set_option maxRecDepth 20000 in
theorem gX2_isHall_X2_firstFault : GoodIn wsX2_isHall (wsV RX2 23 RX2 yX2_firstFault wsX2_firstFault) := goodIn_app (goodIn_of _ (by decide +kernel)) ggX2_isHall_X2_firstFault
theorem dX2_isHall_0 : decode cX2_isHall 0 = .ok (.aload_n 0, 1) := by decide +kernel
theorem dX2_isHall_1 : decode cX2_isHall 1 = .ok (.getfield 15, 3) := by decide +kernel
theorem dX2_isHall_4 : decode cX2_isHall 4 = .ok (.bipush 23, 2) := by decide +kernel
theorem dX2_isHall_6 : decode cX2_isHall 6 = .ok (.if_icmp .ne 16, 3) := by decide +kernel
theorem dX2_isHall_9 : decode cX2_isHall 9 = .ok (.aload_n 0, 1) := by decide +kernel
theorem dX2_isHall_10 : decode cX2_isHall 10 = .ok (.invokevirtual 23, 3) := by decide +kernel
theorem dX2_isHall_13 : decode cX2_isHall 13 = .ok (.bipush 23, 2) := by decide +kernel
theorem dX2_isHall_15 : decode cX2_isHall 15 = .ok (.if_icmp .ne 7, 3) := by decide +kernel
theorem dX2_isHall_18 : decode cX2_isHall 18 = .ok (.iconst 1, 1) := by decide +kernel
theorem dX2_isHall_19 : decode cX2_isHall 19 = .ok (.goto 4, 3) := by decide +kernel
theorem dX2_isHall_22 : decode cX2_isHall 22 = .ok (.iconst 0, 1) := by decide +kernel
theorem dX2_isHall_23 : decode cX2_isHall 23 = .ok (.ireturn, 1) := by decide +kernel
theorem dX3_init_0 : decode cX3_init 0 = .ok (.aload_n 0, 1) := by decide +kernel
theorem dX3_init_1 : decode cX3_init 1 = .ok (.invokespecial 3, 3) := by decide +kernel
theorem dX3_init_4 : decode cX3_init 4 = .ok (.aload_n 0, 1) := by decide +kernel
theorem dX3_init_5 : decode cX3_init 5 = .ok (.bipush 80, 2) := by decide +kernel
theorem dX3_init_7 : decode cX3_init 7 = .ok (.newarray .int, 2) := by decide +kernel
theorem dX3_init_9 : decode cX3_init 9 = .ok (.putfield 9, 3) := by decide +kernel
theorem dX3_init_12 : decode cX3_init 12 = .ok (.aload_n 0, 1) := by decide +kernel
theorem dX3_init_13 : decode cX3_init 13 = .ok (.bipush 80, 2) := by decide +kernel
theorem dX3_init_15 : decode cX3_init 15 = .ok (.newarray .int, 2) := by decide +kernel
theorem dX3_init_17 : decode cX3_init 17 = .ok (.putfield 15, 3) := by decide +kernel
theorem dX3_init_20 : decode cX3_init 20 = .ok (.aload_n 0, 1) := by decide +kernel
theorem dX3_init_21 : decode cX3_init 21 = .ok (.bipush 80, 2) := by decide +kernel
theorem dX3_init_23 : decode cX3_init 23 = .ok (.newarray .int, 2) := by decide +kernel
theorem dX3_init_25 : decode cX3_init 25 = .ok (.putfield 18, 3) := by decide +kernel
theorem dX3_init_28 : decode cX3_init 28 = .ok (.aload_n 0, 1) := by decide +kernel
theorem dX3_init_29 : decode cX3_init 29 = .ok (.iconst 0, 1) := by decide +kernel
theorem dX3_init_30 : decode cX3_init 30 = .ok (.putfield 21, 3) := by decide +kernel
theorem dX3_init_33 : decode cX3_init 33 = .ok (.return_, 1) := by decide +kernel
set_option maxRecDepth 20000 in
theorem ggX4_init_X1_init : GoodIn wsX4_init wsX1_init := goodIn_r _ [17, 18, 2, 3, 19, 20, 21, 58, 59, 60] (by decide +kernel) (by decide +kernel)
set_option maxRecDepth 20000 in
theorem gX4_init_X1_init_n11 : GoodIn wsX4_init (wsX1_init) := ggX4_init_X1_init
set_option maxRecDepth 20000 in
theorem ggX4_init_X0_init : GoodIn wsX4_init wsX0_init := goodIn_r _ [23, 24, 2, 3, 25, 26, 27, 28, 29, 30, 31, 32, 33, 64, 65, 66, 67, 68, 69, 70, 71] (by decide +kernel) (by decide +kernel)
set_option maxRecDepth 20000 in
theorem gX4_init_X0_init_n20 : GoodIn wsX4_init (wsX0_init) := ggX4_init_X0_init
set_option maxRecDepth 20000 in
theorem ggX4_init_X5_init : GoodIn wsX4_init wsX5_init := goodIn_r _ [36, 37, 2, 3, 28, 38, 39, 40, 41, 42, 43, 44, 45, 46, 14, 47, 48, 49, 50, 51, 52, 53, 54, 55, 56, 57, 72, 73] (by decide +kernel) (by decide +kernel)
set_option maxRecDepth 20000 in
theorem gX4_init_X5_init : GoodIn wsX4_init (wsX5_init) := ggX4_init_X5_init
theorem dX4_init_0 : decode cX4_init 0 = .ok (.aload_n 0, 1) := by decide +kernel
theorem dX4_init_1 : decode cX4_init 1 = .ok (.invokespecial 3, 3) := by decide +kernel
theorem dX4_init_4 : decode cX4_init 4 = .ok (.aload_n 0, 1) := by decide +kernel
theorem dX4_init_5 : decode cX4_init 5 = .ok (.new 9, 3) := by decide +kernel
theorem dX4_init_8 : decode cX4_init 8 = .ok (.dup, 1) := by decide +kernel
theorem dX4_init_9 : decode cX4_init 9 = .ok (.invokespecial 11, 3) := by decide +kernel
theorem dX4_init_12 : decode cX4_init 12 = .ok (.putfield 12, 3) := by decide +kernel
theorem dX4_init_15 : decode cX4_init 15 = .ok (.aload_n 0, 1) := by decide +kernel
theorem dX4_init_16 : decode cX4_init 16 = .ok (.new 18, 3) := by decide +kernel
theorem dX4_init_19 : decode cX4_init 19 = .ok (.dup, 1) := by decide +kernel
theorem dX4_init_20 : decode cX4_init 20 = .ok (.invokespecial 20, 3) := by decide +kernel
theorem dX4_init_23 : decode cX4_init 23 = .ok (.putfield 21, 3) := by decide +kernel
theorem dX4_init_26 : decode cX4_init 26 = .ok (.aload_n 0, 1) := by decide +kernel
theorem dX4_init_27 : decode cX4_init 27 = .ok (.new 25, 3) := by decide +kernel
theorem dX4_init_30 : decode cX4_init 30 = .ok (.dup, 1) := by decide +kernel
theorem dX4_init_31 : decode cX4_init 31 = .ok (.invokespecial 27, 3) := by decide +kernel
theorem dX4_init_34 : decode cX4_init 34 = .ok (.putfield 28, 3) := by decide +kernel
theorem dX4_init_37 : decode cX4_init 37 = .ok (.return_, 1) := by decide +kernel
set_option maxRecDepth 20000 in
theorem ggX4_guiltyIf_X0_people : GoodIn wsX4_guiltyIf wsX0_people := goodIn_r _ [10, 11, 12, 13, 14, 15, 55, 56, 57, 58, 59, 60, 61, 62] (by decide +kernel) (by decide +kernel)
set_option maxRecDepth 20000 in
theorem gX4_guiltyIf_X0_people : GoodIn wsX4_guiltyIf (wsV RX4 36 RX0 yX0_people wsX0_people) := goodIn_app (goodIn_of _ (by decide +kernel)) ggX4_guiltyIf_X0_people
set_option maxRecDepth 20000 in
theorem ggX4_guiltyIf_X6_bit : GoodIn wsX4_guiltyIf wsX6_bit := goodIn_r _ [15] (by decide +kernel) (by decide +kernel)
set_option maxRecDepth 20000 in
theorem gX4_guiltyIf_X6_bit_n47 : GoodIn wsX4_guiltyIf (wsX6_bit) := ggX4_guiltyIf_X6_bit
theorem dX4_guiltyIf_0 : decode cX4_guiltyIf 0 = .ok (.aload_n 0, 1) := by decide +kernel
theorem dX4_guiltyIf_1 : decode cX4_guiltyIf 1 = .ok (.getfield 21, 3) := by decide +kernel
theorem dX4_guiltyIf_4 : decode cX4_guiltyIf 4 = .ok (.invokevirtual 36, 3) := by decide +kernel
theorem dX4_guiltyIf_7 : decode cX4_guiltyIf 7 = .ok (.istore_n 3, 1) := by decide +kernel
theorem dX4_guiltyIf_8 : decode cX4_guiltyIf 8 = .ok (.iconst 0, 1) := by decide +kernel
theorem dX4_guiltyIf_9 : decode cX4_guiltyIf 9 = .ok (.istore 4, 2) := by decide +kernel
theorem dX4_guiltyIf_11 : decode cX4_guiltyIf 11 = .ok (.iconst 0, 1) := by decide +kernel
theorem dX4_guiltyIf_12 : decode cX4_guiltyIf 12 = .ok (.istore 5, 2) := by decide +kernel
theorem dX4_guiltyIf_14 : decode cX4_guiltyIf 14 = .ok (.iload 5, 2) := by decide +kernel
theorem dX4_guiltyIf_16 : decode cX4_guiltyIf 16 = .ok (.aload_n 0, 1) := by decide +kernel
theorem dX4_guiltyIf_17 : decode cX4_guiltyIf 17 = .ok (.getfield 21, 3) := by decide +kernel
theorem dX4_guiltyIf_20 : decode cX4_guiltyIf 20 = .ok (.getfield 69, 3) := by decide +kernel
theorem dX4_guiltyIf_23 : decode cX4_guiltyIf 23 = .ok (.if_icmp .ge 52, 3) := by decide +kernel
theorem dX4_guiltyIf_26 : decode cX4_guiltyIf 26 = .ok (.aload_n 0, 1) := by decide +kernel
theorem dX4_guiltyIf_27 : decode cX4_guiltyIf 27 = .ok (.getfield 28, 3) := by decide +kernel
theorem dX4_guiltyIf_30 : decode cX4_guiltyIf 30 = .ok (.aload_n 0, 1) := by decide +kernel
theorem dX4_guiltyIf_31 : decode cX4_guiltyIf 31 = .ok (.getfield 21, 3) := by decide +kernel
theorem dX4_guiltyIf_34 : decode cX4_guiltyIf 34 = .ok (.getfield 58, 3) := by decide +kernel
theorem dX4_guiltyIf_37 : decode cX4_guiltyIf 37 = .ok (.iload 5, 2) := by decide +kernel
theorem dX4_guiltyIf_39 : decode cX4_guiltyIf 39 = .ok (.iaload, 1) := by decide +kernel
theorem dX4_guiltyIf_40 : decode cX4_guiltyIf 40 = .ok (.aload_n 0, 1) := by decide +kernel
theorem dX4_guiltyIf_41 : decode cX4_guiltyIf 41 = .ok (.getfield 21, 3) := by decide +kernel
theorem dX4_guiltyIf_44 : decode cX4_guiltyIf 44 = .ok (.getfield 62, 3) := by decide +kernel
theorem dX4_guiltyIf_47 : decode cX4_guiltyIf 47 = .ok (.iload 5, 2) := by decide +kernel
theorem dX4_guiltyIf_49 : decode cX4_guiltyIf 49 = .ok (.iaload, 1) := by decide +kernel
theorem dX4_guiltyIf_50 : decode cX4_guiltyIf 50 = .ok (.iload_n 1, 1) := by decide +kernel
theorem dX4_guiltyIf_51 : decode cX4_guiltyIf 51 = .ok (.iload_n 2, 1) := by decide +kernel
theorem dX4_guiltyIf_52 : decode cX4_guiltyIf 52 = .ok (.iload_n 3, 1) := by decide +kernel
theorem dX4_guiltyIf_53 : decode cX4_guiltyIf 53 = .ok (.invokevirtual 76, 3) := by decide +kernel
theorem dX4_guiltyIf_56 : decode cX4_guiltyIf 56 = .ok (.ifCond .eq 13, 3) := by decide +kernel
theorem dX4_guiltyIf_59 : decode cX4_guiltyIf 59 = .ok (.iload 4, 2) := by decide +kernel
theorem dX4_guiltyIf_61 : decode cX4_guiltyIf 61 = .ok (.iload 5, 2) := by decide +kernel
theorem dX4_guiltyIf_63 : decode cX4_guiltyIf 63 = .ok (.invokestatic 47, 3) := by decide +kernel
theorem dX4_guiltyIf_66 : decode cX4_guiltyIf 66 = .ok (.ior, 1) := by decide +kernel
theorem dX4_guiltyIf_67 : decode cX4_guiltyIf 67 = .ok (.istore 4, 2) := by decide +kernel
theorem dX4_guiltyIf_69 : decode cX4_guiltyIf 69 = .ok (.iinc 5 1, 3) := by decide +kernel
theorem dX4_guiltyIf_72 : decode cX4_guiltyIf 72 = .ok (.goto (-58), 3) := by decide +kernel
theorem dX4_guiltyIf_75 : decode cX4_guiltyIf 75 = .ok (.iload 4, 2) := by decide +kernel
theorem dX4_guiltyIf_77 : decode cX4_guiltyIf 77 = .ok (.ireturn, 1) := by decide +kernel
set_option maxRecDepth 20000 in
theorem ggX4_after_X6_placeOf : GoodIn wsX4_after wsX6_placeOf := goodIn_r _ [6] (by decide +kernel) (by decide +kernel)
set_option maxRecDepth 20000 in
theorem gX4_after_X6_placeOf_n43 : GoodIn wsX4_after (wsX6_placeOf) := ggX4_after_X6_placeOf
set_option maxRecDepth 20000 in
theorem ggX4_after_X6_sideOf : GoodIn wsX4_after wsX6_sideOf := goodIn_r _ [8] (by decide +kernel) (by decide +kernel)
set_option maxRecDepth 20000 in
theorem gX4_after_X6_sideOf_n80 : GoodIn wsX4_after (wsX6_sideOf) := ggX4_after_X6_sideOf
set_option maxRecDepth 20000 in
theorem ggX4_after_X6_neighbour : GoodIn wsX4_after wsX6_neighbour := goodIn_r _ [12, 13, 14, 15, 16, 5, 17] (by decide +kernel) (by decide +kernel)
set_option maxRecDepth 20000 in
theorem gX4_after_X6_neighbour_n87 : GoodIn wsX4_after (wsX6_neighbour) := ggX4_after_X6_neighbour
set_option maxRecDepth 20000 in
theorem ggX4_after_X0_people : GoodIn wsX4_after wsX0_people := goodIn_r _ [22, 23, 24, 25, 5, 26, 36, 37, 38, 39, 40, 41, 42, 43] (by decide +kernel) (by decide +kernel)
set_option maxRecDepth 20000 in
theorem gX4_after_X0_people : GoodIn wsX4_after (wsV RX4 36 RX0 yX0_people wsX0_people) := goodIn_app (goodIn_of _ (by decide +kernel)) ggX4_after_X0_people
theorem dX4_after_0 : decode cX4_after 0 = .ok (.iload_n 1, 1) := by decide +kernel
theorem dX4_after_1 : decode cX4_after 1 = .ok (.iconst (-1), 1) := by decide +kernel
theorem dX4_after_2 : decode cX4_after 2 = .ok (.if_icmp .ne 5, 3) := by decide +kernel
theorem dX4_after_5 : decode cX4_after 5 = .ok (.iconst (-1), 1) := by decide +kernel
theorem dX4_after_6 : decode cX4_after 6 = .ok (.ireturn, 1) := by decide +kernel
theorem dX4_after_7 : decode cX4_after 7 = .ok (.iload_n 1, 1) := by decide +kernel
theorem dX4_after_8 : decode cX4_after 8 = .ok (.invokestatic 43, 3) := by decide +kernel
theorem dX4_after_11 : decode cX4_after 11 = .ok (.istore_n 3, 1) := by decide +kernel
theorem dX4_after_12 : decode cX4_after 12 = .ok (.iload_n 1, 1) := by decide +kernel
theorem dX4_after_13 : decode cX4_after 13 = .ok (.invokestatic 80, 3) := by decide +kernel
theorem dX4_after_16 : decode cX4_after 16 = .ok (.istore 4, 2) := by decide +kernel
theorem dX4_after_18 : decode cX4_after 18 = .ok (.iload_n 2, 1) := by decide +kernel
theorem dX4_after_19 : decode cX4_after 19 = .ok (.ifCond .ne 16, 3) := by decide +kernel
theorem dX4_after_22 : decode cX4_after 22 = .ok (.iload_n 3, 1) := by decide +kernel
theorem dX4_after_23 : decode cX4_after 23 = .ok (.iload 4, 2) := by decide +kernel
theorem dX4_after_25 : decode cX4_after 25 = .ok (.iconst 4, 1) := by decide +kernel
theorem dX4_after_26 : decode cX4_after 26 = .ok (.iadd, 1) := by decide +kernel
theorem dX4_after_27 : decode cX4_after 27 = .ok (.iconst 1, 1) := by decide +kernel
theorem dX4_after_28 : decode cX4_after 28 = .ok (.isub, 1) := by decide +kernel
theorem dX4_after_29 : decode cX4_after 29 = .ok (.iconst 4, 1) := by decide +kernel
theorem dX4_after_30 : decode cX4_after 30 = .ok (.irem, 1) := by decide +kernel
theorem dX4_after_31 : decode cX4_after 31 = .ok (.invokestatic 83, 3) := by decide +kernel
theorem dX4_after_34 : decode cX4_after 34 = .ok (.ireturn, 1) := by decide +kernel
theorem dX4_after_35 : decode cX4_after 35 = .ok (.iload_n 2, 1) := by decide +kernel
theorem dX4_after_36 : decode cX4_after 36 = .ok (.iconst 1, 1) := by decide +kernel
theorem dX4_after_37 : decode cX4_after 37 = .ok (.if_icmp .ne 14, 3) := by decide +kernel
theorem dX4_after_40 : decode cX4_after 40 = .ok (.iload_n 3, 1) := by decide +kernel
theorem dX4_after_41 : decode cX4_after 41 = .ok (.iload 4, 2) := by decide +kernel
theorem dX4_after_43 : decode cX4_after 43 = .ok (.iconst 1, 1) := by decide +kernel
theorem dX4_after_44 : decode cX4_after 44 = .ok (.iadd, 1) := by decide +kernel
theorem dX4_after_45 : decode cX4_after 45 = .ok (.iconst 4, 1) := by decide +kernel
theorem dX4_after_46 : decode cX4_after 46 = .ok (.irem, 1) := by decide +kernel
theorem dX4_after_47 : decode cX4_after 47 = .ok (.invokestatic 83, 3) := by decide +kernel
theorem dX4_after_50 : decode cX4_after 50 = .ok (.ireturn, 1) := by decide +kernel
theorem dX4_after_51 : decode cX4_after 51 = .ok (.iload_n 3, 1) := by decide +kernel
theorem dX4_after_52 : decode cX4_after 52 = .ok (.iconst 2, 1) := by decide +kernel
theorem dX4_after_53 : decode cX4_after 53 = .ok (.iload 4, 2) := by decide +kernel
theorem dX4_after_55 : decode cX4_after 55 = .ok (.imul, 1) := by decide +kernel
theorem dX4_after_56 : decode cX4_after 56 = .ok (.invokestatic 87, 3) := by decide +kernel
theorem dX4_after_59 : decode cX4_after 59 = .ok (.istore 5, 2) := by decide +kernel
theorem dX4_after_61 : decode cX4_after 61 = .ok (.iload_n 2, 1) := by decide +kernel
theorem dX4_after_62 : decode cX4_after 62 = .ok (.iconst 2, 1) := by decide +kernel
theorem dX4_after_63 : decode cX4_after 63 = .ok (.if_icmp .ne 30, 3) := by decide +kernel
theorem dX4_after_66 : decode cX4_after 66 = .ok (.iload 5, 2) := by decide +kernel
theorem dX4_after_68 : decode cX4_after 68 = .ok (.aload_n 0, 1) := by decide +kernel
theorem dX4_after_69 : decode cX4_after 69 = .ok (.getfield 12, 3) := by decide +kernel
theorem dX4_after_72 : decode cX4_after 72 = .ok (.getfield 32, 3) := by decide +kernel
theorem dX4_after_75 : decode cX4_after 75 = .ok (.aload_n 0, 1) := by decide +kernel
theorem dX4_after_76 : decode cX4_after 76 = .ok (.getfield 21, 3) := by decide +kernel
theorem dX4_after_79 : decode cX4_after 79 = .ok (.invokevirtual 36, 3) := by decide +kernel
theorem dX4_after_82 : decode cX4_after 82 = .ok (.ior, 1) := by decide +kernel
theorem dX4_after_83 : decode cX4_after 83 = .ok (.invokestatic 90, 3) := by decide +kernel
theorem dX4_after_86 : decode cX4_after 86 = .ok (.ifCond .eq 7, 3) := by decide +kernel
theorem dX4_after_89 : decode cX4_after 89 = .ok (.iconst 1, 1) := by decide +kernel
theorem dX4_after_90 : decode cX4_after 90 = .ok (.goto 4, 3) := by decide +kernel
theorem dX4_after_93 : decode cX4_after 93 = .ok (.iconst 0, 1) := by decide +kernel
theorem dX4_after_94 : decode cX4_after 94 = .ok (.istore 6, 2) := by decide +kernel
theorem dX4_after_96 : decode cX4_after 96 = .ok (.iload 6, 2) := by decide +kernel
theorem dX4_after_98 : decode cX4_after 98 = .ok (.ifCond .eq 13, 3) := by decide +kernel
theorem dX4_after_101 : decode cX4_after 101 = .ok (.iload 5, 2) := by decide +kernel
theorem dX4_after_103 : decode cX4_after 103 = .ok (.iload 4, 2) := by decide +kernel
theorem dX4_after_105 : decode cX4_after 105 = .ok (.invokestatic 83, 3) := by decide +kernel
theorem dX4_after_108 : decode cX4_after 108 = .ok (.goto 4, 3) := by decide +kernel
theorem dX4_after_111 : decode cX4_after 111 = .ok (.iconst (-1), 1) := by decide +kernel
theorem dX4_after_112 : decode cX4_after 112 = .ok (.ireturn, 1) := by decide +kernel
set_option maxRecDepth 20000 in
theorem ggX5_init_X5_follow : GoodIn wsX5_init wsX5_follow := goodIn_r _ [15, 5, 6, 16, 17, 18, 19, 20, 21, 22, 23, 24, 25, 26, 27] (by decide +kernel) (by decide +kernel)
set_option maxRecDepth 20000 in
theorem gX5_init_X5_follow : GoodIn wsX5_init (wsV RX5 24 RX5 yX5_follow wsX5_follow) := goodIn_app (goodIn_of _ (by decide +kernel)) ggX5_init_X5_follow
theorem dX5_init_0 : decode cX5_init 0 = .ok (.aload_n 0, 1) := by decide +kernel
theorem dX5_init_1 : decode cX5_init 1 = .ok (.invokespecial 3, 3) := by decide +kernel
theorem dX5_init_4 : decode cX5_init 4 = .ok (.aload_n 0, 1) := by decide +kernel
theorem dX5_init_5 : decode cX5_init 5 = .ok (.sipush 400, 3) := by decide +kernel
theorem dX5_init_8 : decode cX5_init 8 = .ok (.newarray .int, 2) := by decide +kernel
theorem dX5_init_10 : decode cX5_init 10 = .ok (.putfield 9, 3) := by decide +kernel
theorem dX5_init_13 : decode cX5_init 13 = .ok (.aload_n 0, 1) := by decide +kernel
theorem dX5_init_14 : decode cX5_init 14 = .ok (.sipush 400, 3) := by decide +kernel
theorem dX5_init_17 : decode cX5_init 17 = .ok (.newarray .int, 2) := by decide +kernel
theorem dX5_init_19 : decode cX5_init 19 = .ok (.putfield 15, 3) := by decide +kernel
theorem dX5_init_22 : decode cX5_init 22 = .ok (.aload_n 0, 1) := by decide +kernel
theorem dX5_init_23 : decode cX5_init 23 = .ok (.getfield 9, 3) := by decide +kernel
theorem dX5_init_26 : decode cX5_init 26 = .ok (.iconst (-1), 1) := by decide +kernel
theorem dX5_init_27 : decode cX5_init 27 = .ok (.invokestatic 18, 3) := by decide +kernel
theorem dX5_init_30 : decode cX5_init 30 = .ok (.iconst 0, 1) := by decide +kernel
theorem dX5_init_31 : decode cX5_init 31 = .ok (.istore_n 1, 1) := by decide +kernel
theorem dX5_init_32 : decode cX5_init 32 = .ok (.iload_n 1, 1) := by decide +kernel
theorem dX5_init_33 : decode cX5_init 33 = .ok (.bipush 20, 2) := by decide +kernel
theorem dX5_init_35 : decode cX5_init 35 = .ok (.if_icmp .ge 29, 3) := by decide +kernel
theorem dX5_init_38 : decode cX5_init 38 = .ok (.iconst 0, 1) := by decide +kernel
theorem dX5_init_39 : decode cX5_init 39 = .ok (.istore_n 2, 1) := by decide +kernel
theorem dX5_init_40 : decode cX5_init 40 = .ok (.iload_n 2, 1) := by decide +kernel
theorem dX5_init_41 : decode cX5_init 41 = .ok (.bipush 8, 2) := by decide +kernel
theorem dX5_init_43 : decode cX5_init 43 = .ok (.if_icmp .ge 15, 3) := by decide +kernel
theorem dX5_init_46 : decode cX5_init 46 = .ok (.aload_n 0, 1) := by decide +kernel
theorem dX5_init_47 : decode cX5_init 47 = .ok (.iload_n 1, 1) := by decide +kernel
theorem dX5_init_48 : decode cX5_init 48 = .ok (.iload_n 2, 1) := by decide +kernel
theorem dX5_init_49 : decode cX5_init 49 = .ok (.invokevirtual 24, 3) := by decide +kernel
theorem dX5_init_52 : decode cX5_init 52 = .ok (.iinc 2 1, 3) := by decide +kernel
theorem dX5_init_55 : decode cX5_init 55 = .ok (.goto (-15), 3) := by decide +kernel
theorem dX5_init_58 : decode cX5_init 58 = .ok (.iinc 1 1, 3) := by decide +kernel
theorem dX5_init_61 : decode cX5_init 61 = .ok (.goto (-29), 3) := by decide +kernel
theorem dX5_init_64 : decode cX5_init 64 = .ok (.return_, 1) := by decide +kernel
set_option maxRecDepth 20000 in
theorem ggX5_follow_X6_neighbour : GoodIn wsX5_follow wsX6_neighbour := goodIn_r _ [5, 6, 7, 8, 9, 4, 10] (by decide +kernel) (by decide +kernel)
set_option maxRecDepth 20000 in
theorem gX5_follow_X6_neighbour_n28 : GoodIn wsX5_follow (wsX6_neighbour) := ggX5_follow_X6_neighbour
set_option maxRecDepth 20000 in
theorem ggX5_follow_X6_isPlace : GoodIn wsX5_follow wsX6_isPlace := goodIn_r _ [10] (by decide +kernel) (by decide +kernel)
set_option maxRecDepth 20000 in
theorem gX5_follow_X6_isPlace_n32 : GoodIn wsX5_follow (wsX6_isPlace) := ggX5_follow_X6_isPlace
set_option maxRecDepth 20000 in
theorem ggX5_follow_X6_bit : GoodIn wsX5_follow wsX6_bit := goodIn_r _ [12] (by decide +kernel) (by decide +kernel)
set_option maxRecDepth 20000 in
theorem gX5_follow_X6_bit_n36 : GoodIn wsX5_follow (wsX6_bit) := ggX5_follow_X6_bit
theorem dX5_follow_0 : decode cX5_follow 0 = .ok (.iconst 0, 1) := by decide +kernel
theorem dX5_follow_1 : decode cX5_follow 1 = .ok (.istore_n 3, 1) := by decide +kernel
theorem dX5_follow_2 : decode cX5_follow 2 = .ok (.iload_n 1, 1) := by decide +kernel
theorem dX5_follow_3 : decode cX5_follow 3 = .ok (.iload_n 2, 1) := by decide +kernel
theorem dX5_follow_4 : decode cX5_follow 4 = .ok (.invokestatic 28, 3) := by decide +kernel
theorem dX5_follow_7 : decode cX5_follow 7 = .ok (.istore 4, 2) := by decide +kernel
theorem dX5_follow_9 : decode cX5_follow 9 = .ok (.iconst 1, 1) := by decide +kernel
theorem dX5_follow_10 : decode cX5_follow 10 = .ok (.istore 5, 2) := by decide +kernel
theorem dX5_follow_12 : decode cX5_follow 12 = .ok (.iload 5, 2) := by decide +kernel
theorem dX5_follow_14 : decode cX5_follow 14 = .ok (.iconst 5, 1) := by decide +kernel
theorem dX5_follow_15 : decode cX5_follow 15 = .ok (.if_icmp .ge 59, 3) := by decide +kernel
theorem dX5_follow_18 : decode cX5_follow 18 = .ok (.iload 4, 2) := by decide +kernel
theorem dX5_follow_20 : decode cX5_follow 20 = .ok (.invokestatic 32, 3) := by decide +kernel
theorem dX5_follow_23 : decode cX5_follow 23 = .ok (.ifCond .eq 51, 3) := by decide +kernel
theorem dX5_follow_26 : decode cX5_follow 26 = .ok (.aload_n 0, 1) := by decide +kernel
theorem dX5_follow_27 : decode cX5_follow 27 = .ok (.getfield 9, 3) := by decide +kernel
theorem dX5_follow_30 : decode cX5_follow 30 = .ok (.iload_n 1, 1) := by decide +kernel
theorem dX5_follow_31 : decode cX5_follow 31 = .ok (.bipush 20, 2) := by decide +kernel
theorem dX5_follow_33 : decode cX5_follow 33 = .ok (.imul, 1) := by decide +kernel
theorem dX5_follow_34 : decode cX5_follow 34 = .ok (.iload 4, 2) := by decide +kernel
theorem dX5_follow_36 : decode cX5_follow 36 = .ok (.iadd, 1) := by decide +kernel
theorem dX5_follow_37 : decode cX5_follow 37 = .ok (.iload_n 2, 1) := by decide +kernel
theorem dX5_follow_38 : decode cX5_follow 38 = .ok (.iastore, 1) := by decide +kernel
theorem dX5_follow_39 : decode cX5_follow 39 = .ok (.aload_n 0, 1) := by decide +kernel
theorem dX5_follow_40 : decode cX5_follow 40 = .ok (.getfield 15, 3) := by decide +kernel
theorem dX5_follow_43 : decode cX5_follow 43 = .ok (.iload_n 1, 1) := by decide +kernel
theorem dX5_follow_44 : decode cX5_follow 44 = .ok (.bipush 20, 2) := by decide +kernel
theorem dX5_follow_46 : decode cX5_follow 46 = .ok (.imul, 1) := by decide +kernel
theorem dX5_follow_47 : decode cX5_follow 47 = .ok (.iload 4, 2) := by decide +kernel
theorem dX5_follow_49 : decode cX5_follow 49 = .ok (.iadd, 1) := by decide +kernel
theorem dX5_follow_50 : decode cX5_follow 50 = .ok (.iload_n 3, 1) := by decide +kernel
theorem dX5_follow_51 : decode cX5_follow 51 = .ok (.iastore, 1) := by decide +kernel
theorem dX5_follow_52 : decode cX5_follow 52 = .ok (.iload_n 3, 1) := by decide +kernel
theorem dX5_follow_53 : decode cX5_follow 53 = .ok (.iload 4, 2) := by decide +kernel
theorem dX5_follow_55 : decode cX5_follow 55 = .ok (.invokestatic 36, 3) := by decide +kernel
theorem dX5_follow_58 : decode cX5_follow 58 = .ok (.ior, 1) := by decide +kernel
theorem dX5_follow_59 : decode cX5_follow 59 = .ok (.istore_n 3, 1) := by decide +kernel
theorem dX5_follow_60 : decode cX5_follow 60 = .ok (.iload 4, 2) := by decide +kernel
theorem dX5_follow_62 : decode cX5_follow 62 = .ok (.iload_n 2, 1) := by decide +kernel
theorem dX5_follow_63 : decode cX5_follow 63 = .ok (.invokestatic 28, 3) := by decide +kernel
theorem dX5_follow_66 : decode cX5_follow 66 = .ok (.istore 4, 2) := by decide +kernel
theorem dX5_follow_68 : decode cX5_follow 68 = .ok (.iinc 5 1, 3) := by decide +kernel
theorem dX5_follow_71 : decode cX5_follow 71 = .ok (.goto (-59), 3) := by decide +kernel
theorem dX5_follow_74 : decode cX5_follow 74 = .ok (.return_, 1) := by decide +kernel
theorem dJ6_bitCount_0f7a4_0 : decode cJ6_bitCount_0f7a4 0 = .ok (.iload_n 0, 1) := by decide +kernel
theorem dJ6_bitCount_0f7a4_1 : decode cJ6_bitCount_0f7a4 1 = .ok (.iload_n 0, 1) := by decide +kernel
theorem dJ6_bitCount_0f7a4_2 : decode cJ6_bitCount_0f7a4 2 = .ok (.iconst 1, 1) := by decide +kernel
theorem dJ6_bitCount_0f7a4_3 : decode cJ6_bitCount_0f7a4 3 = .ok (.iushr, 1) := by decide +kernel
theorem dJ6_bitCount_0f7a4_4 : decode cJ6_bitCount_0f7a4 4 = .ok (.ldc_w 265, 3) := by decide +kernel
theorem dJ6_bitCount_0f7a4_7 : decode cJ6_bitCount_0f7a4 7 = .ok (.iand, 1) := by decide +kernel
theorem dJ6_bitCount_0f7a4_8 : decode cJ6_bitCount_0f7a4 8 = .ok (.isub, 1) := by decide +kernel
theorem dJ6_bitCount_0f7a4_9 : decode cJ6_bitCount_0f7a4 9 = .ok (.istore_n 0, 1) := by decide +kernel
theorem dJ6_bitCount_0f7a4_10 : decode cJ6_bitCount_0f7a4 10 = .ok (.iload_n 0, 1) := by decide +kernel
theorem dJ6_bitCount_0f7a4_11 : decode cJ6_bitCount_0f7a4 11 = .ok (.ldc_w 266, 3) := by decide +kernel
theorem dJ6_bitCount_0f7a4_14 : decode cJ6_bitCount_0f7a4 14 = .ok (.iand, 1) := by decide +kernel
theorem dJ6_bitCount_0f7a4_15 : decode cJ6_bitCount_0f7a4 15 = .ok (.iload_n 0, 1) := by decide +kernel
theorem dJ6_bitCount_0f7a4_16 : decode cJ6_bitCount_0f7a4 16 = .ok (.iconst 2, 1) := by decide +kernel
theorem dJ6_bitCount_0f7a4_17 : decode cJ6_bitCount_0f7a4 17 = .ok (.iushr, 1) := by decide +kernel
theorem dJ6_bitCount_0f7a4_18 : decode cJ6_bitCount_0f7a4 18 = .ok (.ldc_w 266, 3) := by decide +kernel
theorem dJ6_bitCount_0f7a4_21 : decode cJ6_bitCount_0f7a4 21 = .ok (.iand, 1) := by decide +kernel
theorem dJ6_bitCount_0f7a4_22 : decode cJ6_bitCount_0f7a4 22 = .ok (.iadd, 1) := by decide +kernel
theorem dJ6_bitCount_0f7a4_23 : decode cJ6_bitCount_0f7a4 23 = .ok (.istore_n 0, 1) := by decide +kernel
theorem dJ6_bitCount_0f7a4_24 : decode cJ6_bitCount_0f7a4 24 = .ok (.iload_n 0, 1) := by decide +kernel
theorem dJ6_bitCount_0f7a4_25 : decode cJ6_bitCount_0f7a4 25 = .ok (.iload_n 0, 1) := by decide +kernel
theorem dJ6_bitCount_0f7a4_26 : decode cJ6_bitCount_0f7a4 26 = .ok (.iconst 4, 1) := by decide +kernel
theorem dJ6_bitCount_0f7a4_27 : decode cJ6_bitCount_0f7a4 27 = .ok (.iushr, 1) := by decide +kernel
theorem dJ6_bitCount_0f7a4_28 : decode cJ6_bitCount_0f7a4 28 = .ok (.iadd, 1) := by decide +kernel
theorem dJ6_bitCount_0f7a4_29 : decode cJ6_bitCount_0f7a4 29 = .ok (.ldc_w 267, 3) := by decide +kernel
theorem dJ6_bitCount_0f7a4_32 : decode cJ6_bitCount_0f7a4 32 = .ok (.iand, 1) := by decide +kernel
theorem dJ6_bitCount_0f7a4_33 : decode cJ6_bitCount_0f7a4 33 = .ok (.istore_n 0, 1) := by decide +kernel
theorem dJ6_bitCount_0f7a4_34 : decode cJ6_bitCount_0f7a4 34 = .ok (.iload_n 0, 1) := by decide +kernel
theorem dJ6_bitCount_0f7a4_35 : decode cJ6_bitCount_0f7a4 35 = .ok (.iload_n 0, 1) := by decide +kernel
theorem dJ6_bitCount_0f7a4_36 : decode cJ6_bitCount_0f7a4 36 = .ok (.bipush 8, 2) := by decide +kernel
theorem dJ6_bitCount_0f7a4_38 : decode cJ6_bitCount_0f7a4 38 = .ok (.iushr, 1) := by decide +kernel
theorem dJ6_bitCount_0f7a4_39 : decode cJ6_bitCount_0f7a4 39 = .ok (.iadd, 1) := by decide +kernel
theorem dJ6_bitCount_0f7a4_40 : decode cJ6_bitCount_0f7a4 40 = .ok (.istore_n 0, 1) := by decide +kernel
theorem dJ6_bitCount_0f7a4_41 : decode cJ6_bitCount_0f7a4 41 = .ok (.iload_n 0, 1) := by decide +kernel
theorem dJ6_bitCount_0f7a4_42 : decode cJ6_bitCount_0f7a4 42 = .ok (.iload_n 0, 1) := by decide +kernel
theorem dJ6_bitCount_0f7a4_43 : decode cJ6_bitCount_0f7a4 43 = .ok (.bipush 16, 2) := by decide +kernel
theorem dJ6_bitCount_0f7a4_45 : decode cJ6_bitCount_0f7a4 45 = .ok (.iushr, 1) := by decide +kernel
theorem dJ6_bitCount_0f7a4_46 : decode cJ6_bitCount_0f7a4 46 = .ok (.iadd, 1) := by decide +kernel
theorem dJ6_bitCount_0f7a4_47 : decode cJ6_bitCount_0f7a4 47 = .ok (.istore_n 0, 1) := by decide +kernel
theorem dJ6_bitCount_0f7a4_48 : decode cJ6_bitCount_0f7a4 48 = .ok (.iload_n 0, 1) := by decide +kernel
theorem dJ6_bitCount_0f7a4_49 : decode cJ6_bitCount_0f7a4 49 = .ok (.bipush 63, 2) := by decide +kernel
theorem dJ6_bitCount_0f7a4_51 : decode cJ6_bitCount_0f7a4 51 = .ok (.iand, 1) := by decide +kernel
theorem dJ6_bitCount_0f7a4_52 : decode cJ6_bitCount_0f7a4 52 = .ok (.ireturn, 1) := by decide +kernel
theorem dJ7_fill_53178_0 : decode cJ7_fill_53178 0 = .ok (.iconst 0, 1) := by decide +kernel
theorem dJ7_fill_53178_1 : decode cJ7_fill_53178 1 = .ok (.istore_n 2, 1) := by decide +kernel
theorem dJ7_fill_53178_2 : decode cJ7_fill_53178 2 = .ok (.aload_n 0, 1) := by decide +kernel
theorem dJ7_fill_53178_3 : decode cJ7_fill_53178 3 = .ok (.arraylength, 1) := by decide +kernel
theorem dJ7_fill_53178_4 : decode cJ7_fill_53178 4 = .ok (.istore_n 3, 1) := by decide +kernel
theorem dJ7_fill_53178_5 : decode cJ7_fill_53178 5 = .ok (.iload_n 2, 1) := by decide +kernel
theorem dJ7_fill_53178_6 : decode cJ7_fill_53178 6 = .ok (.iload_n 3, 1) := by decide +kernel
theorem dJ7_fill_53178_7 : decode cJ7_fill_53178 7 = .ok (.if_icmp .ge 13, 3) := by decide +kernel
theorem dJ7_fill_53178_10 : decode cJ7_fill_53178 10 = .ok (.aload_n 0, 1) := by decide +kernel
theorem dJ7_fill_53178_11 : decode cJ7_fill_53178 11 = .ok (.iload_n 2, 1) := by decide +kernel
theorem dJ7_fill_53178_12 : decode cJ7_fill_53178 12 = .ok (.iload_n 1, 1) := by decide +kernel
theorem dJ7_fill_53178_13 : decode cJ7_fill_53178 13 = .ok (.iastore, 1) := by decide +kernel
theorem dJ7_fill_53178_14 : decode cJ7_fill_53178 14 = .ok (.iinc 2 1, 3) := by decide +kernel
theorem dJ7_fill_53178_17 : decode cJ7_fill_53178 17 = .ok (.goto (-12), 3) := by decide +kernel
theorem dJ7_fill_53178_20 : decode cJ7_fill_53178 20 = .ok (.return_, 1) := by decide +kernel
end
section
set_option maxRecDepth 20000 in
theorem ggX6_init_X2_init : GoodIn wsX6_init wsX2_init := goodIn_r _ [26, 27, 2, 3, 28, 29, 30, 92, 93] (by decide +kernel) (by decide +kernel)
set_option maxRecDepth 20000 in
theorem gX6_init_X2_init_n11 : GoodIn wsX6_init (wsX2_init) := ggX6_init_X2_init
set_option maxRecDepth 20000 in
theorem ggX6_init_X4_init : GoodIn wsX6_init wsX4_init := goodIn_r _ [32, 33, 2, 3, 34, 35, 36, 37, 38, 17, 18, 39, 40, 41, 42, 43, 44, 45, 46, 47, 48, 49, 50, 51, 52, 53, 54, 55, 28, 56, 57, 58, 59, 60, 61, 62, 63, 64, 65, 66, 67, 68, 69, 70, 71, 72, 73, 74, 75, 76, 77, 78, 79, 80, 81, 82, 83, 84, 116, 117, 118, 101, 102, 103, 104, 105, 106, 107, 108, 109, 110, 111, 119, 120] (by decide +kernel) (by decide +kernel)
set_option maxRecDepth 20000 in
theorem gX6_init_X4_init_n18 : GoodIn wsX6_init (wsX4_init) := ggX6_init_X4_init
set_option maxRecDepth 20000 in
theorem ggX6_init_X0_init : GoodIn wsX6_init wsX0_init := goodIn_r _ [51, 52, 2, 3, 53, 54, 55, 28, 56, 57, 58, 59, 60, 104, 105, 106, 107, 108, 109, 110, 111] (by decide +kernel) (by decide +kernel)
set_option maxRecDepth 20000 in
theorem gX6_init_X0_init_n35 : GoodIn wsX6_init (wsX0_init) := ggX6_init_X0_init
set_option maxRecDepth 20000 in
theorem ggX6_init_X3_init : GoodIn wsX6_init wsX3_init := goodIn_r _ [86, 87, 2, 3, 28, 88, 89, 90, 91, 112, 113, 114, 115] (by decide +kernel) (by decide +kernel)
set_option maxRecDepth 20000 in
theorem gX6_init_X3_init_n41 : GoodIn wsX6_init (wsX3_init) := ggX6_init_X3_init
theorem dX6_init_0 : decode cX6_init 0 = .ok (.aload_n 0, 1) := by decide +kernel
theorem dX6_init_1 : decode cX6_init 1 = .ok (.invokespecial 3, 3) := by decide +kernel
theorem dX6_init_4 : decode cX6_init 4 = .ok (.aload_n 0, 1) := by decide +kernel
theorem dX6_init_5 : decode cX6_init 5 = .ok (.new 9, 3) := by decide +kernel
theorem dX6_init_8 : decode cX6_init 8 = .ok (.dup, 1) := by decide +kernel
theorem dX6_init_9 : decode cX6_init 9 = .ok (.invokespecial 11, 3) := by decide +kernel
theorem dX6_init_12 : decode cX6_init 12 = .ok (.putfield 12, 3) := by decide +kernel
theorem dX6_init_15 : decode cX6_init 15 = .ok (.aload_n 0, 1) := by decide +kernel
theorem dX6_init_16 : decode cX6_init 16 = .ok (.new 16, 3) := by decide +kernel
theorem dX6_init_19 : decode cX6_init 19 = .ok (.dup, 1) := by decide +kernel
theorem dX6_init_20 : decode cX6_init 20 = .ok (.invokespecial 18, 3) := by decide +kernel
theorem dX6_init_23 : decode cX6_init 23 = .ok (.putfield 19, 3) := by decide +kernel
theorem dX6_init_26 : decode cX6_init 26 = .ok (.aload_n 0, 1) := by decide +kernel
theorem dX6_init_27 : decode cX6_init 27 = .ok (.aload_n 0, 1) := by decide +kernel
theorem dX6_init_28 : decode cX6_init 28 = .ok (.getfield 19, 3) := by decide +kernel
theorem dX6_init_31 : decode cX6_init 31 = .ok (.getfield 23, 3) := by decide +kernel
theorem dX6_init_34 : decode cX6_init 34 = .ok (.putfield 27, 3) := by decide +kernel
theorem dX6_init_37 : decode cX6_init 37 = .ok (.aload_n 0, 1) := by decide +kernel
theorem dX6_init_38 : decode cX6_init 38 = .ok (.aload_n 0, 1) := by decide +kernel
theorem dX6_init_39 : decode cX6_init 39 = .ok (.getfield 19, 3) := by decide +kernel
theorem dX6_init_42 : decode cX6_init 42 = .ok (.getfield 28, 3) := by decide +kernel
theorem dX6_init_45 : decode cX6_init 45 = .ok (.putfield 32, 3) := by decide +kernel
theorem dX6_init_48 : decode cX6_init 48 = .ok (.aload_n 0, 1) := by decide +kernel
theorem dX6_init_49 : decode cX6_init 49 = .ok (.new 33, 3) := by decide +kernel
theorem dX6_init_52 : decode cX6_init 52 = .ok (.dup, 1) := by decide +kernel
theorem dX6_init_53 : decode cX6_init 53 = .ok (.invokespecial 35, 3) := by decide +kernel
theorem dX6_init_56 : decode cX6_init 56 = .ok (.putfield 36, 3) := by decide +kernel
theorem dX6_init_59 : decode cX6_init 59 = .ok (.aload_n 0, 1) := by decide +kernel
theorem dX6_init_60 : decode cX6_init 60 = .ok (.new 39, 3) := by decide +kernel
theorem dX6_init_63 : decode cX6_init 63 = .ok (.dup, 1) := by decide +kernel
theorem dX6_init_64 : decode cX6_init 64 = .ok (.invokespecial 41, 3) := by decide +kernel
theorem dX6_init_67 : decode cX6_init 67 = .ok (.putfield 42, 3) := by decide +kernel
theorem dX6_init_70 : decode cX6_init 70 = .ok (.aload_n 0, 1) := by decide +kernel
theorem dX6_init_71 : decode cX6_init 71 = .ok (.iconst 0, 1) := by decide +kernel
theorem dX6_init_72 : decode cX6_init 72 = .ok (.putfield 46, 3) := by decide +kernel
theorem dX6_init_75 : decode cX6_init 75 = .ok (.return_, 1) := by decide +kernel
set_option maxRecDepth 20000 in
theorem ggX6_letter_X2_add : GoodIn wsX6_letter wsX2_add := goodIn_r _ [6, 7, 8, 16, 17] (by decide +kernel) (by decide +kernel)
set_option maxRecDepth 20000 in
theorem gX6_letter_X2_add : GoodIn wsX6_letter (wsV RX6 50 RX2 yX2_add wsX2_add) := goodIn_app (goodIn_of _ (by decide +kernel)) ggX6_letter_X2_add
theorem dX6_letter_0 : decode cX6_letter 0 = .ok (.iload_n 1, 1) := by decide +kernel
theorem dX6_letter_1 : decode cX6_letter 1 = .ok (.bipush 32, 2) := by decide +kernel
theorem dX6_letter_3 : decode cX6_letter 3 = .ok (.if_icmp .lt 9, 3) := by decide +kernel
theorem dX6_letter_6 : decode cX6_letter 6 = .ok (.iload_n 1, 1) := by decide +kernel
theorem dX6_letter_7 : decode cX6_letter 7 = .ok (.bipush 126, 2) := by decide +kernel
theorem dX6_letter_9 : decode cX6_letter 9 = .ok (.if_icmp .le 6, 3) := by decide +kernel
theorem dX6_letter_12 : decode cX6_letter 12 = .ok (.bipush (-102), 2) := by decide +kernel
theorem dX6_letter_14 : decode cX6_letter 14 = .ok (.ireturn, 1) := by decide +kernel
theorem dX6_letter_15 : decode cX6_letter 15 = .ok (.aload_n 0, 1) := by decide +kernel
theorem dX6_letter_16 : decode cX6_letter 16 = .ok (.getfield 12, 3) := by decide +kernel
theorem dX6_letter_19 : decode cX6_letter 19 = .ok (.iload_n 1, 1) := by decide +kernel
theorem dX6_letter_20 : decode cX6_letter 20 = .ok (.invokevirtual 50, 3) := by decide +kernel
theorem dX6_letter_23 : decode cX6_letter 23 = .ok (.ireturn, 1) := by decide +kernel
set_option maxRecDepth 20000 in
theorem ggX6_blank_X2_clear : GoodIn wsX6_blank wsX2_clear := goodIn_r _ [6, 7, 15, 16] (by decide +kernel) (by decide +kernel)
set_option maxRecDepth 20000 in
theorem gX6_blank_X2_clear : GoodIn wsX6_blank (wsV RX6 54 RX2 yX2_clear wsX2_clear) := goodIn_app (goodIn_of _ (by decide +kernel)) ggX6_blank_X2_clear
theorem dX6_blank_0 : decode cX6_blank 0 = .ok (.aload_n 0, 1) := by decide +kernel
theorem dX6_blank_1 : decode cX6_blank 1 = .ok (.getfield 12, 3) := by decide +kernel
theorem dX6_blank_4 : decode cX6_blank 4 = .ok (.invokevirtual 54, 3) := by decide +kernel
theorem dX6_blank_7 : decode cX6_blank 7 = .ok (.ireturn, 1) := by decide +kernel
set_option maxRecDepth 20000 in
theorem ggX6_fault_X2_firstFault : GoodIn wsX6_fault wsX2_firstFault := goodIn_r _ [6, 7, 8, 9, 10, 5, 11, 12, 13, 14, 15, 16, 24, 25] (by decide +kernel) (by decide +kernel)
set_option maxRecDepth 20000 in
theorem gX6_fault_X2_firstFault : GoodIn wsX6_fault (wsV RX6 58 RX2 yX2_firstFault wsX2_firstFault) := goodIn_app (goodIn_of _ (by decide +kernel)) ggX6_fault_X2_firstFault
theorem dX6_fault_0 : decode cX6_fault 0 = .ok (.aload_n 0, 1) := by decide +kernel
theorem dX6_fault_1 : decode cX6_fault 1 = .ok (.getfield 12, 3) := by decide +kernel
theorem dX6_fault_4 : decode cX6_fault 4 = .ok (.invokevirtual 58, 3) := by decide +kernel
theorem dX6_fault_7 : decode cX6_fault 7 = .ok (.ireturn, 1) := by decide +kernel
set_option maxRecDepth 20000 in
theorem ggX6_hall_X2_isHall : GoodIn wsX6_hall wsX2_isHall := goodIn_r _ [9, 10, 11, 12, 13, 8, 14, 15, 16, 17, 18, 19, 20, 21, 22, 23, 67, 68] (by decide +kernel) (by decide +kernel)
set_option maxRecDepth 20000 in
theorem gX6_hall_X2_isHall : GoodIn wsX6_hall (wsV RX6 61 RX2 yX2_isHall wsX2_isHall) := goodIn_app (goodIn_of _ (by decide +kernel)) ggX6_hall_X2_isHall
set_option maxRecDepth 20000 in
theorem ggX6_hall_X2_clear : GoodIn wsX6_hall wsX2_clear := goodIn_r _ [49, 10, 67, 68] (by decide +kernel) (by decide +kernel)
set_option maxRecDepth 20000 in
theorem gX6_hall_X2_clear : GoodIn wsX6_hall (wsV RX6 54 RX2 yX2_clear wsX2_clear) := goodIn_app (goodIn_of _ (by decide +kernel)) ggX6_hall_X2_clear
theorem dX6_hall_0 : decode cX6_hall 0 = .ok (.aload_n 0, 1) := by decide +kernel
theorem dX6_hall_1 : decode cX6_hall 1 = .ok (.getfield 12, 3) := by decide +kernel
theorem dX6_hall_4 : decode cX6_hall 4 = .ok (.invokevirtual 61, 3) := by decide +kernel
theorem dX6_hall_7 : decode cX6_hall 7 = .ok (.ifCond .ne 6, 3) := by decide +kernel
theorem dX6_hall_10 : decode cX6_hall 10 = .ok (.bipush (-103), 2) := by decide +kernel
theorem dX6_hall_12 : decode cX6_hall 12 = .ok (.ireturn, 1) := by decide +kernel
theorem dX6_hall_13 : decode cX6_hall 13 = .ok (.aload_n 0, 1) := by decide +kernel
theorem dX6_hall_14 : decode cX6_hall 14 = .ok (.getfield 27, 3) := by decide +kernel
theorem dX6_hall_17 : decode cX6_hall 17 = .ok (.aload_n 0, 1) := by decide +kernel
theorem dX6_hall_18 : decode cX6_hall 18 = .ok (.getfield 12, 3) := by decide +kernel
theorem dX6_hall_21 : decode cX6_hall 21 = .ok (.invokevirtual 65, 3) := by decide +kernel
theorem dX6_hall_24 : decode cX6_hall 24 = .ok (.aload_n 0, 1) := by decide +kernel
theorem dX6_hall_25 : decode cX6_hall 25 = .ok (.getfield 12, 3) := by decide +kernel
theorem dX6_hall_28 : decode cX6_hall 28 = .ok (.invokevirtual 54, 3) := by decide +kernel
theorem dX6_hall_31 : decode cX6_hall 31 = .ok (.pop, 1) := by decide +kernel
theorem dX6_hall_32 : decode cX6_hall 32 = .ok (.aload_n 0, 1) := by decide +kernel
theorem dX6_hall_33 : decode cX6_hall 33 = .ok (.getfield 32, 3) := by decide +kernel
theorem dX6_hall_36 : decode cX6_hall 36 = .ok (.invokevirtual 71, 3) := by decide +kernel
theorem dX6_hall_39 : decode cX6_hall 39 = .ok (.aload_n 0, 1) := by decide +kernel
theorem dX6_hall_40 : decode cX6_hall 40 = .ok (.getfield 27, 3) := by decide +kernel
theorem dX6_hall_43 : decode cX6_hall 43 = .ok (.getfield 74, 3) := by decide +kernel
theorem dX6_hall_46 : decode cX6_hall 46 = .ok (.ireturn, 1) := by decide +kernel
set_option maxRecDepth 20000 in
theorem ggX6_on_X6_isPlace : GoodIn wsX6_on wsX6_isPlace := goodIn_r _ [8] (by decide +kernel) (by decide +kernel)
set_option maxRecDepth 20000 in
theorem gX6_on_X6_isPlace : GoodIn wsX6_on (va_wsS RX6 77 yX6_isPlace wsX6_isPlace) := goodIn_app (goodIn_of _ (by decide +kernel)) ggX6_on_X6_isPlace
set_option maxRecDepth 20000 in
theorem ggX6_on_X1_isMissing : GoodIn wsX6_on wsX1_isMissing := goodIn_r _ [13, 14, 38, 39, 40] (by decide +kernel) (by decide +kernel)
set_option maxRecDepth 20000 in
theorem gX6_on_X1_isMissing : GoodIn wsX6_on (wsV RX6 81 RX1 yX1_isMissing wsX1_isMissing) := goodIn_app (goodIn_of _ (by decide +kernel)) ggX6_on_X1_isMissing
set_option maxRecDepth 20000 in
theorem ggX6_on_X6_placeOf : GoodIn wsX6_on wsX6_placeOf := goodIn_r _ [23] (by decide +kernel) (by decide +kernel)
set_option maxRecDepth 20000 in
theorem gX6_on_X6_placeOf : GoodIn wsX6_on (va_wsS RX6 94 yX6_placeOf wsX6_placeOf) := goodIn_app (goodIn_of _ (by decide +kernel)) ggX6_on_X6_placeOf
theorem dX6_on_0 : decode cX6_on 0 = .ok (.iload_n 1, 1) := by decide +kernel
theorem dX6_on_1 : decode cX6_on 1 = .ok (.invokestatic 77, 3) := by decide +kernel
theorem dX6_on_4 : decode cX6_on 4 = .ok (.ifCond .ne 6, 3) := by decide +kernel
theorem dX6_on_7 : decode cX6_on 7 = .ok (.bipush (-101), 2) := by decide +kernel
theorem dX6_on_9 : decode cX6_on 9 = .ok (.ireturn, 1) := by decide +kernel
theorem dX6_on_10 : decode cX6_on 10 = .ok (.aload_n 0, 1) := by decide +kernel
theorem dX6_on_11 : decode cX6_on 11 = .ok (.getfield 27, 3) := by decide +kernel
theorem dX6_on_14 : decode cX6_on 14 = .ok (.invokevirtual 81, 3) := by decide +kernel
theorem dX6_on_17 : decode cX6_on 17 = .ok (.ifCond .eq 6, 3) := by decide +kernel
theorem dX6_on_20 : decode cX6_on 20 = .ok (.bipush (-103), 2) := by decide +kernel
theorem dX6_on_22 : decode cX6_on 22 = .ok (.ireturn, 1) := by decide +kernel
theorem dX6_on_23 : decode cX6_on 23 = .ok (.iload_n 1, 1) := by decide +kernel
theorem dX6_on_24 : decode cX6_on 24 = .ok (.aload_n 0, 1) := by decide +kernel
theorem dX6_on_25 : decode cX6_on 25 = .ok (.getfield 27, 3) := by decide +kernel
theorem dX6_on_28 : decode cX6_on 28 = .ok (.getfield 84, 3) := by decide +kernel
theorem dX6_on_31 : decode cX6_on 31 = .ok (.invokestatic 87, 3) := by decide +kernel
theorem dX6_on_34 : decode cX6_on 34 = .ok (.ifCond .ne 6, 3) := by decide +kernel
theorem dX6_on_37 : decode cX6_on 37 = .ok (.bipush (-2), 2) := by decide +kernel
theorem dX6_on_39 : decode cX6_on 39 = .ok (.ireturn, 1) := by decide +kernel
theorem dX6_on_40 : decode cX6_on 40 = .ok (.iload_n 1, 1) := by decide +kernel
theorem dX6_on_41 : decode cX6_on 41 = .ok (.aload_n 0, 1) := by decide +kernel
theorem dX6_on_42 : decode cX6_on 42 = .ok (.getfield 32, 3) := by decide +kernel
theorem dX6_on_45 : decode cX6_on 45 = .ok (.getfield 91, 3) := by decide +kernel
theorem dX6_on_48 : decode cX6_on 48 = .ok (.invokestatic 94, 3) := by decide +kernel
theorem dX6_on_51 : decode cX6_on 51 = .ok (.if_icmp .ne 8, 3) := by decide +kernel
theorem dX6_on_54 : decode cX6_on 54 = .ok (.bipush 9, 2) := by decide +kernel
theorem dX6_on_56 : decode cX6_on 56 = .ok (.goto 11, 3) := by decide +kernel
theorem dX6_on_59 : decode cX6_on 59 = .ok (.aload_n 0, 1) := by decide +kernel
theorem dX6_on_60 : decode cX6_on 60 = .ok (.getfield 32, 3) := by decide +kernel
theorem dX6_on_63 : decode cX6_on 63 = .ok (.iload_n 1, 1) := by decide +kernel
theorem dX6_on_64 : decode cX6_on 64 = .ok (.invokevirtual 97, 3) := by decide +kernel
theorem dX6_on_67 : decode cX6_on 67 = .ok (.ireturn, 1) := by decide +kernel
set_option maxRecDepth 20000 in
theorem ggX6_duke_X6_isPlace : GoodIn wsX6_duke wsX6_isPlace := goodIn_r _ [8] (by decide +kernel) (by decide +kernel)
set_option maxRecDepth 20000 in
theorem gX6_duke_X6_isPlace : GoodIn wsX6_duke (va_wsS RX6 77 yX6_isPlace wsX6_isPlace) := goodIn_app (goodIn_of _ (by decide +kernel)) ggX6_duke_X6_isPlace
set_option maxRecDepth 20000 in
theorem ggX6_duke_X1_isMissing : GoodIn wsX6_duke wsX1_isMissing := goodIn_r _ [13, 14, 38, 39, 40] (by decide +kernel) (by decide +kernel)
set_option maxRecDepth 20000 in
theorem gX6_duke_X1_isMissing : GoodIn wsX6_duke (wsV RX6 81 RX1 yX1_isMissing wsX1_isMissing) := goodIn_app (goodIn_of _ (by decide +kernel)) ggX6_duke_X1_isMissing
set_option maxRecDepth 20000 in
theorem ggX6_duke_X0_people : GoodIn wsX6_duke wsX0_people := goodIn_r _ [19, 20, 21, 22, 7, 23, 41, 42, 43, 44, 45, 46, 47, 48] (by decide +kernel) (by decide +kernel)
set_option maxRecDepth 20000 in
theorem gX6_duke_X0_people : GoodIn wsX6_duke (wsV RX6 100 RX0 yX0_people wsX0_people) := goodIn_app (goodIn_of _ (by decide +kernel)) ggX6_duke_X0_people
theorem dX6_duke_0 : decode cX6_duke 0 = .ok (.iload_n 1, 1) := by decide +kernel
theorem dX6_duke_1 : decode cX6_duke 1 = .ok (.invokestatic 77, 3) := by decide +kernel
theorem dX6_duke_4 : decode cX6_duke 4 = .ok (.ifCond .ne 6, 3) := by decide +kernel
theorem dX6_duke_7 : decode cX6_duke 7 = .ok (.bipush (-101), 2) := by decide +kernel
theorem dX6_duke_9 : decode cX6_duke 9 = .ok (.ireturn, 1) := by decide +kernel
theorem dX6_duke_10 : decode cX6_duke 10 = .ok (.iload_n 2, 1) := by decide +kernel
theorem dX6_duke_11 : decode cX6_duke 11 = .ok (.ifCond .lt 8, 3) := by decide +kernel
theorem dX6_duke_14 : decode cX6_duke 14 = .ok (.iload_n 2, 1) := by decide +kernel
theorem dX6_duke_15 : decode cX6_duke 15 = .ok (.iconst 4, 1) := by decide +kernel
theorem dX6_duke_16 : decode cX6_duke 16 = .ok (.if_icmp .lt 6, 3) := by decide +kernel
theorem dX6_duke_19 : decode cX6_duke 19 = .ok (.bipush (-102), 2) := by decide +kernel
theorem dX6_duke_21 : decode cX6_duke 21 = .ok (.ireturn, 1) := by decide +kernel
theorem dX6_duke_22 : decode cX6_duke 22 = .ok (.aload_n 0, 1) := by decide +kernel
theorem dX6_duke_23 : decode cX6_duke 23 = .ok (.getfield 27, 3) := by decide +kernel
theorem dX6_duke_26 : decode cX6_duke 26 = .ok (.invokevirtual 81, 3) := by decide +kernel
theorem dX6_duke_29 : decode cX6_duke 29 = .ok (.ifCond .ne 25, 3) := by decide +kernel
theorem dX6_duke_32 : decode cX6_duke 32 = .ok (.iload_n 1, 1) := by decide +kernel
theorem dX6_duke_33 : decode cX6_duke 33 = .ok (.aload_n 0, 1) := by decide +kernel
theorem dX6_duke_34 : decode cX6_duke 34 = .ok (.getfield 27, 3) := by decide +kernel
theorem dX6_duke_37 : decode cX6_duke 37 = .ok (.getfield 84, 3) := by decide +kernel
theorem dX6_duke_40 : decode cX6_duke 40 = .ok (.aload_n 0, 1) := by decide +kernel
theorem dX6_duke_41 : decode cX6_duke 41 = .ok (.getfield 32, 3) := by decide +kernel
theorem dX6_duke_44 : decode cX6_duke 44 = .ok (.invokevirtual 100, 3) := by decide +kernel
theorem dX6_duke_47 : decode cX6_duke 47 = .ok (.ior, 1) := by decide +kernel
theorem dX6_duke_48 : decode cX6_duke 48 = .ok (.invokestatic 87, 3) := by decide +kernel
theorem dX6_duke_51 : decode cX6_duke 51 = .ok (.ifCond .ne 6, 3) := by decide +kernel
theorem dX6_duke_54 : decode cX6_duke 54 = .ok (.bipush (-103), 2) := by decide +kernel
theorem dX6_duke_56 : decode cX6_duke 56 = .ok (.ireturn, 1) := by decide +kernel
theorem dX6_duke_57 : decode cX6_duke 57 = .ok (.aload_n 0, 1) := by decide +kernel
theorem dX6_duke_58 : decode cX6_duke 58 = .ok (.getfield 32, 3) := by decide +kernel
theorem dX6_duke_61 : decode cX6_duke 61 = .ok (.iload_n 1, 1) := by decide +kernel
theorem dX6_duke_62 : decode cX6_duke 62 = .ok (.iload_n 2, 1) := by decide +kernel
theorem dX6_duke_63 : decode cX6_duke 63 = .ok (.invokestatic 103, 3) := by decide +kernel
theorem dX6_duke_66 : decode cX6_duke 66 = .ok (.putfield 91, 3) := by decide +kernel
theorem dX6_duke_69 : decode cX6_duke 69 = .ok (.aload_n 0, 1) := by decide +kernel
theorem dX6_duke_70 : decode cX6_duke 70 = .ok (.getfield 32, 3) := by decide +kernel
theorem dX6_duke_73 : decode cX6_duke 73 = .ok (.getfield 91, 3) := by decide +kernel
theorem dX6_duke_76 : decode cX6_duke 76 = .ok (.ireturn, 1) := by decide +kernel
set_option maxRecDepth 20000 in
theorem ggX6_courtier_X6_isPlace : GoodIn wsX6_courtier wsX6_isPlace := goodIn_r _ [7] (by decide +kernel) (by decide +kernel)
set_option maxRecDepth 20000 in
theorem gX6_courtier_X6_isPlace : GoodIn wsX6_courtier (va_wsS RX6 77 yX6_isPlace wsX6_isPlace) := goodIn_app (goodIn_of _ (by decide +kernel)) ggX6_courtier_X6_isPlace
set_option maxRecDepth 20000 in
theorem ggX6_courtier_X6_isKind : GoodIn wsX6_courtier wsX6_isKind := goodIn_r _ [10] (by decide +kernel) (by decide +kernel)
set_option maxRecDepth 20000 in
theorem gX6_courtier_X6_isKind : GoodIn wsX6_courtier (va_wsS RX6 107 yX6_isKind wsX6_isKind) := goodIn_app (goodIn_of _ (by decide +kernel)) ggX6_courtier_X6_isKind
set_option maxRecDepth 20000 in
theorem ggX6_courtier_X1_isMissing : GoodIn wsX6_courtier wsX1_isMissing := goodIn_r _ [15, 16, 56, 57, 58] (by decide +kernel) (by decide +kernel)
set_option maxRecDepth 20000 in
theorem gX6_courtier_X1_isMissing : GoodIn wsX6_courtier (wsV RX6 81 RX1 yX1_isMissing wsX1_isMissing) := goodIn_app (goodIn_of _ (by decide +kernel)) ggX6_courtier_X1_isMissing
theorem dX6_courtier_0 : decode cX6_courtier 0 = .ok (.iload_n 2, 1) := by decide +kernel
theorem dX6_courtier_1 : decode cX6_courtier 1 = .ok (.invokestatic 77, 3) := by decide +kernel
theorem dX6_courtier_4 : decode cX6_courtier 4 = .ok (.ifCond .ne 6, 3) := by decide +kernel
theorem dX6_courtier_7 : decode cX6_courtier 7 = .ok (.bipush (-101), 2) := by decide +kernel
theorem dX6_courtier_9 : decode cX6_courtier 9 = .ok (.ireturn, 1) := by decide +kernel
theorem dX6_courtier_10 : decode cX6_courtier 10 = .ok (.iload_n 1, 1) := by decide +kernel
theorem dX6_courtier_11 : decode cX6_courtier 11 = .ok (.invokestatic 107, 3) := by decide +kernel
theorem dX6_courtier_14 : decode cX6_courtier 14 = .ok (.ifCond .ne 6, 3) := by decide +kernel
theorem dX6_courtier_17 : decode cX6_courtier 17 = .ok (.bipush (-102), 2) := by decide +kernel
theorem dX6_courtier_19 : decode cX6_courtier 19 = .ok (.ireturn, 1) := by decide +kernel
theorem dX6_courtier_20 : decode cX6_courtier 20 = .ok (.aload_n 0, 1) := by decide +kernel
theorem dX6_courtier_21 : decode cX6_courtier 21 = .ok (.getfield 27, 3) := by decide +kernel
theorem dX6_courtier_24 : decode cX6_courtier 24 = .ok (.invokevirtual 81, 3) := by decide +kernel
theorem dX6_courtier_27 : decode cX6_courtier 27 = .ok (.ifCond .ne 17, 3) := by decide +kernel
theorem dX6_courtier_30 : decode cX6_courtier 30 = .ok (.iload_n 2, 1) := by decide +kernel
theorem dX6_courtier_31 : decode cX6_courtier 31 = .ok (.aload_n 0, 1) := by decide +kernel
theorem dX6_courtier_32 : decode cX6_courtier 32 = .ok (.getfield 19, 3) := by decide +kernel
theorem dX6_courtier_35 : decode cX6_courtier 35 = .ok (.invokevirtual 110, 3) := by decide +kernel
theorem dX6_courtier_38 : decode cX6_courtier 38 = .ok (.invokestatic 87, 3) := by decide +kernel
theorem dX6_courtier_41 : decode cX6_courtier 41 = .ok (.ifCond .ne 6, 3) := by decide +kernel
theorem dX6_courtier_44 : decode cX6_courtier 44 = .ok (.bipush (-103), 2) := by decide +kernel
theorem dX6_courtier_46 : decode cX6_courtier 46 = .ok (.ireturn, 1) := by decide +kernel
theorem dX6_courtier_47 : decode cX6_courtier 47 = .ok (.aload_n 0, 1) := by decide +kernel
theorem dX6_courtier_48 : decode cX6_courtier 48 = .ok (.getfield 32, 3) := by decide +kernel
theorem dX6_courtier_51 : decode cX6_courtier 51 = .ok (.iload_n 1, 1) := by decide +kernel
theorem dX6_courtier_52 : decode cX6_courtier 52 = .ok (.iload_n 2, 1) := by decide +kernel
theorem dX6_courtier_53 : decode cX6_courtier 53 = .ok (.invokevirtual 113, 3) := by decide +kernel
theorem dX6_courtier_56 : decode cX6_courtier 56 = .ok (.ireturn, 1) := by decide +kernel
set_option maxRecDepth 20000 in
theorem ggX6_about_X0_has : GoodIn wsX6_about wsX0_has := goodIn_r _ [14, 15, 91, 92, 93, 94, 95, 96, 97, 98] (by decide +kernel) (by decide +kernel)
set_option maxRecDepth 20000 in
theorem gX6_about_X0_has : GoodIn wsX6_about (wsV RX6 116 RX0 yX0_has wsX0_has) := goodIn_app (goodIn_of _ (by decide +kernel)) ggX6_about_X0_has
set_option maxRecDepth 20000 in
theorem ggX6_about_X4_guiltyIf : GoodIn wsX6_about wsX4_guiltyIf := goodIn_r _ [76, 21, 77, 35, 36, 37, 23, 24, 25, 13, 26, 15, 27, 28, 29, 30, 78, 79, 80, 44, 81, 82, 42, 43, 45, 46, 47, 48, 49, 50, 51, 52, 53, 54, 55, 56, 57, 58, 59, 60, 61, 62, 63, 64, 65, 66, 67, 68, 69, 70, 71, 72, 102, 103, 104, 91, 92, 93, 94, 95, 96, 97, 98, 105, 106] (by decide +kernel) (by decide +kernel)
set_option maxRecDepth 20000 in
theorem gX6_about_X4_guiltyIf : GoodIn wsX6_about (wsV RX6 129 RX4 yX4_guiltyIf wsX4_guiltyIf) := goodIn_app (goodIn_of _ (by decide +kernel)) ggX6_about_X4_guiltyIf
set_option maxRecDepth 20000 in
theorem ggX6_about_X6_bit : GoodIn wsX6_about wsX6_bit := goodIn_r _ [30] (by decide +kernel) (by decide +kernel)
set_option maxRecDepth 20000 in
theorem gX6_about_X6_bit : GoodIn wsX6_about (va_wsS RX6 132 yX6_bit wsX6_bit) := goodIn_app (goodIn_of _ (by decide +kernel)) ggX6_about_X6_bit
theorem dX6_about_0 : decode cX6_about 0 = .ok (.aload_n 0, 1) := by decide +kernel
theorem dX6_about_1 : decode cX6_about 1 = .ok (.getfield 32, 3) := by decide +kernel
theorem dX6_about_4 : decode cX6_about 4 = .ok (.iload_n 1, 1) := by decide +kernel
theorem dX6_about_5 : decode cX6_about 5 = .ok (.invokevirtual 116, 3) := by decide +kernel
theorem dX6_about_8 : decode cX6_about 8 = .ok (.ifCond .ne 6, 3) := by decide +kernel
theorem dX6_about_11 : decode cX6_about 11 = .ok (.bipush (-101), 2) := by decide +kernel
theorem dX6_about_13 : decode cX6_about 13 = .ok (.ireturn, 1) := by decide +kernel
theorem dX6_about_14 : decode cX6_about 14 = .ok (.iload_n 2, 1) := by decide +kernel
theorem dX6_about_15 : decode cX6_about 15 = .ok (.tableswitch 121 0 5 #[37, 47, 57, 66, 101, 111], 37) := by decide +kernel
theorem dX6_about_52 : decode cX6_about 52 = .ok (.aload_n 0, 1) := by decide +kernel
theorem dX6_about_53 : decode cX6_about 53 = .ok (.getfield 32, 3) := by decide +kernel
theorem dX6_about_56 : decode cX6_about 56 = .ok (.getfield 119, 3) := by decide +kernel
theorem dX6_about_59 : decode cX6_about 59 = .ok (.iload_n 1, 1) := by decide +kernel
theorem dX6_about_60 : decode cX6_about 60 = .ok (.iaload, 1) := by decide +kernel
theorem dX6_about_61 : decode cX6_about 61 = .ok (.ireturn, 1) := by decide +kernel
theorem dX6_about_62 : decode cX6_about 62 = .ok (.aload_n 0, 1) := by decide +kernel
theorem dX6_about_63 : decode cX6_about 63 = .ok (.getfield 32, 3) := by decide +kernel
theorem dX6_about_66 : decode cX6_about 66 = .ok (.getfield 123, 3) := by decide +kernel
theorem dX6_about_69 : decode cX6_about 69 = .ok (.iload_n 1, 1) := by decide +kernel
theorem dX6_about_70 : decode cX6_about 70 = .ok (.iaload, 1) := by decide +kernel
theorem dX6_about_71 : decode cX6_about 71 = .ok (.ireturn, 1) := by decide +kernel
theorem dX6_about_72 : decode cX6_about 72 = .ok (.aload_n 0, 1) := by decide +kernel
theorem dX6_about_73 : decode cX6_about 73 = .ok (.getfield 19, 3) := by decide +kernel
theorem dX6_about_76 : decode cX6_about 76 = .ok (.iload_n 1, 1) := by decide +kernel
theorem dX6_about_77 : decode cX6_about 77 = .ok (.invokevirtual 126, 3) := by decide +kernel
theorem dX6_about_80 : decode cX6_about 80 = .ok (.ireturn, 1) := by decide +kernel
theorem dX6_about_81 : decode cX6_about 81 = .ok (.aload_n 0, 1) := by decide +kernel
theorem dX6_about_82 : decode cX6_about 82 = .ok (.getfield 19, 3) := by decide +kernel
theorem dX6_about_85 : decode cX6_about 85 = .ok (.aload_n 0, 1) := by decide +kernel
theorem dX6_about_86 : decode cX6_about 86 = .ok (.getfield 32, 3) := by decide +kernel
theorem dX6_about_89 : decode cX6_about 89 = .ok (.getfield 91, 3) := by decide +kernel
theorem dX6_about_92 : decode cX6_about 92 = .ok (.aload_n 0, 1) := by decide +kernel
theorem dX6_about_93 : decode cX6_about 93 = .ok (.getfield 27, 3) := by decide +kernel
theorem dX6_about_96 : decode cX6_about 96 = .ok (.getfield 84, 3) := by decide +kernel
theorem dX6_about_99 : decode cX6_about 99 = .ok (.invokevirtual 129, 3) := by decide +kernel
theorem dX6_about_102 : decode cX6_about 102 = .ok (.iload_n 1, 1) := by decide +kernel
theorem dX6_about_103 : decode cX6_about 103 = .ok (.invokestatic 132, 3) := by decide +kernel
theorem dX6_about_106 : decode cX6_about 106 = .ok (.iand, 1) := by decide +kernel
theorem dX6_about_107 : decode cX6_about 107 = .ok (.ifCond .eq 7, 3) := by decide +kernel
theorem dX6_about_110 : decode cX6_about 110 = .ok (.iconst 1, 1) := by decide +kernel
theorem dX6_about_111 : decode cX6_about 111 = .ok (.goto 4, 3) := by decide +kernel
theorem dX6_about_114 : decode cX6_about 114 = .ok (.iconst 0, 1) := by decide +kernel
theorem dX6_about_115 : decode cX6_about 115 = .ok (.ireturn, 1) := by decide +kernel
theorem dX6_about_116 : decode cX6_about 116 = .ok (.aload_n 0, 1) := by decide +kernel
theorem dX6_about_117 : decode cX6_about 117 = .ok (.getfield 32, 3) := by decide +kernel
theorem dX6_about_120 : decode cX6_about 120 = .ok (.getfield 135, 3) := by decide +kernel
theorem dX6_about_123 : decode cX6_about 123 = .ok (.iload_n 1, 1) := by decide +kernel
theorem dX6_about_124 : decode cX6_about 124 = .ok (.iaload, 1) := by decide +kernel
theorem dX6_about_125 : decode cX6_about 125 = .ok (.ireturn, 1) := by decide +kernel
theorem dX6_about_126 : decode cX6_about 126 = .ok (.aload_n 0, 1) := by decide +kernel
theorem dX6_about_127 : decode cX6_about 127 = .ok (.getfield 32, 3) := by decide +kernel
theorem dX6_about_130 : decode cX6_about 130 = .ok (.getfield 138, 3) := by decide +kernel
theorem dX6_about_133 : decode cX6_about 133 = .ok (.iload_n 1, 1) := by decide +kernel
theorem dX6_about_134 : decode cX6_about 134 = .ok (.iaload, 1) := by decide +kernel
theorem dX6_about_135 : decode cX6_about 135 = .ok (.ireturn, 1) := by decide +kernel
theorem dX6_about_136 : decode cX6_about 136 = .ok (.bipush (-102), 2) := by decide +kernel
theorem dX6_about_138 : decode cX6_about 138 = .ok (.ireturn, 1) := by decide +kernel
set_option maxRecDepth 20000 in
theorem ggX6_as_X0_has : GoodIn wsX6_as wsX0_has := goodIn_r _ [7, 8, 23, 24, 25, 26, 27, 28, 29, 30] (by decide +kernel) (by decide +kernel)
set_option maxRecDepth 20000 in
theorem gX6_as_X0_has : GoodIn wsX6_as (wsV RX6 116 RX0 yX0_has wsX0_has) := goodIn_app (goodIn_of _ (by decide +kernel)) ggX6_as_X0_has
set_option maxRecDepth 20000 in
theorem ggX6_as_X6_isKind : GoodIn wsX6_as wsX6_isKind := goodIn_r _ [12] (by decide +kernel) (by decide +kernel)
set_option maxRecDepth 20000 in
theorem gX6_as_X6_isKind : GoodIn wsX6_as (va_wsS RX6 107 yX6_isKind wsX6_isKind) := goodIn_app (goodIn_of _ (by decide +kernel)) ggX6_as_X6_isKind
theorem dX6_as_0 : decode cX6_as 0 = .ok (.aload_n 0, 1) := by decide +kernel
theorem dX6_as_1 : decode cX6_as 1 = .ok (.getfield 32, 3) := by decide +kernel
theorem dX6_as_4 : decode cX6_as 4 = .ok (.iload_n 1, 1) := by decide +kernel
theorem dX6_as_5 : decode cX6_as 5 = .ok (.invokevirtual 116, 3) := by decide +kernel
theorem dX6_as_8 : decode cX6_as 8 = .ok (.ifCond .ne 6, 3) := by decide +kernel
theorem dX6_as_11 : decode cX6_as 11 = .ok (.bipush (-101), 2) := by decide +kernel
theorem dX6_as_13 : decode cX6_as 13 = .ok (.ireturn, 1) := by decide +kernel
theorem dX6_as_14 : decode cX6_as 14 = .ok (.iload_n 2, 1) := by decide +kernel
theorem dX6_as_15 : decode cX6_as 15 = .ok (.invokestatic 107, 3) := by decide +kernel
theorem dX6_as_18 : decode cX6_as 18 = .ok (.ifCond .ne 6, 3) := by decide +kernel
theorem dX6_as_21 : decode cX6_as 21 = .ok (.bipush (-102), 2) := by decide +kernel
theorem dX6_as_23 : decode cX6_as 23 = .ok (.ireturn, 1) := by decide +kernel
theorem dX6_as_24 : decode cX6_as 24 = .ok (.aload_n 0, 1) := by decide +kernel
theorem dX6_as_25 : decode cX6_as 25 = .ok (.getfield 32, 3) := by decide +kernel
theorem dX6_as_28 : decode cX6_as 28 = .ok (.getfield 119, 3) := by decide +kernel
theorem dX6_as_31 : decode cX6_as 31 = .ok (.iload_n 1, 1) := by decide +kernel
theorem dX6_as_32 : decode cX6_as 32 = .ok (.iaload, 1) := by decide +kernel
theorem dX6_as_33 : decode cX6_as 33 = .ok (.iload_n 2, 1) := by decide +kernel
theorem dX6_as_34 : decode cX6_as 34 = .ok (.invokestatic 141, 3) := by decide +kernel
theorem dX6_as_37 : decode cX6_as 37 = .ok (.ifCond .eq 7, 3) := by decide +kernel
theorem dX6_as_40 : decode cX6_as 40 = .ok (.iload_n 1, 1) := by decide +kernel
theorem dX6_as_41 : decode cX6_as 41 = .ok (.goto 4, 3) := by decide +kernel
theorem dX6_as_44 : decode cX6_as 44 = .ok (.iconst (-1), 1) := by decide +kernel
theorem dX6_as_45 : decode cX6_as 45 = .ok (.ireturn, 1) := by decide +kernel
set_option maxRecDepth 20000 in
theorem ggX6_go_X0_has : GoodIn wsX6_go wsX0_has := goodIn_r _ [8, 9, 43, 44, 45, 46, 47, 48, 49, 50] (by decide +kernel) (by decide +kernel)
set_option maxRecDepth 20000 in
theorem gX6_go_X0_has : GoodIn wsX6_go (wsV RX6 116 RX0 yX0_has wsX0_has) := goodIn_app (goodIn_of _ (by decide +kernel)) ggX6_go_X0_has
set_option maxRecDepth 20000 in
theorem ggX6_go_X6_isPlace : GoodIn wsX6_go wsX6_isPlace := goodIn_r _ [13] (by decide +kernel) (by decide +kernel)
set_option maxRecDepth 20000 in
theorem gX6_go_X6_isPlace : GoodIn wsX6_go (va_wsS RX6 77 yX6_isPlace wsX6_isPlace) := goodIn_app (goodIn_of _ (by decide +kernel)) ggX6_go_X6_isPlace
theorem dX6_go_0 : decode cX6_go 0 = .ok (.aload_n 0, 1) := by decide +kernel
theorem dX6_go_1 : decode cX6_go 1 = .ok (.getfield 32, 3) := by decide +kernel
theorem dX6_go_4 : decode cX6_go 4 = .ok (.iload_n 1, 1) := by decide +kernel
theorem dX6_go_5 : decode cX6_go 5 = .ok (.invokevirtual 116, 3) := by decide +kernel
theorem dX6_go_8 : decode cX6_go 8 = .ok (.ifCond .eq 10, 3) := by decide +kernel
theorem dX6_go_11 : decode cX6_go 11 = .ok (.iload_n 2, 1) := by decide +kernel
theorem dX6_go_12 : decode cX6_go 12 = .ok (.invokestatic 77, 3) := by decide +kernel
theorem dX6_go_15 : decode cX6_go 15 = .ok (.ifCond .ne 6, 3) := by decide +kernel
theorem dX6_go_18 : decode cX6_go 18 = .ok (.bipush (-101), 2) := by decide +kernel
theorem dX6_go_20 : decode cX6_go 20 = .ok (.ireturn, 1) := by decide +kernel
theorem dX6_go_21 : decode cX6_go 21 = .ok (.iload_n 2, 1) := by decide +kernel
theorem dX6_go_22 : decode cX6_go 22 = .ok (.aload_n 0, 1) := by decide +kernel
theorem dX6_go_23 : decode cX6_go 23 = .ok (.getfield 19, 3) := by decide +kernel
theorem dX6_go_26 : decode cX6_go 26 = .ok (.invokevirtual 110, 3) := by decide +kernel
theorem dX6_go_29 : decode cX6_go 29 = .ok (.invokestatic 87, 3) := by decide +kernel
theorem dX6_go_32 : decode cX6_go 32 = .ok (.ifCond .ne 6, 3) := by decide +kernel
theorem dX6_go_35 : decode cX6_go 35 = .ok (.bipush (-103), 2) := by decide +kernel
theorem dX6_go_37 : decode cX6_go 37 = .ok (.ireturn, 1) := by decide +kernel
theorem dX6_go_38 : decode cX6_go 38 = .ok (.aload_n 0, 1) := by decide +kernel
theorem dX6_go_39 : decode cX6_go 39 = .ok (.getfield 32, 3) := by decide +kernel
theorem dX6_go_42 : decode cX6_go 42 = .ok (.getfield 123, 3) := by decide +kernel
theorem dX6_go_45 : decode cX6_go 45 = .ok (.iload_n 1, 1) := by decide +kernel
theorem dX6_go_46 : decode cX6_go 46 = .ok (.iaload, 1) := by decide +kernel
theorem dX6_go_47 : decode cX6_go 47 = .ok (.istore_n 3, 1) := by decide +kernel
theorem dX6_go_48 : decode cX6_go 48 = .ok (.aload_n 0, 1) := by decide +kernel
theorem dX6_go_49 : decode cX6_go 49 = .ok (.getfield 32, 3) := by decide +kernel
theorem dX6_go_52 : decode cX6_go 52 = .ok (.getfield 123, 3) := by decide +kernel
theorem dX6_go_55 : decode cX6_go 55 = .ok (.iload_n 1, 1) := by decide +kernel
theorem dX6_go_56 : decode cX6_go 56 = .ok (.iload_n 2, 1) := by decide +kernel
theorem dX6_go_57 : decode cX6_go 57 = .ok (.iastore, 1) := by decide +kernel
theorem dX6_go_58 : decode cX6_go 58 = .ok (.iload_n 3, 1) := by decide +kernel
theorem dX6_go_59 : decode cX6_go 59 = .ok (.ireturn, 1) := by decide +kernel
set_option maxRecDepth 20000 in
theorem ggX6_act_X4_after : GoodIn wsX6_act wsX4_after := goodIn_r _ [11, 12, 13, 14, 15, 16, 17, 18, 19, 20, 21, 22, 23, 24, 25, 26, 27, 28, 29, 30, 31, 32, 33, 34, 35, 36, 37, 38, 39, 40, 119, 120, 121, 116, 117, 118, 108, 109, 110, 111, 112, 113, 114, 115] (by decide +kernel) (by decide +kernel)
set_option maxRecDepth 20000 in
theorem gX6_act_X4_after : GoodIn wsX6_act (wsV RX6 144 RX4 yX4_after wsX4_after) := goodIn_app (goodIn_of _ (by decide +kernel)) ggX6_act_X4_after
set_option maxRecDepth 20000 in
theorem ggX6_act_X4_guiltyIf : GoodIn wsX6_act wsX4_guiltyIf := goodIn_r _ [94, 14, 45, 51, 52, 53, 29, 30, 31, 32, 33, 34, 35, 36, 16, 37, 95, 96, 97, 61, 98, 99, 59, 60, 62, 63, 64, 15, 17, 27, 28, 65, 66, 67, 68, 69, 70, 71, 72, 73, 74, 75, 76, 18, 19, 77, 78, 79, 80, 81, 82, 83, 119, 120, 121, 108, 109, 110, 111, 112, 113, 114, 115, 122, 123] (by decide +kernel) (by decide +kernel)
set_option maxRecDepth 20000 in
theorem gX6_act_X4_guiltyIf : GoodIn wsX6_act (wsV RX6 129 RX4 yX4_guiltyIf wsX4_guiltyIf) := goodIn_app (goodIn_of _ (by decide +kernel)) ggX6_act_X4_guiltyIf
theorem dX6_act_0 : decode cX6_act 0 = .ok (.iload_n 1, 1) := by decide +kernel
theorem dX6_act_1 : decode cX6_act 1 = .ok (.ifCond .lt 8, 3) := by decide +kernel
theorem dX6_act_4 : decode cX6_act 4 = .ok (.iload_n 1, 1) := by decide +kernel
theorem dX6_act_5 : decode cX6_act 5 = .ok (.iconst 3, 1) := by decide +kernel
theorem dX6_act_6 : decode cX6_act 6 = .ok (.if_icmp .lt 6, 3) := by decide +kernel
theorem dX6_act_9 : decode cX6_act 9 = .ok (.bipush (-102), 2) := by decide +kernel
theorem dX6_act_11 : decode cX6_act 11 = .ok (.ireturn, 1) := by decide +kernel
theorem dX6_act_12 : decode cX6_act 12 = .ok (.aload_n 0, 1) := by decide +kernel
theorem dX6_act_13 : decode cX6_act 13 = .ok (.getfield 19, 3) := by decide +kernel
theorem dX6_act_16 : decode cX6_act 16 = .ok (.aload_n 0, 1) := by decide +kernel
theorem dX6_act_17 : decode cX6_act 17 = .ok (.getfield 32, 3) := by decide +kernel
theorem dX6_act_20 : decode cX6_act 20 = .ok (.getfield 91, 3) := by decide +kernel
theorem dX6_act_23 : decode cX6_act 23 = .ok (.iload_n 1, 1) := by decide +kernel
theorem dX6_act_24 : decode cX6_act 24 = .ok (.invokevirtual 144, 3) := by decide +kernel
theorem dX6_act_27 : decode cX6_act 27 = .ok (.istore_n 2, 1) := by decide +kernel
theorem dX6_act_28 : decode cX6_act 28 = .ok (.iload_n 2, 1) := by decide +kernel
theorem dX6_act_29 : decode cX6_act 29 = .ok (.iconst (-1), 1) := by decide +kernel
theorem dX6_act_30 : decode cX6_act 30 = .ok (.if_icmp .ne 6, 3) := by decide +kernel
theorem dX6_act_33 : decode cX6_act 33 = .ok (.bipush (-103), 2) := by decide +kernel
theorem dX6_act_35 : decode cX6_act 35 = .ok (.ireturn, 1) := by decide +kernel
theorem dX6_act_36 : decode cX6_act 36 = .ok (.aload_n 0, 1) := by decide +kernel
theorem dX6_act_37 : decode cX6_act 37 = .ok (.getfield 32, 3) := by decide +kernel
theorem dX6_act_40 : decode cX6_act 40 = .ok (.iload_n 2, 1) := by decide +kernel
theorem dX6_act_41 : decode cX6_act 41 = .ok (.putfield 91, 3) := by decide +kernel
theorem dX6_act_44 : decode cX6_act 44 = .ok (.aload_n 0, 1) := by decide +kernel
theorem dX6_act_45 : decode cX6_act 45 = .ok (.getfield 32, 3) := by decide +kernel
theorem dX6_act_48 : decode cX6_act 48 = .ok (.dup, 1) := by decide +kernel
theorem dX6_act_49 : decode cX6_act 49 = .ok (.getfield 147, 3) := by decide +kernel
theorem dX6_act_52 : decode cX6_act 52 = .ok (.iconst 1, 1) := by decide +kernel
theorem dX6_act_53 : decode cX6_act 53 = .ok (.iadd, 1) := by decide +kernel
theorem dX6_act_54 : decode cX6_act 54 = .ok (.putfield 147, 3) := by decide +kernel
theorem dX6_act_57 : decode cX6_act 57 = .ok (.aload_n 0, 1) := by decide +kernel
theorem dX6_act_58 : decode cX6_act 58 = .ok (.getfield 19, 3) := by decide +kernel
theorem dX6_act_61 : decode cX6_act 61 = .ok (.invokevirtual 150, 3) := by decide +kernel
theorem dX6_act_64 : decode cX6_act 64 = .ok (.aload_n 0, 1) := by decide +kernel
theorem dX6_act_65 : decode cX6_act 65 = .ok (.getfield 19, 3) := by decide +kernel
theorem dX6_act_68 : decode cX6_act 68 = .ok (.aload_n 0, 1) := by decide +kernel
theorem dX6_act_69 : decode cX6_act 69 = .ok (.getfield 32, 3) := by decide +kernel
theorem dX6_act_72 : decode cX6_act 72 = .ok (.getfield 91, 3) := by decide +kernel
theorem dX6_act_75 : decode cX6_act 75 = .ok (.aload_n 0, 1) := by decide +kernel
theorem dX6_act_76 : decode cX6_act 76 = .ok (.getfield 27, 3) := by decide +kernel
theorem dX6_act_79 : decode cX6_act 79 = .ok (.getfield 84, 3) := by decide +kernel
theorem dX6_act_82 : decode cX6_act 82 = .ok (.invokevirtual 129, 3) := by decide +kernel
theorem dX6_act_85 : decode cX6_act 85 = .ok (.invokestatic 153, 3) := by decide +kernel
theorem dX6_act_88 : decode cX6_act 88 = .ok (.ireturn, 1) := by decide +kernel
set_option maxRecDepth 20000 in
theorem ggX6_guilty_X4_guiltyIf : GoodIn wsX6_guilty wsX4_guiltyIf := goodIn_r _ [10, 11, 12, 13, 14, 15, 16, 17, 18, 19, 20, 21, 22, 23, 24, 25, 26, 27, 28, 29, 30, 31, 32, 33, 34, 35, 36, 37, 38, 39, 40, 41, 42, 43, 44, 45, 46, 47, 48, 49, 50, 51, 52, 53, 54, 55, 56, 57, 58, 59, 60, 61, 80, 81, 82, 69, 70, 71, 72, 73, 74, 75, 76, 83, 84] (by decide +kernel) (by decide +kernel)
set_option maxRecDepth 20000 in
theorem gX6_guilty_X4_guiltyIf : GoodIn wsX6_guilty (wsV RX6 129 RX4 yX4_guiltyIf wsX4_guiltyIf) := goodIn_app (goodIn_of _ (by decide +kernel)) ggX6_guilty_X4_guiltyIf
theorem dX6_guilty_0 : decode cX6_guilty 0 = .ok (.aload_n 0, 1) := by decide +kernel
theorem dX6_guilty_1 : decode cX6_guilty 1 = .ok (.getfield 19, 3) := by decide +kernel
theorem dX6_guilty_4 : decode cX6_guilty 4 = .ok (.aload_n 0, 1) := by decide +kernel
theorem dX6_guilty_5 : decode cX6_guilty 5 = .ok (.getfield 32, 3) := by decide +kernel
theorem dX6_guilty_8 : decode cX6_guilty 8 = .ok (.getfield 91, 3) := by decide +kernel
theorem dX6_guilty_11 : decode cX6_guilty 11 = .ok (.aload_n 0, 1) := by decide +kernel
theorem dX6_guilty_12 : decode cX6_guilty 12 = .ok (.getfield 27, 3) := by decide +kernel
theorem dX6_guilty_15 : decode cX6_guilty 15 = .ok (.getfield 84, 3) := by decide +kernel
theorem dX6_guilty_18 : decode cX6_guilty 18 = .ok (.invokevirtual 129, 3) := by decide +kernel
theorem dX6_guilty_21 : decode cX6_guilty 21 = .ok (.ireturn, 1) := by decide +kernel
theorem dX6_room_0 : decode cX6_room 0 = .ok (.iload_n 1, 1) := by decide +kernel
theorem dX6_room_1 : decode cX6_room 1 = .ok (.iconst 1, 1) := by decide +kernel
theorem dX6_room_2 : decode cX6_room 2 = .ok (.if_icmp .lt 17, 3) := by decide +kernel
theorem dX6_room_5 : decode cX6_room 5 = .ok (.iload_n 1, 1) := by decide +kernel
theorem dX6_room_6 : decode cX6_room 6 = .ok (.iconst 3, 1) := by decide +kernel
theorem dX6_room_7 : decode cX6_room 7 = .ok (.if_icmp .gt 12, 3) := by decide +kernel
theorem dX6_room_10 : decode cX6_room 10 = .ok (.iload_n 2, 1) := by decide +kernel
theorem dX6_room_11 : decode cX6_room 11 = .ok (.ifCond .lt 8, 3) := by decide +kernel
theorem dX6_room_14 : decode cX6_room 14 = .ok (.iload_n 2, 1) := by decide +kernel
theorem dX6_room_15 : decode cX6_room 15 = .ok (.iconst 3, 1) := by decide +kernel
theorem dX6_room_16 : decode cX6_room 16 = .ok (.if_icmp .lt 6, 3) := by decide +kernel
theorem dX6_room_19 : decode cX6_room 19 = .ok (.bipush (-102), 2) := by decide +kernel
theorem dX6_room_21 : decode cX6_room 21 = .ok (.ireturn, 1) := by decide +kernel
theorem dX6_room_22 : decode cX6_room 22 = .ok (.aload_n 0, 1) := by decide +kernel
theorem dX6_room_23 : decode cX6_room 23 = .ok (.getfield 32, 3) := by decide +kernel
theorem dX6_room_26 : decode cX6_room 26 = .ok (.getfield 91, 3) := by decide +kernel
theorem dX6_room_29 : decode cX6_room 29 = .ok (.iconst (-1), 1) := by decide +kernel
theorem dX6_room_30 : decode cX6_room 30 = .ok (.if_icmp .ne 6, 3) := by decide +kernel
theorem dX6_room_33 : decode cX6_room 33 = .ok (.bipush (-103), 2) := by decide +kernel
theorem dX6_room_35 : decode cX6_room 35 = .ok (.ireturn, 1) := by decide +kernel
theorem dX6_room_36 : decode cX6_room 36 = .ok (.aload_n 0, 1) := by decide +kernel
theorem dX6_room_37 : decode cX6_room 37 = .ok (.getfield 19, 3) := by decide +kernel
theorem dX6_room_40 : decode cX6_room 40 = .ok (.iload_n 1, 1) := by decide +kernel
theorem dX6_room_41 : decode cX6_room 41 = .ok (.invokevirtual 158, 3) := by decide +kernel
theorem dX6_room_44 : decode cX6_room 44 = .ok (.iload_n 2, 1) := by decide +kernel
theorem dX6_room_45 : decode cX6_room 45 = .ok (.invokestatic 161, 3) := by decide +kernel
theorem dX6_room_48 : decode cX6_room 48 = .ok (.ireturn, 1) := by decide +kernel
set_option maxRecDepth 20000 in
theorem ggX6_brick_X6_bit : GoodIn wsX6_brick wsX6_bit := goodIn_r _ [28] (by decide +kernel) (by decide +kernel)
set_option maxRecDepth 20000 in
theorem gX6_brick_X6_bit : GoodIn wsX6_brick (va_wsS RX6 132 yX6_bit wsX6_bit) := goodIn_app (goodIn_of _ (by decide +kernel)) ggX6_brick_X6_bit
set_option maxRecDepth 20000 in
theorem ggX6_brick_X4_guiltyIf : GoodIn wsX6_brick wsX4_guiltyIf := goodIn_r _ [34, 11, 35, 36, 37, 38, 19, 20, 21, 22, 23, 24, 25, 26, 27, 28, 39, 40, 41, 42, 43, 44, 45, 46, 47, 48, 49, 29, 30, 50, 51, 52, 53, 54, 55, 56, 57, 58, 59, 60, 61, 62, 63, 64, 65, 66, 67, 68, 69, 70, 71, 72, 98, 99, 100, 87, 88, 89, 90, 91, 92, 93, 94, 101, 102] (by decide +kernel) (by decide +kernel)
set_option maxRecDepth 20000 in
theorem gX6_brick_X4_guiltyIf : GoodIn wsX6_brick (wsV RX6 129 RX4 yX4_guiltyIf wsX4_guiltyIf) := goodIn_app (goodIn_of _ (by decide +kernel)) ggX6_brick_X4_guiltyIf
theorem dX6_brick_0 : decode cX6_brick 0 = .ok (.iload_n 1, 1) := by decide +kernel
theorem dX6_brick_1 : decode cX6_brick 1 = .ok (.ifCond .lt 8, 3) := by decide +kernel
theorem dX6_brick_4 : decode cX6_brick 4 = .ok (.iload_n 1, 1) := by decide +kernel
theorem dX6_brick_5 : decode cX6_brick 5 = .ok (.iconst 1, 1) := by decide +kernel
theorem dX6_brick_6 : decode cX6_brick 6 = .ok (.if_icmp .le 6, 3) := by decide +kernel
theorem dX6_brick_9 : decode cX6_brick 9 = .ok (.bipush (-102), 2) := by decide +kernel
theorem dX6_brick_11 : decode cX6_brick 11 = .ok (.ireturn, 1) := by decide +kernel
theorem dX6_brick_12 : decode cX6_brick 12 = .ok (.aload_n 0, 1) := by decide +kernel
theorem dX6_brick_13 : decode cX6_brick 13 = .ok (.getfield 32, 3) := by decide +kernel
theorem dX6_brick_16 : decode cX6_brick 16 = .ok (.getfield 91, 3) := by decide +kernel
theorem dX6_brick_19 : decode cX6_brick 19 = .ok (.iconst (-1), 1) := by decide +kernel
theorem dX6_brick_20 : decode cX6_brick 20 = .ok (.if_icmp .ne 6, 3) := by decide +kernel
theorem dX6_brick_23 : decode cX6_brick 23 = .ok (.bipush (-103), 2) := by decide +kernel
theorem dX6_brick_25 : decode cX6_brick 25 = .ok (.ireturn, 1) := by decide +kernel
theorem dX6_brick_26 : decode cX6_brick 26 = .ok (.aload_n 0, 1) := by decide +kernel
theorem dX6_brick_27 : decode cX6_brick 27 = .ok (.getfield 19, 3) := by decide +kernel
theorem dX6_brick_30 : decode cX6_brick 30 = .ok (.invokevirtual 164, 3) := by decide +kernel
theorem dX6_brick_33 : decode cX6_brick 33 = .ok (.istore_n 2, 1) := by decide +kernel
theorem dX6_brick_34 : decode cX6_brick 34 = .ok (.iload_n 1, 1) := by decide +kernel
theorem dX6_brick_35 : decode cX6_brick 35 = .ok (.ifCond .eq 8, 3) := by decide +kernel
theorem dX6_brick_38 : decode cX6_brick 38 = .ok (.iload_n 2, 1) := by decide +kernel
theorem dX6_brick_39 : decode cX6_brick 39 = .ok (.iconst (-1), 1) := by decide +kernel
theorem dX6_brick_40 : decode cX6_brick 40 = .ok (.if_icmp .ne 5, 3) := by decide +kernel
theorem dX6_brick_43 : decode cX6_brick 43 = .ok (.iload_n 2, 1) := by decide +kernel
theorem dX6_brick_44 : decode cX6_brick 44 = .ok (.ireturn, 1) := by decide +kernel
theorem dX6_brick_45 : decode cX6_brick 45 = .ok (.aload_n 0, 1) := by decide +kernel
theorem dX6_brick_46 : decode cX6_brick 46 = .ok (.getfield 19, 3) := by decide +kernel
theorem dX6_brick_49 : decode cX6_brick 49 = .ok (.aload_n 0, 1) := by decide +kernel
theorem dX6_brick_50 : decode cX6_brick 50 = .ok (.getfield 32, 3) := by decide +kernel
theorem dX6_brick_53 : decode cX6_brick 53 = .ok (.getfield 91, 3) := by decide +kernel
theorem dX6_brick_56 : decode cX6_brick 56 = .ok (.aload_n 0, 1) := by decide +kernel
theorem dX6_brick_57 : decode cX6_brick 57 = .ok (.getfield 27, 3) := by decide +kernel
theorem dX6_brick_60 : decode cX6_brick 60 = .ok (.getfield 84, 3) := by decide +kernel
theorem dX6_brick_63 : decode cX6_brick 63 = .ok (.iload_n 2, 1) := by decide +kernel
theorem dX6_brick_64 : decode cX6_brick 64 = .ok (.invokestatic 132, 3) := by decide +kernel
theorem dX6_brick_67 : decode cX6_brick 67 = .ok (.ior, 1) := by decide +kernel
theorem dX6_brick_68 : decode cX6_brick 68 = .ok (.invokevirtual 129, 3) := by decide +kernel
theorem dX6_brick_71 : decode cX6_brick 71 = .ok (.invokestatic 153, 3) := by decide +kernel
theorem dX6_brick_74 : decode cX6_brick 74 = .ok (.ireturn, 1) := by decide +kernel
set_option maxRecDepth 20000 in
theorem ggX6_way_X6_isPlace : GoodIn wsX6_way wsX6_isPlace := goodIn_r _ [8] (by decide +kernel) (by decide +kernel)
set_option maxRecDepth 20000 in
theorem gX6_way_X6_isPlace : GoodIn wsX6_way (va_wsS RX6 77 yX6_isPlace wsX6_isPlace) := goodIn_app (goodIn_of _ (by decide +kernel)) ggX6_way_X6_isPlace
theorem dX6_way_0 : decode cX6_way 0 = .ok (.iload_n 1, 1) := by decide +kernel
theorem dX6_way_1 : decode cX6_way 1 = .ok (.invokestatic 77, 3) := by decide +kernel
theorem dX6_way_4 : decode cX6_way 4 = .ok (.ifCond .ne 6, 3) := by decide +kernel
theorem dX6_way_7 : decode cX6_way 7 = .ok (.bipush (-101), 2) := by decide +kernel
theorem dX6_way_9 : decode cX6_way 9 = .ok (.ireturn, 1) := by decide +kernel
theorem dX6_way_10 : decode cX6_way 10 = .ok (.iload_n 2, 1) := by decide +kernel
theorem dX6_way_11 : decode cX6_way 11 = .ok (.ifCond .lt 8, 3) := by decide +kernel
theorem dX6_way_14 : decode cX6_way 14 = .ok (.iload_n 2, 1) := by decide +kernel
theorem dX6_way_15 : decode cX6_way 15 = .ok (.iconst 1, 1) := by decide +kernel
theorem dX6_way_16 : decode cX6_way 16 = .ok (.if_icmp .le 6, 3) := by decide +kernel
theorem dX6_way_19 : decode cX6_way 19 = .ok (.bipush (-102), 2) := by decide +kernel
theorem dX6_way_21 : decode cX6_way 21 = .ok (.ireturn, 1) := by decide +kernel
theorem dX6_way_22 : decode cX6_way 22 = .ok (.aload_n 0, 1) := by decide +kernel
theorem dX6_way_23 : decode cX6_way 23 = .ok (.getfield 32, 3) := by decide +kernel
theorem dX6_way_26 : decode cX6_way 26 = .ok (.getfield 91, 3) := by decide +kernel
theorem dX6_way_29 : decode cX6_way 29 = .ok (.iconst (-1), 1) := by decide +kernel
theorem dX6_way_30 : decode cX6_way 30 = .ok (.if_icmp .ne 6, 3) := by decide +kernel
theorem dX6_way_33 : decode cX6_way 33 = .ok (.bipush (-103), 2) := by decide +kernel
theorem dX6_way_35 : decode cX6_way 35 = .ok (.ireturn, 1) := by decide +kernel
theorem dX6_way_36 : decode cX6_way 36 = .ok (.aload_n 0, 1) := by decide +kernel
theorem dX6_way_37 : decode cX6_way 37 = .ok (.getfield 42, 3) := by decide +kernel
theorem dX6_way_40 : decode cX6_way 40 = .ok (.aload_n 0, 1) := by decide +kernel
theorem dX6_way_41 : decode cX6_way 41 = .ok (.getfield 19, 3) := by decide +kernel
theorem dX6_way_44 : decode cX6_way 44 = .ok (.aload_n 0, 1) := by decide +kernel
theorem dX6_way_45 : decode cX6_way 45 = .ok (.getfield 32, 3) := by decide +kernel
theorem dX6_way_48 : decode cX6_way 48 = .ok (.getfield 91, 3) := by decide +kernel
theorem dX6_way_51 : decode cX6_way 51 = .ok (.iload_n 1, 1) := by decide +kernel
theorem dX6_way_52 : decode cX6_way 52 = .ok (.invokevirtual 167, 3) := by decide +kernel
theorem dX6_way_55 : decode cX6_way 55 = .ok (.istore_n 3, 1) := by decide +kernel
theorem dX6_way_56 : decode cX6_way 56 = .ok (.iload_n 3, 1) := by decide +kernel
theorem dX6_way_57 : decode cX6_way 57 = .ok (.iconst (-1), 1) := by decide +kernel
theorem dX6_way_58 : decode cX6_way 58 = .ok (.if_icmp .ne 5, 3) := by decide +kernel
theorem dX6_way_61 : decode cX6_way 61 = .ok (.iconst (-1), 1) := by decide +kernel
theorem dX6_way_62 : decode cX6_way 62 = .ok (.ireturn, 1) := by decide +kernel
theorem dX6_way_63 : decode cX6_way 63 = .ok (.iload_n 2, 1) := by decide +kernel
theorem dX6_way_64 : decode cX6_way 64 = .ok (.ifCond .ne 14, 3) := by decide +kernel
theorem dX6_way_67 : decode cX6_way 67 = .ok (.aload_n 0, 1) := by decide +kernel
theorem dX6_way_68 : decode cX6_way 68 = .ok (.getfield 42, 3) := by decide +kernel
theorem dX6_way_71 : decode cX6_way 71 = .ok (.iload_n 3, 1) := by decide +kernel
theorem dX6_way_72 : decode cX6_way 72 = .ok (.invokevirtual 171, 3) := by decide +kernel
theorem dX6_way_75 : decode cX6_way 75 = .ok (.goto 11, 3) := by decide +kernel
theorem dX6_way_78 : decode cX6_way 78 = .ok (.aload_n 0, 1) := by decide +kernel
theorem dX6_way_79 : decode cX6_way 79 = .ok (.getfield 42, 3) := by decide +kernel
theorem dX6_way_82 : decode cX6_way 82 = .ok (.iload_n 3, 1) := by decide +kernel
theorem dX6_way_83 : decode cX6_way 83 = .ok (.invokevirtual 174, 3) := by decide +kernel
theorem dX6_way_86 : decode cX6_way 86 = .ok (.ireturn, 1) := by decide +kernel
set_option maxRecDepth 20000 in
theorem ggX6_told_X0_has : GoodIn wsX6_told wsX0_has := goodIn_r _ [7, 8, 16, 17, 18, 19, 20, 21, 22, 23] (by decide +kernel) (by decide +kernel)
set_option maxRecDepth 20000 in
theorem gX6_told_X0_has : GoodIn wsX6_told (wsV RX6 116 RX0 yX0_has wsX0_has) := goodIn_app (goodIn_of _ (by decide +kernel)) ggX6_told_X0_has
theorem dX6_told_0 : decode cX6_told 0 = .ok (.aload_n 0, 1) := by decide +kernel
theorem dX6_told_1 : decode cX6_told 1 = .ok (.getfield 32, 3) := by decide +kernel
theorem dX6_told_4 : decode cX6_told 4 = .ok (.iload_n 1, 1) := by decide +kernel
theorem dX6_told_5 : decode cX6_told 5 = .ok (.invokevirtual 116, 3) := by decide +kernel
theorem dX6_told_8 : decode cX6_told 8 = .ok (.ifCond .ne 6, 3) := by decide +kernel
theorem dX6_told_11 : decode cX6_told 11 = .ok (.bipush (-101), 2) := by decide +kernel
theorem dX6_told_13 : decode cX6_told 13 = .ok (.ireturn, 1) := by decide +kernel
theorem dX6_told_14 : decode cX6_told 14 = .ok (.iload_n 2, 1) := by decide +kernel
theorem dX6_told_15 : decode cX6_told 15 = .ok (.iconst (-1), 1) := by decide +kernel
theorem dX6_told_16 : decode cX6_told 16 = .ok (.if_icmp .lt 8, 3) := by decide +kernel
theorem dX6_told_19 : decode cX6_told 19 = .ok (.iload_n 2, 1) := by decide +kernel
theorem dX6_told_20 : decode cX6_told 20 = .ok (.iconst 4, 1) := by decide +kernel
theorem dX6_told_21 : decode cX6_told 21 = .ok (.if_icmp .le 6, 3) := by decide +kernel
theorem dX6_told_24 : decode cX6_told 24 = .ok (.bipush (-102), 2) := by decide +kernel
theorem dX6_told_26 : decode cX6_told 26 = .ok (.ireturn, 1) := by decide +kernel
theorem dX6_told_27 : decode cX6_told 27 = .ok (.aload_n 0, 1) := by decide +kernel
theorem dX6_told_28 : decode cX6_told 28 = .ok (.getfield 32, 3) := by decide +kernel
theorem dX6_told_31 : decode cX6_told 31 = .ok (.getfield 177, 3) := by decide +kernel
theorem dX6_told_34 : decode cX6_told 34 = .ok (.iload_n 1, 1) := by decide +kernel
theorem dX6_told_35 : decode cX6_told 35 = .ok (.iaload, 1) := by decide +kernel
theorem dX6_told_36 : decode cX6_told 36 = .ok (.istore_n 3, 1) := by decide +kernel
theorem dX6_told_37 : decode cX6_told 37 = .ok (.aload_n 0, 1) := by decide +kernel
theorem dX6_told_38 : decode cX6_told 38 = .ok (.getfield 32, 3) := by decide +kernel
theorem dX6_told_41 : decode cX6_told 41 = .ok (.getfield 177, 3) := by decide +kernel
theorem dX6_told_44 : decode cX6_told 44 = .ok (.iload_n 1, 1) := by decide +kernel
theorem dX6_told_45 : decode cX6_told 45 = .ok (.iload_n 2, 1) := by decide +kernel
theorem dX6_told_46 : decode cX6_told 46 = .ok (.iastore, 1) := by decide +kernel
theorem dX6_told_47 : decode cX6_told 47 = .ok (.iload_n 3, 1) := by decide +kernel
theorem dX6_told_48 : decode cX6_told 48 = .ok (.ireturn, 1) := by decide +kernel
set_option maxRecDepth 20000 in
theorem ggX6_stood_X1_isMissing : GoodIn wsX6_stood wsX1_isMissing := goodIn_r _ [7, 8, 87, 88, 89] (by decide +kernel) (by decide +kernel)
set_option maxRecDepth 20000 in
theorem gX6_stood_X1_isMissing : GoodIn wsX6_stood (wsV RX6 81 RX1 yX1_isMissing wsX1_isMissing) := goodIn_app (goodIn_of _ (by decide +kernel)) ggX6_stood_X1_isMissing
theorem dX6_stood_0 : decode cX6_stood 0 = .ok (.iload_n 1, 1) := by decide +kernel
theorem dX6_stood_1 : decode cX6_stood 1 = .ok (.ifCond .lt 8, 3) := by decide +kernel
theorem dX6_stood_4 : decode cX6_stood 4 = .ok (.iload_n 1, 1) := by decide +kernel
theorem dX6_stood_5 : decode cX6_stood 5 = .ok (.iconst 2, 1) := by decide +kernel
theorem dX6_stood_6 : decode cX6_stood 6 = .ok (.if_icmp .le 6, 3) := by decide +kernel
theorem dX6_stood_9 : decode cX6_stood 9 = .ok (.bipush (-102), 2) := by decide +kernel
theorem dX6_stood_11 : decode cX6_stood 11 = .ok (.ireturn, 1) := by decide +kernel
theorem dX6_stood_12 : decode cX6_stood 12 = .ok (.aload_n 0, 1) := by decide +kernel
theorem dX6_stood_13 : decode cX6_stood 13 = .ok (.getfield 27, 3) := by decide +kernel
theorem dX6_stood_16 : decode cX6_stood 16 = .ok (.invokevirtual 81, 3) := by decide +kernel
theorem dX6_stood_19 : decode cX6_stood 19 = .ok (.ifCond .eq 6, 3) := by decide +kernel
theorem dX6_stood_22 : decode cX6_stood 22 = .ok (.bipush (-103), 2) := by decide +kernel
theorem dX6_stood_24 : decode cX6_stood 24 = .ok (.ireturn, 1) := by decide +kernel
theorem dX6_stood_25 : decode cX6_stood 25 = .ok (.aload_n 0, 1) := by decide +kernel
theorem dX6_stood_26 : decode cX6_stood 26 = .ok (.getfield 19, 3) := by decide +kernel
theorem dX6_stood_29 : decode cX6_stood 29 = .ok (.iload_n 1, 1) := by decide +kernel
theorem dX6_stood_30 : decode cX6_stood 30 = .ok (.invokevirtual 180, 3) := by decide +kernel
theorem dX6_stood_33 : decode cX6_stood 33 = .ok (.ireturn, 1) := by decide +kernel
theorem dX6_walk_0 : decode cX6_walk 0 = .ok (.iload_n 1, 1) := by decide +kernel
theorem dX6_walk_1 : decode cX6_walk 1 = .ok (.iconst 1, 1) := by decide +kernel
theorem dX6_walk_2 : decode cX6_walk 2 = .ok (.if_icmp .lt 22, 3) := by decide +kernel
theorem dX6_walk_5 : decode cX6_walk 5 = .ok (.iload_n 1, 1) := by decide +kernel
theorem dX6_walk_6 : decode cX6_walk 6 = .ok (.bipush 60, 2) := by decide +kernel
theorem dX6_walk_8 : decode cX6_walk 8 = .ok (.if_icmp .gt 16, 3) := by decide +kernel
theorem dX6_walk_11 : decode cX6_walk 11 = .ok (.iload_n 2, 1) := by decide +kernel
theorem dX6_walk_12 : decode cX6_walk 12 = .ok (.ifCond .lt 12, 3) := by decide +kernel
theorem dX6_walk_15 : decode cX6_walk 15 = .ok (.iload_n 3, 1) := by decide +kernel
theorem dX6_walk_16 : decode cX6_walk 16 = .ok (.ifCond .lt 8, 3) := by decide +kernel
theorem dX6_walk_19 : decode cX6_walk 19 = .ok (.iload_n 3, 1) := by decide +kernel
theorem dX6_walk_20 : decode cX6_walk 20 = .ok (.iconst 3, 1) := by decide +kernel
theorem dX6_walk_21 : decode cX6_walk 21 = .ok (.if_icmp .le 6, 3) := by decide +kernel
theorem dX6_walk_24 : decode cX6_walk 24 = .ok (.bipush (-102), 2) := by decide +kernel
theorem dX6_walk_26 : decode cX6_walk 26 = .ok (.ireturn, 1) := by decide +kernel
theorem dX6_walk_27 : decode cX6_walk 27 = .ok (.aload_n 0, 1) := by decide +kernel
theorem dX6_walk_28 : decode cX6_walk 28 = .ok (.getfield 32, 3) := by decide +kernel
theorem dX6_walk_31 : decode cX6_walk 31 = .ok (.getfield 91, 3) := by decide +kernel
theorem dX6_walk_34 : decode cX6_walk 34 = .ok (.iconst (-1), 1) := by decide +kernel
theorem dX6_walk_35 : decode cX6_walk 35 = .ok (.if_icmp .ne 6, 3) := by decide +kernel
theorem dX6_walk_38 : decode cX6_walk 38 = .ok (.bipush (-103), 2) := by decide +kernel
theorem dX6_walk_40 : decode cX6_walk 40 = .ok (.ireturn, 1) := by decide +kernel
theorem dX6_walk_41 : decode cX6_walk 41 = .ok (.aload_n 0, 1) := by decide +kernel
theorem dX6_walk_42 : decode cX6_walk 42 = .ok (.getfield 19, 3) := by decide +kernel
theorem dX6_walk_45 : decode cX6_walk 45 = .ok (.iload_n 1, 1) := by decide +kernel
theorem dX6_walk_46 : decode cX6_walk 46 = .ok (.iload_n 2, 1) := by decide +kernel
theorem dX6_walk_47 : decode cX6_walk 47 = .ok (.iload_n 3, 1) := by decide +kernel
theorem dX6_walk_48 : decode cX6_walk 48 = .ok (.invokevirtual 183, 3) := by decide +kernel
theorem dX6_walk_51 : decode cX6_walk 51 = .ok (.ireturn, 1) := by decide +kernel
set_option maxRecDepth 20000 in
theorem ggX6_image_X1_isMissing : GoodIn wsX6_image wsX1_isMissing := goodIn_r _ [11, 12, 37, 38, 39] (by decide +kernel) (by decide +kernel)
set_option maxRecDepth 20000 in
theorem gX6_image_X1_isMissing : GoodIn wsX6_image (wsV RX6 81 RX1 yX1_isMissing wsX1_isMissing) := goodIn_app (goodIn_of _ (by decide +kernel)) ggX6_image_X1_isMissing
theorem dX6_image_0 : decode cX6_image 0 = .ok (.aload_n 0, 1) := by decide +kernel
theorem dX6_image_1 : decode cX6_image 1 = .ok (.getfield 27, 3) := by decide +kernel
theorem dX6_image_4 : decode cX6_image 4 = .ok (.invokevirtual 81, 3) := by decide +kernel
theorem dX6_image_7 : decode cX6_image 7 = .ok (.ifCond .eq 6, 3) := by decide +kernel
theorem dX6_image_10 : decode cX6_image 10 = .ok (.bipush (-103), 2) := by decide +kernel
theorem dX6_image_12 : decode cX6_image 12 = .ok (.ireturn, 1) := by decide +kernel
theorem dX6_image_13 : decode cX6_image 13 = .ok (.aload_n 0, 1) := by decide +kernel
theorem dX6_image_14 : decode cX6_image 14 = .ok (.getfield 36, 3) := by decide +kernel
theorem dX6_image_17 : decode cX6_image 17 = .ok (.aload_n 0, 1) := by decide +kernel
theorem dX6_image_18 : decode cX6_image 18 = .ok (.getfield 32, 3) := by decide +kernel
theorem dX6_image_21 : decode cX6_image 21 = .ok (.invokevirtual 187, 3) := by decide +kernel
theorem dX6_image_24 : decode cX6_image 24 = .ok (.aload_n 0, 1) := by decide +kernel
theorem dX6_image_25 : decode cX6_image 25 = .ok (.aload_n 0, 1) := by decide +kernel
theorem dX6_image_26 : decode cX6_image 26 = .ok (.getfield 27, 3) := by decide +kernel
theorem dX6_image_29 : decode cX6_image 29 = .ok (.getfield 191, 3) := by decide +kernel
theorem dX6_image_32 : decode cX6_image 32 = .ok (.putfield 46, 3) := by decide +kernel
theorem dX6_image_35 : decode cX6_image 35 = .ok (.aload_n 0, 1) := by decide +kernel
theorem dX6_image_36 : decode cX6_image 36 = .ok (.getfield 32, 3) := by decide +kernel
theorem dX6_image_39 : decode cX6_image 39 = .ok (.getfield 194, 3) := by decide +kernel
theorem dX6_image_42 : decode cX6_image 42 = .ok (.ireturn, 1) := by decide +kernel
theorem dX6_restore_0 : decode cX6_restore 0 = .ok (.aload_n 0, 1) := by decide +kernel
theorem dX6_restore_1 : decode cX6_restore 1 = .ok (.getfield 46, 3) := by decide +kernel
theorem dX6_restore_4 : decode cX6_restore 4 = .ok (.ifCond .eq 17, 3) := by decide +kernel
theorem dX6_restore_7 : decode cX6_restore 7 = .ok (.aload_n 0, 1) := by decide +kernel
theorem dX6_restore_8 : decode cX6_restore 8 = .ok (.getfield 46, 3) := by decide +kernel
theorem dX6_restore_11 : decode cX6_restore 11 = .ok (.aload_n 0, 1) := by decide +kernel
theorem dX6_restore_12 : decode cX6_restore 12 = .ok (.getfield 27, 3) := by decide +kernel
theorem dX6_restore_15 : decode cX6_restore 15 = .ok (.getfield 191, 3) := by decide +kernel
theorem dX6_restore_18 : decode cX6_restore 18 = .ok (.if_icmp .eq 6, 3) := by decide +kernel
theorem dX6_restore_21 : decode cX6_restore 21 = .ok (.bipush (-103), 2) := by decide +kernel
theorem dX6_restore_23 : decode cX6_restore 23 = .ok (.ireturn, 1) := by decide +kernel
theorem dX6_restore_24 : decode cX6_restore 24 = .ok (.aload_n 0, 1) := by decide +kernel
theorem dX6_restore_25 : decode cX6_restore 25 = .ok (.getfield 32, 3) := by decide +kernel
theorem dX6_restore_28 : decode cX6_restore 28 = .ok (.aload_n 0, 1) := by decide +kernel
theorem dX6_restore_29 : decode cX6_restore 29 = .ok (.getfield 36, 3) := by decide +kernel
theorem dX6_restore_32 : decode cX6_restore 32 = .ok (.invokevirtual 187, 3) := by decide +kernel
theorem dX6_restore_35 : decode cX6_restore 35 = .ok (.aload_n 0, 1) := by decide +kernel
theorem dX6_restore_36 : decode cX6_restore 36 = .ok (.getfield 32, 3) := by decide +kernel
theorem dX6_restore_39 : decode cX6_restore 39 = .ok (.getfield 194, 3) := by decide +kernel
theorem dX6_restore_42 : decode cX6_restore 42 = .ok (.ireturn, 1) := by decide +kernel
set_option maxRecDepth 20000 in
theorem ggX6_count_X6_placeOf : GoodIn wsX6_count wsX6_placeOf := goodIn_r _ [15] (by decide +kernel) (by decide +kernel)
set_option maxRecDepth 20000 in
theorem gX6_count_X6_placeOf : GoodIn wsX6_count (va_wsS RX6 94 yX6_placeOf wsX6_placeOf) := goodIn_app (goodIn_of _ (by decide +kernel)) ggX6_count_X6_placeOf
set_option maxRecDepth 20000 in
theorem ggX6_count_X6_sideOf : GoodIn wsX6_count wsX6_sideOf := goodIn_r _ [18] (by decide +kernel) (by decide +kernel)
set_option maxRecDepth 20000 in
theorem gX6_count_X6_sideOf : GoodIn wsX6_count (va_wsS RX6 197 yX6_sideOf wsX6_sideOf) := goodIn_app (goodIn_of _ (by decide +kernel)) ggX6_count_X6_sideOf
set_option maxRecDepth 20000 in
theorem ggX6_count_X4_guiltyIf : GoodIn wsX6_count wsX4_guiltyIf := goodIn_r _ [23, 24, 25, 26, 27, 28, 29, 30, 31, 32, 33, 34, 35, 36, 14, 37, 38, 39, 40, 41, 42, 43, 44, 45, 46, 47, 48, 13, 15, 49, 50, 51, 52, 53, 54, 55, 56, 57, 58, 59, 60, 61, 62, 17, 18, 63, 64, 65, 66, 67, 68, 69, 96, 97, 98, 86, 87, 88, 89, 90, 91, 92, 93, 99, 100] (by decide +kernel) (by decide +kernel)
set_option maxRecDepth 20000 in
theorem gX6_count_X4_guiltyIf : GoodIn wsX6_count (wsV RX6 129 RX4 yX4_guiltyIf wsX4_guiltyIf) := goodIn_app (goodIn_of _ (by decide +kernel)) ggX6_count_X4_guiltyIf
set_option maxRecDepth 20000 in
theorem ggX6_count_X0_howManyTold : GoodIn wsX6_count wsX0_howManyTold := goodIn_r _ [74, 34, 75, 86, 87, 88, 89, 90, 91, 92, 93] (by decide +kernel) (by decide +kernel)
set_option maxRecDepth 20000 in
theorem gX6_count_X0_howManyTold : GoodIn wsX6_count (wsV RX6 200 RX0 yX0_howManyTold wsX0_howManyTold) := goodIn_app (goodIn_of _ (by decide +kernel)) ggX6_count_X0_howManyTold
theorem dX6_count_0 : decode cX6_count 0 = .ok (.iload_n 1, 1) := by decide +kernel
theorem dX6_count_1 : decode cX6_count 1 = .ok (.tableswitch 146 0 8 #[51, 59, 67, 78, 89, 114, 122, 130, 138], 51) := by decide +kernel
theorem dX6_count_52 : decode cX6_count 52 = .ok (.aload_n 0, 1) := by decide +kernel
theorem dX6_count_53 : decode cX6_count 53 = .ok (.getfield 27, 3) := by decide +kernel
theorem dX6_count_56 : decode cX6_count 56 = .ok (.getfield 74, 3) := by decide +kernel
theorem dX6_count_59 : decode cX6_count 59 = .ok (.ireturn, 1) := by decide +kernel
theorem dX6_count_60 : decode cX6_count 60 = .ok (.aload_n 0, 1) := by decide +kernel
theorem dX6_count_61 : decode cX6_count 61 = .ok (.getfield 32, 3) := by decide +kernel
theorem dX6_count_64 : decode cX6_count 64 = .ok (.getfield 194, 3) := by decide +kernel
theorem dX6_count_67 : decode cX6_count 67 = .ok (.ireturn, 1) := by decide +kernel
theorem dX6_count_68 : decode cX6_count 68 = .ok (.aload_n 0, 1) := by decide +kernel
theorem dX6_count_69 : decode cX6_count 69 = .ok (.getfield 32, 3) := by decide +kernel
theorem dX6_count_72 : decode cX6_count 72 = .ok (.getfield 91, 3) := by decide +kernel
theorem dX6_count_75 : decode cX6_count 75 = .ok (.invokestatic 94, 3) := by decide +kernel
theorem dX6_count_78 : decode cX6_count 78 = .ok (.ireturn, 1) := by decide +kernel
theorem dX6_count_79 : decode cX6_count 79 = .ok (.aload_n 0, 1) := by decide +kernel
theorem dX6_count_80 : decode cX6_count 80 = .ok (.getfield 32, 3) := by decide +kernel
theorem dX6_count_83 : decode cX6_count 83 = .ok (.getfield 91, 3) := by decide +kernel
theorem dX6_count_86 : decode cX6_count 86 = .ok (.invokestatic 197, 3) := by decide +kernel
theorem dX6_count_89 : decode cX6_count 89 = .ok (.ireturn, 1) := by decide +kernel
theorem dX6_count_90 : decode cX6_count 90 = .ok (.aload_n 0, 1) := by decide +kernel
theorem dX6_count_91 : decode cX6_count 91 = .ok (.getfield 19, 3) := by decide +kernel
theorem dX6_count_94 : decode cX6_count 94 = .ok (.aload_n 0, 1) := by decide +kernel
theorem dX6_count_95 : decode cX6_count 95 = .ok (.getfield 32, 3) := by decide +kernel
theorem dX6_count_98 : decode cX6_count 98 = .ok (.getfield 91, 3) := by decide +kernel
theorem dX6_count_101 : decode cX6_count 101 = .ok (.aload_n 0, 1) := by decide +kernel
theorem dX6_count_102 : decode cX6_count 102 = .ok (.getfield 27, 3) := by decide +kernel
theorem dX6_count_105 : decode cX6_count 105 = .ok (.getfield 84, 3) := by decide +kernel
theorem dX6_count_108 : decode cX6_count 108 = .ok (.invokevirtual 129, 3) := by decide +kernel
theorem dX6_count_111 : decode cX6_count 111 = .ok (.invokestatic 153, 3) := by decide +kernel
theorem dX6_count_114 : decode cX6_count 114 = .ok (.ireturn, 1) := by decide +kernel
theorem dX6_count_115 : decode cX6_count 115 = .ok (.aload_n 0, 1) := by decide +kernel
theorem dX6_count_116 : decode cX6_count 116 = .ok (.getfield 32, 3) := by decide +kernel
theorem dX6_count_119 : decode cX6_count 119 = .ok (.invokevirtual 200, 3) := by decide +kernel
theorem dX6_count_122 : decode cX6_count 122 = .ok (.ireturn, 1) := by decide +kernel
theorem dX6_count_123 : decode cX6_count 123 = .ok (.aload_n 0, 1) := by decide +kernel
theorem dX6_count_124 : decode cX6_count 124 = .ok (.getfield 32, 3) := by decide +kernel
theorem dX6_count_127 : decode cX6_count 127 = .ok (.getfield 147, 3) := by decide +kernel
theorem dX6_count_130 : decode cX6_count 130 = .ok (.ireturn, 1) := by decide +kernel
theorem dX6_count_131 : decode cX6_count 131 = .ok (.aload_n 0, 1) := by decide +kernel
theorem dX6_count_132 : decode cX6_count 132 = .ok (.getfield 12, 3) := by decide +kernel
theorem dX6_count_135 : decode cX6_count 135 = .ok (.getfield 203, 3) := by decide +kernel
theorem dX6_count_138 : decode cX6_count 138 = .ok (.ireturn, 1) := by decide +kernel
theorem dX6_count_139 : decode cX6_count 139 = .ok (.aload_n 0, 1) := by decide +kernel
theorem dX6_count_140 : decode cX6_count 140 = .ok (.getfield 27, 3) := by decide +kernel
theorem dX6_count_143 : decode cX6_count 143 = .ok (.getfield 191, 3) := by decide +kernel
theorem dX6_count_146 : decode cX6_count 146 = .ok (.ireturn, 1) := by decide +kernel
theorem dX6_count_147 : decode cX6_count 147 = .ok (.bipush (-102), 2) := by decide +kernel
theorem dX6_count_149 : decode cX6_count 149 = .ok (.ireturn, 1) := by decide +kernel
set_option maxRecDepth 20000 in
theorem ggX6_digest_X1_isMissing : GoodIn wsX6_digest wsX1_isMissing := goodIn_r _ [11, 12, 244, 245, 246] (by decide +kernel) (by decide +kernel)
set_option maxRecDepth 20000 in
theorem gX6_digest_X1_isMissing : GoodIn wsX6_digest (wsV RX6 81 RX1 yX1_isMissing wsX1_isMissing) := goodIn_app (goodIn_of _ (by decide +kernel)) ggX6_digest_X1_isMissing
set_option maxRecDepth 20000 in
theorem ggX6_digest_X6_on : GoodIn wsX6_digest wsX6_on := goodIn_r _ [17, 2, 18, 3, 4, 19, 20, 16, 21, 7, 8, 9, 10, 11, 12, 22, 23, 24, 25, 26, 27, 28, 29, 30, 31, 32, 33, 34, 35, 36, 37, 227, 228, 229, 230, 231, 232, 233, 244, 245, 246, 234, 235, 236, 237, 238, 239, 240, 241] (by decide +kernel) (by decide +kernel)
set_option maxRecDepth 20000 in
theorem gX6_digest_X6_on : GoodIn wsX6_digest (wsV RX6 206 RX6 yX6_on wsX6_on) := goodIn_app (goodIn_of _ (by decide +kernel)) ggX6_digest_X6_on
set_option maxRecDepth 20000 in
theorem ggX6_digest_X6_mixed : GoodIn wsX6_digest wsX6_mixed := goodIn_r _ [40, 41] (by decide +kernel) (by decide +kernel)
set_option maxRecDepth 20000 in
theorem gX6_digest_X6_mixed : GoodIn wsX6_digest (va_wsS RX6 209 yX6_mixed wsX6_mixed) := goodIn_app (goodIn_of _ (by decide +kernel)) ggX6_digest_X6_mixed
set_option maxRecDepth 20000 in
theorem ggX6_digest_X6_mixedCourtiers : GoodIn wsX6_digest wsX6_mixedCourtiers := goodIn_r _ [45, 3, 46, 47, 48, 49, 50, 16, 51, 52, 53, 54, 4, 2, 18, 55, 56, 57, 58, 59, 34, 60, 36, 61, 62, 63, 64, 65, 66, 67, 68, 69, 70, 71, 37, 26, 27, 72, 73, 74, 75, 76, 77, 78, 79, 80, 81, 82, 83, 84, 85, 86, 87, 88, 29, 30, 20, 21, 89, 90, 91, 92, 93, 94, 95, 96, 97, 98, 99, 100, 101, 102, 103, 104, 105, 106, 107, 108, 109, 110, 111, 112, 113, 114, 115, 116, 117, 118, 119, 25, 38, 39, 40, 41, 227, 228, 229, 230, 231, 232, 233, 234, 235, 236, 237, 238, 239, 240, 241, 244, 245, 246, 247, 248, 249, 250, 251] (by decide +kernel) (by decide +kernel)
set_option maxRecDepth 20000 in
theorem gX6_digest_X6_mixedCourtiers : GoodIn wsX6_digest (wsV RX6 213 RX6 yX6_mixedCourtiers wsX6_mixedCourtiers) := goodIn_app (goodIn_of _ (by decide +kernel)) ggX6_digest_X6_mixedCourtiers
set_option maxRecDepth 20000 in
theorem ggX6_digest_X6_room : GoodIn wsX6_digest wsX6_room := goodIn_r _ [123, 3, 4, 54, 124, 125, 126, 64, 127, 66, 67, 79, 80, 76, 128, 111, 112, 113, 114, 77, 78, 68, 69, 70, 34, 71, 36, 37, 26, 16, 27, 115, 116, 117, 85, 118, 119, 83, 84, 86, 87, 88, 29, 30, 20, 21, 89, 90, 91, 92, 93, 94, 95, 96, 97, 98, 99, 100, 101, 102, 103, 104, 105, 106, 107, 108, 109, 129, 130, 131, 132, 23, 24, 19, 25, 133, 134, 135, 227, 228, 229, 230, 231, 232, 233, 234, 235, 236, 237, 238, 239, 240, 241, 247, 248, 249, 244, 245, 246, 250, 251] (by decide +kernel) (by decide +kernel)
set_option maxRecDepth 20000 in
theorem gX6_digest_X6_room : GoodIn wsX6_digest (wsV RX6 217 RX6 yX6_room wsX6_room) := goodIn_app (goodIn_of _ (by decide +kernel)) ggX6_digest_X6_room
set_option maxRecDepth 20000 in
theorem ggX6_digest_X6_brick : GoodIn wsX6_digest wsX6_brick := goodIn_r _ [139, 3, 4, 54, 2, 18, 140, 141, 142, 64, 143, 66, 67, 79, 80, 129, 130, 131, 132, 68, 69, 70, 34, 71, 36, 37, 26, 16, 27, 29, 30, 128, 111, 112, 113, 114, 76, 77, 78, 115, 116, 117, 85, 118, 119, 83, 84, 86, 87, 88, 20, 21, 89, 90, 91, 92, 93, 94, 95, 96, 97, 98, 99, 100, 101, 102, 103, 104, 105, 106, 107, 108, 109, 144, 23, 24, 19, 25, 110, 145, 227, 228, 229, 230, 231, 232, 233, 234, 235, 236, 237, 238, 239, 240, 241, 244, 245, 246, 247, 248, 249, 250, 251] (by decide +kernel) (by decide +kernel)
set_option maxRecDepth 20000 in
theorem gX6_digest_X6_brick : GoodIn wsX6_digest (wsV RX6 220 RX6 yX6_brick wsX6_brick) := goodIn_app (goodIn_of _ (by decide +kernel)) ggX6_digest_X6_brick
set_option maxRecDepth 20000 in
theorem ggX6_digest_X6_way : GoodIn wsX6_digest wsX6_way := goodIn_r _ [149, 3, 4, 150, 54, 19, 20, 16, 21, 151, 152, 153, 154, 155, 156, 157, 158, 159, 160, 161, 162, 163, 164, 165, 166, 167, 168, 169, 170, 171, 172, 29, 30, 173, 174, 175, 64, 176, 79, 80, 66, 101, 102, 177, 178, 179, 180, 181, 182, 68, 69, 70, 34, 71, 36, 37, 26, 27, 23, 24, 25, 183, 111, 112, 113, 114, 76, 77, 78, 115, 116, 117, 85, 118, 119, 83, 84, 86, 87, 88, 89, 90, 91, 92, 93, 94, 95, 96, 97, 98, 99, 100, 103, 104, 105, 106, 107, 108, 109, 184, 185, 186, 187, 188, 189, 190, 191, 192, 193, 227, 228, 229, 230, 231, 232, 233, 234, 235, 236, 237, 238, 239, 240, 241, 252, 253, 254, 255, 247, 248, 249, 244, 245, 246, 250, 251] (by decide +kernel) (by decide +kernel)
set_option maxRecDepth 20000 in
theorem gX6_digest_X6_way : GoodIn wsX6_digest (wsV RX6 223 RX6 yX6_way wsX6_way) := goodIn_app (goodIn_of _ (by decide +kernel)) ggX6_digest_X6_way
set_option maxRecDepth 20000 in
theorem ggX6_digest_X6_stood : GoodIn wsX6_digest wsX6_stood := goodIn_r _ [197, 2, 54, 7, 8, 9, 10, 11, 12, 198, 199, 200, 64, 201, 79, 80, 66, 68, 69, 70, 34, 71, 36, 37, 26, 16, 27, 29, 30, 23, 24, 19, 20, 21, 25, 202, 203, 204, 205, 114, 206, 72, 73, 74, 75, 76, 77, 78, 81, 58, 59, 60, 82, 83, 84, 85, 86, 87, 88, 89, 90, 91, 92, 93, 94, 95, 96, 97, 98, 99, 100, 101, 102, 103, 104, 105, 106, 107, 108, 109, 227, 228, 229, 230, 231, 232, 233, 244, 245, 246, 247, 248, 249, 234, 235, 236, 237, 238, 239, 240, 241, 250, 251] (by decide +kernel) (by decide +kernel)
set_option maxRecDepth 20000 in
theorem gX6_digest_X6_stood : GoodIn wsX6_digest (wsV RX6 226 RX6 yX6_stood wsX6_stood) := goodIn_app (goodIn_of _ (by decide +kernel)) ggX6_digest_X6_stood
set_option maxRecDepth 20000 in
theorem ggX6_digest_X6_count : GoodIn wsX6_digest wsX6_count := goodIn_r _ [217, 2, 218, 3, 46, 4, 54, 18, 219, 5, 6, 220, 28, 29, 16, 30, 221, 101, 102, 110, 111, 112, 64, 113, 66, 114, 76, 77, 78, 68, 69, 70, 34, 71, 36, 37, 26, 27, 115, 116, 117, 85, 118, 119, 83, 84, 86, 87, 88, 20, 21, 89, 90, 91, 92, 93, 94, 95, 96, 97, 98, 99, 100, 103, 104, 105, 106, 107, 108, 109, 145, 222, 223, 224, 225, 226, 227, 228, 229, 230, 231, 232, 233, 244, 245, 246, 234, 235, 236, 237, 238, 239, 240, 241, 242, 243, 247, 248, 249, 250, 251] (by decide +kernel) (by decide +kernel)
set_option maxRecDepth 20000 in
theorem gX6_digest_X6_count : GoodIn wsX6_digest (wsV RX6 232 RX6 yX6_count wsX6_count) := goodIn_app (goodIn_of _ (by decide +kernel)) ggX6_digest_X6_count
theorem dX6_digest_0 : decode cX6_digest 0 = .ok (.ldc2_w 204, 3) := by decide +kernel
theorem dX6_digest_3 : decode cX6_digest 3 = .ok (.lstore_n 1, 1) := by decide +kernel
theorem dX6_digest_4 : decode cX6_digest 4 = .ok (.aload_n 0, 1) := by decide +kernel
theorem dX6_digest_5 : decode cX6_digest 5 = .ok (.getfield 27, 3) := by decide +kernel
theorem dX6_digest_8 : decode cX6_digest 8 = .ok (.invokevirtual 81, 3) := by decide +kernel
theorem dX6_digest_11 : decode cX6_digest 11 = .ok (.ifCond .ne 27, 3) := by decide +kernel
theorem dX6_digest_14 : decode cX6_digest 14 = .ok (.iconst 0, 1) := by decide +kernel
theorem dX6_digest_15 : decode cX6_digest 15 = .ok (.istore_n 3, 1) := by decide +kernel
theorem dX6_digest_16 : decode cX6_digest 16 = .ok (.iload_n 3, 1) := by decide +kernel
theorem dX6_digest_17 : decode cX6_digest 17 = .ok (.bipush 20, 2) := by decide +kernel
theorem dX6_digest_19 : decode cX6_digest 19 = .ok (.if_icmp .ge 19, 3) := by decide +kernel
theorem dX6_digest_22 : decode cX6_digest 22 = .ok (.lload_n 1, 1) := by decide +kernel
theorem dX6_digest_23 : decode cX6_digest 23 = .ok (.aload_n 0, 1) := by decide +kernel
theorem dX6_digest_24 : decode cX6_digest 24 = .ok (.iload_n 3, 1) := by decide +kernel
theorem dX6_digest_25 : decode cX6_digest 25 = .ok (.invokevirtual 206, 3) := by decide +kernel
theorem dX6_digest_28 : decode cX6_digest 28 = .ok (.invokestatic 209, 3) := by decide +kernel
theorem dX6_digest_31 : decode cX6_digest 31 = .ok (.lstore_n 1, 1) := by decide +kernel
theorem dX6_digest_32 : decode cX6_digest 32 = .ok (.iinc 3 1, 3) := by decide +kernel
theorem dX6_digest_35 : decode cX6_digest 35 = .ok (.goto (-19), 3) := by decide +kernel
theorem dX6_digest_38 : decode cX6_digest 38 = .ok (.aload_n 0, 1) := by decide +kernel
theorem dX6_digest_39 : decode cX6_digest 39 = .ok (.lload_n 1, 1) := by decide +kernel
theorem dX6_digest_40 : decode cX6_digest 40 = .ok (.invokevirtual 213, 3) := by decide +kernel
theorem dX6_digest_43 : decode cX6_digest 43 = .ok (.lstore_n 1, 1) := by decide +kernel
theorem dX6_digest_44 : decode cX6_digest 44 = .ok (.aload_n 0, 1) := by decide +kernel
theorem dX6_digest_45 : decode cX6_digest 45 = .ok (.getfield 32, 3) := by decide +kernel
theorem dX6_digest_48 : decode cX6_digest 48 = .ok (.getfield 91, 3) := by decide +kernel
theorem dX6_digest_51 : decode cX6_digest 51 = .ok (.iconst (-1), 1) := by decide +kernel
theorem dX6_digest_52 : decode cX6_digest 52 = .ok (.if_icmp .eq 62, 3) := by decide +kernel
theorem dX6_digest_55 : decode cX6_digest 55 = .ok (.lload_n 1, 1) := by decide +kernel
theorem dX6_digest_56 : decode cX6_digest 56 = .ok (.aload_n 0, 1) := by decide +kernel
theorem dX6_digest_57 : decode cX6_digest 57 = .ok (.iconst 2, 1) := by decide +kernel
theorem dX6_digest_58 : decode cX6_digest 58 = .ok (.iconst 0, 1) := by decide +kernel
theorem dX6_digest_59 : decode cX6_digest 59 = .ok (.invokevirtual 217, 3) := by decide +kernel
theorem dX6_digest_62 : decode cX6_digest 62 = .ok (.invokestatic 209, 3) := by decide +kernel
theorem dX6_digest_65 : decode cX6_digest 65 = .ok (.aload_n 0, 1) := by decide +kernel
theorem dX6_digest_66 : decode cX6_digest 66 = .ok (.iconst 2, 1) := by decide +kernel
theorem dX6_digest_67 : decode cX6_digest 67 = .ok (.iconst 1, 1) := by decide +kernel
theorem dX6_digest_68 : decode cX6_digest 68 = .ok (.invokevirtual 217, 3) := by decide +kernel
theorem dX6_digest_71 : decode cX6_digest 71 = .ok (.invokestatic 209, 3) := by decide +kernel
theorem dX6_digest_74 : decode cX6_digest 74 = .ok (.lstore_n 1, 1) := by decide +kernel
theorem dX6_digest_75 : decode cX6_digest 75 = .ok (.lload_n 1, 1) := by decide +kernel
theorem dX6_digest_76 : decode cX6_digest 76 = .ok (.aload_n 0, 1) := by decide +kernel
theorem dX6_digest_77 : decode cX6_digest 77 = .ok (.iconst 0, 1) := by decide +kernel
theorem dX6_digest_78 : decode cX6_digest 78 = .ok (.invokevirtual 220, 3) := by decide +kernel
theorem dX6_digest_81 : decode cX6_digest 81 = .ok (.invokestatic 209, 3) := by decide +kernel
theorem dX6_digest_84 : decode cX6_digest 84 = .ok (.aload_n 0, 1) := by decide +kernel
theorem dX6_digest_85 : decode cX6_digest 85 = .ok (.iconst 1, 1) := by decide +kernel
theorem dX6_digest_86 : decode cX6_digest 86 = .ok (.invokevirtual 220, 3) := by decide +kernel
theorem dX6_digest_89 : decode cX6_digest 89 = .ok (.invokestatic 209, 3) := by decide +kernel
theorem dX6_digest_92 : decode cX6_digest 92 = .ok (.lstore_n 1, 1) := by decide +kernel
theorem dX6_digest_93 : decode cX6_digest 93 = .ok (.lload_n 1, 1) := by decide +kernel
theorem dX6_digest_94 : decode cX6_digest 94 = .ok (.aload_n 0, 1) := by decide +kernel
theorem dX6_digest_95 : decode cX6_digest 95 = .ok (.iconst 0, 1) := by decide +kernel
theorem dX6_digest_96 : decode cX6_digest 96 = .ok (.iconst 0, 1) := by decide +kernel
theorem dX6_digest_97 : decode cX6_digest 97 = .ok (.invokevirtual 223, 3) := by decide +kernel
theorem dX6_digest_100 : decode cX6_digest 100 = .ok (.invokestatic 209, 3) := by decide +kernel
theorem dX6_digest_103 : decode cX6_digest 103 = .ok (.aload_n 0, 1) := by decide +kernel
theorem dX6_digest_104 : decode cX6_digest 104 = .ok (.bipush 19, 2) := by decide +kernel
theorem dX6_digest_106 : decode cX6_digest 106 = .ok (.iconst 0, 1) := by decide +kernel
theorem dX6_digest_107 : decode cX6_digest 107 = .ok (.invokevirtual 223, 3) := by decide +kernel
theorem dX6_digest_110 : decode cX6_digest 110 = .ok (.invokestatic 209, 3) := by decide +kernel
theorem dX6_digest_113 : decode cX6_digest 113 = .ok (.lstore_n 1, 1) := by decide +kernel
theorem dX6_digest_114 : decode cX6_digest 114 = .ok (.aload_n 0, 1) := by decide +kernel
theorem dX6_digest_115 : decode cX6_digest 115 = .ok (.getfield 27, 3) := by decide +kernel
theorem dX6_digest_118 : decode cX6_digest 118 = .ok (.invokevirtual 81, 3) := by decide +kernel
theorem dX6_digest_121 : decode cX6_digest 121 = .ok (.ifCond .ne 26, 3) := by decide +kernel
theorem dX6_digest_124 : decode cX6_digest 124 = .ok (.iconst 0, 1) := by decide +kernel
theorem dX6_digest_125 : decode cX6_digest 125 = .ok (.istore_n 3, 1) := by decide +kernel
theorem dX6_digest_126 : decode cX6_digest 126 = .ok (.iload_n 3, 1) := by decide +kernel
theorem dX6_digest_127 : decode cX6_digest 127 = .ok (.iconst 2, 1) := by decide +kernel
theorem dX6_digest_128 : decode cX6_digest 128 = .ok (.if_icmp .gt 19, 3) := by decide +kernel
theorem dX6_digest_131 : decode cX6_digest 131 = .ok (.lload_n 1, 1) := by decide +kernel
theorem dX6_digest_132 : decode cX6_digest 132 = .ok (.aload_n 0, 1) := by decide +kernel
theorem dX6_digest_133 : decode cX6_digest 133 = .ok (.iload_n 3, 1) := by decide +kernel
theorem dX6_digest_134 : decode cX6_digest 134 = .ok (.invokevirtual 226, 3) := by decide +kernel
theorem dX6_digest_137 : decode cX6_digest 137 = .ok (.invokestatic 209, 3) := by decide +kernel
theorem dX6_digest_140 : decode cX6_digest 140 = .ok (.lstore_n 1, 1) := by decide +kernel
theorem dX6_digest_141 : decode cX6_digest 141 = .ok (.iinc 3 1, 3) := by decide +kernel
theorem dX6_digest_144 : decode cX6_digest 144 = .ok (.goto (-18), 3) := by decide +kernel
theorem dX6_digest_147 : decode cX6_digest 147 = .ok (.iconst 0, 1) := by decide +kernel
theorem dX6_digest_148 : decode cX6_digest 148 = .ok (.istore_n 3, 1) := by decide +kernel
theorem dX6_digest_149 : decode cX6_digest 149 = .ok (.iload_n 3, 1) := by decide +kernel
theorem dX6_digest_150 : decode cX6_digest 150 = .ok (.aload_n 0, 1) := by decide +kernel
theorem dX6_digest_151 : decode cX6_digest 151 = .ok (.getfield 12, 3) := by decide +kernel
theorem dX6_digest_154 : decode cX6_digest 154 = .ok (.getfield 203, 3) := by decide +kernel
theorem dX6_digest_157 : decode cX6_digest 157 = .ok (.if_icmp .ge 22, 3) := by decide +kernel
theorem dX6_digest_160 : decode cX6_digest 160 = .ok (.lload_n 1, 1) := by decide +kernel
theorem dX6_digest_161 : decode cX6_digest 161 = .ok (.aload_n 0, 1) := by decide +kernel
theorem dX6_digest_162 : decode cX6_digest 162 = .ok (.getfield 12, 3) := by decide +kernel
theorem dX6_digest_165 : decode cX6_digest 165 = .ok (.iload_n 3, 1) := by decide +kernel
theorem dX6_digest_166 : decode cX6_digest 166 = .ok (.invokevirtual 229, 3) := by decide +kernel
theorem dX6_digest_169 : decode cX6_digest 169 = .ok (.invokestatic 209, 3) := by decide +kernel
theorem dX6_digest_172 : decode cX6_digest 172 = .ok (.lstore_n 1, 1) := by decide +kernel
theorem dX6_digest_173 : decode cX6_digest 173 = .ok (.iinc 3 1, 3) := by decide +kernel
theorem dX6_digest_176 : decode cX6_digest 176 = .ok (.goto (-27), 3) := by decide +kernel
theorem dX6_digest_179 : decode cX6_digest 179 = .ok (.iconst 0, 1) := by decide +kernel
theorem dX6_digest_180 : decode cX6_digest 180 = .ok (.istore_n 3, 1) := by decide +kernel
theorem dX6_digest_181 : decode cX6_digest 181 = .ok (.iload_n 3, 1) := by decide +kernel
theorem dX6_digest_182 : decode cX6_digest 182 = .ok (.bipush 8, 2) := by decide +kernel
theorem dX6_digest_184 : decode cX6_digest 184 = .ok (.if_icmp .gt 19, 3) := by decide +kernel
theorem dX6_digest_187 : decode cX6_digest 187 = .ok (.lload_n 1, 1) := by decide +kernel
theorem dX6_digest_188 : decode cX6_digest 188 = .ok (.aload_n 0, 1) := by decide +kernel
theorem dX6_digest_189 : decode cX6_digest 189 = .ok (.iload_n 3, 1) := by decide +kernel
theorem dX6_digest_190 : decode cX6_digest 190 = .ok (.invokevirtual 232, 3) := by decide +kernel
theorem dX6_digest_193 : decode cX6_digest 193 = .ok (.invokestatic 209, 3) := by decide +kernel
theorem dX6_digest_196 : decode cX6_digest 196 = .ok (.lstore_n 1, 1) := by decide +kernel
theorem dX6_digest_197 : decode cX6_digest 197 = .ok (.iinc 3 1, 3) := by decide +kernel
theorem dX6_digest_200 : decode cX6_digest 200 = .ok (.goto (-19), 3) := by decide +kernel
theorem dX6_digest_203 : decode cX6_digest 203 = .ok (.lload_n 1, 1) := by decide +kernel
theorem dX6_digest_204 : decode cX6_digest 204 = .ok (.lreturn, 1) := by decide +kernel
set_option maxRecDepth 20000 in
theorem ggX6_mixedCourtiers_X6_about : GoodIn wsX6_mixedCourtiers wsX6_about := goodIn_r _ [8, 1, 9, 10, 11, 12, 13, 14, 15, 16, 17, 18, 19, 20, 21, 22, 23, 24, 25, 26, 27, 28, 29, 30, 31, 32, 33, 34, 35, 7, 36, 37, 38, 39, 40, 41, 42, 43, 44, 45, 46, 47, 48, 49, 50, 51, 52, 53, 54, 55, 56, 57, 58, 59, 60, 61, 62, 63, 64, 65, 66, 67, 68, 69, 70, 71, 72, 73, 74, 75, 76, 77, 78, 79, 80, 81, 82, 83, 84, 85, 86, 87, 88, 89, 94, 95, 96, 97, 98, 99, 100, 101, 102, 103, 104, 105, 106, 107, 108, 109, 110, 111, 112, 113, 114, 115, 116] (by decide +kernel) (by decide +kernel)
set_option maxRecDepth 20000 in
theorem gX6_mixedCourtiers_X6_about : GoodIn wsX6_mixedCourtiers (wsV RX6 235 RX6 yX6_about wsX6_about) := goodIn_app (goodIn_of _ (by decide +kernel)) ggX6_mixedCourtiers_X6_about
set_option maxRecDepth 20000 in
theorem ggX6_mixedCourtiers_X6_mixed : GoodIn wsX6_mixedCourtiers wsX6_mixed := goodIn_r _ [92, 93] (by decide +kernel) (by decide +kernel)
set_option maxRecDepth 20000 in
theorem gX6_mixedCourtiers_X6_mixed : GoodIn wsX6_mixedCourtiers (va_wsS RX6 209 yX6_mixed wsX6_mixed) := goodIn_app (goodIn_of _ (by decide +kernel)) ggX6_mixedCourtiers_X6_mixed
theorem dX6_mixedCourtiers_0 : decode cX6_mixedCourtiers 0 = .ok (.lload_n 1, 1) := by decide +kernel
theorem dX6_mixedCourtiers_1 : decode cX6_mixedCourtiers 1 = .ok (.lstore_n 3, 1) := by decide +kernel
theorem dX6_mixedCourtiers_2 : decode cX6_mixedCourtiers 2 = .ok (.iconst 0, 1) := by decide +kernel
theorem dX6_mixedCourtiers_3 : decode cX6_mixedCourtiers 3 = .ok (.istore 5, 2) := by decide +kernel
theorem dX6_mixedCourtiers_5 : decode cX6_mixedCourtiers 5 = .ok (.iload 5, 2) := by decide +kernel
theorem dX6_mixedCourtiers_7 : decode cX6_mixedCourtiers 7 = .ok (.aload_n 0, 1) := by decide +kernel
theorem dX6_mixedCourtiers_8 : decode cX6_mixedCourtiers 8 = .ok (.getfield 32, 3) := by decide +kernel
theorem dX6_mixedCourtiers_11 : decode cX6_mixedCourtiers 11 = .ok (.getfield 194, 3) := by decide +kernel
theorem dX6_mixedCourtiers_14 : decode cX6_mixedCourtiers 14 = .ok (.if_icmp .ge 52, 3) := by decide +kernel
theorem dX6_mixedCourtiers_17 : decode cX6_mixedCourtiers 17 = .ok (.iconst 0, 1) := by decide +kernel
theorem dX6_mixedCourtiers_18 : decode cX6_mixedCourtiers 18 = .ok (.istore 6, 2) := by decide +kernel
theorem dX6_mixedCourtiers_20 : decode cX6_mixedCourtiers 20 = .ok (.iload 6, 2) := by decide +kernel
theorem dX6_mixedCourtiers_22 : decode cX6_mixedCourtiers 22 = .ok (.iconst 5, 1) := by decide +kernel
theorem dX6_mixedCourtiers_23 : decode cX6_mixedCourtiers 23 = .ok (.if_icmp .gt 22, 3) := by decide +kernel
theorem dX6_mixedCourtiers_26 : decode cX6_mixedCourtiers 26 = .ok (.lload_n 3, 1) := by decide +kernel
theorem dX6_mixedCourtiers_27 : decode cX6_mixedCourtiers 27 = .ok (.aload_n 0, 1) := by decide +kernel
theorem dX6_mixedCourtiers_28 : decode cX6_mixedCourtiers 28 = .ok (.iload 5, 2) := by decide +kernel
theorem dX6_mixedCourtiers_30 : decode cX6_mixedCourtiers 30 = .ok (.iload 6, 2) := by decide +kernel
theorem dX6_mixedCourtiers_32 : decode cX6_mixedCourtiers 32 = .ok (.invokevirtual 235, 3) := by decide +kernel
theorem dX6_mixedCourtiers_35 : decode cX6_mixedCourtiers 35 = .ok (.invokestatic 209, 3) := by decide +kernel
theorem dX6_mixedCourtiers_38 : decode cX6_mixedCourtiers 38 = .ok (.lstore_n 3, 1) := by decide +kernel
theorem dX6_mixedCourtiers_39 : decode cX6_mixedCourtiers 39 = .ok (.iinc 6 1, 3) := by decide +kernel
theorem dX6_mixedCourtiers_42 : decode cX6_mixedCourtiers 42 = .ok (.goto (-22), 3) := by decide +kernel
theorem dX6_mixedCourtiers_45 : decode cX6_mixedCourtiers 45 = .ok (.lload_n 3, 1) := by decide +kernel
theorem dX6_mixedCourtiers_46 : decode cX6_mixedCourtiers 46 = .ok (.aload_n 0, 1) := by decide +kernel
theorem dX6_mixedCourtiers_47 : decode cX6_mixedCourtiers 47 = .ok (.getfield 32, 3) := by decide +kernel
theorem dX6_mixedCourtiers_50 : decode cX6_mixedCourtiers 50 = .ok (.getfield 177, 3) := by decide +kernel
theorem dX6_mixedCourtiers_53 : decode cX6_mixedCourtiers 53 = .ok (.iload 5, 2) := by decide +kernel
theorem dX6_mixedCourtiers_55 : decode cX6_mixedCourtiers 55 = .ok (.iaload, 1) := by decide +kernel
theorem dX6_mixedCourtiers_56 : decode cX6_mixedCourtiers 56 = .ok (.invokestatic 209, 3) := by decide +kernel
theorem dX6_mixedCourtiers_59 : decode cX6_mixedCourtiers 59 = .ok (.lstore_n 3, 1) := by decide +kernel
theorem dX6_mixedCourtiers_60 : decode cX6_mixedCourtiers 60 = .ok (.iinc 5 1, 3) := by decide +kernel
theorem dX6_mixedCourtiers_63 : decode cX6_mixedCourtiers 63 = .ok (.goto (-58), 3) := by decide +kernel
theorem dX6_mixedCourtiers_66 : decode cX6_mixedCourtiers 66 = .ok (.lload_n 3, 1) := by decide +kernel
theorem dX6_mixedCourtiers_67 : decode cX6_mixedCourtiers 67 = .ok (.lreturn, 1) := by decide +kernel
theorem dX6_mixed_0 : decode cX6_mixed 0 = .ok (.ldc2_w 238, 3) := by decide +kernel
theorem dX6_mixed_3 : decode cX6_mixed 3 = .ok (.lload_n 0, 1) := by decide +kernel
theorem dX6_mixed_4 : decode cX6_mixed 4 = .ok (.lmul, 1) := by decide +kernel
theorem dX6_mixed_5 : decode cX6_mixed 5 = .ok (.iload_n 2, 1) := by decide +kernel
theorem dX6_mixed_6 : decode cX6_mixed 6 = .ok (.i2l, 1) := by decide +kernel
theorem dX6_mixed_7 : decode cX6_mixed 7 = .ok (.ladd, 1) := by decide +kernel
theorem dX6_mixed_8 : decode cX6_mixed 8 = .ok (.lreturn, 1) := by decide +kernel
theorem dX6_isPlace_0 : decode cX6_isPlace 0 = .ok (.iload_n 0, 1) := by decide +kernel
theorem dX6_isPlace_1 : decode cX6_isPlace 1 = .ok (.ifCond .lt 13, 3) := by decide +kernel
theorem dX6_isPlace_4 : decode cX6_isPlace 4 = .ok (.iload_n 0, 1) := by decide +kernel
theorem dX6_isPlace_5 : decode cX6_isPlace 5 = .ok (.bipush 20, 2) := by decide +kernel
theorem dX6_isPlace_7 : decode cX6_isPlace 7 = .ok (.if_icmp .ge 7, 3) := by decide +kernel
theorem dX6_isPlace_10 : decode cX6_isPlace 10 = .ok (.iconst 1, 1) := by decide +kernel
theorem dX6_isPlace_11 : decode cX6_isPlace 11 = .ok (.goto 4, 3) := by decide +kernel
theorem dX6_isPlace_14 : decode cX6_isPlace 14 = .ok (.iconst 0, 1) := by decide +kernel
theorem dX6_isPlace_15 : decode cX6_isPlace 15 = .ok (.ireturn, 1) := by decide +kernel
theorem dX6_isKind_0 : decode cX6_isKind 0 = .ok (.iload_n 0, 1) := by decide +kernel
theorem dX6_isKind_1 : decode cX6_isKind 1 = .ok (.ifCond .lt 12, 3) := by decide +kernel
theorem dX6_isKind_4 : decode cX6_isKind 4 = .ok (.iload_n 0, 1) := by decide +kernel
theorem dX6_isKind_5 : decode cX6_isKind 5 = .ok (.iconst 4, 1) := by decide +kernel
theorem dX6_isKind_6 : decode cX6_isKind 6 = .ok (.if_icmp .gt 7, 3) := by decide +kernel
theorem dX6_isKind_9 : decode cX6_isKind 9 = .ok (.iconst 1, 1) := by decide +kernel
theorem dX6_isKind_10 : decode cX6_isKind 10 = .ok (.goto 4, 3) := by decide +kernel
theorem dX6_isKind_13 : decode cX6_isKind 13 = .ok (.iconst 0, 1) := by decide +kernel
theorem dX6_isKind_14 : decode cX6_isKind 14 = .ok (.ireturn, 1) := by decide +kernel
theorem dX6_bit_0 : decode cX6_bit 0 = .ok (.iconst 1, 1) := by decide +kernel
theorem dX6_bit_1 : decode cX6_bit 1 = .ok (.iload_n 0, 1) := by decide +kernel
theorem dX6_bit_2 : decode cX6_bit 2 = .ok (.ishl, 1) := by decide +kernel
theorem dX6_bit_3 : decode cX6_bit 3 = .ok (.ireturn, 1) := by decide +kernel
set_option maxRecDepth 20000 in
theorem ggX6_neighbour_X6_isPlace : GoodIn wsX6_neighbour wsX6_isPlace := goodIn_r _ [6] (by decide +kernel) (by decide +kernel)
set_option maxRecDepth 20000 in
theorem gX6_neighbour_X6_isPlace : GoodIn wsX6_neighbour (va_wsS RX6 77 yX6_isPlace wsX6_isPlace) := goodIn_app (goodIn_of _ (by decide +kernel)) ggX6_neighbour_X6_isPlace
theorem dX6_neighbour_0 : decode cX6_neighbour 0 = .ok (.iload_n 0, 1) := by decide +kernel
theorem dX6_neighbour_1 : decode cX6_neighbour 1 = .ok (.invokestatic 77, 3) := by decide +kernel
theorem dX6_neighbour_4 : decode cX6_neighbour 4 = .ok (.ifCond .eq 13, 3) := by decide +kernel
theorem dX6_neighbour_7 : decode cX6_neighbour 7 = .ok (.iload_n 1, 1) := by decide +kernel
theorem dX6_neighbour_8 : decode cX6_neighbour 8 = .ok (.ifCond .lt 9, 3) := by decide +kernel
theorem dX6_neighbour_11 : decode cX6_neighbour 11 = .ok (.iload_n 1, 1) := by decide +kernel
theorem dX6_neighbour_12 : decode cX6_neighbour 12 = .ok (.bipush 8, 2) := by decide +kernel
theorem dX6_neighbour_14 : decode cX6_neighbour 14 = .ok (.if_icmp .lt 5, 3) := by decide +kernel
theorem dX6_neighbour_17 : decode cX6_neighbour 17 = .ok (.iconst (-1), 1) := by decide +kernel
theorem dX6_neighbour_18 : decode cX6_neighbour 18 = .ok (.ireturn, 1) := by decide +kernel
theorem dX6_neighbour_19 : decode cX6_neighbour 19 = .ok (.iload_n 0, 1) := by decide +kernel
theorem dX6_neighbour_20 : decode cX6_neighbour 20 = .ok (.iconst 5, 1) := by decide +kernel
theorem dX6_neighbour_21 : decode cX6_neighbour 21 = .ok (.idiv, 1) := by decide +kernel
theorem dX6_neighbour_22 : decode cX6_neighbour 22 = .ok (.getstatic 240, 3) := by decide +kernel
theorem dX6_neighbour_25 : decode cX6_neighbour 25 = .ok (.iload_n 1, 1) := by decide +kernel
theorem dX6_neighbour_26 : decode cX6_neighbour 26 = .ok (.iaload, 1) := by decide +kernel
theorem dX6_neighbour_27 : decode cX6_neighbour 27 = .ok (.iadd, 1) := by decide +kernel
theorem dX6_neighbour_28 : decode cX6_neighbour 28 = .ok (.istore_n 2, 1) := by decide +kernel
theorem dX6_neighbour_29 : decode cX6_neighbour 29 = .ok (.iload_n 0, 1) := by decide +kernel
theorem dX6_neighbour_30 : decode cX6_neighbour 30 = .ok (.iconst 5, 1) := by decide +kernel
theorem dX6_neighbour_31 : decode cX6_neighbour 31 = .ok (.irem, 1) := by decide +kernel
theorem dX6_neighbour_32 : decode cX6_neighbour 32 = .ok (.getstatic 243, 3) := by decide +kernel
theorem dX6_neighbour_35 : decode cX6_neighbour 35 = .ok (.iload_n 1, 1) := by decide +kernel
theorem dX6_neighbour_36 : decode cX6_neighbour 36 = .ok (.iaload, 1) := by decide +kernel
theorem dX6_neighbour_37 : decode cX6_neighbour 37 = .ok (.iadd, 1) := by decide +kernel
theorem dX6_neighbour_38 : decode cX6_neighbour 38 = .ok (.istore_n 3, 1) := by decide +kernel
theorem dX6_neighbour_39 : decode cX6_neighbour 39 = .ok (.iload_n 2, 1) := by decide +kernel
theorem dX6_neighbour_40 : decode cX6_neighbour 40 = .ok (.ifCond .lt 17, 3) := by decide +kernel
theorem dX6_neighbour_43 : decode cX6_neighbour 43 = .ok (.iload_n 2, 1) := by decide +kernel
theorem dX6_neighbour_44 : decode cX6_neighbour 44 = .ok (.iconst 4, 1) := by decide +kernel
theorem dX6_neighbour_45 : decode cX6_neighbour 45 = .ok (.if_icmp .ge 12, 3) := by decide +kernel
theorem dX6_neighbour_48 : decode cX6_neighbour 48 = .ok (.iload_n 3, 1) := by decide +kernel
theorem dX6_neighbour_49 : decode cX6_neighbour 49 = .ok (.ifCond .lt 8, 3) := by decide +kernel
theorem dX6_neighbour_52 : decode cX6_neighbour 52 = .ok (.iload_n 3, 1) := by decide +kernel
theorem dX6_neighbour_53 : decode cX6_neighbour 53 = .ok (.iconst 5, 1) := by decide +kernel
theorem dX6_neighbour_54 : decode cX6_neighbour 54 = .ok (.if_icmp .lt 5, 3) := by decide +kernel
theorem dX6_neighbour_57 : decode cX6_neighbour 57 = .ok (.iconst (-1), 1) := by decide +kernel
theorem dX6_neighbour_58 : decode cX6_neighbour 58 = .ok (.ireturn, 1) := by decide +kernel
theorem dX6_neighbour_59 : decode cX6_neighbour 59 = .ok (.iload_n 2, 1) := by decide +kernel
theorem dX6_neighbour_60 : decode cX6_neighbour 60 = .ok (.iconst 5, 1) := by decide +kernel
theorem dX6_neighbour_61 : decode cX6_neighbour 61 = .ok (.imul, 1) := by decide +kernel
theorem dX6_neighbour_62 : decode cX6_neighbour 62 = .ok (.iload_n 3, 1) := by decide +kernel
theorem dX6_neighbour_63 : decode cX6_neighbour 63 = .ok (.iadd, 1) := by decide +kernel
theorem dX6_neighbour_64 : decode cX6_neighbour 64 = .ok (.ireturn, 1) := by decide +kernel
theorem dX6_placeOf_0 : decode cX6_placeOf 0 = .ok (.iload_n 0, 1) := by decide +kernel
theorem dX6_placeOf_1 : decode cX6_placeOf 1 = .ok (.ifCond .ge 7, 3) := by decide +kernel
theorem dX6_placeOf_4 : decode cX6_placeOf 4 = .ok (.iconst (-1), 1) := by decide +kernel
theorem dX6_placeOf_5 : decode cX6_placeOf 5 = .ok (.goto 6, 3) := by decide +kernel
theorem dX6_placeOf_8 : decode cX6_placeOf 8 = .ok (.iload_n 0, 1) := by decide +kernel
theorem dX6_placeOf_9 : decode cX6_placeOf 9 = .ok (.iconst 4, 1) := by decide +kernel
theorem dX6_placeOf_10 : decode cX6_placeOf 10 = .ok (.idiv, 1) := by decide +kernel
theorem dX6_placeOf_11 : decode cX6_placeOf 11 = .ok (.ireturn, 1) := by decide +kernel
theorem dX6_sideOf_0 : decode cX6_sideOf 0 = .ok (.iload_n 0, 1) := by decide +kernel
theorem dX6_sideOf_1 : decode cX6_sideOf 1 = .ok (.ifCond .ge 7, 3) := by decide +kernel
theorem dX6_sideOf_4 : decode cX6_sideOf 4 = .ok (.iconst (-1), 1) := by decide +kernel
theorem dX6_sideOf_5 : decode cX6_sideOf 5 = .ok (.goto 6, 3) := by decide +kernel
theorem dX6_sideOf_8 : decode cX6_sideOf 8 = .ok (.iload_n 0, 1) := by decide +kernel
theorem dX6_sideOf_9 : decode cX6_sideOf 9 = .ok (.iconst 4, 1) := by decide +kernel
theorem dX6_sideOf_10 : decode cX6_sideOf 10 = .ok (.irem, 1) := by decide +kernel
theorem dX6_sideOf_11 : decode cX6_sideOf 11 = .ok (.ireturn, 1) := by decide +kernel
end
section
theorem dX7_init_0 : decode cX7_init 0 = .ok (.aload_n 0, 1) := by decide +kernel
theorem dX7_init_1 : decode cX7_init 1 = .ok (.invokespecial 1, 3) := by decide +kernel
theorem dX7_init_4 : decode cX7_init 4 = .ok (.aload_n 0, 1) := by decide +kernel
theorem dX7_init_5 : decode cX7_init 5 = .ok (.iconst (-1), 1) := by decide +kernel
theorem dX7_init_6 : decode cX7_init 6 = .ok (.putfield 7, 3) := by decide +kernel
theorem dX7_init_9 : decode cX7_init 9 = .ok (.aload_n 0, 1) := by decide +kernel
theorem dX7_init_10 : decode cX7_init 10 = .ok (.iconst (-1), 1) := by decide +kernel
theorem dX7_init_11 : decode cX7_init 11 = .ok (.putfield 13, 3) := by decide +kernel
theorem dX7_init_14 : decode cX7_init 14 = .ok (.aload_n 0, 1) := by decide +kernel
theorem dX7_init_15 : decode cX7_init 15 = .ok (.bipush 6, 2) := by decide +kernel
theorem dX7_init_17 : decode cX7_init 17 = .ok (.newarray .int, 2) := by decide +kernel
theorem dX7_init_19 : decode cX7_init 19 = .ok (.putfield 16, 3) := by decide +kernel
theorem dX7_init_22 : decode cX7_init 22 = .ok (.aload_n 0, 1) := by decide +kernel
theorem dX7_init_23 : decode cX7_init 23 = .ok (.bipush 6, 2) := by decide +kernel
theorem dX7_init_25 : decode cX7_init 25 = .ok (.newarray .int, 2) := by decide +kernel
theorem dX7_init_27 : decode cX7_init 27 = .ok (.putfield 20, 3) := by decide +kernel
theorem dX7_init_30 : decode cX7_init 30 = .ok (.aload_n 0, 1) := by decide +kernel
theorem dX7_init_31 : decode cX7_init 31 = .ok (.bipush 6, 2) := by decide +kernel
theorem dX7_init_33 : decode cX7_init 33 = .ok (.newarray .int, 2) := by decide +kernel
theorem dX7_init_35 : decode cX7_init 35 = .ok (.putfield 23, 3) := by decide +kernel
theorem dX7_init_38 : decode cX7_init 38 = .ok (.aload_n 0, 1) := by decide +kernel
theorem dX7_init_39 : decode cX7_init 39 = .ok (.bipush 6, 2) := by decide +kernel
theorem dX7_init_41 : decode cX7_init 41 = .ok (.newarray .int, 2) := by decide +kernel
theorem dX7_init_43 : decode cX7_init 43 = .ok (.putfield 26, 3) := by decide +kernel
theorem dX7_init_46 : decode cX7_init 46 = .ok (.aload_n 0, 1) := by decide +kernel
theorem dX7_init_47 : decode cX7_init 47 = .ok (.bipush 6, 2) := by decide +kernel
theorem dX7_init_49 : decode cX7_init 49 = .ok (.newarray .int, 2) := by decide +kernel
theorem dX7_init_51 : decode cX7_init 51 = .ok (.putfield 29, 3) := by decide +kernel
theorem dX7_init_54 : decode cX7_init 54 = .ok (.aload_n 0, 1) := by decide +kernel
theorem dX7_init_55 : decode cX7_init 55 = .ok (.bipush 24, 2) := by decide +kernel
theorem dX7_init_57 : decode cX7_init 57 = .ok (.newarray .byte, 2) := by decide +kernel
theorem dX7_init_59 : decode cX7_init 59 = .ok (.putfield 32, 3) := by decide +kernel
theorem dX7_init_62 : decode cX7_init 62 = .ok (.aload_n 0, 1) := by decide +kernel
theorem dX7_init_63 : decode cX7_init 63 = .ok (.iconst 3, 1) := by decide +kernel
theorem dX7_init_64 : decode cX7_init 64 = .ok (.newarray .int, 2) := by decide +kernel
theorem dX7_init_66 : decode cX7_init 66 = .ok (.putfield 36, 3) := by decide +kernel
theorem dX7_init_69 : decode cX7_init 69 = .ok (.aload_n 0, 1) := by decide +kernel
theorem dX7_init_70 : decode cX7_init 70 = .ok (.bipush 80, 2) := by decide +kernel
theorem dX7_init_72 : decode cX7_init 72 = .ok (.newarray .int, 2) := by decide +kernel
theorem dX7_init_74 : decode cX7_init 74 = .ok (.putfield 39, 3) := by decide +kernel
theorem dX7_init_77 : decode cX7_init 77 = .ok (.aload_n 0, 1) := by decide +kernel
theorem dX7_init_78 : decode cX7_init 78 = .ok (.bipush 80, 2) := by decide +kernel
theorem dX7_init_80 : decode cX7_init 80 = .ok (.newarray .int, 2) := by decide +kernel
theorem dX7_init_82 : decode cX7_init 82 = .ok (.putfield 42, 3) := by decide +kernel
theorem dX7_init_85 : decode cX7_init 85 = .ok (.aload_n 0, 1) := by decide +kernel
theorem dX7_init_86 : decode cX7_init 86 = .ok (.bipush 6, 2) := by decide +kernel
theorem dX7_init_88 : decode cX7_init 88 = .ok (.newarray .int, 2) := by decide +kernel
theorem dX7_init_90 : decode cX7_init 90 = .ok (.putfield 45, 3) := by decide +kernel
theorem dX7_init_93 : decode cX7_init 93 = .ok (.aload_n 0, 1) := by decide +kernel
theorem dX7_init_94 : decode cX7_init 94 = .ok (.bipush 6, 2) := by decide +kernel
theorem dX7_init_96 : decode cX7_init 96 = .ok (.newarray .int, 2) := by decide +kernel
theorem dX7_init_98 : decode cX7_init 98 = .ok (.putfield 48, 3) := by decide +kernel
theorem dX7_init_101 : decode cX7_init 101 = .ok (.aload_n 0, 1) := by decide +kernel
theorem dX7_init_102 : decode cX7_init 102 = .ok (.bipush 6, 2) := by decide +kernel
theorem dX7_init_104 : decode cX7_init 104 = .ok (.newarray .int, 2) := by decide +kernel
theorem dX7_init_106 : decode cX7_init 106 = .ok (.putfield 51, 3) := by decide +kernel
theorem dX7_init_109 : decode cX7_init 109 = .ok (.aload_n 0, 1) := by decide +kernel
theorem dX7_init_110 : decode cX7_init 110 = .ok (.bipush 6, 2) := by decide +kernel
theorem dX7_init_112 : decode cX7_init 112 = .ok (.newarray .int, 2) := by decide +kernel
theorem dX7_init_114 : decode cX7_init 114 = .ok (.putfield 54, 3) := by decide +kernel
theorem dX7_init_117 : decode cX7_init 117 = .ok (.return_, 1) := by decide +kernel
theorem dX7_within_0 : decode cX7_within 0 = .ok (.iload_n 0, 1) := by decide +kernel
theorem dX7_within_1 : decode cX7_within 1 = .ok (.iload_n 1, 1) := by decide +kernel
theorem dX7_within_2 : decode cX7_within 2 = .ok (.if_icmp .lt 12, 3) := by decide +kernel
theorem dX7_within_5 : decode cX7_within 5 = .ok (.iload_n 0, 1) := by decide +kernel
theorem dX7_within_6 : decode cX7_within 6 = .ok (.iload_n 2, 1) := by decide +kernel
theorem dX7_within_7 : decode cX7_within 7 = .ok (.if_icmp .gt 7, 3) := by decide +kernel
theorem dX7_within_10 : decode cX7_within 10 = .ok (.iconst 1, 1) := by decide +kernel
theorem dX7_within_11 : decode cX7_within 11 = .ok (.goto 4, 3) := by decide +kernel
theorem dX7_within_14 : decode cX7_within 14 = .ok (.iconst 0, 1) := by decide +kernel
theorem dX7_within_15 : decode cX7_within 15 = .ok (.ireturn, 1) := by decide +kernel
theorem dX7_size_0 : decode cX7_size 0 = .ok (.iconst 0, 1) := by decide +kernel
theorem dX7_size_1 : decode cX7_size 1 = .ok (.istore_n 1, 1) := by decide +kernel
theorem dX7_size_2 : decode cX7_size 2 = .ok (.iconst 0, 1) := by decide +kernel
theorem dX7_size_3 : decode cX7_size 3 = .ok (.istore_n 2, 1) := by decide +kernel
theorem dX7_size_4 : decode cX7_size 4 = .ok (.iload_n 2, 1) := by decide +kernel
theorem dX7_size_5 : decode cX7_size 5 = .ok (.bipush 20, 2) := by decide +kernel
theorem dX7_size_7 : decode cX7_size 7 = .ok (.if_icmp .ge 17, 3) := by decide +kernel
theorem dX7_size_10 : decode cX7_size 10 = .ok (.iload_n 1, 1) := by decide +kernel
theorem dX7_size_11 : decode cX7_size 11 = .ok (.iload_n 0, 1) := by decide +kernel
theorem dX7_size_12 : decode cX7_size 12 = .ok (.iload_n 2, 1) := by decide +kernel
theorem dX7_size_13 : decode cX7_size 13 = .ok (.ishr, 1) := by decide +kernel
theorem dX7_size_14 : decode cX7_size 14 = .ok (.iconst 1, 1) := by decide +kernel
theorem dX7_size_15 : decode cX7_size 15 = .ok (.iand, 1) := by decide +kernel
theorem dX7_size_16 : decode cX7_size 16 = .ok (.iadd, 1) := by decide +kernel
theorem dX7_size_17 : decode cX7_size 17 = .ok (.istore_n 1, 1) := by decide +kernel
theorem dX7_size_18 : decode cX7_size 18 = .ok (.iinc 2 1, 3) := by decide +kernel
theorem dX7_size_21 : decode cX7_size 21 = .ok (.goto (-17), 3) := by decide +kernel
theorem dX7_size_24 : decode cX7_size 24 = .ok (.iload_n 1, 1) := by decide +kernel
theorem dX7_size_25 : decode cX7_size 25 = .ok (.ireturn, 1) := by decide +kernel
set_option maxRecDepth 20000 in
theorem ggX7_isPlace_X7_within : GoodIn wsX7_isPlace wsX7_within := goodIn_r _ [4] (by decide +kernel) (by decide +kernel)
set_option maxRecDepth 20000 in
theorem gX7_isPlace_X7_within : GoodIn wsX7_isPlace (va_wsS RX7 57 yX7_within wsX7_within) := goodIn_app (goodIn_of _ (by decide +kernel)) ggX7_isPlace_X7_within
theorem dX7_isPlace_0 : decode cX7_isPlace 0 = .ok (.iload_n 0, 1) := by decide +kernel
theorem dX7_isPlace_1 : decode cX7_isPlace 1 = .ok (.iconst 0, 1) := by decide +kernel
theorem dX7_isPlace_2 : decode cX7_isPlace 2 = .ok (.bipush 19, 2) := by decide +kernel
theorem dX7_isPlace_4 : decode cX7_isPlace 4 = .ok (.invokestatic 57, 3) := by decide +kernel
theorem dX7_isPlace_7 : decode cX7_isPlace 7 = .ok (.ireturn, 1) := by decide +kernel
set_option maxRecDepth 20000 in
theorem ggX7_letter_X7_within : GoodIn wsX7_letter wsX7_within := goodIn_r _ [6] (by decide +kernel) (by decide +kernel)
set_option maxRecDepth 20000 in
theorem gX7_letter_X7_within : GoodIn wsX7_letter (va_wsS RX7 57 yX7_within wsX7_within) := goodIn_app (goodIn_of _ (by decide +kernel)) ggX7_letter_X7_within
theorem dX7_letter_0 : decode cX7_letter 0 = .ok (.iload_n 1, 1) := by decide +kernel
theorem dX7_letter_1 : decode cX7_letter 1 = .ok (.bipush 32, 2) := by decide +kernel
theorem dX7_letter_3 : decode cX7_letter 3 = .ok (.bipush 126, 2) := by decide +kernel
theorem dX7_letter_5 : decode cX7_letter 5 = .ok (.invokestatic 57, 3) := by decide +kernel
theorem dX7_letter_8 : decode cX7_letter 8 = .ok (.ifCond .ne 6, 3) := by decide +kernel
theorem dX7_letter_11 : decode cX7_letter 11 = .ok (.bipush (-102), 2) := by decide +kernel
theorem dX7_letter_13 : decode cX7_letter 13 = .ok (.ireturn, 1) := by decide +kernel
theorem dX7_letter_14 : decode cX7_letter 14 = .ok (.aload_n 0, 1) := by decide +kernel
theorem dX7_letter_15 : decode cX7_letter 15 = .ok (.getfield 61, 3) := by decide +kernel
theorem dX7_letter_18 : decode cX7_letter 18 = .ok (.bipush 24, 2) := by decide +kernel
theorem dX7_letter_20 : decode cX7_letter 20 = .ok (.if_icmp .ne 6, 3) := by decide +kernel
theorem dX7_letter_23 : decode cX7_letter 23 = .ok (.bipush (-104), 2) := by decide +kernel
theorem dX7_letter_25 : decode cX7_letter 25 = .ok (.ireturn, 1) := by decide +kernel
theorem dX7_letter_26 : decode cX7_letter 26 = .ok (.aload_n 0, 1) := by decide +kernel
theorem dX7_letter_27 : decode cX7_letter 27 = .ok (.getfield 32, 3) := by decide +kernel
theorem dX7_letter_30 : decode cX7_letter 30 = .ok (.aload_n 0, 1) := by decide +kernel
theorem dX7_letter_31 : decode cX7_letter 31 = .ok (.getfield 61, 3) := by decide +kernel
theorem dX7_letter_34 : decode cX7_letter 34 = .ok (.iload_n 1, 1) := by decide +kernel
theorem dX7_letter_35 : decode cX7_letter 35 = .ok (.i2b, 1) := by decide +kernel
theorem dX7_letter_36 : decode cX7_letter 36 = .ok (.bastore, 1) := by decide +kernel
theorem dX7_letter_37 : decode cX7_letter 37 = .ok (.aload_n 0, 1) := by decide +kernel
theorem dX7_letter_38 : decode cX7_letter 38 = .ok (.dup, 1) := by decide +kernel
theorem dX7_letter_39 : decode cX7_letter 39 = .ok (.getfield 61, 3) := by decide +kernel
theorem dX7_letter_42 : decode cX7_letter 42 = .ok (.iconst 1, 1) := by decide +kernel
theorem dX7_letter_43 : decode cX7_letter 43 = .ok (.iadd, 1) := by decide +kernel
theorem dX7_letter_44 : decode cX7_letter 44 = .ok (.putfield 61, 3) := by decide +kernel
theorem dX7_letter_47 : decode cX7_letter 47 = .ok (.aload_n 0, 1) := by decide +kernel
theorem dX7_letter_48 : decode cX7_letter 48 = .ok (.getfield 61, 3) := by decide +kernel
theorem dX7_letter_51 : decode cX7_letter 51 = .ok (.ireturn, 1) := by decide +kernel
theorem dX7_blank_0 : decode cX7_blank 0 = .ok (.aload_n 0, 1) := by decide +kernel
theorem dX7_blank_1 : decode cX7_blank 1 = .ok (.getfield 61, 3) := by decide +kernel
theorem dX7_blank_4 : decode cX7_blank 4 = .ok (.istore_n 1, 1) := by decide +kernel
theorem dX7_blank_5 : decode cX7_blank 5 = .ok (.aload_n 0, 1) := by decide +kernel
theorem dX7_blank_6 : decode cX7_blank 6 = .ok (.iconst 0, 1) := by decide +kernel
theorem dX7_blank_7 : decode cX7_blank 7 = .ok (.putfield 61, 3) := by decide +kernel
theorem dX7_blank_10 : decode cX7_blank 10 = .ok (.iload_n 1, 1) := by decide +kernel
theorem dX7_blank_11 : decode cX7_blank 11 = .ok (.ireturn, 1) := by decide +kernel
theorem dX7_readHall_0 : decode cX7_readHall 0 = .ok (.aload_n 0, 1) := by decide +kernel
theorem dX7_readHall_1 : decode cX7_readHall 1 = .ok (.iconst 0, 1) := by decide +kernel
theorem dX7_readHall_2 : decode cX7_readHall 2 = .ok (.putfield 64, 3) := by decide +kernel
theorem dX7_readHall_5 : decode cX7_readHall 5 = .ok (.iconst 0, 1) := by decide +kernel
theorem dX7_readHall_6 : decode cX7_readHall 6 = .ok (.istore_n 1, 1) := by decide +kernel
theorem dX7_readHall_7 : decode cX7_readHall 7 = .ok (.iconst 1, 1) := by decide +kernel
theorem dX7_readHall_8 : decode cX7_readHall 8 = .ok (.istore_n 2, 1) := by decide +kernel
theorem dX7_readHall_9 : decode cX7_readHall 9 = .ok (.iload_n 1, 1) := by decide +kernel
theorem dX7_readHall_10 : decode cX7_readHall 10 = .ok (.aload_n 0, 1) := by decide +kernel
theorem dX7_readHall_11 : decode cX7_readHall 11 = .ok (.getfield 61, 3) := by decide +kernel
theorem dX7_readHall_14 : decode cX7_readHall 14 = .ok (.if_icmp .ge 129, 3) := by decide +kernel
theorem dX7_readHall_17 : decode cX7_readHall 17 = .ok (.iload_n 2, 1) := by decide +kernel
theorem dX7_readHall_18 : decode cX7_readHall 18 = .ok (.ifCond .eq 125, 3) := by decide +kernel
theorem dX7_readHall_21 : decode cX7_readHall 21 = .ok (.iload_n 1, 1) := by decide +kernel
theorem dX7_readHall_22 : decode cX7_readHall 22 = .ok (.bipush 6, 2) := by decide +kernel
theorem dX7_readHall_24 : decode cX7_readHall 24 = .ok (.irem, 1) := by decide +kernel
theorem dX7_readHall_25 : decode cX7_readHall 25 = .ok (.iconst 5, 1) := by decide +kernel
theorem dX7_readHall_26 : decode cX7_readHall 26 = .ok (.if_icmp .ne 7, 3) := by decide +kernel
theorem dX7_readHall_29 : decode cX7_readHall 29 = .ok (.iconst 1, 1) := by decide +kernel
theorem dX7_readHall_30 : decode cX7_readHall 30 = .ok (.goto 4, 3) := by decide +kernel
theorem dX7_readHall_33 : decode cX7_readHall 33 = .ok (.iconst 0, 1) := by decide +kernel
theorem dX7_readHall_34 : decode cX7_readHall 34 = .ok (.istore_n 3, 1) := by decide +kernel
theorem dX7_readHall_35 : decode cX7_readHall 35 = .ok (.iload_n 1, 1) := by decide +kernel
theorem dX7_readHall_36 : decode cX7_readHall 36 = .ok (.bipush 23, 2) := by decide +kernel
theorem dX7_readHall_38 : decode cX7_readHall 38 = .ok (.if_icmp .ge 47, 3) := by decide +kernel
theorem dX7_readHall_41 : decode cX7_readHall 41 = .ok (.iload_n 3, 1) := by decide +kernel
theorem dX7_readHall_42 : decode cX7_readHall 42 = .ok (.ifCond .eq 17, 3) := by decide +kernel
theorem dX7_readHall_45 : decode cX7_readHall 45 = .ok (.aload_n 0, 1) := by decide +kernel
theorem dX7_readHall_46 : decode cX7_readHall 46 = .ok (.getfield 32, 3) := by decide +kernel
theorem dX7_readHall_49 : decode cX7_readHall 49 = .ok (.iload_n 1, 1) := by decide +kernel
theorem dX7_readHall_50 : decode cX7_readHall 50 = .ok (.baload, 1) := by decide +kernel
theorem dX7_readHall_51 : decode cX7_readHall 51 = .ok (.bipush 47, 2) := by decide +kernel
theorem dX7_readHall_53 : decode cX7_readHall 53 = .ok (.if_icmp .ne 32, 3) := by decide +kernel
theorem dX7_readHall_56 : decode cX7_readHall 56 = .ok (.goto 25, 3) := by decide +kernel
theorem dX7_readHall_59 : decode cX7_readHall 59 = .ok (.aload_n 0, 1) := by decide +kernel
theorem dX7_readHall_60 : decode cX7_readHall 60 = .ok (.getfield 32, 3) := by decide +kernel
theorem dX7_readHall_63 : decode cX7_readHall 63 = .ok (.iload_n 1, 1) := by decide +kernel
theorem dX7_readHall_64 : decode cX7_readHall 64 = .ok (.baload, 1) := by decide +kernel
theorem dX7_readHall_65 : decode cX7_readHall 65 = .ok (.bipush 46, 2) := by decide +kernel
theorem dX7_readHall_67 : decode cX7_readHall 67 = .ok (.if_icmp .eq 14, 3) := by decide +kernel
theorem dX7_readHall_70 : decode cX7_readHall 70 = .ok (.aload_n 0, 1) := by decide +kernel
theorem dX7_readHall_71 : decode cX7_readHall 71 = .ok (.getfield 32, 3) := by decide +kernel
theorem dX7_readHall_74 : decode cX7_readHall 74 = .ok (.iload_n 1, 1) := by decide +kernel
theorem dX7_readHall_75 : decode cX7_readHall 75 = .ok (.baload, 1) := by decide +kernel
theorem dX7_readHall_76 : decode cX7_readHall 76 = .ok (.bipush 35, 2) := by decide +kernel
theorem dX7_readHall_78 : decode cX7_readHall 78 = .ok (.if_icmp .ne 7, 3) := by decide +kernel
theorem dX7_readHall_81 : decode cX7_readHall 81 = .ok (.iconst 1, 1) := by decide +kernel
theorem dX7_readHall_82 : decode cX7_readHall 82 = .ok (.goto 4, 3) := by decide +kernel
theorem dX7_readHall_85 : decode cX7_readHall 85 = .ok (.iconst 0, 1) := by decide +kernel
theorem dX7_readHall_86 : decode cX7_readHall 86 = .ok (.istore_n 2, 1) := by decide +kernel
theorem dX7_readHall_87 : decode cX7_readHall 87 = .ok (.aload_n 0, 1) := by decide +kernel
theorem dX7_readHall_88 : decode cX7_readHall 88 = .ok (.dup, 1) := by decide +kernel
theorem dX7_readHall_89 : decode cX7_readHall 89 = .ok (.getfield 64, 3) := by decide +kernel
theorem dX7_readHall_92 : decode cX7_readHall 92 = .ok (.iload_n 2, 1) := by decide +kernel
theorem dX7_readHall_93 : decode cX7_readHall 93 = .ok (.ifCond .eq 30, 3) := by decide +kernel
theorem dX7_readHall_96 : decode cX7_readHall 96 = .ok (.aload_n 0, 1) := by decide +kernel
theorem dX7_readHall_97 : decode cX7_readHall 97 = .ok (.getfield 32, 3) := by decide +kernel
theorem dX7_readHall_100 : decode cX7_readHall 100 = .ok (.iload_n 1, 1) := by decide +kernel
theorem dX7_readHall_101 : decode cX7_readHall 101 = .ok (.baload, 1) := by decide +kernel
theorem dX7_readHall_102 : decode cX7_readHall 102 = .ok (.bipush 46, 2) := by decide +kernel
theorem dX7_readHall_104 : decode cX7_readHall 104 = .ok (.if_icmp .ne 19, 3) := by decide +kernel
theorem dX7_readHall_107 : decode cX7_readHall 107 = .ok (.iconst 1, 1) := by decide +kernel
theorem dX7_readHall_108 : decode cX7_readHall 108 = .ok (.iload_n 1, 1) := by decide +kernel
theorem dX7_readHall_109 : decode cX7_readHall 109 = .ok (.bipush 6, 2) := by decide +kernel
theorem dX7_readHall_111 : decode cX7_readHall 111 = .ok (.idiv, 1) := by decide +kernel
theorem dX7_readHall_112 : decode cX7_readHall 112 = .ok (.iconst 5, 1) := by decide +kernel
theorem dX7_readHall_113 : decode cX7_readHall 113 = .ok (.imul, 1) := by decide +kernel
theorem dX7_readHall_114 : decode cX7_readHall 114 = .ok (.iload_n 1, 1) := by decide +kernel
theorem dX7_readHall_115 : decode cX7_readHall 115 = .ok (.bipush 6, 2) := by decide +kernel
theorem dX7_readHall_117 : decode cX7_readHall 117 = .ok (.irem, 1) := by decide +kernel
theorem dX7_readHall_118 : decode cX7_readHall 118 = .ok (.iadd, 1) := by decide +kernel
theorem dX7_readHall_119 : decode cX7_readHall 119 = .ok (.ishl, 1) := by decide +kernel
theorem dX7_readHall_120 : decode cX7_readHall 120 = .ok (.goto 4, 3) := by decide +kernel
theorem dX7_readHall_123 : decode cX7_readHall 123 = .ok (.iconst 0, 1) := by decide +kernel
theorem dX7_readHall_124 : decode cX7_readHall 124 = .ok (.ior, 1) := by decide +kernel
theorem dX7_readHall_125 : decode cX7_readHall 125 = .ok (.putfield 64, 3) := by decide +kernel
theorem dX7_readHall_128 : decode cX7_readHall 128 = .ok (.iload_n 1, 1) := by decide +kernel
theorem dX7_readHall_129 : decode cX7_readHall 129 = .ok (.iload_n 2, 1) := by decide +kernel
theorem dX7_readHall_130 : decode cX7_readHall 130 = .ok (.ifCond .eq 7, 3) := by decide +kernel
theorem dX7_readHall_133 : decode cX7_readHall 133 = .ok (.iconst 1, 1) := by decide +kernel
theorem dX7_readHall_134 : decode cX7_readHall 134 = .ok (.goto 4, 3) := by decide +kernel
theorem dX7_readHall_137 : decode cX7_readHall 137 = .ok (.iconst 0, 1) := by decide +kernel
theorem dX7_readHall_138 : decode cX7_readHall 138 = .ok (.iadd, 1) := by decide +kernel
theorem dX7_readHall_139 : decode cX7_readHall 139 = .ok (.istore_n 1, 1) := by decide +kernel
theorem dX7_readHall_140 : decode cX7_readHall 140 = .ok (.goto (-131), 3) := by decide +kernel
theorem dX7_readHall_143 : decode cX7_readHall 143 = .ok (.aload_n 0, 1) := by decide +kernel
theorem dX7_readHall_144 : decode cX7_readHall 144 = .ok (.iload_n 1, 1) := by decide +kernel
theorem dX7_readHall_145 : decode cX7_readHall 145 = .ok (.putfield 67, 3) := by decide +kernel
theorem dX7_readHall_148 : decode cX7_readHall 148 = .ok (.return_, 1) := by decide +kernel
set_option maxRecDepth 20000 in
theorem ggX7_fault_X7_readHall : GoodIn wsX7_fault wsX7_readHall := goodIn_r _ [6, 7, 8, 9, 1, 10, 11, 12, 13, 14, 15, 16, 17, 18, 19, 20, 21, 22, 23, 24, 25, 26, 27, 28, 29, 30, 31, 32, 33, 34, 35, 36, 37, 38, 39, 40] (by decide +kernel) (by decide +kernel)
set_option maxRecDepth 20000 in
theorem gX7_fault_X7_readHall : GoodIn wsX7_fault (wsV RX7 70 RX7 yX7_readHall wsX7_readHall) := goodIn_app (goodIn_of _ (by decide +kernel)) ggX7_fault_X7_readHall
theorem dX7_fault_0 : decode cX7_fault 0 = .ok (.aload_n 0, 1) := by decide +kernel
theorem dX7_fault_1 : decode cX7_fault 1 = .ok (.invokevirtual 70, 3) := by decide +kernel
theorem dX7_fault_4 : decode cX7_fault 4 = .ok (.aload_n 0, 1) := by decide +kernel
theorem dX7_fault_5 : decode cX7_fault 5 = .ok (.getfield 67, 3) := by decide +kernel
theorem dX7_fault_8 : decode cX7_fault 8 = .ok (.ireturn, 1) := by decide +kernel
set_option maxRecDepth 20000 in
theorem ggX7_hall_X7_readHall : GoodIn wsX7_hall wsX7_readHall := goodIn_r _ [15, 3, 2, 16, 1, 20, 21, 22, 23, 24, 25, 26, 27, 28, 29, 30, 31, 32, 33, 34, 35, 36, 37, 38, 39, 40, 41, 42, 43, 44, 45, 46, 47, 48, 49, 50] (by decide +kernel) (by decide +kernel)
set_option maxRecDepth 20000 in
theorem gX7_hall_X7_readHall : GoodIn wsX7_hall (wsV RX7 70 RX7 yX7_readHall wsX7_readHall) := goodIn_app (goodIn_of _ (by decide +kernel)) ggX7_hall_X7_readHall
set_option maxRecDepth 20000 in
theorem ggX7_hall_X7_size : GoodIn wsX7_hall wsX7_size := goodIn_r _ [19] (by decide +kernel) (by decide +kernel)
set_option maxRecDepth 20000 in
theorem gX7_hall_X7_size : GoodIn wsX7_hall (va_wsS RX7 89 yX7_size wsX7_size) := goodIn_app (goodIn_of _ (by decide +kernel)) ggX7_hall_X7_size
theorem dX7_hall_0 : decode cX7_hall 0 = .ok (.aload_n 0, 1) := by decide +kernel
theorem dX7_hall_1 : decode cX7_hall 1 = .ok (.invokevirtual 70, 3) := by decide +kernel
theorem dX7_hall_4 : decode cX7_hall 4 = .ok (.aload_n 0, 1) := by decide +kernel
theorem dX7_hall_5 : decode cX7_hall 5 = .ok (.getfield 67, 3) := by decide +kernel
theorem dX7_hall_8 : decode cX7_hall 8 = .ok (.aload_n 0, 1) := by decide +kernel
theorem dX7_hall_9 : decode cX7_hall 9 = .ok (.getfield 61, 3) := by decide +kernel
theorem dX7_hall_12 : decode cX7_hall 12 = .ok (.if_icmp .ne 12, 3) := by decide +kernel
theorem dX7_hall_15 : decode cX7_hall 15 = .ok (.aload_n 0, 1) := by decide +kernel
theorem dX7_hall_16 : decode cX7_hall 16 = .ok (.getfield 61, 3) := by decide +kernel
theorem dX7_hall_19 : decode cX7_hall 19 = .ok (.bipush 23, 2) := by decide +kernel
theorem dX7_hall_21 : decode cX7_hall 21 = .ok (.if_icmp .eq 6, 3) := by decide +kernel
theorem dX7_hall_24 : decode cX7_hall 24 = .ok (.bipush (-103), 2) := by decide +kernel
theorem dX7_hall_26 : decode cX7_hall 26 = .ok (.ireturn, 1) := by decide +kernel
theorem dX7_hall_27 : decode cX7_hall 27 = .ok (.aload_n 0, 1) := by decide +kernel
theorem dX7_hall_28 : decode cX7_hall 28 = .ok (.aload_n 0, 1) := by decide +kernel
theorem dX7_hall_29 : decode cX7_hall 29 = .ok (.getfield 64, 3) := by decide +kernel
theorem dX7_hall_32 : decode cX7_hall 32 = .ok (.putfield 73, 3) := by decide +kernel
theorem dX7_hall_35 : decode cX7_hall 35 = .ok (.aload_n 0, 1) := by decide +kernel
theorem dX7_hall_36 : decode cX7_hall 36 = .ok (.iconst 1, 1) := by decide +kernel
theorem dX7_hall_37 : decode cX7_hall 37 = .ok (.putfield 76, 3) := by decide +kernel
theorem dX7_hall_40 : decode cX7_hall 40 = .ok (.aload_n 0, 1) := by decide +kernel
theorem dX7_hall_41 : decode cX7_hall 41 = .ok (.dup, 1) := by decide +kernel
theorem dX7_hall_42 : decode cX7_hall 42 = .ok (.getfield 80, 3) := by decide +kernel
theorem dX7_hall_45 : decode cX7_hall 45 = .ok (.iconst 1, 1) := by decide +kernel
theorem dX7_hall_46 : decode cX7_hall 46 = .ok (.iadd, 1) := by decide +kernel
theorem dX7_hall_47 : decode cX7_hall 47 = .ok (.putfield 80, 3) := by decide +kernel
theorem dX7_hall_50 : decode cX7_hall 50 = .ok (.aload_n 0, 1) := by decide +kernel
theorem dX7_hall_51 : decode cX7_hall 51 = .ok (.iconst (-1), 1) := by decide +kernel
theorem dX7_hall_52 : decode cX7_hall 52 = .ok (.putfield 7, 3) := by decide +kernel
theorem dX7_hall_55 : decode cX7_hall 55 = .ok (.aload_n 0, 1) := by decide +kernel
theorem dX7_hall_56 : decode cX7_hall 56 = .ok (.iconst (-1), 1) := by decide +kernel
theorem dX7_hall_57 : decode cX7_hall 57 = .ok (.putfield 13, 3) := by decide +kernel
theorem dX7_hall_60 : decode cX7_hall 60 = .ok (.aload_n 0, 1) := by decide +kernel
theorem dX7_hall_61 : decode cX7_hall 61 = .ok (.iconst 0, 1) := by decide +kernel
theorem dX7_hall_62 : decode cX7_hall 62 = .ok (.putfield 83, 3) := by decide +kernel
theorem dX7_hall_65 : decode cX7_hall 65 = .ok (.aload_n 0, 1) := by decide +kernel
theorem dX7_hall_66 : decode cX7_hall 66 = .ok (.iconst 0, 1) := by decide +kernel
theorem dX7_hall_67 : decode cX7_hall 67 = .ok (.putfield 86, 3) := by decide +kernel
theorem dX7_hall_70 : decode cX7_hall 70 = .ok (.aload_n 0, 1) := by decide +kernel
theorem dX7_hall_71 : decode cX7_hall 71 = .ok (.iconst 0, 1) := by decide +kernel
theorem dX7_hall_72 : decode cX7_hall 72 = .ok (.putfield 61, 3) := by decide +kernel
theorem dX7_hall_75 : decode cX7_hall 75 = .ok (.aload_n 0, 1) := by decide +kernel
theorem dX7_hall_76 : decode cX7_hall 76 = .ok (.getfield 73, 3) := by decide +kernel
theorem dX7_hall_79 : decode cX7_hall 79 = .ok (.invokestatic 89, 3) := by decide +kernel
theorem dX7_hall_82 : decode cX7_hall 82 = .ok (.ireturn, 1) := by decide +kernel
set_option maxRecDepth 20000 in
theorem ggX7_on_X7_isPlace : GoodIn wsX7_on wsX7_isPlace := goodIn_r _ [5, 6, 7, 4, 8] (by decide +kernel) (by decide +kernel)
set_option maxRecDepth 20000 in
theorem gX7_on_X7_isPlace : GoodIn wsX7_on (va_wsS RX7 100 yX7_isPlace wsX7_isPlace) := goodIn_app (goodIn_of _ (by decide +kernel)) ggX7_on_X7_isPlace
theorem dX7_on_0 : decode cX7_on 0 = .ok (.iload_n 1, 1) := by decide +kernel
theorem dX7_on_1 : decode cX7_on 1 = .ok (.invokestatic 100, 3) := by decide +kernel
theorem dX7_on_4 : decode cX7_on 4 = .ok (.ifCond .ne 6, 3) := by decide +kernel
theorem dX7_on_7 : decode cX7_on 7 = .ok (.bipush (-101), 2) := by decide +kernel
theorem dX7_on_9 : decode cX7_on 9 = .ok (.ireturn, 1) := by decide +kernel
theorem dX7_on_10 : decode cX7_on 10 = .ok (.aload_n 0, 1) := by decide +kernel
theorem dX7_on_11 : decode cX7_on 11 = .ok (.getfield 76, 3) := by decide +kernel
theorem dX7_on_14 : decode cX7_on 14 = .ok (.ifCond .eq 11, 3) := by decide +kernel
theorem dX7_on_17 : decode cX7_on 17 = .ok (.aload_n 0, 1) := by decide +kernel
theorem dX7_on_18 : decode cX7_on 18 = .ok (.iload_n 1, 1) := by decide +kernel
theorem dX7_on_19 : decode cX7_on 19 = .ok (.invokevirtual 104, 3) := by decide +kernel
theorem dX7_on_22 : decode cX7_on 22 = .ok (.goto 5, 3) := by decide +kernel
theorem dX7_on_25 : decode cX7_on 25 = .ok (.bipush (-103), 2) := by decide +kernel
theorem dX7_on_27 : decode cX7_on 27 = .ok (.ireturn, 1) := by decide +kernel
set_option maxRecDepth 20000 in
theorem ggX7_duke_X7_isPlace : GoodIn wsX7_duke wsX7_isPlace := goodIn_r _ [7, 8, 9, 6, 10] (by decide +kernel) (by decide +kernel)
set_option maxRecDepth 20000 in
theorem gX7_duke_X7_isPlace : GoodIn wsX7_duke (va_wsS RX7 100 yX7_isPlace wsX7_isPlace) := goodIn_app (goodIn_of _ (by decide +kernel)) ggX7_duke_X7_isPlace
set_option maxRecDepth 20000 in
theorem ggX7_duke_X7_within : GoodIn wsX7_duke wsX7_within := goodIn_r _ [10] (by decide +kernel) (by decide +kernel)
set_option maxRecDepth 20000 in
theorem gX7_duke_X7_within : GoodIn wsX7_duke (va_wsS RX7 57 yX7_within wsX7_within) := goodIn_app (goodIn_of _ (by decide +kernel)) ggX7_duke_X7_within
theorem dX7_duke_0 : decode cX7_duke 0 = .ok (.iload_n 1, 1) := by decide +kernel
theorem dX7_duke_1 : decode cX7_duke 1 = .ok (.invokestatic 100, 3) := by decide +kernel
theorem dX7_duke_4 : decode cX7_duke 4 = .ok (.ifCond .ne 6, 3) := by decide +kernel
theorem dX7_duke_7 : decode cX7_duke 7 = .ok (.bipush (-101), 2) := by decide +kernel
theorem dX7_duke_9 : decode cX7_duke 9 = .ok (.ireturn, 1) := by decide +kernel
theorem dX7_duke_10 : decode cX7_duke 10 = .ok (.iload_n 2, 1) := by decide +kernel
theorem dX7_duke_11 : decode cX7_duke 11 = .ok (.iconst 0, 1) := by decide +kernel
theorem dX7_duke_12 : decode cX7_duke 12 = .ok (.iconst 3, 1) := by decide +kernel
theorem dX7_duke_13 : decode cX7_duke 13 = .ok (.invokestatic 57, 3) := by decide +kernel
theorem dX7_duke_16 : decode cX7_duke 16 = .ok (.ifCond .ne 6, 3) := by decide +kernel
theorem dX7_duke_19 : decode cX7_duke 19 = .ok (.bipush (-102), 2) := by decide +kernel
theorem dX7_duke_21 : decode cX7_duke 21 = .ok (.ireturn, 1) := by decide +kernel
theorem dX7_duke_22 : decode cX7_duke 22 = .ok (.aload_n 0, 1) := by decide +kernel
theorem dX7_duke_23 : decode cX7_duke 23 = .ok (.getfield 76, 3) := by decide +kernel
theorem dX7_duke_26 : decode cX7_duke 26 = .ok (.ifCond .eq 19, 3) := by decide +kernel
theorem dX7_duke_29 : decode cX7_duke 29 = .ok (.aload_n 0, 1) := by decide +kernel
theorem dX7_duke_30 : decode cX7_duke 30 = .ok (.iload_n 1, 1) := by decide +kernel
theorem dX7_duke_31 : decode cX7_duke 31 = .ok (.invokevirtual 107, 3) := by decide +kernel
theorem dX7_duke_34 : decode cX7_duke 34 = .ok (.ifCond .ne 14, 3) := by decide +kernel
theorem dX7_duke_37 : decode cX7_duke 37 = .ok (.iload_n 1, 1) := by decide +kernel
theorem dX7_duke_38 : decode cX7_duke 38 = .ok (.aload_n 0, 1) := by decide +kernel
theorem dX7_duke_39 : decode cX7_duke 39 = .ok (.getfield 7, 3) := by decide +kernel
theorem dX7_duke_42 : decode cX7_duke 42 = .ok (.if_icmp .eq 6, 3) := by decide +kernel
theorem dX7_duke_45 : decode cX7_duke 45 = .ok (.bipush (-103), 2) := by decide +kernel
theorem dX7_duke_47 : decode cX7_duke 47 = .ok (.ireturn, 1) := by decide +kernel
theorem dX7_duke_48 : decode cX7_duke 48 = .ok (.aload_n 0, 1) := by decide +kernel
theorem dX7_duke_49 : decode cX7_duke 49 = .ok (.iload_n 1, 1) := by decide +kernel
theorem dX7_duke_50 : decode cX7_duke 50 = .ok (.putfield 7, 3) := by decide +kernel
theorem dX7_duke_53 : decode cX7_duke 53 = .ok (.aload_n 0, 1) := by decide +kernel
theorem dX7_duke_54 : decode cX7_duke 54 = .ok (.iload_n 2, 1) := by decide +kernel
theorem dX7_duke_55 : decode cX7_duke 55 = .ok (.putfield 13, 3) := by decide +kernel
theorem dX7_duke_58 : decode cX7_duke 58 = .ok (.iconst 4, 1) := by decide +kernel
theorem dX7_duke_59 : decode cX7_duke 59 = .ok (.iload_n 1, 1) := by decide +kernel
theorem dX7_duke_60 : decode cX7_duke 60 = .ok (.imul, 1) := by decide +kernel
theorem dX7_duke_61 : decode cX7_duke 61 = .ok (.iload_n 2, 1) := by decide +kernel
theorem dX7_duke_62 : decode cX7_duke 62 = .ok (.iadd, 1) := by decide +kernel
theorem dX7_duke_63 : decode cX7_duke 63 = .ok (.ireturn, 1) := by decide +kernel
set_option maxRecDepth 20000 in
theorem ggX7_courtier_X7_isPlace : GoodIn wsX7_courtier wsX7_isPlace := goodIn_r _ [6, 7, 8, 5, 9] (by decide +kernel) (by decide +kernel)
set_option maxRecDepth 20000 in
theorem gX7_courtier_X7_isPlace : GoodIn wsX7_courtier (va_wsS RX7 100 yX7_isPlace wsX7_isPlace) := goodIn_app (goodIn_of _ (by decide +kernel)) ggX7_courtier_X7_isPlace
set_option maxRecDepth 20000 in
theorem ggX7_courtier_X7_within : GoodIn wsX7_courtier wsX7_within := goodIn_r _ [9] (by decide +kernel) (by decide +kernel)
set_option maxRecDepth 20000 in
theorem gX7_courtier_X7_within : GoodIn wsX7_courtier (va_wsS RX7 57 yX7_within wsX7_within) := goodIn_app (goodIn_of _ (by decide +kernel)) ggX7_courtier_X7_within
theorem dX7_courtier_0 : decode cX7_courtier 0 = .ok (.iload_n 2, 1) := by decide +kernel
theorem dX7_courtier_1 : decode cX7_courtier 1 = .ok (.invokestatic 100, 3) := by decide +kernel
theorem dX7_courtier_4 : decode cX7_courtier 4 = .ok (.ifCond .ne 6, 3) := by decide +kernel
theorem dX7_courtier_7 : decode cX7_courtier 7 = .ok (.bipush (-101), 2) := by decide +kernel
theorem dX7_courtier_9 : decode cX7_courtier 9 = .ok (.ireturn, 1) := by decide +kernel
theorem dX7_courtier_10 : decode cX7_courtier 10 = .ok (.iload_n 1, 1) := by decide +kernel
theorem dX7_courtier_11 : decode cX7_courtier 11 = .ok (.iconst 0, 1) := by decide +kernel
theorem dX7_courtier_12 : decode cX7_courtier 12 = .ok (.iconst 4, 1) := by decide +kernel
theorem dX7_courtier_13 : decode cX7_courtier 13 = .ok (.invokestatic 57, 3) := by decide +kernel
theorem dX7_courtier_16 : decode cX7_courtier 16 = .ok (.ifCond .ne 6, 3) := by decide +kernel
theorem dX7_courtier_19 : decode cX7_courtier 19 = .ok (.bipush (-102), 2) := by decide +kernel
theorem dX7_courtier_21 : decode cX7_courtier 21 = .ok (.ireturn, 1) := by decide +kernel
theorem dX7_courtier_22 : decode cX7_courtier 22 = .ok (.aload_n 0, 1) := by decide +kernel
theorem dX7_courtier_23 : decode cX7_courtier 23 = .ok (.getfield 76, 3) := by decide +kernel
theorem dX7_courtier_26 : decode cX7_courtier 26 = .ok (.ifCond .eq 11, 3) := by decide +kernel
theorem dX7_courtier_29 : decode cX7_courtier 29 = .ok (.aload_n 0, 1) := by decide +kernel
theorem dX7_courtier_30 : decode cX7_courtier 30 = .ok (.iload_n 2, 1) := by decide +kernel
theorem dX7_courtier_31 : decode cX7_courtier 31 = .ok (.invokevirtual 107, 3) := by decide +kernel
theorem dX7_courtier_34 : decode cX7_courtier 34 = .ok (.ifCond .ne 6, 3) := by decide +kernel
theorem dX7_courtier_37 : decode cX7_courtier 37 = .ok (.bipush (-103), 2) := by decide +kernel
theorem dX7_courtier_39 : decode cX7_courtier 39 = .ok (.ireturn, 1) := by decide +kernel
theorem dX7_courtier_40 : decode cX7_courtier 40 = .ok (.aload_n 0, 1) := by decide +kernel
theorem dX7_courtier_41 : decode cX7_courtier 41 = .ok (.getfield 86, 3) := by decide +kernel
theorem dX7_courtier_44 : decode cX7_courtier 44 = .ok (.bipush 6, 2) := by decide +kernel
theorem dX7_courtier_46 : decode cX7_courtier 46 = .ok (.if_icmp .ne 6, 3) := by decide +kernel
theorem dX7_courtier_49 : decode cX7_courtier 49 = .ok (.bipush (-104), 2) := by decide +kernel
theorem dX7_courtier_51 : decode cX7_courtier 51 = .ok (.ireturn, 1) := by decide +kernel
theorem dX7_courtier_52 : decode cX7_courtier 52 = .ok (.aload_n 0, 1) := by decide +kernel
theorem dX7_courtier_53 : decode cX7_courtier 53 = .ok (.iload_n 1, 1) := by decide +kernel
theorem dX7_courtier_54 : decode cX7_courtier 54 = .ok (.iload_n 2, 1) := by decide +kernel
theorem dX7_courtier_55 : decode cX7_courtier 55 = .ok (.invokevirtual 110, 3) := by decide +kernel
theorem dX7_courtier_58 : decode cX7_courtier 58 = .ok (.aload_n 0, 1) := by decide +kernel
theorem dX7_courtier_59 : decode cX7_courtier 59 = .ok (.getfield 86, 3) := by decide +kernel
theorem dX7_courtier_62 : decode cX7_courtier 62 = .ok (.iconst 1, 1) := by decide +kernel
theorem dX7_courtier_63 : decode cX7_courtier 63 = .ok (.isub, 1) := by decide +kernel
theorem dX7_courtier_64 : decode cX7_courtier 64 = .ok (.ireturn, 1) := by decide +kernel
set_option maxRecDepth 20000 in
theorem ggX7_isCourtier_X7_within : GoodIn wsX7_isCourtier wsX7_within := goodIn_r _ [5] (by decide +kernel) (by decide +kernel)
set_option maxRecDepth 20000 in
theorem gX7_isCourtier_X7_within : GoodIn wsX7_isCourtier (va_wsS RX7 57 yX7_within wsX7_within) := goodIn_app (goodIn_of _ (by decide +kernel)) ggX7_isCourtier_X7_within
theorem dX7_isCourtier_0 : decode cX7_isCourtier 0 = .ok (.iload_n 1, 1) := by decide +kernel
theorem dX7_isCourtier_1 : decode cX7_isCourtier 1 = .ok (.iconst 0, 1) := by decide +kernel
theorem dX7_isCourtier_2 : decode cX7_isCourtier 2 = .ok (.aload_n 0, 1) := by decide +kernel
theorem dX7_isCourtier_3 : decode cX7_isCourtier 3 = .ok (.getfield 86, 3) := by decide +kernel
theorem dX7_isCourtier_6 : decode cX7_isCourtier 6 = .ok (.iconst 1, 1) := by decide +kernel
theorem dX7_isCourtier_7 : decode cX7_isCourtier 7 = .ok (.isub, 1) := by decide +kernel
theorem dX7_isCourtier_8 : decode cX7_isCourtier 8 = .ok (.invokestatic 57, 3) := by decide +kernel
theorem dX7_isCourtier_11 : decode cX7_isCourtier 11 = .ok (.ireturn, 1) := by decide +kernel
theorem dX7_guiltySet_0 : decode cX7_guiltySet 0 = .ok (.iconst 0, 1) := by decide +kernel
theorem dX7_guiltySet_1 : decode cX7_guiltySet 1 = .ok (.istore_n 1, 1) := by decide +kernel
theorem dX7_guiltySet_2 : decode cX7_guiltySet 2 = .ok (.iconst 0, 1) := by decide +kernel
theorem dX7_guiltySet_3 : decode cX7_guiltySet 3 = .ok (.istore_n 2, 1) := by decide +kernel
theorem dX7_guiltySet_4 : decode cX7_guiltySet 4 = .ok (.iload_n 2, 1) := by decide +kernel
theorem dX7_guiltySet_5 : decode cX7_guiltySet 5 = .ok (.aload_n 0, 1) := by decide +kernel
theorem dX7_guiltySet_6 : decode cX7_guiltySet 6 = .ok (.getfield 86, 3) := by decide +kernel
theorem dX7_guiltySet_9 : decode cX7_guiltySet 9 = .ok (.if_icmp .ge 27, 3) := by decide +kernel
theorem dX7_guiltySet_12 : decode cX7_guiltySet 12 = .ok (.iload_n 1, 1) := by decide +kernel
theorem dX7_guiltySet_13 : decode cX7_guiltySet 13 = .ok (.aload_n 0, 1) := by decide +kernel
theorem dX7_guiltySet_14 : decode cX7_guiltySet 14 = .ok (.iload_n 2, 1) := by decide +kernel
theorem dX7_guiltySet_15 : decode cX7_guiltySet 15 = .ok (.invokevirtual 134, 3) := by decide +kernel
theorem dX7_guiltySet_18 : decode cX7_guiltySet 18 = .ok (.ifCond .eq 9, 3) := by decide +kernel
theorem dX7_guiltySet_21 : decode cX7_guiltySet 21 = .ok (.iconst 1, 1) := by decide +kernel
theorem dX7_guiltySet_22 : decode cX7_guiltySet 22 = .ok (.iload_n 2, 1) := by decide +kernel
theorem dX7_guiltySet_23 : decode cX7_guiltySet 23 = .ok (.ishl, 1) := by decide +kernel
theorem dX7_guiltySet_24 : decode cX7_guiltySet 24 = .ok (.goto 4, 3) := by decide +kernel
theorem dX7_guiltySet_27 : decode cX7_guiltySet 27 = .ok (.iconst 0, 1) := by decide +kernel
theorem dX7_guiltySet_28 : decode cX7_guiltySet 28 = .ok (.ior, 1) := by decide +kernel
theorem dX7_guiltySet_29 : decode cX7_guiltySet 29 = .ok (.istore_n 1, 1) := by decide +kernel
theorem dX7_guiltySet_30 : decode cX7_guiltySet 30 = .ok (.iinc 2 1, 3) := by decide +kernel
theorem dX7_guiltySet_33 : decode cX7_guiltySet 33 = .ok (.goto (-29), 3) := by decide +kernel
theorem dX7_guiltySet_36 : decode cX7_guiltySet 36 = .ok (.iload_n 1, 1) := by decide +kernel
theorem dX7_guiltySet_37 : decode cX7_guiltySet 37 = .ok (.ireturn, 1) := by decide +kernel
set_option maxRecDepth 20000 in
theorem ggX7_about_X7_isCourtier : GoodIn wsX7_about wsX7_isCourtier := goodIn_r _ [5, 6, 7, 8, 4, 9, 52, 53, 54, 55, 56, 57, 58, 59, 60, 61, 62, 63, 64, 65, 66, 67, 68, 69, 70, 71, 72, 73, 74, 75, 76, 77, 78, 79, 80, 81, 82] (by decide +kernel) (by decide +kernel)
set_option maxRecDepth 20000 in
theorem gX7_about_X7_isCourtier : GoodIn wsX7_about (wsV RX7 137 RX7 yX7_isCourtier wsX7_isCourtier) := goodIn_app (goodIn_of _ (by decide +kernel)) ggX7_about_X7_isCourtier
set_option maxRecDepth 20000 in
theorem ggX7_about_X7_within : GoodIn wsX7_about wsX7_within := goodIn_r _ [9] (by decide +kernel) (by decide +kernel)
set_option maxRecDepth 20000 in
theorem gX7_about_X7_within : GoodIn wsX7_about (va_wsS RX7 57 yX7_within wsX7_within) := goodIn_app (goodIn_of _ (by decide +kernel)) ggX7_about_X7_within
theorem dX7_about_0 : decode cX7_about 0 = .ok (.aload_n 0, 1) := by decide +kernel
theorem dX7_about_1 : decode cX7_about 1 = .ok (.iload_n 1, 1) := by decide +kernel
theorem dX7_about_2 : decode cX7_about 2 = .ok (.invokevirtual 137, 3) := by decide +kernel
theorem dX7_about_5 : decode cX7_about 5 = .ok (.ifCond .ne 8, 3) := by decide +kernel
theorem dX7_about_8 : decode cX7_about 8 = .ok (.bipush (-101), 2) := by decide +kernel
theorem dX7_about_10 : decode cX7_about 10 = .ok (.goto 23, 3) := by decide +kernel
theorem dX7_about_13 : decode cX7_about 13 = .ok (.iload_n 2, 1) := by decide +kernel
theorem dX7_about_14 : decode cX7_about 14 = .ok (.iconst 0, 1) := by decide +kernel
theorem dX7_about_15 : decode cX7_about 15 = .ok (.iconst 5, 1) := by decide +kernel
theorem dX7_about_16 : decode cX7_about 16 = .ok (.invokestatic 57, 3) := by decide +kernel
theorem dX7_about_19 : decode cX7_about 19 = .ok (.ifCond .eq 12, 3) := by decide +kernel
theorem dX7_about_22 : decode cX7_about 22 = .ok (.aload_n 0, 1) := by decide +kernel
theorem dX7_about_23 : decode cX7_about 23 = .ok (.iload_n 1, 1) := by decide +kernel
theorem dX7_about_24 : decode cX7_about 24 = .ok (.iload_n 2, 1) := by decide +kernel
theorem dX7_about_25 : decode cX7_about 25 = .ok (.invokevirtual 140, 3) := by decide +kernel
theorem dX7_about_28 : decode cX7_about 28 = .ok (.goto 5, 3) := by decide +kernel
theorem dX7_about_31 : decode cX7_about 31 = .ok (.bipush (-102), 2) := by decide +kernel
theorem dX7_about_33 : decode cX7_about 33 = .ok (.ireturn, 1) := by decide +kernel
set_option maxRecDepth 20000 in
theorem ggX7_as_X7_isCourtier : GoodIn wsX7_as wsX7_isCourtier := goodIn_r _ [6, 7, 8, 9, 5, 10, 11, 12, 13, 14, 15, 16, 17, 18, 19, 20, 21, 22, 23, 24, 25, 26, 27, 28, 29, 30, 31, 32, 33, 34, 35, 36, 37, 38, 39, 40, 41] (by decide +kernel) (by decide +kernel)
set_option maxRecDepth 20000 in
theorem gX7_as_X7_isCourtier : GoodIn wsX7_as (wsV RX7 137 RX7 yX7_isCourtier wsX7_isCourtier) := goodIn_app (goodIn_of _ (by decide +kernel)) ggX7_as_X7_isCourtier
set_option maxRecDepth 20000 in
theorem ggX7_as_X7_within : GoodIn wsX7_as wsX7_within := goodIn_r _ [10] (by decide +kernel) (by decide +kernel)
set_option maxRecDepth 20000 in
theorem gX7_as_X7_within : GoodIn wsX7_as (va_wsS RX7 57 yX7_within wsX7_within) := goodIn_app (goodIn_of _ (by decide +kernel)) ggX7_as_X7_within
theorem dX7_as_0 : decode cX7_as 0 = .ok (.aload_n 0, 1) := by decide +kernel
theorem dX7_as_1 : decode cX7_as 1 = .ok (.iload_n 1, 1) := by decide +kernel
theorem dX7_as_2 : decode cX7_as 2 = .ok (.invokevirtual 137, 3) := by decide +kernel
theorem dX7_as_5 : decode cX7_as 5 = .ok (.ifCond .ne 6, 3) := by decide +kernel
theorem dX7_as_8 : decode cX7_as 8 = .ok (.bipush (-101), 2) := by decide +kernel
theorem dX7_as_10 : decode cX7_as 10 = .ok (.ireturn, 1) := by decide +kernel
theorem dX7_as_11 : decode cX7_as 11 = .ok (.iload_n 2, 1) := by decide +kernel
theorem dX7_as_12 : decode cX7_as 12 = .ok (.iconst 0, 1) := by decide +kernel
theorem dX7_as_13 : decode cX7_as 13 = .ok (.iconst 4, 1) := by decide +kernel
theorem dX7_as_14 : decode cX7_as 14 = .ok (.invokestatic 57, 3) := by decide +kernel
theorem dX7_as_17 : decode cX7_as 17 = .ok (.ifCond .ne 6, 3) := by decide +kernel
theorem dX7_as_20 : decode cX7_as 20 = .ok (.bipush (-102), 2) := by decide +kernel
theorem dX7_as_22 : decode cX7_as 22 = .ok (.ireturn, 1) := by decide +kernel
theorem dX7_as_23 : decode cX7_as 23 = .ok (.aload_n 0, 1) := by decide +kernel
theorem dX7_as_24 : decode cX7_as 24 = .ok (.getfield 16, 3) := by decide +kernel
theorem dX7_as_27 : decode cX7_as 27 = .ok (.iload_n 1, 1) := by decide +kernel
theorem dX7_as_28 : decode cX7_as 28 = .ok (.iaload, 1) := by decide +kernel
theorem dX7_as_29 : decode cX7_as 29 = .ok (.istore_n 3, 1) := by decide +kernel
theorem dX7_as_30 : decode cX7_as 30 = .ok (.iload_n 2, 1) := by decide +kernel
theorem dX7_as_31 : decode cX7_as 31 = .ok (.ifCond .eq 18, 3) := by decide +kernel
theorem dX7_as_34 : decode cX7_as 34 = .ok (.iload_n 3, 1) := by decide +kernel
theorem dX7_as_35 : decode cX7_as 35 = .ok (.iload_n 2, 1) := by decide +kernel
theorem dX7_as_36 : decode cX7_as 36 = .ok (.if_icmp .eq 13, 3) := by decide +kernel
theorem dX7_as_39 : decode cX7_as 39 = .ok (.iload_n 2, 1) := by decide +kernel
theorem dX7_as_40 : decode cX7_as 40 = .ok (.iconst 3, 1) := by decide +kernel
theorem dX7_as_41 : decode cX7_as 41 = .ok (.if_icmp .ne 12, 3) := by decide +kernel
theorem dX7_as_44 : decode cX7_as 44 = .ok (.iload_n 3, 1) := by decide +kernel
theorem dX7_as_45 : decode cX7_as 45 = .ok (.iconst 4, 1) := by decide +kernel
theorem dX7_as_46 : decode cX7_as 46 = .ok (.if_icmp .ne 7, 3) := by decide +kernel
theorem dX7_as_49 : decode cX7_as 49 = .ok (.iload_n 1, 1) := by decide +kernel
theorem dX7_as_50 : decode cX7_as 50 = .ok (.goto 4, 3) := by decide +kernel
theorem dX7_as_53 : decode cX7_as 53 = .ok (.iconst (-1), 1) := by decide +kernel
theorem dX7_as_54 : decode cX7_as 54 = .ok (.ireturn, 1) := by decide +kernel
set_option maxRecDepth 20000 in
theorem ggX7_go_X7_isCourtier : GoodIn wsX7_go wsX7_isCourtier := goodIn_r _ [6, 7, 8, 9, 5, 10, 27, 28, 29, 30, 31, 32, 33, 34, 35, 36, 37, 38, 39, 40, 41, 42, 43, 44, 45, 46, 47, 48, 49, 50, 51, 52, 53, 54, 55, 56, 57] (by decide +kernel) (by decide +kernel)
set_option maxRecDepth 20000 in
theorem gX7_go_X7_isCourtier : GoodIn wsX7_go (wsV RX7 137 RX7 yX7_isCourtier wsX7_isCourtier) := goodIn_app (goodIn_of _ (by decide +kernel)) ggX7_go_X7_isCourtier
set_option maxRecDepth 20000 in
theorem ggX7_go_X7_isPlace : GoodIn wsX7_go wsX7_isPlace := goodIn_r _ [13, 8, 9, 5, 10] (by decide +kernel) (by decide +kernel)
set_option maxRecDepth 20000 in
theorem gX7_go_X7_isPlace : GoodIn wsX7_go (va_wsS RX7 100 yX7_isPlace wsX7_isPlace) := goodIn_app (goodIn_of _ (by decide +kernel)) ggX7_go_X7_isPlace
theorem dX7_go_0 : decode cX7_go 0 = .ok (.aload_n 0, 1) := by decide +kernel
theorem dX7_go_1 : decode cX7_go 1 = .ok (.iload_n 1, 1) := by decide +kernel
theorem dX7_go_2 : decode cX7_go 2 = .ok (.invokevirtual 137, 3) := by decide +kernel
theorem dX7_go_5 : decode cX7_go 5 = .ok (.ifCond .eq 10, 3) := by decide +kernel
theorem dX7_go_8 : decode cX7_go 8 = .ok (.iload_n 2, 1) := by decide +kernel
theorem dX7_go_9 : decode cX7_go 9 = .ok (.invokestatic 100, 3) := by decide +kernel
theorem dX7_go_12 : decode cX7_go 12 = .ok (.ifCond .ne 6, 3) := by decide +kernel
theorem dX7_go_15 : decode cX7_go 15 = .ok (.bipush (-101), 2) := by decide +kernel
theorem dX7_go_17 : decode cX7_go 17 = .ok (.ireturn, 1) := by decide +kernel
theorem dX7_go_18 : decode cX7_go 18 = .ok (.aload_n 0, 1) := by decide +kernel
theorem dX7_go_19 : decode cX7_go 19 = .ok (.iload_n 2, 1) := by decide +kernel
theorem dX7_go_20 : decode cX7_go 20 = .ok (.invokevirtual 107, 3) := by decide +kernel
theorem dX7_go_23 : decode cX7_go 23 = .ok (.ifCond .ne 6, 3) := by decide +kernel
theorem dX7_go_26 : decode cX7_go 26 = .ok (.bipush (-103), 2) := by decide +kernel
theorem dX7_go_28 : decode cX7_go 28 = .ok (.ireturn, 1) := by decide +kernel
theorem dX7_go_29 : decode cX7_go 29 = .ok (.aload_n 0, 1) := by decide +kernel
theorem dX7_go_30 : decode cX7_go 30 = .ok (.getfield 20, 3) := by decide +kernel
theorem dX7_go_33 : decode cX7_go 33 = .ok (.iload_n 1, 1) := by decide +kernel
theorem dX7_go_34 : decode cX7_go 34 = .ok (.iaload, 1) := by decide +kernel
theorem dX7_go_35 : decode cX7_go 35 = .ok (.istore_n 3, 1) := by decide +kernel
theorem dX7_go_36 : decode cX7_go 36 = .ok (.aload_n 0, 1) := by decide +kernel
theorem dX7_go_37 : decode cX7_go 37 = .ok (.getfield 20, 3) := by decide +kernel
theorem dX7_go_40 : decode cX7_go 40 = .ok (.iload_n 1, 1) := by decide +kernel
theorem dX7_go_41 : decode cX7_go 41 = .ok (.iload_n 2, 1) := by decide +kernel
theorem dX7_go_42 : decode cX7_go 42 = .ok (.iastore, 1) := by decide +kernel
theorem dX7_go_43 : decode cX7_go 43 = .ok (.iload_n 3, 1) := by decide +kernel
theorem dX7_go_44 : decode cX7_go 44 = .ok (.ireturn, 1) := by decide +kernel
set_option maxRecDepth 20000 in
theorem ggX7_act_X7_within : GoodIn wsX7_act wsX7_within := goodIn_r _ [9] (by decide +kernel) (by decide +kernel)
set_option maxRecDepth 20000 in
theorem gX7_act_X7_within : GoodIn wsX7_act (va_wsS RX7 57 yX7_within wsX7_within) := goodIn_app (goodIn_of _ (by decide +kernel)) ggX7_act_X7_within
set_option maxRecDepth 20000 in
theorem ggX7_act_X7_guiltySet : GoodIn wsX7_act wsX7_guiltySet := goodIn_r _ [59, 3, 60, 61, 62, 8, 63, 39, 35, 36, 37, 38, 1, 30, 14, 40, 41, 42, 43, 44, 45, 46, 47, 48, 49, 50, 51, 52, 53, 54, 55, 22, 23, 24, 25, 26, 27, 28, 29, 67, 68, 69, 70, 71, 72, 73, 74, 75, 76, 77, 78, 79, 80, 81, 82, 83, 84, 85, 86, 87, 88, 89, 90, 91, 92, 93, 94, 95, 96, 97] (by decide +kernel) (by decide +kernel)
set_option maxRecDepth 20000 in
theorem gX7_act_X7_guiltySet : GoodIn wsX7_act (wsV RX7 153 RX7 yX7_guiltySet wsX7_guiltySet) := goodIn_app (goodIn_of _ (by decide +kernel)) ggX7_act_X7_guiltySet
set_option maxRecDepth 20000 in
theorem ggX7_act_X7_size : GoodIn wsX7_act wsX7_size := goodIn_r _ [66] (by decide +kernel) (by decide +kernel)
set_option maxRecDepth 20000 in
theorem gX7_act_X7_size : GoodIn wsX7_act (va_wsS RX7 89 yX7_size wsX7_size) := goodIn_app (goodIn_of _ (by decide +kernel)) ggX7_act_X7_size
theorem dX7_act_0 : decode cX7_act 0 = .ok (.iload_n 1, 1) := by decide +kernel
theorem dX7_act_1 : decode cX7_act 1 = .ok (.iconst 0, 1) := by decide +kernel
theorem dX7_act_2 : decode cX7_act 2 = .ok (.iconst 2, 1) := by decide +kernel
theorem dX7_act_3 : decode cX7_act 3 = .ok (.invokestatic 57, 3) := by decide +kernel
theorem dX7_act_6 : decode cX7_act 6 = .ok (.ifCond .ne 6, 3) := by decide +kernel
theorem dX7_act_9 : decode cX7_act 9 = .ok (.bipush (-102), 2) := by decide +kernel
theorem dX7_act_11 : decode cX7_act 11 = .ok (.ireturn, 1) := by decide +kernel
theorem dX7_act_12 : decode cX7_act 12 = .ok (.aload_n 0, 1) := by decide +kernel
theorem dX7_act_13 : decode cX7_act 13 = .ok (.getfield 7, 3) := by decide +kernel
theorem dX7_act_16 : decode cX7_act 16 = .ok (.iconst (-1), 1) := by decide +kernel
theorem dX7_act_17 : decode cX7_act 17 = .ok (.if_icmp .eq 11, 3) := by decide +kernel
theorem dX7_act_20 : decode cX7_act 20 = .ok (.aload_n 0, 1) := by decide +kernel
theorem dX7_act_21 : decode cX7_act 21 = .ok (.iload_n 1, 1) := by decide +kernel
theorem dX7_act_22 : decode cX7_act 22 = .ok (.invokevirtual 146, 3) := by decide +kernel
theorem dX7_act_25 : decode cX7_act 25 = .ok (.ifCond .ne 6, 3) := by decide +kernel
theorem dX7_act_28 : decode cX7_act 28 = .ok (.bipush (-103), 2) := by decide +kernel
theorem dX7_act_30 : decode cX7_act 30 = .ok (.ireturn, 1) := by decide +kernel
theorem dX7_act_31 : decode cX7_act 31 = .ok (.aload_n 0, 1) := by decide +kernel
theorem dX7_act_32 : decode cX7_act 32 = .ok (.iload_n 1, 1) := by decide +kernel
theorem dX7_act_33 : decode cX7_act 33 = .ok (.invokevirtual 149, 3) := by decide +kernel
theorem dX7_act_36 : decode cX7_act 36 = .ok (.aload_n 0, 1) := by decide +kernel
theorem dX7_act_37 : decode cX7_act 37 = .ok (.dup, 1) := by decide +kernel
theorem dX7_act_38 : decode cX7_act 38 = .ok (.getfield 83, 3) := by decide +kernel
theorem dX7_act_41 : decode cX7_act 41 = .ok (.iconst 1, 1) := by decide +kernel
theorem dX7_act_42 : decode cX7_act 42 = .ok (.iadd, 1) := by decide +kernel
theorem dX7_act_43 : decode cX7_act 43 = .ok (.putfield 83, 3) := by decide +kernel
theorem dX7_act_46 : decode cX7_act 46 = .ok (.iconst 0, 1) := by decide +kernel
theorem dX7_act_47 : decode cX7_act 47 = .ok (.istore_n 2, 1) := by decide +kernel
theorem dX7_act_48 : decode cX7_act 48 = .ok (.iload_n 2, 1) := by decide +kernel
theorem dX7_act_49 : decode cX7_act 49 = .ok (.aload_n 0, 1) := by decide +kernel
theorem dX7_act_50 : decode cX7_act 50 = .ok (.getfield 86, 3) := by decide +kernel
theorem dX7_act_53 : decode cX7_act 53 = .ok (.if_icmp .ge 63, 3) := by decide +kernel
theorem dX7_act_56 : decode cX7_act 56 = .ok (.aload_n 0, 1) := by decide +kernel
theorem dX7_act_57 : decode cX7_act 57 = .ok (.iload_n 2, 1) := by decide +kernel
theorem dX7_act_58 : decode cX7_act 58 = .ok (.invokevirtual 131, 3) := by decide +kernel
theorem dX7_act_61 : decode cX7_act 61 = .ok (.istore_n 3, 1) := by decide +kernel
theorem dX7_act_62 : decode cX7_act 62 = .ok (.aload_n 0, 1) := by decide +kernel
theorem dX7_act_63 : decode cX7_act 63 = .ok (.getfield 23, 3) := by decide +kernel
theorem dX7_act_66 : decode cX7_act 66 = .ok (.iload_n 2, 1) := by decide +kernel
theorem dX7_act_67 : decode cX7_act 67 = .ok (.dup2, 1) := by decide +kernel
theorem dX7_act_68 : decode cX7_act 68 = .ok (.iaload, 1) := by decide +kernel
theorem dX7_act_69 : decode cX7_act 69 = .ok (.iload_n 3, 1) := by decide +kernel
theorem dX7_act_70 : decode cX7_act 70 = .ok (.iconst 1, 1) := by decide +kernel
theorem dX7_act_71 : decode cX7_act 71 = .ok (.if_icmp .eq 8, 3) := by decide +kernel
theorem dX7_act_74 : decode cX7_act 74 = .ok (.iload_n 3, 1) := by decide +kernel
theorem dX7_act_75 : decode cX7_act 75 = .ok (.iconst 3, 1) := by decide +kernel
theorem dX7_act_76 : decode cX7_act 76 = .ok (.if_icmp .ne 7, 3) := by decide +kernel
theorem dX7_act_79 : decode cX7_act 79 = .ok (.iconst 1, 1) := by decide +kernel
theorem dX7_act_80 : decode cX7_act 80 = .ok (.goto 4, 3) := by decide +kernel
theorem dX7_act_83 : decode cX7_act 83 = .ok (.iconst 0, 1) := by decide +kernel
theorem dX7_act_84 : decode cX7_act 84 = .ok (.iadd, 1) := by decide +kernel
theorem dX7_act_85 : decode cX7_act 85 = .ok (.iastore, 1) := by decide +kernel
theorem dX7_act_86 : decode cX7_act 86 = .ok (.aload_n 0, 1) := by decide +kernel
theorem dX7_act_87 : decode cX7_act 87 = .ok (.getfield 26, 3) := by decide +kernel
theorem dX7_act_90 : decode cX7_act 90 = .ok (.iload_n 2, 1) := by decide +kernel
theorem dX7_act_91 : decode cX7_act 91 = .ok (.dup2, 1) := by decide +kernel
theorem dX7_act_92 : decode cX7_act 92 = .ok (.iaload, 1) := by decide +kernel
theorem dX7_act_93 : decode cX7_act 93 = .ok (.iload_n 3, 1) := by decide +kernel
theorem dX7_act_94 : decode cX7_act 94 = .ok (.iconst 2, 1) := by decide +kernel
theorem dX7_act_95 : decode cX7_act 95 = .ok (.if_icmp .eq 8, 3) := by decide +kernel
theorem dX7_act_98 : decode cX7_act 98 = .ok (.iload_n 3, 1) := by decide +kernel
theorem dX7_act_99 : decode cX7_act 99 = .ok (.iconst 3, 1) := by decide +kernel
theorem dX7_act_100 : decode cX7_act 100 = .ok (.if_icmp .ne 7, 3) := by decide +kernel
theorem dX7_act_103 : decode cX7_act 103 = .ok (.iconst 1, 1) := by decide +kernel
theorem dX7_act_104 : decode cX7_act 104 = .ok (.goto 4, 3) := by decide +kernel
theorem dX7_act_107 : decode cX7_act 107 = .ok (.iconst 0, 1) := by decide +kernel
theorem dX7_act_108 : decode cX7_act 108 = .ok (.iadd, 1) := by decide +kernel
theorem dX7_act_109 : decode cX7_act 109 = .ok (.iastore, 1) := by decide +kernel
theorem dX7_act_110 : decode cX7_act 110 = .ok (.iinc 2 1, 3) := by decide +kernel
theorem dX7_act_113 : decode cX7_act 113 = .ok (.goto (-65), 3) := by decide +kernel
theorem dX7_act_116 : decode cX7_act 116 = .ok (.aload_n 0, 1) := by decide +kernel
theorem dX7_act_117 : decode cX7_act 117 = .ok (.invokevirtual 153, 3) := by decide +kernel
theorem dX7_act_120 : decode cX7_act 120 = .ok (.invokestatic 89, 3) := by decide +kernel
theorem dX7_act_123 : decode cX7_act 123 = .ok (.ireturn, 1) := by decide +kernel
set_option maxRecDepth 20000 in
theorem ggX7_guilty_X7_guiltySet : GoodIn wsX7_guilty wsX7_guiltySet := goodIn_r _ [5, 6, 7, 8, 9, 4, 10, 11, 12, 13, 14, 15, 16, 17, 18, 19, 20, 21, 22, 23, 24, 25, 26, 27, 28, 29, 30, 31, 32, 33, 34, 35, 36, 37, 38, 39, 40, 41, 42, 43, 44, 45, 46, 47, 48, 49, 50, 51, 52, 53, 54, 55, 56, 57, 58, 59, 60, 61, 62, 63, 64, 65, 66, 67, 68, 69, 70, 71, 72, 73] (by decide +kernel) (by decide +kernel)
set_option maxRecDepth 20000 in
theorem gX7_guilty_X7_guiltySet : GoodIn wsX7_guilty (wsV RX7 153 RX7 yX7_guiltySet wsX7_guiltySet) := goodIn_app (goodIn_of _ (by decide +kernel)) ggX7_guilty_X7_guiltySet
theorem dX7_guilty_0 : decode cX7_guilty 0 = .ok (.aload_n 0, 1) := by decide +kernel
theorem dX7_guilty_1 : decode cX7_guilty 1 = .ok (.invokevirtual 153, 3) := by decide +kernel
theorem dX7_guilty_4 : decode cX7_guilty 4 = .ok (.ireturn, 1) := by decide +kernel
set_option maxRecDepth 20000 in
theorem ggX7_room_X7_within : GoodIn wsX7_room wsX7_within := goodIn_r _ [5] (by decide +kernel) (by decide +kernel)
set_option maxRecDepth 20000 in
theorem gX7_room_X7_within : GoodIn wsX7_room (va_wsS RX7 57 yX7_within wsX7_within) := goodIn_app (goodIn_of _ (by decide +kernel)) ggX7_room_X7_within
theorem dX7_room_0 : decode cX7_room 0 = .ok (.iload_n 1, 1) := by decide +kernel
theorem dX7_room_1 : decode cX7_room 1 = .ok (.iconst 1, 1) := by decide +kernel
theorem dX7_room_2 : decode cX7_room 2 = .ok (.iconst 3, 1) := by decide +kernel
theorem dX7_room_3 : decode cX7_room 3 = .ok (.invokestatic 57, 3) := by decide +kernel
theorem dX7_room_6 : decode cX7_room 6 = .ok (.ifCond .eq 12, 3) := by decide +kernel
theorem dX7_room_9 : decode cX7_room 9 = .ok (.iload_n 2, 1) := by decide +kernel
theorem dX7_room_10 : decode cX7_room 10 = .ok (.iconst 0, 1) := by decide +kernel
theorem dX7_room_11 : decode cX7_room 11 = .ok (.iconst 2, 1) := by decide +kernel
theorem dX7_room_12 : decode cX7_room 12 = .ok (.invokestatic 57, 3) := by decide +kernel
theorem dX7_room_15 : decode cX7_room 15 = .ok (.ifCond .ne 6, 3) := by decide +kernel
theorem dX7_room_18 : decode cX7_room 18 = .ok (.bipush (-102), 2) := by decide +kernel
theorem dX7_room_20 : decode cX7_room 20 = .ok (.ireturn, 1) := by decide +kernel
theorem dX7_room_21 : decode cX7_room 21 = .ok (.aload_n 0, 1) := by decide +kernel
theorem dX7_room_22 : decode cX7_room 22 = .ok (.getfield 7, 3) := by decide +kernel
theorem dX7_room_25 : decode cX7_room 25 = .ok (.iconst (-1), 1) := by decide +kernel
theorem dX7_room_26 : decode cX7_room 26 = .ok (.if_icmp .ne 8, 3) := by decide +kernel
theorem dX7_room_29 : decode cX7_room 29 = .ok (.bipush (-103), 2) := by decide +kernel
theorem dX7_room_31 : decode cX7_room 31 = .ok (.goto 9, 3) := by decide +kernel
theorem dX7_room_34 : decode cX7_room 34 = .ok (.aload_n 0, 1) := by decide +kernel
theorem dX7_room_35 : decode cX7_room 35 = .ok (.iload_n 1, 1) := by decide +kernel
theorem dX7_room_36 : decode cX7_room 36 = .ok (.iload_n 2, 1) := by decide +kernel
theorem dX7_room_37 : decode cX7_room 37 = .ok (.invokevirtual 169, 3) := by decide +kernel
theorem dX7_room_40 : decode cX7_room 40 = .ok (.ireturn, 1) := by decide +kernel
set_option maxRecDepth 20000 in
theorem ggX7_brick_X7_within : GoodIn wsX7_brick wsX7_within := goodIn_r _ [5] (by decide +kernel) (by decide +kernel)
set_option maxRecDepth 20000 in
theorem gX7_brick_X7_within : GoodIn wsX7_brick (va_wsS RX7 57 yX7_within wsX7_within) := goodIn_app (goodIn_of _ (by decide +kernel)) ggX7_brick_X7_within
theorem dX7_brick_0 : decode cX7_brick 0 = .ok (.iload_n 1, 1) := by decide +kernel
theorem dX7_brick_1 : decode cX7_brick 1 = .ok (.iconst 0, 1) := by decide +kernel
theorem dX7_brick_2 : decode cX7_brick 2 = .ok (.iconst 1, 1) := by decide +kernel
theorem dX7_brick_3 : decode cX7_brick 3 = .ok (.invokestatic 57, 3) := by decide +kernel
theorem dX7_brick_6 : decode cX7_brick 6 = .ok (.ifCond .ne 6, 3) := by decide +kernel
theorem dX7_brick_9 : decode cX7_brick 9 = .ok (.bipush (-102), 2) := by decide +kernel
theorem dX7_brick_11 : decode cX7_brick 11 = .ok (.ireturn, 1) := by decide +kernel
theorem dX7_brick_12 : decode cX7_brick 12 = .ok (.aload_n 0, 1) := by decide +kernel
theorem dX7_brick_13 : decode cX7_brick 13 = .ok (.getfield 7, 3) := by decide +kernel
theorem dX7_brick_16 : decode cX7_brick 16 = .ok (.iconst (-1), 1) := by decide +kernel
theorem dX7_brick_17 : decode cX7_brick 17 = .ok (.if_icmp .ne 8, 3) := by decide +kernel
theorem dX7_brick_20 : decode cX7_brick 20 = .ok (.bipush (-103), 2) := by decide +kernel
theorem dX7_brick_22 : decode cX7_brick 22 = .ok (.goto 8, 3) := by decide +kernel
theorem dX7_brick_25 : decode cX7_brick 25 = .ok (.aload_n 0, 1) := by decide +kernel
theorem dX7_brick_26 : decode cX7_brick 26 = .ok (.iload_n 1, 1) := by decide +kernel
theorem dX7_brick_27 : decode cX7_brick 27 = .ok (.invokevirtual 172, 3) := by decide +kernel
theorem dX7_brick_30 : decode cX7_brick 30 = .ok (.ireturn, 1) := by decide +kernel
set_option maxRecDepth 20000 in
theorem ggX7_way_X7_isPlace : GoodIn wsX7_way wsX7_isPlace := goodIn_r _ [5, 6, 7, 4, 8] (by decide +kernel) (by decide +kernel)
set_option maxRecDepth 20000 in
theorem gX7_way_X7_isPlace : GoodIn wsX7_way (va_wsS RX7 100 yX7_isPlace wsX7_isPlace) := goodIn_app (goodIn_of _ (by decide +kernel)) ggX7_way_X7_isPlace
set_option maxRecDepth 20000 in
theorem ggX7_way_X7_within : GoodIn wsX7_way wsX7_within := goodIn_r _ [8] (by decide +kernel) (by decide +kernel)
set_option maxRecDepth 20000 in
theorem gX7_way_X7_within : GoodIn wsX7_way (va_wsS RX7 57 yX7_within wsX7_within) := goodIn_app (goodIn_of _ (by decide +kernel)) ggX7_way_X7_within
theorem dX7_way_0 : decode cX7_way 0 = .ok (.iload_n 1, 1) := by decide +kernel
theorem dX7_way_1 : decode cX7_way 1 = .ok (.invokestatic 100, 3) := by decide +kernel
theorem dX7_way_4 : decode cX7_way 4 = .ok (.ifCond .ne 6, 3) := by decide +kernel
theorem dX7_way_7 : decode cX7_way 7 = .ok (.bipush (-101), 2) := by decide +kernel
theorem dX7_way_9 : decode cX7_way 9 = .ok (.ireturn, 1) := by decide +kernel
theorem dX7_way_10 : decode cX7_way 10 = .ok (.iload_n 2, 1) := by decide +kernel
theorem dX7_way_11 : decode cX7_way 11 = .ok (.iconst 0, 1) := by decide +kernel
theorem dX7_way_12 : decode cX7_way 12 = .ok (.iconst 1, 1) := by decide +kernel
theorem dX7_way_13 : decode cX7_way 13 = .ok (.invokestatic 57, 3) := by decide +kernel
theorem dX7_way_16 : decode cX7_way 16 = .ok (.ifCond .ne 6, 3) := by decide +kernel
theorem dX7_way_19 : decode cX7_way 19 = .ok (.bipush (-102), 2) := by decide +kernel
theorem dX7_way_21 : decode cX7_way 21 = .ok (.ireturn, 1) := by decide +kernel
theorem dX7_way_22 : decode cX7_way 22 = .ok (.aload_n 0, 1) := by decide +kernel
theorem dX7_way_23 : decode cX7_way 23 = .ok (.getfield 7, 3) := by decide +kernel
theorem dX7_way_26 : decode cX7_way 26 = .ok (.iconst (-1), 1) := by decide +kernel
theorem dX7_way_27 : decode cX7_way 27 = .ok (.if_icmp .ne 8, 3) := by decide +kernel
theorem dX7_way_30 : decode cX7_way 30 = .ok (.bipush (-103), 2) := by decide +kernel
theorem dX7_way_32 : decode cX7_way 32 = .ok (.goto 9, 3) := by decide +kernel
theorem dX7_way_35 : decode cX7_way 35 = .ok (.aload_n 0, 1) := by decide +kernel
theorem dX7_way_36 : decode cX7_way 36 = .ok (.iload_n 1, 1) := by decide +kernel
theorem dX7_way_37 : decode cX7_way 37 = .ok (.iload_n 2, 1) := by decide +kernel
theorem dX7_way_38 : decode cX7_way 38 = .ok (.invokevirtual 178, 3) := by decide +kernel
theorem dX7_way_41 : decode cX7_way 41 = .ok (.ireturn, 1) := by decide +kernel
set_option maxRecDepth 20000 in
theorem ggX7_told_X7_isCourtier : GoodIn wsX7_told wsX7_isCourtier := goodIn_r _ [6, 7, 8, 9, 5, 10, 11, 12, 13, 14, 15, 16, 17, 18, 19, 20, 21, 22, 23, 24, 25, 26, 27, 28, 29, 30, 31, 32, 33, 34, 35, 36, 37, 38, 39, 40, 41] (by decide +kernel) (by decide +kernel)
set_option maxRecDepth 20000 in
theorem gX7_told_X7_isCourtier : GoodIn wsX7_told (wsV RX7 137 RX7 yX7_isCourtier wsX7_isCourtier) := goodIn_app (goodIn_of _ (by decide +kernel)) ggX7_told_X7_isCourtier
set_option maxRecDepth 20000 in
theorem ggX7_told_X7_within : GoodIn wsX7_told wsX7_within := goodIn_r _ [10] (by decide +kernel) (by decide +kernel)
set_option maxRecDepth 20000 in
theorem gX7_told_X7_within : GoodIn wsX7_told (va_wsS RX7 57 yX7_within wsX7_within) := goodIn_app (goodIn_of _ (by decide +kernel)) ggX7_told_X7_within
theorem dX7_told_0 : decode cX7_told 0 = .ok (.aload_n 0, 1) := by decide +kernel
theorem dX7_told_1 : decode cX7_told 1 = .ok (.iload_n 1, 1) := by decide +kernel
theorem dX7_told_2 : decode cX7_told 2 = .ok (.invokevirtual 137, 3) := by decide +kernel
theorem dX7_told_5 : decode cX7_told 5 = .ok (.ifCond .ne 6, 3) := by decide +kernel
theorem dX7_told_8 : decode cX7_told 8 = .ok (.bipush (-101), 2) := by decide +kernel
theorem dX7_told_10 : decode cX7_told 10 = .ok (.ireturn, 1) := by decide +kernel
theorem dX7_told_11 : decode cX7_told 11 = .ok (.iload_n 2, 1) := by decide +kernel
theorem dX7_told_12 : decode cX7_told 12 = .ok (.iconst (-1), 1) := by decide +kernel
theorem dX7_told_13 : decode cX7_told 13 = .ok (.iconst 4, 1) := by decide +kernel
theorem dX7_told_14 : decode cX7_told 14 = .ok (.invokestatic 57, 3) := by decide +kernel
theorem dX7_told_17 : decode cX7_told 17 = .ok (.ifCond .ne 6, 3) := by decide +kernel
theorem dX7_told_20 : decode cX7_told 20 = .ok (.bipush (-102), 2) := by decide +kernel
theorem dX7_told_22 : decode cX7_told 22 = .ok (.ireturn, 1) := by decide +kernel
theorem dX7_told_23 : decode cX7_told 23 = .ok (.aload_n 0, 1) := by decide +kernel
theorem dX7_told_24 : decode cX7_told 24 = .ok (.getfield 29, 3) := by decide +kernel
theorem dX7_told_27 : decode cX7_told 27 = .ok (.iload_n 1, 1) := by decide +kernel
theorem dX7_told_28 : decode cX7_told 28 = .ok (.iaload, 1) := by decide +kernel
theorem dX7_told_29 : decode cX7_told 29 = .ok (.istore_n 3, 1) := by decide +kernel
theorem dX7_told_30 : decode cX7_told 30 = .ok (.aload_n 0, 1) := by decide +kernel
theorem dX7_told_31 : decode cX7_told 31 = .ok (.getfield 29, 3) := by decide +kernel
theorem dX7_told_34 : decode cX7_told 34 = .ok (.iload_n 1, 1) := by decide +kernel
theorem dX7_told_35 : decode cX7_told 35 = .ok (.iload_n 2, 1) := by decide +kernel
theorem dX7_told_36 : decode cX7_told 36 = .ok (.iastore, 1) := by decide +kernel
theorem dX7_told_37 : decode cX7_told 37 = .ok (.iload_n 3, 1) := by decide +kernel
theorem dX7_told_38 : decode cX7_told 38 = .ok (.ireturn, 1) := by decide +kernel
set_option maxRecDepth 20000 in
theorem ggX7_stood_X7_within : GoodIn wsX7_stood wsX7_within := goodIn_r _ [5] (by decide +kernel) (by decide +kernel)
set_option maxRecDepth 20000 in
theorem gX7_stood_X7_within : GoodIn wsX7_stood (va_wsS RX7 57 yX7_within wsX7_within) := goodIn_app (goodIn_of _ (by decide +kernel)) ggX7_stood_X7_within
theorem dX7_stood_0 : decode cX7_stood 0 = .ok (.iload_n 1, 1) := by decide +kernel
theorem dX7_stood_1 : decode cX7_stood 1 = .ok (.iconst 0, 1) := by decide +kernel
theorem dX7_stood_2 : decode cX7_stood 2 = .ok (.iconst 2, 1) := by decide +kernel
theorem dX7_stood_3 : decode cX7_stood 3 = .ok (.invokestatic 57, 3) := by decide +kernel
theorem dX7_stood_6 : decode cX7_stood 6 = .ok (.ifCond .ne 6, 3) := by decide +kernel
theorem dX7_stood_9 : decode cX7_stood 9 = .ok (.bipush (-102), 2) := by decide +kernel
theorem dX7_stood_11 : decode cX7_stood 11 = .ok (.ireturn, 1) := by decide +kernel
theorem dX7_stood_12 : decode cX7_stood 12 = .ok (.aload_n 0, 1) := by decide +kernel
theorem dX7_stood_13 : decode cX7_stood 13 = .ok (.getfield 76, 3) := by decide +kernel
theorem dX7_stood_16 : decode cX7_stood 16 = .ok (.ifCond .eq 11, 3) := by decide +kernel
theorem dX7_stood_19 : decode cX7_stood 19 = .ok (.aload_n 0, 1) := by decide +kernel
theorem dX7_stood_20 : decode cX7_stood 20 = .ok (.iload_n 1, 1) := by decide +kernel
theorem dX7_stood_21 : decode cX7_stood 21 = .ok (.invokevirtual 188, 3) := by decide +kernel
theorem dX7_stood_24 : decode cX7_stood 24 = .ok (.goto 5, 3) := by decide +kernel
theorem dX7_stood_27 : decode cX7_stood 27 = .ok (.bipush (-103), 2) := by decide +kernel
theorem dX7_stood_29 : decode cX7_stood 29 = .ok (.ireturn, 1) := by decide +kernel
set_option maxRecDepth 20000 in
theorem ggX7_walk_X7_within : GoodIn wsX7_walk wsX7_within := goodIn_r _ [5] (by decide +kernel) (by decide +kernel)
set_option maxRecDepth 20000 in
theorem gX7_walk_X7_within : GoodIn wsX7_walk (va_wsS RX7 57 yX7_within wsX7_within) := goodIn_app (goodIn_of _ (by decide +kernel)) ggX7_walk_X7_within
theorem dX7_walk_0 : decode cX7_walk 0 = .ok (.iload_n 1, 1) := by decide +kernel
theorem dX7_walk_1 : decode cX7_walk 1 = .ok (.iconst 1, 1) := by decide +kernel
theorem dX7_walk_2 : decode cX7_walk 2 = .ok (.bipush 60, 2) := by decide +kernel
theorem dX7_walk_4 : decode cX7_walk 4 = .ok (.invokestatic 57, 3) := by decide +kernel
theorem dX7_walk_7 : decode cX7_walk 7 = .ok (.ifCond .eq 16, 3) := by decide +kernel
theorem dX7_walk_10 : decode cX7_walk 10 = .ok (.iload_n 2, 1) := by decide +kernel
theorem dX7_walk_11 : decode cX7_walk 11 = .ok (.ifCond .lt 12, 3) := by decide +kernel
theorem dX7_walk_14 : decode cX7_walk 14 = .ok (.iload_n 3, 1) := by decide +kernel
theorem dX7_walk_15 : decode cX7_walk 15 = .ok (.iconst 0, 1) := by decide +kernel
theorem dX7_walk_16 : decode cX7_walk 16 = .ok (.iconst 3, 1) := by decide +kernel
theorem dX7_walk_17 : decode cX7_walk 17 = .ok (.invokestatic 57, 3) := by decide +kernel
theorem dX7_walk_20 : decode cX7_walk 20 = .ok (.ifCond .ne 6, 3) := by decide +kernel
theorem dX7_walk_23 : decode cX7_walk 23 = .ok (.bipush (-102), 2) := by decide +kernel
theorem dX7_walk_25 : decode cX7_walk 25 = .ok (.ireturn, 1) := by decide +kernel
theorem dX7_walk_26 : decode cX7_walk 26 = .ok (.aload_n 0, 1) := by decide +kernel
theorem dX7_walk_27 : decode cX7_walk 27 = .ok (.getfield 7, 3) := by decide +kernel
theorem dX7_walk_30 : decode cX7_walk 30 = .ok (.iconst (-1), 1) := by decide +kernel
theorem dX7_walk_31 : decode cX7_walk 31 = .ok (.if_icmp .ne 8, 3) := by decide +kernel
theorem dX7_walk_34 : decode cX7_walk 34 = .ok (.bipush (-103), 2) := by decide +kernel
theorem dX7_walk_36 : decode cX7_walk 36 = .ok (.goto 10, 3) := by decide +kernel
theorem dX7_walk_39 : decode cX7_walk 39 = .ok (.aload_n 0, 1) := by decide +kernel
theorem dX7_walk_40 : decode cX7_walk 40 = .ok (.iload_n 1, 1) := by decide +kernel
theorem dX7_walk_41 : decode cX7_walk 41 = .ok (.iload_n 2, 1) := by decide +kernel
theorem dX7_walk_42 : decode cX7_walk 42 = .ok (.iload_n 3, 1) := by decide +kernel
theorem dX7_walk_43 : decode cX7_walk 43 = .ok (.invokevirtual 206, 3) := by decide +kernel
theorem dX7_walk_46 : decode cX7_walk 46 = .ok (.ireturn, 1) := by decide +kernel
theorem dX7_image_0 : decode cX7_image 0 = .ok (.aload_n 0, 1) := by decide +kernel
theorem dX7_image_1 : decode cX7_image 1 = .ok (.getfield 76, 3) := by decide +kernel
theorem dX7_image_4 : decode cX7_image 4 = .ok (.ifCond .ne 6, 3) := by decide +kernel
theorem dX7_image_7 : decode cX7_image 7 = .ok (.bipush (-103), 2) := by decide +kernel
theorem dX7_image_9 : decode cX7_image 9 = .ok (.ireturn, 1) := by decide +kernel
theorem dX7_image_10 : decode cX7_image 10 = .ok (.aload_n 0, 1) := by decide +kernel
theorem dX7_image_11 : decode cX7_image 11 = .ok (.iconst 1, 1) := by decide +kernel
theorem dX7_image_12 : decode cX7_image 12 = .ok (.putfield 210, 3) := by decide +kernel
theorem dX7_image_15 : decode cX7_image 15 = .ok (.aload_n 0, 1) := by decide +kernel
theorem dX7_image_16 : decode cX7_image 16 = .ok (.aload_n 0, 1) := by decide +kernel
theorem dX7_image_17 : decode cX7_image 17 = .ok (.getfield 80, 3) := by decide +kernel
theorem dX7_image_20 : decode cX7_image 20 = .ok (.putfield 213, 3) := by decide +kernel
theorem dX7_image_23 : decode cX7_image 23 = .ok (.aload_n 0, 1) := by decide +kernel
theorem dX7_image_24 : decode cX7_image 24 = .ok (.aload_n 0, 1) := by decide +kernel
theorem dX7_image_25 : decode cX7_image 25 = .ok (.getfield 86, 3) := by decide +kernel
theorem dX7_image_28 : decode cX7_image 28 = .ok (.putfield 216, 3) := by decide +kernel
theorem dX7_image_31 : decode cX7_image 31 = .ok (.aload_n 0, 1) := by decide +kernel
theorem dX7_image_32 : decode cX7_image 32 = .ok (.aload_n 0, 1) := by decide +kernel
theorem dX7_image_33 : decode cX7_image 33 = .ok (.getfield 7, 3) := by decide +kernel
theorem dX7_image_36 : decode cX7_image 36 = .ok (.putfield 219, 3) := by decide +kernel
theorem dX7_image_39 : decode cX7_image 39 = .ok (.aload_n 0, 1) := by decide +kernel
theorem dX7_image_40 : decode cX7_image 40 = .ok (.aload_n 0, 1) := by decide +kernel
theorem dX7_image_41 : decode cX7_image 41 = .ok (.getfield 13, 3) := by decide +kernel
theorem dX7_image_44 : decode cX7_image 44 = .ok (.putfield 222, 3) := by decide +kernel
theorem dX7_image_47 : decode cX7_image 47 = .ok (.aload_n 0, 1) := by decide +kernel
theorem dX7_image_48 : decode cX7_image 48 = .ok (.aload_n 0, 1) := by decide +kernel
theorem dX7_image_49 : decode cX7_image 49 = .ok (.getfield 83, 3) := by decide +kernel
theorem dX7_image_52 : decode cX7_image 52 = .ok (.putfield 225, 3) := by decide +kernel
theorem dX7_image_55 : decode cX7_image 55 = .ok (.iconst 0, 1) := by decide +kernel
theorem dX7_image_56 : decode cX7_image 56 = .ok (.istore_n 1, 1) := by decide +kernel
theorem dX7_image_57 : decode cX7_image 57 = .ok (.iload_n 1, 1) := by decide +kernel
theorem dX7_image_58 : decode cX7_image 58 = .ok (.bipush 6, 2) := by decide +kernel
theorem dX7_image_60 : decode cX7_image 60 = .ok (.if_icmp .ge 57, 3) := by decide +kernel
theorem dX7_image_63 : decode cX7_image 63 = .ok (.aload_n 0, 1) := by decide +kernel
theorem dX7_image_64 : decode cX7_image 64 = .ok (.getfield 45, 3) := by decide +kernel
theorem dX7_image_67 : decode cX7_image 67 = .ok (.iload_n 1, 1) := by decide +kernel
theorem dX7_image_68 : decode cX7_image 68 = .ok (.aload_n 0, 1) := by decide +kernel
theorem dX7_image_69 : decode cX7_image 69 = .ok (.getfield 20, 3) := by decide +kernel
theorem dX7_image_72 : decode cX7_image 72 = .ok (.iload_n 1, 1) := by decide +kernel
theorem dX7_image_73 : decode cX7_image 73 = .ok (.iaload, 1) := by decide +kernel
theorem dX7_image_74 : decode cX7_image 74 = .ok (.iastore, 1) := by decide +kernel
theorem dX7_image_75 : decode cX7_image 75 = .ok (.aload_n 0, 1) := by decide +kernel
theorem dX7_image_76 : decode cX7_image 76 = .ok (.getfield 48, 3) := by decide +kernel
theorem dX7_image_79 : decode cX7_image 79 = .ok (.iload_n 1, 1) := by decide +kernel
theorem dX7_image_80 : decode cX7_image 80 = .ok (.aload_n 0, 1) := by decide +kernel
theorem dX7_image_81 : decode cX7_image 81 = .ok (.getfield 23, 3) := by decide +kernel
theorem dX7_image_84 : decode cX7_image 84 = .ok (.iload_n 1, 1) := by decide +kernel
theorem dX7_image_85 : decode cX7_image 85 = .ok (.iaload, 1) := by decide +kernel
theorem dX7_image_86 : decode cX7_image 86 = .ok (.iastore, 1) := by decide +kernel
theorem dX7_image_87 : decode cX7_image 87 = .ok (.aload_n 0, 1) := by decide +kernel
theorem dX7_image_88 : decode cX7_image 88 = .ok (.getfield 51, 3) := by decide +kernel
theorem dX7_image_91 : decode cX7_image 91 = .ok (.iload_n 1, 1) := by decide +kernel
theorem dX7_image_92 : decode cX7_image 92 = .ok (.aload_n 0, 1) := by decide +kernel
theorem dX7_image_93 : decode cX7_image 93 = .ok (.getfield 26, 3) := by decide +kernel
theorem dX7_image_96 : decode cX7_image 96 = .ok (.iload_n 1, 1) := by decide +kernel
theorem dX7_image_97 : decode cX7_image 97 = .ok (.iaload, 1) := by decide +kernel
theorem dX7_image_98 : decode cX7_image 98 = .ok (.iastore, 1) := by decide +kernel
theorem dX7_image_99 : decode cX7_image 99 = .ok (.aload_n 0, 1) := by decide +kernel
theorem dX7_image_100 : decode cX7_image 100 = .ok (.getfield 54, 3) := by decide +kernel
theorem dX7_image_103 : decode cX7_image 103 = .ok (.iload_n 1, 1) := by decide +kernel
theorem dX7_image_104 : decode cX7_image 104 = .ok (.aload_n 0, 1) := by decide +kernel
theorem dX7_image_105 : decode cX7_image 105 = .ok (.getfield 29, 3) := by decide +kernel
theorem dX7_image_108 : decode cX7_image 108 = .ok (.iload_n 1, 1) := by decide +kernel
theorem dX7_image_109 : decode cX7_image 109 = .ok (.iaload, 1) := by decide +kernel
theorem dX7_image_110 : decode cX7_image 110 = .ok (.iastore, 1) := by decide +kernel
theorem dX7_image_111 : decode cX7_image 111 = .ok (.iinc 1 1, 3) := by decide +kernel
theorem dX7_image_114 : decode cX7_image 114 = .ok (.goto (-57), 3) := by decide +kernel
theorem dX7_image_117 : decode cX7_image 117 = .ok (.aload_n 0, 1) := by decide +kernel
theorem dX7_image_118 : decode cX7_image 118 = .ok (.getfield 86, 3) := by decide +kernel
theorem dX7_image_121 : decode cX7_image 121 = .ok (.ireturn, 1) := by decide +kernel
theorem dX7_restore_0 : decode cX7_restore 0 = .ok (.aload_n 0, 1) := by decide +kernel
theorem dX7_restore_1 : decode cX7_restore 1 = .ok (.getfield 210, 3) := by decide +kernel
theorem dX7_restore_4 : decode cX7_restore 4 = .ok (.ifCond .eq 14, 3) := by decide +kernel
theorem dX7_restore_7 : decode cX7_restore 7 = .ok (.aload_n 0, 1) := by decide +kernel
theorem dX7_restore_8 : decode cX7_restore 8 = .ok (.getfield 213, 3) := by decide +kernel
theorem dX7_restore_11 : decode cX7_restore 11 = .ok (.aload_n 0, 1) := by decide +kernel
theorem dX7_restore_12 : decode cX7_restore 12 = .ok (.getfield 80, 3) := by decide +kernel
theorem dX7_restore_15 : decode cX7_restore 15 = .ok (.if_icmp .eq 6, 3) := by decide +kernel
theorem dX7_restore_18 : decode cX7_restore 18 = .ok (.bipush (-103), 2) := by decide +kernel
theorem dX7_restore_20 : decode cX7_restore 20 = .ok (.ireturn, 1) := by decide +kernel
theorem dX7_restore_21 : decode cX7_restore 21 = .ok (.aload_n 0, 1) := by decide +kernel
theorem dX7_restore_22 : decode cX7_restore 22 = .ok (.aload_n 0, 1) := by decide +kernel
theorem dX7_restore_23 : decode cX7_restore 23 = .ok (.getfield 216, 3) := by decide +kernel
theorem dX7_restore_26 : decode cX7_restore 26 = .ok (.putfield 86, 3) := by decide +kernel
theorem dX7_restore_29 : decode cX7_restore 29 = .ok (.aload_n 0, 1) := by decide +kernel
theorem dX7_restore_30 : decode cX7_restore 30 = .ok (.aload_n 0, 1) := by decide +kernel
theorem dX7_restore_31 : decode cX7_restore 31 = .ok (.getfield 219, 3) := by decide +kernel
theorem dX7_restore_34 : decode cX7_restore 34 = .ok (.putfield 7, 3) := by decide +kernel
theorem dX7_restore_37 : decode cX7_restore 37 = .ok (.aload_n 0, 1) := by decide +kernel
theorem dX7_restore_38 : decode cX7_restore 38 = .ok (.aload_n 0, 1) := by decide +kernel
theorem dX7_restore_39 : decode cX7_restore 39 = .ok (.getfield 222, 3) := by decide +kernel
theorem dX7_restore_42 : decode cX7_restore 42 = .ok (.putfield 13, 3) := by decide +kernel
theorem dX7_restore_45 : decode cX7_restore 45 = .ok (.aload_n 0, 1) := by decide +kernel
theorem dX7_restore_46 : decode cX7_restore 46 = .ok (.aload_n 0, 1) := by decide +kernel
theorem dX7_restore_47 : decode cX7_restore 47 = .ok (.getfield 225, 3) := by decide +kernel
theorem dX7_restore_50 : decode cX7_restore 50 = .ok (.putfield 83, 3) := by decide +kernel
theorem dX7_restore_53 : decode cX7_restore 53 = .ok (.iconst 0, 1) := by decide +kernel
theorem dX7_restore_54 : decode cX7_restore 54 = .ok (.istore_n 1, 1) := by decide +kernel
theorem dX7_restore_55 : decode cX7_restore 55 = .ok (.iload_n 1, 1) := by decide +kernel
theorem dX7_restore_56 : decode cX7_restore 56 = .ok (.bipush 6, 2) := by decide +kernel
theorem dX7_restore_58 : decode cX7_restore 58 = .ok (.if_icmp .ge 57, 3) := by decide +kernel
theorem dX7_restore_61 : decode cX7_restore 61 = .ok (.aload_n 0, 1) := by decide +kernel
theorem dX7_restore_62 : decode cX7_restore 62 = .ok (.getfield 20, 3) := by decide +kernel
theorem dX7_restore_65 : decode cX7_restore 65 = .ok (.iload_n 1, 1) := by decide +kernel
theorem dX7_restore_66 : decode cX7_restore 66 = .ok (.aload_n 0, 1) := by decide +kernel
theorem dX7_restore_67 : decode cX7_restore 67 = .ok (.getfield 45, 3) := by decide +kernel
theorem dX7_restore_70 : decode cX7_restore 70 = .ok (.iload_n 1, 1) := by decide +kernel
theorem dX7_restore_71 : decode cX7_restore 71 = .ok (.iaload, 1) := by decide +kernel
theorem dX7_restore_72 : decode cX7_restore 72 = .ok (.iastore, 1) := by decide +kernel
theorem dX7_restore_73 : decode cX7_restore 73 = .ok (.aload_n 0, 1) := by decide +kernel
theorem dX7_restore_74 : decode cX7_restore 74 = .ok (.getfield 23, 3) := by decide +kernel
theorem dX7_restore_77 : decode cX7_restore 77 = .ok (.iload_n 1, 1) := by decide +kernel
theorem dX7_restore_78 : decode cX7_restore 78 = .ok (.aload_n 0, 1) := by decide +kernel
theorem dX7_restore_79 : decode cX7_restore 79 = .ok (.getfield 48, 3) := by decide +kernel
theorem dX7_restore_82 : decode cX7_restore 82 = .ok (.iload_n 1, 1) := by decide +kernel
theorem dX7_restore_83 : decode cX7_restore 83 = .ok (.iaload, 1) := by decide +kernel
theorem dX7_restore_84 : decode cX7_restore 84 = .ok (.iastore, 1) := by decide +kernel
theorem dX7_restore_85 : decode cX7_restore 85 = .ok (.aload_n 0, 1) := by decide +kernel
theorem dX7_restore_86 : decode cX7_restore 86 = .ok (.getfield 26, 3) := by decide +kernel
theorem dX7_restore_89 : decode cX7_restore 89 = .ok (.iload_n 1, 1) := by decide +kernel
theorem dX7_restore_90 : decode cX7_restore 90 = .ok (.aload_n 0, 1) := by decide +kernel
theorem dX7_restore_91 : decode cX7_restore 91 = .ok (.getfield 51, 3) := by decide +kernel
theorem dX7_restore_94 : decode cX7_restore 94 = .ok (.iload_n 1, 1) := by decide +kernel
theorem dX7_restore_95 : decode cX7_restore 95 = .ok (.iaload, 1) := by decide +kernel
theorem dX7_restore_96 : decode cX7_restore 96 = .ok (.iastore, 1) := by decide +kernel
theorem dX7_restore_97 : decode cX7_restore 97 = .ok (.aload_n 0, 1) := by decide +kernel
theorem dX7_restore_98 : decode cX7_restore 98 = .ok (.getfield 29, 3) := by decide +kernel
theorem dX7_restore_101 : decode cX7_restore 101 = .ok (.iload_n 1, 1) := by decide +kernel
theorem dX7_restore_102 : decode cX7_restore 102 = .ok (.aload_n 0, 1) := by decide +kernel
theorem dX7_restore_103 : decode cX7_restore 103 = .ok (.getfield 54, 3) := by decide +kernel
theorem dX7_restore_106 : decode cX7_restore 106 = .ok (.iload_n 1, 1) := by decide +kernel
theorem dX7_restore_107 : decode cX7_restore 107 = .ok (.iaload, 1) := by decide +kernel
theorem dX7_restore_108 : decode cX7_restore 108 = .ok (.iastore, 1) := by decide +kernel
theorem dX7_restore_109 : decode cX7_restore 109 = .ok (.iinc 1 1, 3) := by decide +kernel
theorem dX7_restore_112 : decode cX7_restore 112 = .ok (.goto (-57), 3) := by decide +kernel
theorem dX7_restore_115 : decode cX7_restore 115 = .ok (.aload_n 0, 1) := by decide +kernel
theorem dX7_restore_116 : decode cX7_restore 116 = .ok (.getfield 86, 3) := by decide +kernel
theorem dX7_restore_119 : decode cX7_restore 119 = .ok (.ireturn, 1) := by decide +kernel
theorem dX7_toldMany_0 : decode cX7_toldMany 0 = .ok (.iconst 0, 1) := by decide +kernel
theorem dX7_toldMany_1 : decode cX7_toldMany 1 = .ok (.istore_n 1, 1) := by decide +kernel
theorem dX7_toldMany_2 : decode cX7_toldMany 2 = .ok (.iconst 0, 1) := by decide +kernel
theorem dX7_toldMany_3 : decode cX7_toldMany 3 = .ok (.istore_n 2, 1) := by decide +kernel
theorem dX7_toldMany_4 : decode cX7_toldMany 4 = .ok (.iload_n 2, 1) := by decide +kernel
theorem dX7_toldMany_5 : decode cX7_toldMany 5 = .ok (.aload_n 0, 1) := by decide +kernel
theorem dX7_toldMany_6 : decode cX7_toldMany 6 = .ok (.getfield 86, 3) := by decide +kernel
theorem dX7_toldMany_9 : decode cX7_toldMany 9 = .ok (.if_icmp .ge 27, 3) := by decide +kernel
theorem dX7_toldMany_12 : decode cX7_toldMany 12 = .ok (.iload_n 1, 1) := by decide +kernel
theorem dX7_toldMany_13 : decode cX7_toldMany 13 = .ok (.aload_n 0, 1) := by decide +kernel
theorem dX7_toldMany_14 : decode cX7_toldMany 14 = .ok (.getfield 29, 3) := by decide +kernel
theorem dX7_toldMany_17 : decode cX7_toldMany 17 = .ok (.iload_n 2, 1) := by decide +kernel
theorem dX7_toldMany_18 : decode cX7_toldMany 18 = .ok (.iaload, 1) := by decide +kernel
theorem dX7_toldMany_19 : decode cX7_toldMany 19 = .ok (.iconst (-1), 1) := by decide +kernel
theorem dX7_toldMany_20 : decode cX7_toldMany 20 = .ok (.if_icmp .ne 7, 3) := by decide +kernel
theorem dX7_toldMany_23 : decode cX7_toldMany 23 = .ok (.iconst 0, 1) := by decide +kernel
theorem dX7_toldMany_24 : decode cX7_toldMany 24 = .ok (.goto 4, 3) := by decide +kernel
theorem dX7_toldMany_27 : decode cX7_toldMany 27 = .ok (.iconst 1, 1) := by decide +kernel
theorem dX7_toldMany_28 : decode cX7_toldMany 28 = .ok (.iadd, 1) := by decide +kernel
theorem dX7_toldMany_29 : decode cX7_toldMany 29 = .ok (.istore_n 1, 1) := by decide +kernel
theorem dX7_toldMany_30 : decode cX7_toldMany 30 = .ok (.iinc 2 1, 3) := by decide +kernel
theorem dX7_toldMany_33 : decode cX7_toldMany 33 = .ok (.goto (-29), 3) := by decide +kernel
theorem dX7_toldMany_36 : decode cX7_toldMany 36 = .ok (.iload_n 1, 1) := by decide +kernel
theorem dX7_toldMany_37 : decode cX7_toldMany 37 = .ok (.ireturn, 1) := by decide +kernel
set_option maxRecDepth 20000 in
theorem ggX7_howMany_X7_size : GoodIn wsX7_howMany wsX7_size := goodIn_r _ [11] (by decide +kernel) (by decide +kernel)
set_option maxRecDepth 20000 in
theorem gX7_howMany_X7_size : GoodIn wsX7_howMany (va_wsS RX7 89 yX7_size wsX7_size) := goodIn_app (goodIn_of _ (by decide +kernel)) ggX7_howMany_X7_size
set_option maxRecDepth 20000 in
theorem ggX7_howMany_X7_guiltySet : GoodIn wsX7_howMany wsX7_guiltySet := goodIn_r _ [15, 2, 16, 17, 18, 10, 19, 20, 21, 22, 23, 24, 3, 25, 4, 26, 27, 28, 29, 30, 31, 32, 33, 34, 35, 36, 37, 38, 39, 40, 41, 1, 42, 43, 44, 45, 46, 47, 48, 54, 55, 56, 57, 58, 59, 60, 61, 62, 63, 64, 65, 66, 67, 68, 69, 70, 71, 72, 73, 74, 75, 76, 77, 78, 79, 80, 81, 82, 83, 84] (by decide +kernel) (by decide +kernel)
set_option maxRecDepth 20000 in
theorem gX7_howMany_X7_guiltySet : GoodIn wsX7_howMany (wsV RX7 153 RX7 yX7_guiltySet wsX7_guiltySet) := goodIn_app (goodIn_of _ (by decide +kernel)) ggX7_howMany_X7_guiltySet
set_option maxRecDepth 20000 in
theorem ggX7_howMany_X7_toldMany : GoodIn wsX7_howMany wsX7_toldMany := goodIn_r _ [52, 2, 53, 54, 55, 56, 57, 58, 59, 60, 61, 62, 63, 64, 65, 66, 67, 68, 69, 70, 71, 72, 73, 74, 75, 76, 77, 78, 79, 80, 81, 82, 83, 84] (by decide +kernel) (by decide +kernel)
set_option maxRecDepth 20000 in
theorem gX7_howMany_X7_toldMany : GoodIn wsX7_howMany (wsV RX7 228 RX7 yX7_toldMany wsX7_toldMany) := goodIn_app (goodIn_of _ (by decide +kernel)) ggX7_howMany_X7_toldMany
theorem dX7_howMany_0 : decode cX7_howMany 0 = .ok (.iload_n 1, 1) := by decide +kernel
theorem dX7_howMany_1 : decode cX7_howMany 1 = .ok (.tableswitch 102 0 8 #[51, 59, 64, 69, 74, 82, 87, 92, 97], 51) := by decide +kernel
theorem dX7_howMany_52 : decode cX7_howMany 52 = .ok (.aload_n 0, 1) := by decide +kernel
theorem dX7_howMany_53 : decode cX7_howMany 53 = .ok (.getfield 73, 3) := by decide +kernel
theorem dX7_howMany_56 : decode cX7_howMany 56 = .ok (.invokestatic 89, 3) := by decide +kernel
theorem dX7_howMany_59 : decode cX7_howMany 59 = .ok (.ireturn, 1) := by decide +kernel
theorem dX7_howMany_60 : decode cX7_howMany 60 = .ok (.aload_n 0, 1) := by decide +kernel
theorem dX7_howMany_61 : decode cX7_howMany 61 = .ok (.getfield 86, 3) := by decide +kernel
theorem dX7_howMany_64 : decode cX7_howMany 64 = .ok (.ireturn, 1) := by decide +kernel
theorem dX7_howMany_65 : decode cX7_howMany 65 = .ok (.aload_n 0, 1) := by decide +kernel
theorem dX7_howMany_66 : decode cX7_howMany 66 = .ok (.getfield 7, 3) := by decide +kernel
theorem dX7_howMany_69 : decode cX7_howMany 69 = .ok (.ireturn, 1) := by decide +kernel
theorem dX7_howMany_70 : decode cX7_howMany 70 = .ok (.aload_n 0, 1) := by decide +kernel
theorem dX7_howMany_71 : decode cX7_howMany 71 = .ok (.getfield 13, 3) := by decide +kernel
theorem dX7_howMany_74 : decode cX7_howMany 74 = .ok (.ireturn, 1) := by decide +kernel
theorem dX7_howMany_75 : decode cX7_howMany 75 = .ok (.aload_n 0, 1) := by decide +kernel
theorem dX7_howMany_76 : decode cX7_howMany 76 = .ok (.invokevirtual 153, 3) := by decide +kernel
theorem dX7_howMany_79 : decode cX7_howMany 79 = .ok (.invokestatic 89, 3) := by decide +kernel
theorem dX7_howMany_82 : decode cX7_howMany 82 = .ok (.ireturn, 1) := by decide +kernel
theorem dX7_howMany_83 : decode cX7_howMany 83 = .ok (.aload_n 0, 1) := by decide +kernel
theorem dX7_howMany_84 : decode cX7_howMany 84 = .ok (.invokevirtual 228, 3) := by decide +kernel
theorem dX7_howMany_87 : decode cX7_howMany 87 = .ok (.ireturn, 1) := by decide +kernel
theorem dX7_howMany_88 : decode cX7_howMany 88 = .ok (.aload_n 0, 1) := by decide +kernel
theorem dX7_howMany_89 : decode cX7_howMany 89 = .ok (.getfield 83, 3) := by decide +kernel
theorem dX7_howMany_92 : decode cX7_howMany 92 = .ok (.ireturn, 1) := by decide +kernel
theorem dX7_howMany_93 : decode cX7_howMany 93 = .ok (.aload_n 0, 1) := by decide +kernel
theorem dX7_howMany_94 : decode cX7_howMany 94 = .ok (.getfield 61, 3) := by decide +kernel
theorem dX7_howMany_97 : decode cX7_howMany 97 = .ok (.ireturn, 1) := by decide +kernel
theorem dX7_howMany_98 : decode cX7_howMany 98 = .ok (.aload_n 0, 1) := by decide +kernel
theorem dX7_howMany_99 : decode cX7_howMany 99 = .ok (.getfield 80, 3) := by decide +kernel
theorem dX7_howMany_102 : decode cX7_howMany 102 = .ok (.ireturn, 1) := by decide +kernel
theorem dX7_howMany_103 : decode cX7_howMany 103 = .ok (.bipush (-102), 2) := by decide +kernel
theorem dX7_howMany_105 : decode cX7_howMany 105 = .ok (.ireturn, 1) := by decide +kernel
set_option maxRecDepth 20000 in
theorem ggX7_count_X7_howMany : GoodIn wsX7_count wsX7_howMany := goodIn_r _ [5, 6, 7, 8, 9, 10, 11, 12, 13, 14, 4, 15, 16, 17, 18, 19, 20, 21, 22, 23, 24, 25, 26, 27, 28, 29, 30, 31, 32, 33, 34, 35, 36, 37, 38, 39, 40, 41, 42, 43, 44, 45, 46, 47, 48, 49, 50, 51, 52, 53, 54, 55, 56, 57, 58, 59, 60, 61, 62, 63, 64, 65, 66, 67, 68, 69, 70, 71, 72, 73, 74, 75, 76, 77, 78, 79, 80, 81, 82, 83, 84, 85, 86, 87, 88] (by decide +kernel) (by decide +kernel)
set_option maxRecDepth 20000 in
theorem gX7_count_X7_howMany : GoodIn wsX7_count (wsV RX7 231 RX7 yX7_howMany wsX7_howMany) := goodIn_app (goodIn_of _ (by decide +kernel)) ggX7_count_X7_howMany
theorem dX7_count_0 : decode cX7_count 0 = .ok (.aload_n 0, 1) := by decide +kernel
theorem dX7_count_1 : decode cX7_count 1 = .ok (.iload_n 1, 1) := by decide +kernel
theorem dX7_count_2 : decode cX7_count 2 = .ok (.invokevirtual 231, 3) := by decide +kernel
theorem dX7_count_5 : decode cX7_count 5 = .ok (.ireturn, 1) := by decide +kernel
theorem dX7_mix_0 : decode cX7_mix 0 = .ok (.aload_n 0, 1) := by decide +kernel
theorem dX7_mix_1 : decode cX7_mix 1 = .ok (.ldc2_w 234, 3) := by decide +kernel
theorem dX7_mix_4 : decode cX7_mix 4 = .ok (.aload_n 0, 1) := by decide +kernel
theorem dX7_mix_5 : decode cX7_mix 5 = .ok (.getfield 236, 3) := by decide +kernel
theorem dX7_mix_8 : decode cX7_mix 8 = .ok (.lmul, 1) := by decide +kernel
theorem dX7_mix_9 : decode cX7_mix 9 = .ok (.lload_n 1, 1) := by decide +kernel
theorem dX7_mix_10 : decode cX7_mix 10 = .ok (.ladd, 1) := by decide +kernel
theorem dX7_mix_11 : decode cX7_mix 11 = .ok (.putfield 236, 3) := by decide +kernel
theorem dX7_mix_14 : decode cX7_mix 14 = .ok (.return_, 1) := by decide +kernel
set_option maxRecDepth 20000 in
theorem ggX7_digest_X7_mix : GoodIn wsX7_digest wsX7_mix := goodIn_r _ [26, 27, 2, 138, 139, 140, 141, 142, 143, 144, 145, 146, 147, 148, 149, 150, 151, 152, 153, 154, 155, 156, 157, 158, 159, 160, 161, 162, 163, 164, 165, 166, 167, 168] (by decide +kernel) (by decide +kernel)
set_option maxRecDepth 20000 in
theorem gX7_digest_X7_mix : GoodIn wsX7_digest (wsV RX7 241 RX7 yX7_mix wsX7_mix) := goodIn_app (goodIn_of _ (by decide +kernel)) ggX7_digest_X7_mix
set_option maxRecDepth 20000 in
theorem ggX7_digest_X7_howMany : GoodIn wsX7_digest wsX7_howMany := goodIn_r _ [131, 14, 4, 6, 39, 132, 7, 133, 93, 94, 12, 95, 89, 90, 91, 92, 56, 57, 58, 59, 32, 35, 36, 37, 38, 22, 40, 41, 42, 43, 44, 45, 46, 47, 48, 49, 50, 51, 52, 53, 54, 55, 15, 16, 17, 18, 19, 20, 21, 134, 135, 136, 137, 5, 138, 139, 140, 141, 142, 143, 144, 145, 146, 147, 148, 149, 150, 151, 152, 153, 154, 155, 156, 157, 158, 159, 160, 161, 162, 163, 164, 165, 166, 167, 168] (by decide +kernel) (by decide +kernel)
set_option maxRecDepth 20000 in
theorem gX7_digest_X7_howMany : GoodIn wsX7_digest (wsV RX7 231 RX7 yX7_howMany wsX7_howMany) := goodIn_app (goodIn_of _ (by decide +kernel)) ggX7_digest_X7_howMany
theorem dX7_digest_0 : decode cX7_digest 0 = .ok (.aload_n 0, 1) := by decide +kernel
theorem dX7_digest_1 : decode cX7_digest 1 = .ok (.ldc2_w 239, 3) := by decide +kernel
theorem dX7_digest_4 : decode cX7_digest 4 = .ok (.putfield 236, 3) := by decide +kernel
theorem dX7_digest_7 : decode cX7_digest 7 = .ok (.iconst 0, 1) := by decide +kernel
theorem dX7_digest_8 : decode cX7_digest 8 = .ok (.istore_n 1, 1) := by decide +kernel
theorem dX7_digest_9 : decode cX7_digest 9 = .ok (.iload_n 1, 1) := by decide +kernel
theorem dX7_digest_10 : decode cX7_digest 10 = .ok (.bipush 20, 2) := by decide +kernel
theorem dX7_digest_12 : decode cX7_digest 12 = .ok (.if_icmp .ge 26, 3) := by decide +kernel
theorem dX7_digest_15 : decode cX7_digest 15 = .ok (.aload_n 0, 1) := by decide +kernel
theorem dX7_digest_16 : decode cX7_digest 16 = .ok (.getfield 76, 3) := by decide +kernel
theorem dX7_digest_19 : decode cX7_digest 19 = .ok (.ifCond .eq 19, 3) := by decide +kernel
theorem dX7_digest_22 : decode cX7_digest 22 = .ok (.aload_n 0, 1) := by decide +kernel
theorem dX7_digest_23 : decode cX7_digest 23 = .ok (.aload_n 0, 1) := by decide +kernel
theorem dX7_digest_24 : decode cX7_digest 24 = .ok (.iload_n 1, 1) := by decide +kernel
theorem dX7_digest_25 : decode cX7_digest 25 = .ok (.invokevirtual 104, 3) := by decide +kernel
theorem dX7_digest_28 : decode cX7_digest 28 = .ok (.i2l, 1) := by decide +kernel
theorem dX7_digest_29 : decode cX7_digest 29 = .ok (.invokevirtual 241, 3) := by decide +kernel
theorem dX7_digest_32 : decode cX7_digest 32 = .ok (.iinc 1 1, 3) := by decide +kernel
theorem dX7_digest_35 : decode cX7_digest 35 = .ok (.goto (-26), 3) := by decide +kernel
theorem dX7_digest_38 : decode cX7_digest 38 = .ok (.iconst 0, 1) := by decide +kernel
theorem dX7_digest_39 : decode cX7_digest 39 = .ok (.istore_n 1, 1) := by decide +kernel
theorem dX7_digest_40 : decode cX7_digest 40 = .ok (.iload_n 1, 1) := by decide +kernel
theorem dX7_digest_41 : decode cX7_digest 41 = .ok (.aload_n 0, 1) := by decide +kernel
theorem dX7_digest_42 : decode cX7_digest 42 = .ok (.getfield 86, 3) := by decide +kernel
theorem dX7_digest_45 : decode cX7_digest 45 = .ok (.if_icmp .ge 45, 3) := by decide +kernel
theorem dX7_digest_48 : decode cX7_digest 48 = .ok (.iconst 0, 1) := by decide +kernel
theorem dX7_digest_49 : decode cX7_digest 49 = .ok (.istore_n 2, 1) := by decide +kernel
theorem dX7_digest_50 : decode cX7_digest 50 = .ok (.iload_n 2, 1) := by decide +kernel
theorem dX7_digest_51 : decode cX7_digest 51 = .ok (.bipush 6, 2) := by decide +kernel
theorem dX7_digest_53 : decode cX7_digest 53 = .ok (.if_icmp .ge 20, 3) := by decide +kernel
theorem dX7_digest_56 : decode cX7_digest 56 = .ok (.aload_n 0, 1) := by decide +kernel
theorem dX7_digest_57 : decode cX7_digest 57 = .ok (.aload_n 0, 1) := by decide +kernel
theorem dX7_digest_58 : decode cX7_digest 58 = .ok (.iload_n 1, 1) := by decide +kernel
theorem dX7_digest_59 : decode cX7_digest 59 = .ok (.iload_n 2, 1) := by decide +kernel
theorem dX7_digest_60 : decode cX7_digest 60 = .ok (.invokevirtual 140, 3) := by decide +kernel
theorem dX7_digest_63 : decode cX7_digest 63 = .ok (.i2l, 1) := by decide +kernel
theorem dX7_digest_64 : decode cX7_digest 64 = .ok (.invokevirtual 241, 3) := by decide +kernel
theorem dX7_digest_67 : decode cX7_digest 67 = .ok (.iinc 2 1, 3) := by decide +kernel
theorem dX7_digest_70 : decode cX7_digest 70 = .ok (.goto (-20), 3) := by decide +kernel
theorem dX7_digest_73 : decode cX7_digest 73 = .ok (.aload_n 0, 1) := by decide +kernel
theorem dX7_digest_74 : decode cX7_digest 74 = .ok (.aload_n 0, 1) := by decide +kernel
theorem dX7_digest_75 : decode cX7_digest 75 = .ok (.getfield 29, 3) := by decide +kernel
theorem dX7_digest_78 : decode cX7_digest 78 = .ok (.iload_n 1, 1) := by decide +kernel
theorem dX7_digest_79 : decode cX7_digest 79 = .ok (.iaload, 1) := by decide +kernel
theorem dX7_digest_80 : decode cX7_digest 80 = .ok (.i2l, 1) := by decide +kernel
theorem dX7_digest_81 : decode cX7_digest 81 = .ok (.invokevirtual 241, 3) := by decide +kernel
theorem dX7_digest_84 : decode cX7_digest 84 = .ok (.iinc 1 1, 3) := by decide +kernel
theorem dX7_digest_87 : decode cX7_digest 87 = .ok (.goto (-47), 3) := by decide +kernel
theorem dX7_digest_90 : decode cX7_digest 90 = .ok (.aload_n 0, 1) := by decide +kernel
theorem dX7_digest_91 : decode cX7_digest 91 = .ok (.getfield 7, 3) := by decide +kernel
theorem dX7_digest_94 : decode cX7_digest 94 = .ok (.iconst (-1), 1) := by decide +kernel
theorem dX7_digest_95 : decode cX7_digest 95 = .ok (.if_icmp .eq 68, 3) := by decide +kernel
theorem dX7_digest_98 : decode cX7_digest 98 = .ok (.aload_n 0, 1) := by decide +kernel
theorem dX7_digest_99 : decode cX7_digest 99 = .ok (.aload_n 0, 1) := by decide +kernel
theorem dX7_digest_100 : decode cX7_digest 100 = .ok (.iconst 2, 1) := by decide +kernel
theorem dX7_digest_101 : decode cX7_digest 101 = .ok (.iconst 0, 1) := by decide +kernel
theorem dX7_digest_102 : decode cX7_digest 102 = .ok (.invokevirtual 169, 3) := by decide +kernel
theorem dX7_digest_105 : decode cX7_digest 105 = .ok (.i2l, 1) := by decide +kernel
theorem dX7_digest_106 : decode cX7_digest 106 = .ok (.invokevirtual 241, 3) := by decide +kernel
theorem dX7_digest_109 : decode cX7_digest 109 = .ok (.aload_n 0, 1) := by decide +kernel
theorem dX7_digest_110 : decode cX7_digest 110 = .ok (.aload_n 0, 1) := by decide +kernel
theorem dX7_digest_111 : decode cX7_digest 111 = .ok (.iconst 2, 1) := by decide +kernel
theorem dX7_digest_112 : decode cX7_digest 112 = .ok (.iconst 1, 1) := by decide +kernel
theorem dX7_digest_113 : decode cX7_digest 113 = .ok (.invokevirtual 169, 3) := by decide +kernel
theorem dX7_digest_116 : decode cX7_digest 116 = .ok (.i2l, 1) := by decide +kernel
theorem dX7_digest_117 : decode cX7_digest 117 = .ok (.invokevirtual 241, 3) := by decide +kernel
theorem dX7_digest_120 : decode cX7_digest 120 = .ok (.aload_n 0, 1) := by decide +kernel
theorem dX7_digest_121 : decode cX7_digest 121 = .ok (.aload_n 0, 1) := by decide +kernel
theorem dX7_digest_122 : decode cX7_digest 122 = .ok (.iconst 0, 1) := by decide +kernel
theorem dX7_digest_123 : decode cX7_digest 123 = .ok (.invokevirtual 172, 3) := by decide +kernel
theorem dX7_digest_126 : decode cX7_digest 126 = .ok (.i2l, 1) := by decide +kernel
theorem dX7_digest_127 : decode cX7_digest 127 = .ok (.invokevirtual 241, 3) := by decide +kernel
theorem dX7_digest_130 : decode cX7_digest 130 = .ok (.aload_n 0, 1) := by decide +kernel
theorem dX7_digest_131 : decode cX7_digest 131 = .ok (.aload_n 0, 1) := by decide +kernel
theorem dX7_digest_132 : decode cX7_digest 132 = .ok (.iconst 1, 1) := by decide +kernel
theorem dX7_digest_133 : decode cX7_digest 133 = .ok (.invokevirtual 172, 3) := by decide +kernel
theorem dX7_digest_136 : decode cX7_digest 136 = .ok (.i2l, 1) := by decide +kernel
theorem dX7_digest_137 : decode cX7_digest 137 = .ok (.invokevirtual 241, 3) := by decide +kernel
theorem dX7_digest_140 : decode cX7_digest 140 = .ok (.aload_n 0, 1) := by decide +kernel
theorem dX7_digest_141 : decode cX7_digest 141 = .ok (.aload_n 0, 1) := by decide +kernel
theorem dX7_digest_142 : decode cX7_digest 142 = .ok (.iconst 0, 1) := by decide +kernel
theorem dX7_digest_143 : decode cX7_digest 143 = .ok (.iconst 0, 1) := by decide +kernel
theorem dX7_digest_144 : decode cX7_digest 144 = .ok (.invokevirtual 178, 3) := by decide +kernel
theorem dX7_digest_147 : decode cX7_digest 147 = .ok (.i2l, 1) := by decide +kernel
theorem dX7_digest_148 : decode cX7_digest 148 = .ok (.invokevirtual 241, 3) := by decide +kernel
theorem dX7_digest_151 : decode cX7_digest 151 = .ok (.aload_n 0, 1) := by decide +kernel
theorem dX7_digest_152 : decode cX7_digest 152 = .ok (.aload_n 0, 1) := by decide +kernel
theorem dX7_digest_153 : decode cX7_digest 153 = .ok (.bipush 19, 2) := by decide +kernel
theorem dX7_digest_155 : decode cX7_digest 155 = .ok (.iconst 0, 1) := by decide +kernel
theorem dX7_digest_156 : decode cX7_digest 156 = .ok (.invokevirtual 178, 3) := by decide +kernel
theorem dX7_digest_159 : decode cX7_digest 159 = .ok (.i2l, 1) := by decide +kernel
theorem dX7_digest_160 : decode cX7_digest 160 = .ok (.invokevirtual 241, 3) := by decide +kernel
theorem dX7_digest_163 : decode cX7_digest 163 = .ok (.iconst 0, 1) := by decide +kernel
theorem dX7_digest_164 : decode cX7_digest 164 = .ok (.istore_n 1, 1) := by decide +kernel
theorem dX7_digest_165 : decode cX7_digest 165 = .ok (.iload_n 1, 1) := by decide +kernel
theorem dX7_digest_166 : decode cX7_digest 166 = .ok (.iconst 3, 1) := by decide +kernel
theorem dX7_digest_167 : decode cX7_digest 167 = .ok (.if_icmp .ge 26, 3) := by decide +kernel
theorem dX7_digest_170 : decode cX7_digest 170 = .ok (.aload_n 0, 1) := by decide +kernel
theorem dX7_digest_171 : decode cX7_digest 171 = .ok (.getfield 76, 3) := by decide +kernel
theorem dX7_digest_174 : decode cX7_digest 174 = .ok (.ifCond .eq 19, 3) := by decide +kernel
theorem dX7_digest_177 : decode cX7_digest 177 = .ok (.aload_n 0, 1) := by decide +kernel
theorem dX7_digest_178 : decode cX7_digest 178 = .ok (.aload_n 0, 1) := by decide +kernel
theorem dX7_digest_179 : decode cX7_digest 179 = .ok (.iload_n 1, 1) := by decide +kernel
theorem dX7_digest_180 : decode cX7_digest 180 = .ok (.invokevirtual 188, 3) := by decide +kernel
theorem dX7_digest_183 : decode cX7_digest 183 = .ok (.i2l, 1) := by decide +kernel
theorem dX7_digest_184 : decode cX7_digest 184 = .ok (.invokevirtual 241, 3) := by decide +kernel
theorem dX7_digest_187 : decode cX7_digest 187 = .ok (.iinc 1 1, 3) := by decide +kernel
theorem dX7_digest_190 : decode cX7_digest 190 = .ok (.goto (-25), 3) := by decide +kernel
theorem dX7_digest_193 : decode cX7_digest 193 = .ok (.iconst 0, 1) := by decide +kernel
theorem dX7_digest_194 : decode cX7_digest 194 = .ok (.istore_n 1, 1) := by decide +kernel
theorem dX7_digest_195 : decode cX7_digest 195 = .ok (.iload_n 1, 1) := by decide +kernel
theorem dX7_digest_196 : decode cX7_digest 196 = .ok (.aload_n 0, 1) := by decide +kernel
theorem dX7_digest_197 : decode cX7_digest 197 = .ok (.getfield 61, 3) := by decide +kernel
theorem dX7_digest_200 : decode cX7_digest 200 = .ok (.if_icmp .ge 20, 3) := by decide +kernel
theorem dX7_digest_203 : decode cX7_digest 203 = .ok (.aload_n 0, 1) := by decide +kernel
theorem dX7_digest_204 : decode cX7_digest 204 = .ok (.aload_n 0, 1) := by decide +kernel
theorem dX7_digest_205 : decode cX7_digest 205 = .ok (.getfield 32, 3) := by decide +kernel
theorem dX7_digest_208 : decode cX7_digest 208 = .ok (.iload_n 1, 1) := by decide +kernel
theorem dX7_digest_209 : decode cX7_digest 209 = .ok (.baload, 1) := by decide +kernel
theorem dX7_digest_210 : decode cX7_digest 210 = .ok (.i2l, 1) := by decide +kernel
theorem dX7_digest_211 : decode cX7_digest 211 = .ok (.invokevirtual 241, 3) := by decide +kernel
theorem dX7_digest_214 : decode cX7_digest 214 = .ok (.iinc 1 1, 3) := by decide +kernel
theorem dX7_digest_217 : decode cX7_digest 217 = .ok (.goto (-22), 3) := by decide +kernel
theorem dX7_digest_220 : decode cX7_digest 220 = .ok (.iconst 0, 1) := by decide +kernel
theorem dX7_digest_221 : decode cX7_digest 221 = .ok (.istore_n 1, 1) := by decide +kernel
theorem dX7_digest_222 : decode cX7_digest 222 = .ok (.iload_n 1, 1) := by decide +kernel
theorem dX7_digest_223 : decode cX7_digest 223 = .ok (.bipush 9, 2) := by decide +kernel
theorem dX7_digest_225 : decode cX7_digest 225 = .ok (.if_icmp .ge 19, 3) := by decide +kernel
theorem dX7_digest_228 : decode cX7_digest 228 = .ok (.aload_n 0, 1) := by decide +kernel
theorem dX7_digest_229 : decode cX7_digest 229 = .ok (.aload_n 0, 1) := by decide +kernel
theorem dX7_digest_230 : decode cX7_digest 230 = .ok (.iload_n 1, 1) := by decide +kernel
theorem dX7_digest_231 : decode cX7_digest 231 = .ok (.invokevirtual 231, 3) := by decide +kernel
theorem dX7_digest_234 : decode cX7_digest 234 = .ok (.i2l, 1) := by decide +kernel
theorem dX7_digest_235 : decode cX7_digest 235 = .ok (.invokevirtual 241, 3) := by decide +kernel
theorem dX7_digest_238 : decode cX7_digest 238 = .ok (.iinc 1 1, 3) := by decide +kernel
theorem dX7_digest_241 : decode cX7_digest 241 = .ok (.goto (-19), 3) := by decide +kernel
theorem dX7_digest_244 : decode cX7_digest 244 = .ok (.aload_n 0, 1) := by decide +kernel
theorem dX7_digest_245 : decode cX7_digest 245 = .ok (.getfield 236, 3) := by decide +kernel
theorem dX7_digest_248 : decode cX7_digest 248 = .ok (.lreturn, 1) := by decide +kernel
end
section
set_option maxRecDepth 20000 in
theorem ggL_law_X6_init : GoodIn wsL_law wsX6_init := goodIn_r _ [8, 9, 10, 11, 12, 13, 14, 15, 16, 17, 18, 19, 20, 21, 22, 23, 24, 25, 26, 27, 28, 29, 30, 31, 32, 33, 34, 35, 36, 37, 38, 39, 40, 41, 42, 43, 44, 45, 46, 47, 48, 49, 50, 51, 52, 53, 54, 55, 56, 57, 58, 59, 60, 61, 62, 63, 64, 65, 66, 67, 68, 69, 70, 71, 72, 73, 74, 75, 76, 77, 78, 79, 80, 81, 82, 83, 2, 84, 85, 86, 87, 88, 89, 90, 91, 92, 93, 94, 95, 96, 97, 98, 739, 740, 701, 702, 703, 704, 705, 706, 707, 741, 742, 743, 744, 745, 746, 747, 748, 749, 750, 751, 752, 753, 754, 755, 756, 757, 758, 759, 760] (by decide +kernel) (by decide +kernel)
set_option maxRecDepth 20000 in
theorem gL_law_X6_init : GoodIn wsL_law (wsX6_init) := ggL_law_X6_init
set_option maxRecDepth 20000 in
theorem ggL_law_X7_init : GoodIn wsL_law wsX7_init := goodIn_r _ [101, 102, 10, 11, 103, 104, 36, 105, 106, 107, 108, 109, 110, 111, 112, 113, 114, 115, 116, 117, 118, 708, 709, 710, 711, 712, 713, 714, 715, 716, 717, 718, 719, 720, 721, 722, 723, 724, 725, 726, 727, 728, 729, 730, 731, 732, 733, 734, 735, 736, 737, 738] (by decide +kernel) (by decide +kernel)
set_option maxRecDepth 20000 in
theorem gL_law_X7_init : GoodIn wsL_law (wsX7_init) := ggL_law_X7_init
set_option maxRecDepth 20000 in
theorem ggL_law_X6_letter : GoodIn wsL_law wsX6_letter := goodIn_r _ [122, 15, 123, 124, 125, 14, 126, 38, 37, 701, 702, 703, 704, 705, 706, 707, 739, 740] (by decide +kernel) (by decide +kernel)
set_option maxRecDepth 20000 in
theorem gL_law_X6_letter : GoodIn wsL_law (wsV RL 13 RX6 yX6_letter wsX6_letter) := goodIn_app (goodIn_of _ (by decide +kernel)) ggL_law_X6_letter
set_option maxRecDepth 20000 in
theorem ggL_law_X7_letter : GoodIn wsL_law wsX7_letter := goodIn_r _ [130, 131, 111, 132, 133, 5, 134, 708, 709, 710, 711, 712, 713, 714, 715, 716, 717, 718, 719, 720, 721, 722, 723, 724, 725, 726, 727, 728, 729, 730, 731, 732, 733, 734, 735, 736, 737, 738] (by decide +kernel) (by decide +kernel)
set_option maxRecDepth 20000 in
theorem gL_law_X7_letter : GoodIn wsL_law (wsV RL 17 RX7 yX7_letter wsX7_letter) := goodIn_app (goodIn_of _ (by decide +kernel)) ggL_law_X7_letter
set_option maxRecDepth 20000 in
theorem ggL_law_X6_blank : GoodIn wsL_law wsX6_blank := goodIn_r _ [138, 15, 139, 140, 141, 14, 142, 38, 701, 702, 703, 704, 705, 706, 707, 739, 740] (by decide +kernel) (by decide +kernel)
set_option maxRecDepth 20000 in
theorem gL_law_X6_blank : GoodIn wsL_law (wsV RL 18 RX6 yX6_blank wsX6_blank) := goodIn_app (goodIn_of _ (by decide +kernel)) ggL_law_X6_blank
set_option maxRecDepth 20000 in
theorem ggL_law_X7_blank : GoodIn wsL_law wsX7_blank := goodIn_r _ [146, 131, 708, 709, 710, 711, 712, 713, 714, 715, 716, 717, 718, 719, 720, 721, 722, 723, 724, 725, 726, 727, 728, 729, 730, 731, 732, 733, 734, 735, 736, 737, 738] (by decide +kernel) (by decide +kernel)
set_option maxRecDepth 20000 in
theorem gL_law_X7_blank : GoodIn wsL_law (wsV RL 22 RX7 yX7_blank wsX7_blank) := goodIn_app (goodIn_of _ (by decide +kernel)) ggL_law_X7_blank
set_option maxRecDepth 20000 in
theorem ggL_law_X6_fault : GoodIn wsL_law wsX6_fault := goodIn_r _ [150, 15, 151, 152, 153, 14, 154, 38, 155, 156, 157, 158, 159, 160, 161, 162, 37, 701, 702, 703, 704, 705, 706, 707, 739, 740] (by decide +kernel) (by decide +kernel)
set_option maxRecDepth 20000 in
theorem gL_law_X6_fault : GoodIn wsL_law (wsV RL 23 RX6 yX6_fault wsX6_fault) := goodIn_app (goodIn_of _ (by decide +kernel)) ggL_law_X6_fault
set_option maxRecDepth 20000 in
theorem ggL_law_X7_fault : GoodIn wsL_law wsX7_fault := goodIn_r _ [166, 167, 168, 169, 170, 5, 171, 172, 131, 111, 708, 709, 710, 711, 712, 713, 714, 715, 716, 717, 718, 719, 720, 721, 722, 723, 724, 725, 726, 727, 728, 729, 730, 731, 732, 733, 734, 735, 736, 737, 738] (by decide +kernel) (by decide +kernel)
set_option maxRecDepth 20000 in
theorem gL_law_X7_fault : GoodIn wsL_law (wsV RL 26 RX7 yX7_fault wsX7_fault) := goodIn_app (goodIn_of _ (by decide +kernel)) ggL_law_X7_fault
set_option maxRecDepth 20000 in
theorem ggL_law_X6_hall : GoodIn wsL_law wsX6_hall := goodIn_r _ [176, 15, 21, 23, 177, 178, 179, 180, 14, 181, 38, 182, 152, 153, 154, 155, 156, 157, 158, 159, 160, 161, 162, 37, 183, 184, 185, 44, 186, 55, 56, 57, 187, 188, 189, 190, 90, 2, 91, 191, 192, 193, 194, 195, 196, 197, 139, 140, 141, 142, 198, 199, 200, 26, 201, 61, 63, 701, 702, 703, 704, 705, 706, 707, 756, 757, 758, 739, 740, 744, 745, 746, 747, 748, 749, 750, 751] (by decide +kernel) (by decide +kernel)
set_option maxRecDepth 20000 in
theorem gL_law_X6_hall : GoodIn wsL_law (wsV RL 27 RX6 yX6_hall wsX6_hall) := goodIn_app (goodIn_of _ (by decide +kernel)) ggL_law_X6_hall
set_option maxRecDepth 20000 in
theorem ggL_law_X7_hall : GoodIn wsL_law wsX7_hall := goodIn_r _ [205, 167, 131, 172, 206, 207, 208, 103, 104, 209, 210, 168, 169, 170, 5, 171, 111, 211, 212, 213, 708, 709, 710, 711, 712, 713, 714, 715, 716, 717, 718, 719, 720, 721, 722, 723, 724, 725, 726, 727, 728, 729, 730, 731, 732, 733, 734, 735, 736, 737, 738] (by decide +kernel) (by decide +kernel)
set_option maxRecDepth 20000 in
theorem gL_law_X7_hall : GoodIn wsL_law (wsV RL 30 RX7 yX7_hall wsX7_hall) := goodIn_app (goodIn_of _ (by decide +kernel)) ggL_law_X7_hall
set_option maxRecDepth 20000 in
theorem ggL_law_X6_on : GoodIn wsL_law wsX6_on := goodIn_r _ [217, 21, 218, 23, 219, 87, 88, 2, 89, 220, 221, 222, 44, 223, 57, 224, 225, 226, 227, 90, 91, 228, 229, 230, 231, 232, 233, 26, 234, 63, 65, 701, 702, 703, 704, 705, 706, 707, 756, 757, 758, 744, 745, 746, 747, 748, 749, 750, 751] (by decide +kernel) (by decide +kernel)
set_option maxRecDepth 20000 in
theorem gL_law_X6_on : GoodIn wsL_law (wsV RL 31 RX6 yX6_on wsX6_on) := goodIn_app (goodIn_of _ (by decide +kernel)) ggL_law_X6_on
set_option maxRecDepth 20000 in
theorem ggL_law_X7_on : GoodIn wsL_law wsX7_on := goodIn_r _ [238, 207, 239, 240, 5, 241, 132, 133, 134, 242, 243, 244, 245, 206, 246, 247, 248, 249, 250, 251, 252, 103, 210, 106, 708, 709, 710, 711, 712, 713, 714, 715, 716, 717, 718, 719, 720, 721, 722, 723, 724, 725, 726, 727, 728, 729, 730, 731, 732, 733, 734, 735, 736, 737, 738] (by decide +kernel) (by decide +kernel)
set_option maxRecDepth 20000 in
theorem gL_law_X7_on : GoodIn wsL_law (wsV RL 34 RX7 yX7_on wsX7_on) := goodIn_app (goodIn_of _ (by decide +kernel)) ggL_law_X7_on
set_option maxRecDepth 20000 in
theorem ggL_law_X6_duke : GoodIn wsL_law wsX6_duke := goodIn_r _ [256, 21, 218, 23, 219, 87, 88, 2, 89, 220, 221, 222, 44, 223, 57, 257, 258, 259, 26, 260, 63, 65, 90, 91, 224, 225, 226, 227, 261, 262, 263, 701, 702, 703, 704, 705, 706, 707, 756, 757, 758, 744, 745, 746, 747, 748, 749, 750, 751] (by decide +kernel) (by decide +kernel)
set_option maxRecDepth 20000 in
theorem gL_law_X6_duke : GoodIn wsL_law (wsV RL 35 RX6 yX6_duke wsX6_duke) := goodIn_app (goodIn_of _ (by decide +kernel)) ggL_law_X6_duke
set_option maxRecDepth 20000 in
theorem ggL_law_X7_duke : GoodIn wsL_law wsX7_duke := goodIn_r _ [267, 207, 103, 104, 239, 240, 5, 241, 132, 133, 134, 268, 269, 270, 271, 206, 246, 247, 248, 249, 250, 251, 252, 210, 106, 708, 709, 710, 711, 712, 713, 714, 715, 716, 717, 718, 719, 720, 721, 722, 723, 724, 725, 726, 727, 728, 729, 730, 731, 732, 733, 734, 735, 736, 737, 738] (by decide +kernel) (by decide +kernel)
set_option maxRecDepth 20000 in
theorem gL_law_X7_duke : GoodIn wsL_law (wsV RL 39 RX7 yX7_duke wsX7_duke) := goodIn_app (goodIn_of _ (by decide +kernel)) ggL_law_X7_duke
set_option maxRecDepth 20000 in
theorem ggL_law_X6_courtier : GoodIn wsL_law wsX6_courtier := goodIn_r _ [275, 21, 19, 23, 87, 88, 2, 89, 276, 277, 278, 220, 221, 222, 44, 223, 57, 279, 280, 281, 18, 282, 45, 283, 47, 284, 285, 258, 259, 26, 260, 63, 65, 90, 91, 229, 230, 224, 225, 226, 227, 286, 287, 288, 289, 64, 66, 67, 68, 701, 702, 703, 704, 705, 706, 707, 756, 757, 758, 741, 742, 743, 744, 745, 746, 747, 748, 749, 750, 751] (by decide +kernel) (by decide +kernel)
set_option maxRecDepth 20000 in
theorem gL_law_X6_courtier : GoodIn wsL_law (wsV RL 40 RX6 yX6_courtier wsX6_courtier) := goodIn_app (goodIn_of _ (by decide +kernel)) ggL_law_X6_courtier
set_option maxRecDepth 20000 in
theorem ggL_law_X7_courtier : GoodIn wsL_law wsX7_courtier := goodIn_r _ [293, 207, 210, 239, 240, 5, 241, 132, 133, 134, 268, 269, 270, 271, 206, 246, 247, 248, 249, 250, 251, 252, 103, 106, 294, 295, 296, 297, 105, 107, 108, 109, 708, 709, 710, 711, 712, 713, 714, 715, 716, 717, 718, 719, 720, 721, 722, 723, 724, 725, 726, 727, 728, 729, 730, 731, 732, 733, 734, 735, 736, 737, 738] (by decide +kernel) (by decide +kernel)
set_option maxRecDepth 20000 in
theorem gL_law_X7_courtier : GoodIn wsL_law (wsV RL 43 RX7 yX7_courtier wsX7_courtier) := goodIn_app (goodIn_of _ (by decide +kernel)) ggL_law_X7_courtier
set_option maxRecDepth 20000 in
theorem ggL_law_X6_about : GoodIn wsL_law wsX6_about := goodIn_r _ [301, 23, 302, 303, 19, 219, 21, 218, 304, 305, 306, 307, 308, 26, 309, 63, 310, 311, 312, 18, 313, 47, 284, 285, 258, 259, 260, 65, 90, 2, 91, 314, 315, 316, 317, 51, 318, 319, 45, 283, 320, 321, 322, 323, 50, 324, 73, 74, 229, 230, 88, 89, 325, 326, 327, 328, 192, 193, 194, 195, 196, 197, 329, 330, 331, 332, 333, 334, 335, 336, 337, 338, 339, 340, 341, 342, 343, 344, 345, 346, 347, 348, 349, 227, 701, 702, 703, 704, 705, 706, 707, 744, 745, 746, 747, 748, 749, 750, 751, 756, 757, 758, 741, 742, 743, 759, 760] (by decide +kernel) (by decide +kernel)
set_option maxRecDepth 20000 in
theorem gL_law_X6_about : GoodIn wsL_law (wsV RL 44 RX6 yX6_about wsX6_about) := goodIn_app (goodIn_of _ (by decide +kernel)) ggL_law_X6_about
set_option maxRecDepth 20000 in
theorem ggL_law_X7_about : GoodIn wsL_law wsX7_about := goodIn_r _ [353, 354, 355, 356, 5, 357, 210, 132, 133, 134, 358, 359, 360, 361, 105, 106, 107, 108, 362, 363, 364, 365, 103, 104, 366, 367, 368, 369, 370, 371, 372, 373, 374, 375, 376, 377, 378, 379, 380, 381, 206, 246, 247, 248, 249, 250, 251, 252, 382, 383, 384, 385, 708, 709, 710, 711, 712, 713, 714, 715, 716, 717, 718, 719, 720, 721, 722, 723, 724, 725, 726, 727, 728, 729, 730, 731, 732, 733, 734, 735, 736, 737, 738] (by decide +kernel) (by decide +kernel)
set_option maxRecDepth 20000 in
theorem gL_law_X7_about : GoodIn wsL_law (wsV RL 47 RX7 yX7_about wsX7_about) := goodIn_app (goodIn_of _ (by decide +kernel)) ggL_law_X7_about
set_option maxRecDepth 20000 in
theorem ggL_law_X6_as : GoodIn wsL_law wsX6_as := goodIn_r _ [389, 23, 302, 306, 307, 308, 26, 309, 63, 276, 277, 2, 278, 390, 329, 330, 701, 702, 703, 704, 705, 706, 707, 744, 745, 746, 747, 748, 749, 750, 751] (by decide +kernel) (by decide +kernel)
set_option maxRecDepth 20000 in
theorem gL_law_X6_as : GoodIn wsL_law (wsV RL 48 RX6 yX6_as wsX6_as) := goodIn_app (goodIn_of _ (by decide +kernel)) ggL_law_X6_as
set_option maxRecDepth 20000 in
theorem ggL_law_X7_as : GoodIn wsL_law wsX7_as := goodIn_r _ [394, 105, 354, 355, 356, 5, 357, 210, 132, 133, 134, 708, 709, 710, 711, 712, 713, 714, 715, 716, 717, 718, 719, 720, 721, 722, 723, 724, 725, 726, 727, 728, 729, 730, 731, 732, 733, 734, 735, 736, 737, 738] (by decide +kernel) (by decide +kernel)
set_option maxRecDepth 20000 in
theorem gL_law_X7_as : GoodIn wsL_law (wsV RL 51 RX7 yX7_as wsX7_as) := goodIn_app (goodIn_of _ (by decide +kernel)) ggL_law_X7_as
set_option maxRecDepth 20000 in
theorem ggL_law_X6_go : GoodIn wsL_law wsX6_go := goodIn_r _ [398, 23, 19, 303, 306, 307, 308, 26, 309, 63, 87, 88, 2, 89, 279, 280, 281, 18, 282, 45, 283, 47, 284, 285, 258, 259, 260, 65, 90, 91, 229, 230, 224, 225, 226, 227, 701, 702, 703, 704, 705, 706, 707, 744, 745, 746, 747, 748, 749, 750, 751, 741, 742, 743, 756, 757, 758] (by decide +kernel) (by decide +kernel)
set_option maxRecDepth 20000 in
theorem gL_law_X6_go : GoodIn wsL_law (wsV RL 52 RX6 yX6_go wsX6_go) := goodIn_app (goodIn_of _ (by decide +kernel)) ggL_law_X6_go
set_option maxRecDepth 20000 in
theorem ggL_law_X7_go : GoodIn wsL_law wsX7_go := goodIn_r _ [402, 106, 354, 355, 356, 5, 357, 210, 132, 133, 134, 239, 240, 241, 268, 269, 270, 271, 206, 246, 247, 248, 249, 250, 251, 252, 103, 708, 709, 710, 711, 712, 713, 714, 715, 716, 717, 718, 719, 720, 721, 722, 723, 724, 725, 726, 727, 728, 729, 730, 731, 732, 733, 734, 735, 736, 737, 738] (by decide +kernel) (by decide +kernel)
set_option maxRecDepth 20000 in
theorem gL_law_X7_go : GoodIn wsL_law (wsV RL 55 RX7 yX7_go wsX7_go) := goodIn_app (goodIn_of _ (by decide +kernel)) ggL_law_X7_go
set_option maxRecDepth 20000 in
theorem ggL_law_X6_act : GoodIn wsL_law wsX6_act := goodIn_r _ [406, 19, 23, 219, 407, 21, 218, 408, 409, 410, 18, 411, 45, 283, 47, 229, 2, 230, 331, 332, 262, 263, 83, 84, 85, 86, 87, 88, 89, 285, 258, 259, 26, 260, 63, 65, 90, 91, 225, 226, 227, 412, 413, 414, 415, 344, 284, 314, 315, 316, 317, 51, 318, 319, 320, 307, 308, 309, 321, 322, 323, 50, 324, 73, 74, 325, 326, 327, 328, 192, 193, 194, 195, 196, 197, 329, 330, 333, 334, 335, 336, 337, 338, 339, 416, 417, 418, 419, 66, 67, 420, 340, 341, 342, 343, 345, 346, 347, 348, 349, 421, 701, 702, 703, 704, 705, 706, 707, 744, 745, 746, 747, 748, 749, 750, 751, 756, 757, 758, 741, 742, 743, 759, 760] (by decide +kernel) (by decide +kernel)
set_option maxRecDepth 20000 in
theorem gL_law_X6_act : GoodIn wsL_law (wsV RL 56 RX6 yX6_act wsX6_act) := goodIn_app (goodIn_of _ (by decide +kernel)) ggL_law_X6_act
set_option maxRecDepth 20000 in
theorem ggL_law_X7_act : GoodIn wsL_law wsX7_act := goodIn_r _ [425, 103, 209, 210, 107, 108, 132, 133, 5, 134, 426, 427, 428, 429, 104, 430, 431, 432, 268, 269, 270, 271, 206, 246, 247, 248, 249, 250, 251, 252, 106, 433, 434, 435, 436, 362, 363, 364, 365, 105, 366, 367, 368, 369, 370, 371, 372, 373, 374, 375, 376, 377, 378, 379, 380, 381, 437, 438, 439, 440, 382, 383, 384, 385, 211, 212, 213, 708, 709, 710, 711, 712, 713, 714, 715, 716, 717, 718, 719, 720, 721, 722, 723, 724, 725, 726, 727, 728, 729, 730, 731, 732, 733, 734, 735, 736, 737, 738] (by decide +kernel) (by decide +kernel)
set_option maxRecDepth 20000 in
theorem gL_law_X7_act : GoodIn wsL_law (wsV RL 59 RX7 yX7_act wsX7_act) := goodIn_app (goodIn_of _ (by decide +kernel)) ggL_law_X7_act
set_option maxRecDepth 20000 in
theorem ggL_law_X6_guilty : GoodIn wsL_law wsX6_guilty := goodIn_r _ [444, 19, 23, 219, 21, 218, 340, 341, 342, 18, 343, 47, 344, 51, 318, 319, 285, 258, 259, 26, 260, 63, 65, 90, 2, 91, 345, 346, 347, 50, 348, 349, 322, 323, 324, 73, 74, 229, 230, 88, 89, 325, 326, 327, 328, 192, 193, 194, 195, 196, 197, 329, 330, 331, 332, 333, 334, 335, 336, 337, 338, 339, 701, 702, 703, 704, 705, 706, 707, 744, 745, 746, 747, 748, 749, 750, 751, 756, 757, 758, 741, 742, 743, 759, 760] (by decide +kernel) (by decide +kernel)
set_option maxRecDepth 20000 in
theorem gL_law_X6_guilty : GoodIn wsL_law (wsV RL 60 RX6 yX6_guilty wsX6_guilty) := goodIn_app (goodIn_of _ (by decide +kernel)) ggL_law_X6_guilty
set_option maxRecDepth 20000 in
theorem ggL_law_X7_guilty : GoodIn wsL_law wsX7_guilty := goodIn_r _ [448, 437, 438, 439, 5, 440, 210, 382, 383, 384, 385, 105, 362, 363, 364, 365, 103, 106, 104, 366, 367, 368, 369, 370, 371, 372, 373, 374, 375, 376, 377, 378, 379, 380, 381, 206, 246, 247, 248, 249, 250, 251, 252, 708, 709, 710, 711, 712, 713, 714, 715, 716, 717, 718, 719, 720, 721, 722, 723, 724, 725, 726, 727, 728, 729, 730, 731, 732, 733, 734, 735, 736, 737, 738] (by decide +kernel) (by decide +kernel)
set_option maxRecDepth 20000 in
theorem gL_law_X7_guilty : GoodIn wsL_law (wsV RL 63 RX7 yX7_guilty wsX7_guilty) := goodIn_app (goodIn_of _ (by decide +kernel)) ggL_law_X7_guilty
set_option maxRecDepth 20000 in
theorem ggL_law_X6_room : GoodIn wsL_law wsX6_room := goodIn_r _ [452, 23, 219, 19, 453, 454, 455, 18, 456, 47, 284, 45, 283, 51, 457, 341, 342, 343, 344, 318, 319, 285, 258, 259, 26, 260, 63, 65, 90, 2, 91, 345, 346, 347, 50, 348, 349, 322, 323, 324, 73, 74, 229, 230, 88, 89, 325, 326, 327, 328, 192, 193, 194, 195, 196, 197, 329, 330, 331, 332, 333, 334, 335, 336, 337, 338, 339, 458, 280, 281, 282, 225, 226, 87, 227, 459, 460, 461, 701, 702, 703, 704, 705, 706, 707, 744, 745, 746, 747, 748, 749, 750, 751, 741, 742, 743, 756, 757, 758, 759, 760] (by decide +kernel) (by decide +kernel)
set_option maxRecDepth 20000 in
theorem gL_law_X6_room : GoodIn wsL_law (wsV RL 64 RX6 yX6_room wsX6_room) := goodIn_app (goodIn_of _ (by decide +kernel)) ggL_law_X6_room
set_option maxRecDepth 20000 in
theorem ggL_law_X7_room : GoodIn wsL_law wsX7_room := goodIn_r _ [465, 103, 132, 133, 5, 134, 466, 467, 468, 469, 112, 470, 471, 472, 473, 268, 269, 270, 271, 206, 246, 247, 248, 249, 250, 251, 252, 210, 106, 474, 475, 476, 477, 105, 478, 479, 480, 481, 104, 366, 367, 368, 369, 370, 371, 372, 373, 374, 375, 376, 377, 378, 379, 380, 381, 482, 483, 484, 485, 708, 709, 710, 711, 712, 713, 714, 715, 716, 717, 718, 719, 720, 721, 722, 723, 724, 725, 726, 727, 728, 729, 730, 731, 732, 733, 734, 735, 736, 737, 738] (by decide +kernel) (by decide +kernel)
set_option maxRecDepth 20000 in
theorem gL_law_X7_room : GoodIn wsL_law (wsV RL 67 RX7 yX7_room wsX7_room) := goodIn_app (goodIn_of _ (by decide +kernel)) ggL_law_X7_room
set_option maxRecDepth 20000 in
theorem ggL_law_X6_brick : GoodIn wsL_law wsX6_brick := goodIn_r _ [489, 23, 219, 19, 21, 218, 490, 491, 492, 18, 493, 47, 284, 45, 283, 458, 280, 281, 282, 285, 258, 259, 26, 260, 63, 65, 90, 2, 91, 229, 230, 457, 341, 342, 343, 344, 51, 318, 319, 345, 346, 347, 50, 348, 349, 322, 323, 324, 73, 74, 88, 89, 325, 326, 327, 328, 192, 193, 194, 195, 196, 197, 329, 330, 331, 332, 333, 334, 335, 336, 337, 338, 339, 494, 225, 226, 87, 227, 340, 421, 701, 702, 703, 704, 705, 706, 707, 744, 745, 746, 747, 748, 749, 750, 751, 756, 757, 758, 741, 742, 743, 759, 760] (by decide +kernel) (by decide +kernel)
set_option maxRecDepth 20000 in
theorem gL_law_X6_brick : GoodIn wsL_law (wsV RL 68 RX6 yX6_brick wsX6_brick) := goodIn_app (goodIn_of _ (by decide +kernel)) ggL_law_X6_brick
set_option maxRecDepth 20000 in
theorem ggL_law_X7_brick : GoodIn wsL_law wsX7_brick := goodIn_r _ [498, 103, 132, 133, 5, 134, 499, 500, 501, 502, 206, 268, 269, 270, 271, 246, 247, 248, 249, 250, 251, 252, 210, 106, 437, 438, 439, 440, 382, 383, 384, 385, 105, 362, 363, 364, 365, 104, 366, 367, 368, 369, 370, 371, 372, 373, 374, 375, 376, 377, 378, 379, 380, 381, 211, 212, 213, 708, 709, 710, 711, 712, 713, 714, 715, 716, 717, 718, 719, 720, 721, 722, 723, 724, 725, 726, 727, 728, 729, 730, 731, 732, 733, 734, 735, 736, 737, 738] (by decide +kernel) (by decide +kernel)
set_option maxRecDepth 20000 in
theorem gL_law_X7_brick : GoodIn wsL_law (wsV RL 71 RX7 yX7_brick wsX7_brick) := goodIn_app (goodIn_of _ (by decide +kernel)) ggL_law_X7_brick
set_option maxRecDepth 20000 in
theorem ggL_law_X6_way : GoodIn wsL_law wsX6_way := goodIn_r _ [506, 23, 219, 31, 19, 87, 88, 2, 89, 507, 508, 509, 30, 510, 96, 98, 95, 511, 512, 513, 76, 77, 78, 514, 515, 516, 517, 97, 518, 519, 520, 229, 230, 521, 409, 410, 18, 411, 45, 283, 47, 331, 332, 262, 263, 83, 84, 85, 86, 285, 258, 259, 26, 260, 63, 65, 90, 91, 225, 226, 227, 522, 341, 342, 343, 344, 51, 318, 319, 345, 346, 347, 50, 348, 349, 322, 323, 324, 73, 74, 325, 326, 327, 328, 192, 193, 194, 195, 196, 197, 329, 330, 333, 334, 335, 336, 337, 338, 339, 523, 524, 525, 526, 527, 528, 529, 530, 531, 532, 701, 702, 703, 704, 705, 706, 707, 744, 745, 746, 747, 748, 749, 750, 751, 752, 753, 754, 755, 741, 742, 743, 756, 757, 758, 759, 760] (by decide +kernel) (by decide +kernel)
set_option maxRecDepth 20000 in
theorem gL_law_X6_way : GoodIn wsL_law (wsV RL 72 RX6 yX6_way wsX6_way) := goodIn_app (goodIn_of _ (by decide +kernel)) ggL_law_X6_way
set_option maxRecDepth 20000 in
theorem ggL_law_X7_way : GoodIn wsL_law wsX7_way := goodIn_r _ [536, 103, 239, 240, 5, 241, 132, 133, 134, 537, 538, 539, 540, 104, 113, 114, 541, 542, 543, 544, 426, 427, 428, 429, 430, 431, 432, 268, 269, 270, 271, 206, 246, 247, 248, 249, 250, 251, 252, 210, 106, 433, 434, 435, 436, 437, 438, 439, 440, 382, 383, 384, 385, 105, 362, 363, 364, 365, 366, 367, 368, 369, 370, 371, 372, 373, 374, 375, 376, 377, 378, 379, 380, 381, 708, 709, 710, 711, 712, 713, 714, 715, 716, 717, 718, 719, 720, 721, 722, 723, 724, 725, 726, 727, 728, 729, 730, 731, 732, 733, 734, 735, 736, 737, 738] (by decide +kernel) (by decide +kernel)
set_option maxRecDepth 20000 in
theorem gL_law_X7_way : GoodIn wsL_law (wsV RL 75 RX7 yX7_way wsX7_way) := goodIn_app (goodIn_of _ (by decide +kernel)) ggL_law_X7_way
set_option maxRecDepth 20000 in
theorem ggL_law_X6_told : GoodIn wsL_law wsX6_told := goodIn_r _ [548, 23, 549, 306, 307, 308, 26, 309, 63, 701, 702, 703, 704, 705, 706, 707, 744, 745, 746, 747, 748, 749, 750, 751] (by decide +kernel) (by decide +kernel)
set_option maxRecDepth 20000 in
theorem gL_law_X6_told : GoodIn wsL_law (wsV RL 76 RX6 yX6_told wsX6_told) := goodIn_app (goodIn_of _ (by decide +kernel)) ggL_law_X6_told
set_option maxRecDepth 20000 in
theorem ggL_law_X7_told : GoodIn wsL_law wsX7_told := goodIn_r _ [553, 109, 354, 355, 356, 5, 357, 210, 132, 133, 134, 708, 709, 710, 711, 712, 713, 714, 715, 716, 717, 718, 719, 720, 721, 722, 723, 724, 725, 726, 727, 728, 729, 730, 731, 732, 733, 734, 735, 736, 737, 738] (by decide +kernel) (by decide +kernel)
set_option maxRecDepth 20000 in
theorem gL_law_X7_told : GoodIn wsL_law (wsV RL 79 RX7 yX7_told wsX7_told) := goodIn_app (goodIn_of _ (by decide +kernel)) ggL_law_X7_told
set_option maxRecDepth 20000 in
theorem ggL_law_X6_stood : GoodIn wsL_law wsX6_stood := goodIn_r _ [557, 21, 19, 220, 221, 222, 44, 223, 57, 558, 559, 560, 18, 561, 45, 283, 47, 285, 258, 259, 26, 260, 63, 65, 90, 2, 91, 229, 230, 225, 226, 87, 88, 89, 227, 562, 563, 564, 565, 344, 566, 314, 315, 316, 317, 51, 318, 319, 320, 307, 308, 309, 321, 322, 323, 50, 324, 73, 74, 325, 326, 327, 328, 192, 193, 194, 195, 196, 197, 329, 330, 331, 332, 333, 334, 335, 336, 337, 338, 339, 701, 702, 703, 704, 705, 706, 707, 756, 757, 758, 741, 742, 743, 744, 745, 746, 747, 748, 749, 750, 751, 759, 760] (by decide +kernel) (by decide +kernel)
set_option maxRecDepth 20000 in
theorem gL_law_X6_stood : GoodIn wsL_law (wsV RL 80 RX6 yX6_stood wsX6_stood) := goodIn_app (goodIn_of _ (by decide +kernel)) ggL_law_X6_stood
set_option maxRecDepth 20000 in
theorem ggL_law_X7_stood : GoodIn wsL_law wsX7_stood := goodIn_r _ [570, 207, 132, 133, 5, 134, 571, 572, 573, 574, 103, 104, 268, 269, 270, 271, 206, 246, 247, 248, 249, 250, 251, 252, 210, 106, 575, 576, 577, 578, 109, 362, 363, 364, 365, 105, 366, 367, 368, 369, 370, 371, 372, 373, 374, 375, 376, 377, 378, 379, 380, 381, 579, 580, 581, 708, 709, 710, 711, 712, 713, 714, 715, 716, 717, 718, 719, 720, 721, 722, 723, 724, 725, 726, 727, 728, 729, 730, 731, 732, 733, 734, 735, 736, 737, 738] (by decide +kernel) (by decide +kernel)
set_option maxRecDepth 20000 in
theorem gL_law_X7_stood : GoodIn wsL_law (wsV RL 83 RX7 yX7_stood wsX7_stood) := goodIn_app (goodIn_of _ (by decide +kernel)) ggL_law_X7_stood
set_option maxRecDepth 20000 in
theorem ggL_law_X6_walk : GoodIn wsL_law wsX6_walk := goodIn_r _ [585, 23, 219, 19, 586, 587, 588, 18, 589, 47, 284, 590, 45, 283, 591, 592, 593, 594, 595, 596, 597, 409, 410, 411, 229, 2, 230, 331, 332, 262, 263, 83, 84, 85, 86, 87, 88, 89, 285, 258, 259, 26, 260, 63, 65, 90, 91, 225, 226, 227, 457, 341, 342, 343, 344, 51, 318, 319, 345, 346, 347, 50, 348, 349, 322, 323, 324, 73, 74, 325, 326, 327, 328, 192, 193, 194, 195, 196, 197, 329, 330, 333, 334, 335, 336, 337, 338, 339, 494, 701, 702, 703, 704, 705, 706, 707, 744, 745, 746, 747, 748, 749, 750, 751, 741, 742, 743, 756, 757, 758, 759, 760] (by decide +kernel) (by decide +kernel)
set_option maxRecDepth 20000 in
theorem gL_law_X6_walk : GoodIn wsL_law (wsV RL 84 RX6 yX6_walk wsX6_walk) := goodIn_app (goodIn_of _ (by decide +kernel)) ggL_law_X6_walk
set_option maxRecDepth 20000 in
theorem ggL_law_X7_walk : GoodIn wsL_law wsX7_walk := goodIn_r _ [601, 103, 132, 133, 5, 134, 602, 603, 604, 605, 104, 606, 607, 608, 609, 610, 611, 612, 613, 614, 426, 427, 428, 429, 430, 431, 432, 268, 269, 270, 271, 206, 246, 247, 248, 249, 250, 251, 252, 210, 106, 433, 434, 435, 436, 437, 438, 439, 440, 382, 383, 384, 385, 105, 362, 363, 364, 365, 366, 367, 368, 369, 370, 371, 372, 373, 374, 375, 376, 377, 378, 379, 380, 381, 211, 212, 213, 708, 709, 710, 711, 712, 713, 714, 715, 716, 717, 718, 719, 720, 721, 722, 723, 724, 725, 726, 727, 728, 729, 730, 731, 732, 733, 734, 735, 736, 737, 738] (by decide +kernel) (by decide +kernel)
set_option maxRecDepth 20000 in
theorem gL_law_X7_walk : GoodIn wsL_law (wsV RL 88 RX7 yX7_walk wsX7_walk) := goodIn_app (goodIn_of _ (by decide +kernel)) ggL_law_X7_walk
set_option maxRecDepth 20000 in
theorem ggL_law_X6_image : GoodIn wsL_law wsX6_image := goodIn_r _ [618, 21, 27, 23, 619, 32, 620, 220, 221, 222, 44, 223, 57, 621, 622, 623, 26, 624, 61, 62, 63, 64, 625, 626, 627, 628, 65, 66, 67, 68, 701, 702, 703, 704, 705, 706, 707, 756, 757, 758, 744, 745, 746, 747, 748, 749, 750, 751] (by decide +kernel) (by decide +kernel)
set_option maxRecDepth 20000 in
theorem gL_law_X6_image : GoodIn wsL_law (wsV RL 89 RX6 yX6_image wsX6_image) := goodIn_app (goodIn_of _ (by decide +kernel)) ggL_law_X6_image
set_option maxRecDepth 20000 in
theorem ggL_law_X7_image : GoodIn wsL_law wsX7_image := goodIn_r _ [632, 207, 633, 208, 634, 210, 635, 103, 636, 104, 637, 209, 638, 115, 106, 116, 107, 117, 108, 118, 109, 708, 709, 710, 711, 712, 713, 714, 715, 716, 717, 718, 719, 720, 721, 722, 723, 724, 725, 726, 727, 728, 729, 730, 731, 732, 733, 734, 735, 736, 737, 738] (by decide +kernel) (by decide +kernel)
set_option maxRecDepth 20000 in
theorem gL_law_X7_image : GoodIn wsL_law (wsV RL 92 RX7 yX7_image wsX7_image) := goodIn_app (goodIn_of _ (by decide +kernel)) ggL_law_X7_image
set_option maxRecDepth 20000 in
theorem ggL_law_X6_restore : GoodIn wsL_law wsX6_restore := goodIn_r _ [642, 32, 21, 619, 23, 27, 620, 621, 622, 623, 26, 624, 61, 62, 63, 64, 625, 626, 627, 628, 65, 66, 67, 68, 701, 702, 703, 704, 705, 706, 707, 756, 757, 758, 744, 745, 746, 747, 748, 749, 750, 751] (by decide +kernel) (by decide +kernel)
set_option maxRecDepth 20000 in
theorem gL_law_X6_restore : GoodIn wsL_law (wsV RL 93 RX6 yX6_restore wsX6_restore) := goodIn_app (goodIn_of _ (by decide +kernel)) ggL_law_X6_restore
set_option maxRecDepth 20000 in
theorem ggL_law_X7_restore : GoodIn wsL_law wsX7_restore := goodIn_r _ [646, 633, 634, 208, 635, 210, 636, 103, 637, 104, 638, 209, 106, 115, 107, 116, 108, 117, 109, 118, 708, 709, 710, 711, 712, 713, 714, 715, 716, 717, 718, 719, 720, 721, 722, 723, 724, 725, 726, 727, 728, 729, 730, 731, 732, 733, 734, 735, 736, 737, 738] (by decide +kernel) (by decide +kernel)
set_option maxRecDepth 20000 in
theorem gL_law_X7_restore : GoodIn wsL_law (wsV RL 96 RX7 yX7_restore wsX7_restore) := goodIn_app (goodIn_of _ (by decide +kernel)) ggL_law_X7_restore
set_option maxRecDepth 20000 in
theorem ggL_law_X6_count : GoodIn wsL_law wsX6_count := goodIn_r _ [650, 21, 177, 23, 620, 219, 19, 218, 407, 15, 651, 619, 228, 229, 2, 230, 652, 331, 332, 340, 341, 342, 18, 343, 47, 344, 51, 318, 319, 285, 258, 259, 26, 260, 63, 65, 90, 91, 345, 346, 347, 50, 348, 349, 322, 323, 324, 73, 74, 88, 89, 325, 326, 327, 328, 192, 193, 194, 195, 196, 197, 329, 330, 333, 334, 335, 336, 337, 338, 339, 421, 653, 654, 655, 656, 68, 701, 702, 703, 704, 705, 706, 707, 756, 757, 758, 744, 745, 746, 747, 748, 749, 750, 751, 739, 740, 741, 742, 743, 759, 760] (by decide +kernel) (by decide +kernel)
set_option maxRecDepth 20000 in
theorem gL_law_X6_count : GoodIn wsL_law (wsV RL 97 RX6 yX6_count wsX6_count) := goodIn_app (goodIn_of _ (by decide +kernel)) ggL_law_X6_count
set_option maxRecDepth 20000 in
theorem ggL_law_X7_count : GoodIn wsL_law wsX7_count := goodIn_r _ [660, 661, 662, 663, 5, 664, 206, 210, 103, 104, 209, 131, 208, 211, 212, 213, 437, 438, 439, 440, 382, 383, 384, 385, 105, 362, 363, 364, 365, 106, 366, 367, 368, 369, 370, 371, 372, 373, 374, 375, 376, 377, 378, 379, 380, 381, 246, 247, 248, 249, 250, 251, 252, 665, 666, 667, 668, 109, 708, 709, 710, 711, 712, 713, 714, 715, 716, 717, 718, 719, 720, 721, 722, 723, 724, 725, 726, 727, 728, 729, 730, 731, 732, 733, 734, 735, 736, 737, 738] (by decide +kernel) (by decide +kernel)
set_option maxRecDepth 20000 in
theorem gL_law_X7_count : GoodIn wsL_law (wsV RL 100 RX7 yX7_count wsX7_count) := goodIn_app (goodIn_of _ (by decide +kernel)) ggL_law_X7_count
set_option maxRecDepth 20000 in
theorem ggL_law_X6_digest : GoodIn wsL_law wsX6_digest := goodIn_r _ [672, 673, 21, 23, 219, 15, 651, 220, 221, 222, 44, 223, 57, 674, 215, 216, 2, 217, 218, 87, 88, 89, 224, 225, 226, 227, 90, 91, 228, 229, 230, 231, 232, 233, 26, 234, 63, 65, 675, 676, 677, 678, 679, 680, 681, 682, 620, 549, 683, 299, 300, 301, 302, 303, 19, 304, 305, 306, 307, 308, 309, 310, 311, 312, 18, 313, 47, 284, 285, 258, 259, 260, 314, 315, 316, 317, 51, 318, 319, 45, 283, 320, 321, 322, 323, 50, 324, 73, 74, 325, 326, 327, 328, 192, 193, 194, 195, 196, 197, 329, 330, 331, 332, 333, 334, 335, 336, 337, 338, 339, 340, 341, 342, 343, 344, 345, 346, 347, 348, 349, 684, 450, 451, 452, 453, 454, 455, 456, 457, 458, 280, 281, 282, 459, 460, 461, 685, 487, 488, 489, 490, 491, 492, 493, 494, 421, 686, 504, 505, 506, 31, 507, 508, 509, 30, 510, 96, 98, 95, 511, 512, 513, 76, 77, 78, 514, 515, 516, 517, 97, 518, 519, 520, 521, 409, 410, 411, 262, 263, 83, 84, 85, 86, 522, 523, 524, 525, 526, 527, 528, 529, 530, 531, 532, 687, 555, 556, 557, 558, 559, 560, 561, 562, 563, 564, 565, 566, 688, 160, 161, 14, 162, 38, 37, 689, 648, 649, 650, 177, 407, 619, 652, 653, 654, 655, 656, 68, 701, 702, 703, 704, 705, 706, 707, 744, 745, 746, 747, 748, 749, 750, 751, 739, 740, 756, 757, 758, 741, 742, 743, 759, 760, 752, 753, 754, 755] (by decide +kernel) (by decide +kernel)
set_option maxRecDepth 20000 in
theorem gL_law_X6_digest : GoodIn wsL_law (wsV RL 101 RX6 yX6_digest wsX6_digest) := goodIn_app (goodIn_of _ (by decide +kernel)) ggL_law_X6_digest
set_option maxRecDepth 20000 in
theorem ggL_law_X7_digest : GoodIn wsL_law wsX7_digest := goodIn_r _ [693, 694, 695, 207, 210, 109, 103, 131, 111, 242, 243, 244, 5, 245, 206, 246, 247, 248, 249, 250, 251, 252, 106, 696, 697, 698, 699, 700, 358, 359, 360, 361, 105, 107, 108, 362, 363, 364, 365, 104, 366, 367, 368, 369, 370, 371, 372, 373, 374, 375, 376, 377, 378, 379, 380, 381, 382, 383, 384, 385, 466, 467, 468, 469, 112, 470, 471, 472, 473, 268, 269, 270, 271, 474, 475, 476, 477, 478, 479, 480, 481, 482, 483, 484, 485, 499, 500, 501, 502, 437, 438, 439, 440, 211, 212, 213, 537, 538, 539, 540, 113, 114, 541, 542, 543, 544, 426, 427, 428, 429, 430, 431, 432, 433, 434, 435, 436, 571, 572, 573, 574, 575, 576, 577, 578, 579, 580, 581, 661, 662, 663, 664, 209, 208, 665, 666, 667, 668, 708, 709, 710, 711, 712, 713, 714, 715, 716, 717, 718, 719, 720, 721, 722, 723, 724, 725, 726, 727, 728, 729, 730, 731, 732, 733, 734, 735, 736, 737, 738] (by decide +kernel) (by decide +kernel)
set_option maxRecDepth 20000 in
theorem gL_law_X7_digest : GoodIn wsL_law (wsV RL 105 RX7 yX7_digest wsX7_digest) := goodIn_app (goodIn_of _ (by decide +kernel)) ggL_law_X7_digest
theorem dL_law_0 : decode cL_law 0 = .ok (.new 7, 3) := by decide +kernel
theorem dL_law_3 : decode cL_law 3 = .ok (.dup, 1) := by decide +kernel
theorem dL_law_4 : decode cL_law 4 = .ok (.invokespecial 9, 3) := by decide +kernel
theorem dL_law_7 : decode cL_law 7 = .ok (.astore_n 1, 1) := by decide +kernel
theorem dL_law_8 : decode cL_law 8 = .ok (.new 10, 3) := by decide +kernel
theorem dL_law_11 : decode cL_law 11 = .ok (.dup, 1) := by decide +kernel
theorem dL_law_12 : decode cL_law 12 = .ok (.invokespecial 12, 3) := by decide +kernel
theorem dL_law_15 : decode cL_law 15 = .ok (.astore_n 2, 1) := by decide +kernel
theorem dL_law_16 : decode cL_law 16 = .ok (.iconst 0, 1) := by decide +kernel
theorem dL_law_17 : decode cL_law 17 = .ok (.istore_n 3, 1) := by decide +kernel
theorem dL_law_18 : decode cL_law 18 = .ok (.iload_n 3, 1) := by decide +kernel
theorem dL_law_19 : decode cL_law 19 = .ok (.aload_n 0, 1) := by decide +kernel
theorem dL_law_20 : decode cL_law 20 = .ok (.arraylength, 1) := by decide +kernel
theorem dL_law_21 : decode cL_law 21 = .ok (.iconst 4, 1) := by decide +kernel
theorem dL_law_22 : decode cL_law 22 = .ok (.isub, 1) := by decide +kernel
theorem dL_law_23 : decode cL_law 23 = .ok (.if_icmp .gt 656, 3) := by decide +kernel
theorem dL_law_26 : decode cL_law 26 = .ok (.aload_n 0, 1) := by decide +kernel
theorem dL_law_27 : decode cL_law 27 = .ok (.iload_n 3, 1) := by decide +kernel
theorem dL_law_28 : decode cL_law 28 = .ok (.iaload, 1) := by decide +kernel
theorem dL_law_29 : decode cL_law 29 = .ok (.bipush 31, 2) := by decide +kernel
theorem dL_law_31 : decode cL_law 31 = .ok (.iand, 1) := by decide +kernel
theorem dL_law_32 : decode cL_law 32 = .ok (.tableswitch 641 0 21 #[104, 127, 140, 153, 166, 189, 222, 255, 288, 321, 354, 377, 390, 423, 446, 479, 512, 535, 578, 591, 604, 627], 104) := by decide +kernel
theorem dL_law_136 : decode cL_law 136 = .ok (.aload_n 1, 1) := by decide +kernel
theorem dL_law_137 : decode cL_law 137 = .ok (.aload_n 0, 1) := by decide +kernel
theorem dL_law_138 : decode cL_law 138 = .ok (.iload_n 3, 1) := by decide +kernel
theorem dL_law_139 : decode cL_law 139 = .ok (.iconst 1, 1) := by decide +kernel
theorem dL_law_140 : decode cL_law 140 = .ok (.iadd, 1) := by decide +kernel
theorem dL_law_141 : decode cL_law 141 = .ok (.iaload, 1) := by decide +kernel
theorem dL_law_142 : decode cL_law 142 = .ok (.invokevirtual 13, 3) := by decide +kernel
theorem dL_law_145 : decode cL_law 145 = .ok (.aload_n 2, 1) := by decide +kernel
theorem dL_law_146 : decode cL_law 146 = .ok (.aload_n 0, 1) := by decide +kernel
theorem dL_law_147 : decode cL_law 147 = .ok (.iload_n 3, 1) := by decide +kernel
theorem dL_law_148 : decode cL_law 148 = .ok (.iconst 1, 1) := by decide +kernel
theorem dL_law_149 : decode cL_law 149 = .ok (.iadd, 1) := by decide +kernel
theorem dL_law_150 : decode cL_law 150 = .ok (.iaload, 1) := by decide +kernel
theorem dL_law_151 : decode cL_law 151 = .ok (.invokevirtual 17, 3) := by decide +kernel
theorem dL_law_154 : decode cL_law 154 = .ok (.if_icmp .eq 519, 3) := by decide +kernel
theorem dL_law_157 : decode cL_law 157 = .ok (.iconst 0, 1) := by decide +kernel
theorem dL_law_158 : decode cL_law 158 = .ok (.ireturn, 1) := by decide +kernel
theorem dL_law_159 : decode cL_law 159 = .ok (.aload_n 1, 1) := by decide +kernel
theorem dL_law_160 : decode cL_law 160 = .ok (.invokevirtual 18, 3) := by decide +kernel
theorem dL_law_163 : decode cL_law 163 = .ok (.aload_n 2, 1) := by decide +kernel
theorem dL_law_164 : decode cL_law 164 = .ok (.invokevirtual 22, 3) := by decide +kernel
theorem dL_law_167 : decode cL_law 167 = .ok (.if_icmp .eq 506, 3) := by decide +kernel
theorem dL_law_170 : decode cL_law 170 = .ok (.iconst 0, 1) := by decide +kernel
theorem dL_law_171 : decode cL_law 171 = .ok (.ireturn, 1) := by decide +kernel
theorem dL_law_172 : decode cL_law 172 = .ok (.aload_n 1, 1) := by decide +kernel
theorem dL_law_173 : decode cL_law 173 = .ok (.invokevirtual 23, 3) := by decide +kernel
theorem dL_law_176 : decode cL_law 176 = .ok (.aload_n 2, 1) := by decide +kernel
theorem dL_law_177 : decode cL_law 177 = .ok (.invokevirtual 26, 3) := by decide +kernel
theorem dL_law_180 : decode cL_law 180 = .ok (.if_icmp .eq 493, 3) := by decide +kernel
theorem dL_law_183 : decode cL_law 183 = .ok (.iconst 0, 1) := by decide +kernel
theorem dL_law_184 : decode cL_law 184 = .ok (.ireturn, 1) := by decide +kernel
theorem dL_law_185 : decode cL_law 185 = .ok (.aload_n 1, 1) := by decide +kernel
theorem dL_law_186 : decode cL_law 186 = .ok (.invokevirtual 27, 3) := by decide +kernel
theorem dL_law_189 : decode cL_law 189 = .ok (.aload_n 2, 1) := by decide +kernel
theorem dL_law_190 : decode cL_law 190 = .ok (.invokevirtual 30, 3) := by decide +kernel
theorem dL_law_193 : decode cL_law 193 = .ok (.if_icmp .eq 480, 3) := by decide +kernel
theorem dL_law_196 : decode cL_law 196 = .ok (.iconst 0, 1) := by decide +kernel
theorem dL_law_197 : decode cL_law 197 = .ok (.ireturn, 1) := by decide +kernel
theorem dL_law_198 : decode cL_law 198 = .ok (.aload_n 1, 1) := by decide +kernel
theorem dL_law_199 : decode cL_law 199 = .ok (.aload_n 0, 1) := by decide +kernel
theorem dL_law_200 : decode cL_law 200 = .ok (.iload_n 3, 1) := by decide +kernel
theorem dL_law_201 : decode cL_law 201 = .ok (.iconst 1, 1) := by decide +kernel
theorem dL_law_202 : decode cL_law 202 = .ok (.iadd, 1) := by decide +kernel
theorem dL_law_203 : decode cL_law 203 = .ok (.iaload, 1) := by decide +kernel
theorem dL_law_204 : decode cL_law 204 = .ok (.invokevirtual 31, 3) := by decide +kernel
theorem dL_law_207 : decode cL_law 207 = .ok (.aload_n 2, 1) := by decide +kernel
theorem dL_law_208 : decode cL_law 208 = .ok (.aload_n 0, 1) := by decide +kernel
theorem dL_law_209 : decode cL_law 209 = .ok (.iload_n 3, 1) := by decide +kernel
theorem dL_law_210 : decode cL_law 210 = .ok (.iconst 1, 1) := by decide +kernel
theorem dL_law_211 : decode cL_law 211 = .ok (.iadd, 1) := by decide +kernel
theorem dL_law_212 : decode cL_law 212 = .ok (.iaload, 1) := by decide +kernel
theorem dL_law_213 : decode cL_law 213 = .ok (.invokevirtual 34, 3) := by decide +kernel
theorem dL_law_216 : decode cL_law 216 = .ok (.if_icmp .eq 457, 3) := by decide +kernel
theorem dL_law_219 : decode cL_law 219 = .ok (.iconst 0, 1) := by decide +kernel
theorem dL_law_220 : decode cL_law 220 = .ok (.ireturn, 1) := by decide +kernel
theorem dL_law_221 : decode cL_law 221 = .ok (.aload_n 1, 1) := by decide +kernel
theorem dL_law_222 : decode cL_law 222 = .ok (.aload_n 0, 1) := by decide +kernel
theorem dL_law_223 : decode cL_law 223 = .ok (.iload_n 3, 1) := by decide +kernel
theorem dL_law_224 : decode cL_law 224 = .ok (.iconst 1, 1) := by decide +kernel
theorem dL_law_225 : decode cL_law 225 = .ok (.iadd, 1) := by decide +kernel
theorem dL_law_226 : decode cL_law 226 = .ok (.iaload, 1) := by decide +kernel
theorem dL_law_227 : decode cL_law 227 = .ok (.aload_n 0, 1) := by decide +kernel
theorem dL_law_228 : decode cL_law 228 = .ok (.iload_n 3, 1) := by decide +kernel
theorem dL_law_229 : decode cL_law 229 = .ok (.iconst 2, 1) := by decide +kernel
theorem dL_law_230 : decode cL_law 230 = .ok (.iadd, 1) := by decide +kernel
theorem dL_law_231 : decode cL_law 231 = .ok (.iaload, 1) := by decide +kernel
theorem dL_law_232 : decode cL_law 232 = .ok (.invokevirtual 35, 3) := by decide +kernel
theorem dL_law_235 : decode cL_law 235 = .ok (.aload_n 2, 1) := by decide +kernel
theorem dL_law_236 : decode cL_law 236 = .ok (.aload_n 0, 1) := by decide +kernel
theorem dL_law_237 : decode cL_law 237 = .ok (.iload_n 3, 1) := by decide +kernel
theorem dL_law_238 : decode cL_law 238 = .ok (.iconst 1, 1) := by decide +kernel
theorem dL_law_239 : decode cL_law 239 = .ok (.iadd, 1) := by decide +kernel
theorem dL_law_240 : decode cL_law 240 = .ok (.iaload, 1) := by decide +kernel
theorem dL_law_241 : decode cL_law 241 = .ok (.aload_n 0, 1) := by decide +kernel
theorem dL_law_242 : decode cL_law 242 = .ok (.iload_n 3, 1) := by decide +kernel
theorem dL_law_243 : decode cL_law 243 = .ok (.iconst 2, 1) := by decide +kernel
theorem dL_law_244 : decode cL_law 244 = .ok (.iadd, 1) := by decide +kernel
theorem dL_law_245 : decode cL_law 245 = .ok (.iaload, 1) := by decide +kernel
theorem dL_law_246 : decode cL_law 246 = .ok (.invokevirtual 39, 3) := by decide +kernel
theorem dL_law_249 : decode cL_law 249 = .ok (.if_icmp .eq 424, 3) := by decide +kernel
theorem dL_law_252 : decode cL_law 252 = .ok (.iconst 0, 1) := by decide +kernel
theorem dL_law_253 : decode cL_law 253 = .ok (.ireturn, 1) := by decide +kernel
theorem dL_law_254 : decode cL_law 254 = .ok (.aload_n 1, 1) := by decide +kernel
theorem dL_law_255 : decode cL_law 255 = .ok (.aload_n 0, 1) := by decide +kernel
theorem dL_law_256 : decode cL_law 256 = .ok (.iload_n 3, 1) := by decide +kernel
theorem dL_law_257 : decode cL_law 257 = .ok (.iconst 1, 1) := by decide +kernel
theorem dL_law_258 : decode cL_law 258 = .ok (.iadd, 1) := by decide +kernel
theorem dL_law_259 : decode cL_law 259 = .ok (.iaload, 1) := by decide +kernel
theorem dL_law_260 : decode cL_law 260 = .ok (.aload_n 0, 1) := by decide +kernel
theorem dL_law_261 : decode cL_law 261 = .ok (.iload_n 3, 1) := by decide +kernel
theorem dL_law_262 : decode cL_law 262 = .ok (.iconst 2, 1) := by decide +kernel
theorem dL_law_263 : decode cL_law 263 = .ok (.iadd, 1) := by decide +kernel
theorem dL_law_264 : decode cL_law 264 = .ok (.iaload, 1) := by decide +kernel
theorem dL_law_265 : decode cL_law 265 = .ok (.invokevirtual 40, 3) := by decide +kernel
theorem dL_law_268 : decode cL_law 268 = .ok (.aload_n 2, 1) := by decide +kernel
theorem dL_law_269 : decode cL_law 269 = .ok (.aload_n 0, 1) := by decide +kernel
theorem dL_law_270 : decode cL_law 270 = .ok (.iload_n 3, 1) := by decide +kernel
theorem dL_law_271 : decode cL_law 271 = .ok (.iconst 1, 1) := by decide +kernel
theorem dL_law_272 : decode cL_law 272 = .ok (.iadd, 1) := by decide +kernel
theorem dL_law_273 : decode cL_law 273 = .ok (.iaload, 1) := by decide +kernel
theorem dL_law_274 : decode cL_law 274 = .ok (.aload_n 0, 1) := by decide +kernel
theorem dL_law_275 : decode cL_law 275 = .ok (.iload_n 3, 1) := by decide +kernel
theorem dL_law_276 : decode cL_law 276 = .ok (.iconst 2, 1) := by decide +kernel
theorem dL_law_277 : decode cL_law 277 = .ok (.iadd, 1) := by decide +kernel
theorem dL_law_278 : decode cL_law 278 = .ok (.iaload, 1) := by decide +kernel
theorem dL_law_279 : decode cL_law 279 = .ok (.invokevirtual 43, 3) := by decide +kernel
theorem dL_law_282 : decode cL_law 282 = .ok (.if_icmp .eq 391, 3) := by decide +kernel
theorem dL_law_285 : decode cL_law 285 = .ok (.iconst 0, 1) := by decide +kernel
theorem dL_law_286 : decode cL_law 286 = .ok (.ireturn, 1) := by decide +kernel
theorem dL_law_287 : decode cL_law 287 = .ok (.aload_n 1, 1) := by decide +kernel
theorem dL_law_288 : decode cL_law 288 = .ok (.aload_n 0, 1) := by decide +kernel
theorem dL_law_289 : decode cL_law 289 = .ok (.iload_n 3, 1) := by decide +kernel
theorem dL_law_290 : decode cL_law 290 = .ok (.iconst 1, 1) := by decide +kernel
theorem dL_law_291 : decode cL_law 291 = .ok (.iadd, 1) := by decide +kernel
theorem dL_law_292 : decode cL_law 292 = .ok (.iaload, 1) := by decide +kernel
theorem dL_law_293 : decode cL_law 293 = .ok (.aload_n 0, 1) := by decide +kernel
theorem dL_law_294 : decode cL_law 294 = .ok (.iload_n 3, 1) := by decide +kernel
theorem dL_law_295 : decode cL_law 295 = .ok (.iconst 2, 1) := by decide +kernel
theorem dL_law_296 : decode cL_law 296 = .ok (.iadd, 1) := by decide +kernel
theorem dL_law_297 : decode cL_law 297 = .ok (.iaload, 1) := by decide +kernel
theorem dL_law_298 : decode cL_law 298 = .ok (.invokevirtual 44, 3) := by decide +kernel
theorem dL_law_301 : decode cL_law 301 = .ok (.aload_n 2, 1) := by decide +kernel
theorem dL_law_302 : decode cL_law 302 = .ok (.aload_n 0, 1) := by decide +kernel
theorem dL_law_303 : decode cL_law 303 = .ok (.iload_n 3, 1) := by decide +kernel
theorem dL_law_304 : decode cL_law 304 = .ok (.iconst 1, 1) := by decide +kernel
theorem dL_law_305 : decode cL_law 305 = .ok (.iadd, 1) := by decide +kernel
theorem dL_law_306 : decode cL_law 306 = .ok (.iaload, 1) := by decide +kernel
theorem dL_law_307 : decode cL_law 307 = .ok (.aload_n 0, 1) := by decide +kernel
theorem dL_law_308 : decode cL_law 308 = .ok (.iload_n 3, 1) := by decide +kernel
theorem dL_law_309 : decode cL_law 309 = .ok (.iconst 2, 1) := by decide +kernel
theorem dL_law_310 : decode cL_law 310 = .ok (.iadd, 1) := by decide +kernel
theorem dL_law_311 : decode cL_law 311 = .ok (.iaload, 1) := by decide +kernel
theorem dL_law_312 : decode cL_law 312 = .ok (.invokevirtual 47, 3) := by decide +kernel
theorem dL_law_315 : decode cL_law 315 = .ok (.if_icmp .eq 358, 3) := by decide +kernel
theorem dL_law_318 : decode cL_law 318 = .ok (.iconst 0, 1) := by decide +kernel
theorem dL_law_319 : decode cL_law 319 = .ok (.ireturn, 1) := by decide +kernel
theorem dL_law_320 : decode cL_law 320 = .ok (.aload_n 1, 1) := by decide +kernel
theorem dL_law_321 : decode cL_law 321 = .ok (.aload_n 0, 1) := by decide +kernel
theorem dL_law_322 : decode cL_law 322 = .ok (.iload_n 3, 1) := by decide +kernel
theorem dL_law_323 : decode cL_law 323 = .ok (.iconst 1, 1) := by decide +kernel
theorem dL_law_324 : decode cL_law 324 = .ok (.iadd, 1) := by decide +kernel
theorem dL_law_325 : decode cL_law 325 = .ok (.iaload, 1) := by decide +kernel
theorem dL_law_326 : decode cL_law 326 = .ok (.aload_n 0, 1) := by decide +kernel
theorem dL_law_327 : decode cL_law 327 = .ok (.iload_n 3, 1) := by decide +kernel
theorem dL_law_328 : decode cL_law 328 = .ok (.iconst 2, 1) := by decide +kernel
theorem dL_law_329 : decode cL_law 329 = .ok (.iadd, 1) := by decide +kernel
theorem dL_law_330 : decode cL_law 330 = .ok (.iaload, 1) := by decide +kernel
theorem dL_law_331 : decode cL_law 331 = .ok (.invokevirtual 48, 3) := by decide +kernel
theorem dL_law_334 : decode cL_law 334 = .ok (.aload_n 2, 1) := by decide +kernel
theorem dL_law_335 : decode cL_law 335 = .ok (.aload_n 0, 1) := by decide +kernel
theorem dL_law_336 : decode cL_law 336 = .ok (.iload_n 3, 1) := by decide +kernel
theorem dL_law_337 : decode cL_law 337 = .ok (.iconst 1, 1) := by decide +kernel
theorem dL_law_338 : decode cL_law 338 = .ok (.iadd, 1) := by decide +kernel
theorem dL_law_339 : decode cL_law 339 = .ok (.iaload, 1) := by decide +kernel
theorem dL_law_340 : decode cL_law 340 = .ok (.aload_n 0, 1) := by decide +kernel
theorem dL_law_341 : decode cL_law 341 = .ok (.iload_n 3, 1) := by decide +kernel
theorem dL_law_342 : decode cL_law 342 = .ok (.iconst 2, 1) := by decide +kernel
theorem dL_law_343 : decode cL_law 343 = .ok (.iadd, 1) := by decide +kernel
theorem dL_law_344 : decode cL_law 344 = .ok (.iaload, 1) := by decide +kernel
theorem dL_law_345 : decode cL_law 345 = .ok (.invokevirtual 51, 3) := by decide +kernel
theorem dL_law_348 : decode cL_law 348 = .ok (.if_icmp .eq 325, 3) := by decide +kernel
theorem dL_law_351 : decode cL_law 351 = .ok (.iconst 0, 1) := by decide +kernel
theorem dL_law_352 : decode cL_law 352 = .ok (.ireturn, 1) := by decide +kernel
theorem dL_law_353 : decode cL_law 353 = .ok (.aload_n 1, 1) := by decide +kernel
theorem dL_law_354 : decode cL_law 354 = .ok (.aload_n 0, 1) := by decide +kernel
theorem dL_law_355 : decode cL_law 355 = .ok (.iload_n 3, 1) := by decide +kernel
theorem dL_law_356 : decode cL_law 356 = .ok (.iconst 1, 1) := by decide +kernel
theorem dL_law_357 : decode cL_law 357 = .ok (.iadd, 1) := by decide +kernel
theorem dL_law_358 : decode cL_law 358 = .ok (.iaload, 1) := by decide +kernel
theorem dL_law_359 : decode cL_law 359 = .ok (.aload_n 0, 1) := by decide +kernel
theorem dL_law_360 : decode cL_law 360 = .ok (.iload_n 3, 1) := by decide +kernel
theorem dL_law_361 : decode cL_law 361 = .ok (.iconst 2, 1) := by decide +kernel
theorem dL_law_362 : decode cL_law 362 = .ok (.iadd, 1) := by decide +kernel
theorem dL_law_363 : decode cL_law 363 = .ok (.iaload, 1) := by decide +kernel
theorem dL_law_364 : decode cL_law 364 = .ok (.invokevirtual 52, 3) := by decide +kernel
theorem dL_law_367 : decode cL_law 367 = .ok (.aload_n 2, 1) := by decide +kernel
theorem dL_law_368 : decode cL_law 368 = .ok (.aload_n 0, 1) := by decide +kernel
theorem dL_law_369 : decode cL_law 369 = .ok (.iload_n 3, 1) := by decide +kernel
theorem dL_law_370 : decode cL_law 370 = .ok (.iconst 1, 1) := by decide +kernel
theorem dL_law_371 : decode cL_law 371 = .ok (.iadd, 1) := by decide +kernel
theorem dL_law_372 : decode cL_law 372 = .ok (.iaload, 1) := by decide +kernel
theorem dL_law_373 : decode cL_law 373 = .ok (.aload_n 0, 1) := by decide +kernel
theorem dL_law_374 : decode cL_law 374 = .ok (.iload_n 3, 1) := by decide +kernel
theorem dL_law_375 : decode cL_law 375 = .ok (.iconst 2, 1) := by decide +kernel
theorem dL_law_376 : decode cL_law 376 = .ok (.iadd, 1) := by decide +kernel
theorem dL_law_377 : decode cL_law 377 = .ok (.iaload, 1) := by decide +kernel
theorem dL_law_378 : decode cL_law 378 = .ok (.invokevirtual 55, 3) := by decide +kernel
theorem dL_law_381 : decode cL_law 381 = .ok (.if_icmp .eq 292, 3) := by decide +kernel
theorem dL_law_384 : decode cL_law 384 = .ok (.iconst 0, 1) := by decide +kernel
theorem dL_law_385 : decode cL_law 385 = .ok (.ireturn, 1) := by decide +kernel
theorem dL_law_386 : decode cL_law 386 = .ok (.aload_n 1, 1) := by decide +kernel
theorem dL_law_387 : decode cL_law 387 = .ok (.aload_n 0, 1) := by decide +kernel
theorem dL_law_388 : decode cL_law 388 = .ok (.iload_n 3, 1) := by decide +kernel
theorem dL_law_389 : decode cL_law 389 = .ok (.iconst 1, 1) := by decide +kernel
theorem dL_law_390 : decode cL_law 390 = .ok (.iadd, 1) := by decide +kernel
theorem dL_law_391 : decode cL_law 391 = .ok (.iaload, 1) := by decide +kernel
theorem dL_law_392 : decode cL_law 392 = .ok (.invokevirtual 56, 3) := by decide +kernel
theorem dL_law_395 : decode cL_law 395 = .ok (.aload_n 2, 1) := by decide +kernel
theorem dL_law_396 : decode cL_law 396 = .ok (.aload_n 0, 1) := by decide +kernel
theorem dL_law_397 : decode cL_law 397 = .ok (.iload_n 3, 1) := by decide +kernel
theorem dL_law_398 : decode cL_law 398 = .ok (.iconst 1, 1) := by decide +kernel
theorem dL_law_399 : decode cL_law 399 = .ok (.iadd, 1) := by decide +kernel
theorem dL_law_400 : decode cL_law 400 = .ok (.iaload, 1) := by decide +kernel
theorem dL_law_401 : decode cL_law 401 = .ok (.invokevirtual 59, 3) := by decide +kernel
theorem dL_law_404 : decode cL_law 404 = .ok (.if_icmp .eq 269, 3) := by decide +kernel
theorem dL_law_407 : decode cL_law 407 = .ok (.iconst 0, 1) := by decide +kernel
theorem dL_law_408 : decode cL_law 408 = .ok (.ireturn, 1) := by decide +kernel
theorem dL_law_409 : decode cL_law 409 = .ok (.aload_n 1, 1) := by decide +kernel
theorem dL_law_410 : decode cL_law 410 = .ok (.invokevirtual 60, 3) := by decide +kernel
theorem dL_law_413 : decode cL_law 413 = .ok (.aload_n 2, 1) := by decide +kernel
theorem dL_law_414 : decode cL_law 414 = .ok (.invokevirtual 63, 3) := by decide +kernel
theorem dL_law_417 : decode cL_law 417 = .ok (.if_icmp .eq 256, 3) := by decide +kernel
theorem dL_law_420 : decode cL_law 420 = .ok (.iconst 0, 1) := by decide +kernel
theorem dL_law_421 : decode cL_law 421 = .ok (.ireturn, 1) := by decide +kernel
theorem dL_law_422 : decode cL_law 422 = .ok (.aload_n 1, 1) := by decide +kernel
theorem dL_law_423 : decode cL_law 423 = .ok (.aload_n 0, 1) := by decide +kernel
theorem dL_law_424 : decode cL_law 424 = .ok (.iload_n 3, 1) := by decide +kernel
theorem dL_law_425 : decode cL_law 425 = .ok (.iconst 1, 1) := by decide +kernel
theorem dL_law_426 : decode cL_law 426 = .ok (.iadd, 1) := by decide +kernel
theorem dL_law_427 : decode cL_law 427 = .ok (.iaload, 1) := by decide +kernel
theorem dL_law_428 : decode cL_law 428 = .ok (.aload_n 0, 1) := by decide +kernel
theorem dL_law_429 : decode cL_law 429 = .ok (.iload_n 3, 1) := by decide +kernel
theorem dL_law_430 : decode cL_law 430 = .ok (.iconst 2, 1) := by decide +kernel
theorem dL_law_431 : decode cL_law 431 = .ok (.iadd, 1) := by decide +kernel
theorem dL_law_432 : decode cL_law 432 = .ok (.iaload, 1) := by decide +kernel
theorem dL_law_433 : decode cL_law 433 = .ok (.invokevirtual 64, 3) := by decide +kernel
theorem dL_law_436 : decode cL_law 436 = .ok (.aload_n 2, 1) := by decide +kernel
theorem dL_law_437 : decode cL_law 437 = .ok (.aload_n 0, 1) := by decide +kernel
theorem dL_law_438 : decode cL_law 438 = .ok (.iload_n 3, 1) := by decide +kernel
theorem dL_law_439 : decode cL_law 439 = .ok (.iconst 1, 1) := by decide +kernel
theorem dL_law_440 : decode cL_law 440 = .ok (.iadd, 1) := by decide +kernel
theorem dL_law_441 : decode cL_law 441 = .ok (.iaload, 1) := by decide +kernel
theorem dL_law_442 : decode cL_law 442 = .ok (.aload_n 0, 1) := by decide +kernel
theorem dL_law_443 : decode cL_law 443 = .ok (.iload_n 3, 1) := by decide +kernel
theorem dL_law_444 : decode cL_law 444 = .ok (.iconst 2, 1) := by decide +kernel
theorem dL_law_445 : decode cL_law 445 = .ok (.iadd, 1) := by decide +kernel
theorem dL_law_446 : decode cL_law 446 = .ok (.iaload, 1) := by decide +kernel
theorem dL_law_447 : decode cL_law 447 = .ok (.invokevirtual 67, 3) := by decide +kernel
theorem dL_law_450 : decode cL_law 450 = .ok (.if_icmp .eq 223, 3) := by decide +kernel
theorem dL_law_453 : decode cL_law 453 = .ok (.iconst 0, 1) := by decide +kernel
theorem dL_law_454 : decode cL_law 454 = .ok (.ireturn, 1) := by decide +kernel
theorem dL_law_455 : decode cL_law 455 = .ok (.aload_n 1, 1) := by decide +kernel
theorem dL_law_456 : decode cL_law 456 = .ok (.aload_n 0, 1) := by decide +kernel
theorem dL_law_457 : decode cL_law 457 = .ok (.iload_n 3, 1) := by decide +kernel
theorem dL_law_458 : decode cL_law 458 = .ok (.iconst 1, 1) := by decide +kernel
theorem dL_law_459 : decode cL_law 459 = .ok (.iadd, 1) := by decide +kernel
theorem dL_law_460 : decode cL_law 460 = .ok (.iaload, 1) := by decide +kernel
theorem dL_law_461 : decode cL_law 461 = .ok (.invokevirtual 68, 3) := by decide +kernel
theorem dL_law_464 : decode cL_law 464 = .ok (.aload_n 2, 1) := by decide +kernel
theorem dL_law_465 : decode cL_law 465 = .ok (.aload_n 0, 1) := by decide +kernel
theorem dL_law_466 : decode cL_law 466 = .ok (.iload_n 3, 1) := by decide +kernel
theorem dL_law_467 : decode cL_law 467 = .ok (.iconst 1, 1) := by decide +kernel
theorem dL_law_468 : decode cL_law 468 = .ok (.iadd, 1) := by decide +kernel
theorem dL_law_469 : decode cL_law 469 = .ok (.iaload, 1) := by decide +kernel
theorem dL_law_470 : decode cL_law 470 = .ok (.invokevirtual 71, 3) := by decide +kernel
theorem dL_law_473 : decode cL_law 473 = .ok (.if_icmp .eq 200, 3) := by decide +kernel
theorem dL_law_476 : decode cL_law 476 = .ok (.iconst 0, 1) := by decide +kernel
theorem dL_law_477 : decode cL_law 477 = .ok (.ireturn, 1) := by decide +kernel
theorem dL_law_478 : decode cL_law 478 = .ok (.aload_n 1, 1) := by decide +kernel
theorem dL_law_479 : decode cL_law 479 = .ok (.aload_n 0, 1) := by decide +kernel
theorem dL_law_480 : decode cL_law 480 = .ok (.iload_n 3, 1) := by decide +kernel
theorem dL_law_481 : decode cL_law 481 = .ok (.iconst 1, 1) := by decide +kernel
theorem dL_law_482 : decode cL_law 482 = .ok (.iadd, 1) := by decide +kernel
theorem dL_law_483 : decode cL_law 483 = .ok (.iaload, 1) := by decide +kernel
theorem dL_law_484 : decode cL_law 484 = .ok (.aload_n 0, 1) := by decide +kernel
theorem dL_law_485 : decode cL_law 485 = .ok (.iload_n 3, 1) := by decide +kernel
theorem dL_law_486 : decode cL_law 486 = .ok (.iconst 2, 1) := by decide +kernel
theorem dL_law_487 : decode cL_law 487 = .ok (.iadd, 1) := by decide +kernel
theorem dL_law_488 : decode cL_law 488 = .ok (.iaload, 1) := by decide +kernel
theorem dL_law_489 : decode cL_law 489 = .ok (.invokevirtual 72, 3) := by decide +kernel
theorem dL_law_492 : decode cL_law 492 = .ok (.aload_n 2, 1) := by decide +kernel
theorem dL_law_493 : decode cL_law 493 = .ok (.aload_n 0, 1) := by decide +kernel
theorem dL_law_494 : decode cL_law 494 = .ok (.iload_n 3, 1) := by decide +kernel
theorem dL_law_495 : decode cL_law 495 = .ok (.iconst 1, 1) := by decide +kernel
theorem dL_law_496 : decode cL_law 496 = .ok (.iadd, 1) := by decide +kernel
theorem dL_law_497 : decode cL_law 497 = .ok (.iaload, 1) := by decide +kernel
theorem dL_law_498 : decode cL_law 498 = .ok (.aload_n 0, 1) := by decide +kernel
theorem dL_law_499 : decode cL_law 499 = .ok (.iload_n 3, 1) := by decide +kernel
theorem dL_law_500 : decode cL_law 500 = .ok (.iconst 2, 1) := by decide +kernel
theorem dL_law_501 : decode cL_law 501 = .ok (.iadd, 1) := by decide +kernel
theorem dL_law_502 : decode cL_law 502 = .ok (.iaload, 1) := by decide +kernel
theorem dL_law_503 : decode cL_law 503 = .ok (.invokevirtual 75, 3) := by decide +kernel
theorem dL_law_506 : decode cL_law 506 = .ok (.if_icmp .eq 167, 3) := by decide +kernel
theorem dL_law_509 : decode cL_law 509 = .ok (.iconst 0, 1) := by decide +kernel
theorem dL_law_510 : decode cL_law 510 = .ok (.ireturn, 1) := by decide +kernel
theorem dL_law_511 : decode cL_law 511 = .ok (.aload_n 1, 1) := by decide +kernel
theorem dL_law_512 : decode cL_law 512 = .ok (.aload_n 0, 1) := by decide +kernel
theorem dL_law_513 : decode cL_law 513 = .ok (.iload_n 3, 1) := by decide +kernel
theorem dL_law_514 : decode cL_law 514 = .ok (.iconst 1, 1) := by decide +kernel
theorem dL_law_515 : decode cL_law 515 = .ok (.iadd, 1) := by decide +kernel
theorem dL_law_516 : decode cL_law 516 = .ok (.iaload, 1) := by decide +kernel
theorem dL_law_517 : decode cL_law 517 = .ok (.aload_n 0, 1) := by decide +kernel
theorem dL_law_518 : decode cL_law 518 = .ok (.iload_n 3, 1) := by decide +kernel
theorem dL_law_519 : decode cL_law 519 = .ok (.iconst 2, 1) := by decide +kernel
theorem dL_law_520 : decode cL_law 520 = .ok (.iadd, 1) := by decide +kernel
theorem dL_law_521 : decode cL_law 521 = .ok (.iaload, 1) := by decide +kernel
theorem dL_law_522 : decode cL_law 522 = .ok (.invokevirtual 76, 3) := by decide +kernel
theorem dL_law_525 : decode cL_law 525 = .ok (.aload_n 2, 1) := by decide +kernel
theorem dL_law_526 : decode cL_law 526 = .ok (.aload_n 0, 1) := by decide +kernel
theorem dL_law_527 : decode cL_law 527 = .ok (.iload_n 3, 1) := by decide +kernel
theorem dL_law_528 : decode cL_law 528 = .ok (.iconst 1, 1) := by decide +kernel
theorem dL_law_529 : decode cL_law 529 = .ok (.iadd, 1) := by decide +kernel
theorem dL_law_530 : decode cL_law 530 = .ok (.iaload, 1) := by decide +kernel
theorem dL_law_531 : decode cL_law 531 = .ok (.aload_n 0, 1) := by decide +kernel
theorem dL_law_532 : decode cL_law 532 = .ok (.iload_n 3, 1) := by decide +kernel
theorem dL_law_533 : decode cL_law 533 = .ok (.iconst 2, 1) := by decide +kernel
theorem dL_law_534 : decode cL_law 534 = .ok (.iadd, 1) := by decide +kernel
theorem dL_law_535 : decode cL_law 535 = .ok (.iaload, 1) := by decide +kernel
theorem dL_law_536 : decode cL_law 536 = .ok (.invokevirtual 79, 3) := by decide +kernel
theorem dL_law_539 : decode cL_law 539 = .ok (.if_icmp .eq 134, 3) := by decide +kernel
theorem dL_law_542 : decode cL_law 542 = .ok (.iconst 0, 1) := by decide +kernel
theorem dL_law_543 : decode cL_law 543 = .ok (.ireturn, 1) := by decide +kernel
theorem dL_law_544 : decode cL_law 544 = .ok (.aload_n 1, 1) := by decide +kernel
theorem dL_law_545 : decode cL_law 545 = .ok (.aload_n 0, 1) := by decide +kernel
theorem dL_law_546 : decode cL_law 546 = .ok (.iload_n 3, 1) := by decide +kernel
theorem dL_law_547 : decode cL_law 547 = .ok (.iconst 1, 1) := by decide +kernel
theorem dL_law_548 : decode cL_law 548 = .ok (.iadd, 1) := by decide +kernel
theorem dL_law_549 : decode cL_law 549 = .ok (.iaload, 1) := by decide +kernel
theorem dL_law_550 : decode cL_law 550 = .ok (.invokevirtual 80, 3) := by decide +kernel
theorem dL_law_553 : decode cL_law 553 = .ok (.aload_n 2, 1) := by decide +kernel
theorem dL_law_554 : decode cL_law 554 = .ok (.aload_n 0, 1) := by decide +kernel
theorem dL_law_555 : decode cL_law 555 = .ok (.iload_n 3, 1) := by decide +kernel
theorem dL_law_556 : decode cL_law 556 = .ok (.iconst 1, 1) := by decide +kernel
theorem dL_law_557 : decode cL_law 557 = .ok (.iadd, 1) := by decide +kernel
theorem dL_law_558 : decode cL_law 558 = .ok (.iaload, 1) := by decide +kernel
theorem dL_law_559 : decode cL_law 559 = .ok (.invokevirtual 83, 3) := by decide +kernel
theorem dL_law_562 : decode cL_law 562 = .ok (.if_icmp .eq 111, 3) := by decide +kernel
theorem dL_law_565 : decode cL_law 565 = .ok (.iconst 0, 1) := by decide +kernel
theorem dL_law_566 : decode cL_law 566 = .ok (.ireturn, 1) := by decide +kernel
theorem dL_law_567 : decode cL_law 567 = .ok (.aload_n 1, 1) := by decide +kernel
theorem dL_law_568 : decode cL_law 568 = .ok (.aload_n 0, 1) := by decide +kernel
theorem dL_law_569 : decode cL_law 569 = .ok (.iload_n 3, 1) := by decide +kernel
theorem dL_law_570 : decode cL_law 570 = .ok (.iconst 1, 1) := by decide +kernel
theorem dL_law_571 : decode cL_law 571 = .ok (.iadd, 1) := by decide +kernel
theorem dL_law_572 : decode cL_law 572 = .ok (.iaload, 1) := by decide +kernel
theorem dL_law_573 : decode cL_law 573 = .ok (.aload_n 0, 1) := by decide +kernel
theorem dL_law_574 : decode cL_law 574 = .ok (.iload_n 3, 1) := by decide +kernel
theorem dL_law_575 : decode cL_law 575 = .ok (.iconst 2, 1) := by decide +kernel
theorem dL_law_576 : decode cL_law 576 = .ok (.iadd, 1) := by decide +kernel
theorem dL_law_577 : decode cL_law 577 = .ok (.iaload, 1) := by decide +kernel
theorem dL_law_578 : decode cL_law 578 = .ok (.aload_n 0, 1) := by decide +kernel
theorem dL_law_579 : decode cL_law 579 = .ok (.iload_n 3, 1) := by decide +kernel
theorem dL_law_580 : decode cL_law 580 = .ok (.iconst 3, 1) := by decide +kernel
theorem dL_law_581 : decode cL_law 581 = .ok (.iadd, 1) := by decide +kernel
theorem dL_law_582 : decode cL_law 582 = .ok (.iaload, 1) := by decide +kernel
theorem dL_law_583 : decode cL_law 583 = .ok (.invokevirtual 84, 3) := by decide +kernel
theorem dL_law_586 : decode cL_law 586 = .ok (.aload_n 2, 1) := by decide +kernel
theorem dL_law_587 : decode cL_law 587 = .ok (.aload_n 0, 1) := by decide +kernel
theorem dL_law_588 : decode cL_law 588 = .ok (.iload_n 3, 1) := by decide +kernel
theorem dL_law_589 : decode cL_law 589 = .ok (.iconst 1, 1) := by decide +kernel
theorem dL_law_590 : decode cL_law 590 = .ok (.iadd, 1) := by decide +kernel
theorem dL_law_591 : decode cL_law 591 = .ok (.iaload, 1) := by decide +kernel
theorem dL_law_592 : decode cL_law 592 = .ok (.aload_n 0, 1) := by decide +kernel
theorem dL_law_593 : decode cL_law 593 = .ok (.iload_n 3, 1) := by decide +kernel
theorem dL_law_594 : decode cL_law 594 = .ok (.iconst 2, 1) := by decide +kernel
theorem dL_law_595 : decode cL_law 595 = .ok (.iadd, 1) := by decide +kernel
theorem dL_law_596 : decode cL_law 596 = .ok (.iaload, 1) := by decide +kernel
theorem dL_law_597 : decode cL_law 597 = .ok (.aload_n 0, 1) := by decide +kernel
theorem dL_law_598 : decode cL_law 598 = .ok (.iload_n 3, 1) := by decide +kernel
theorem dL_law_599 : decode cL_law 599 = .ok (.iconst 3, 1) := by decide +kernel
theorem dL_law_600 : decode cL_law 600 = .ok (.iadd, 1) := by decide +kernel
theorem dL_law_601 : decode cL_law 601 = .ok (.iaload, 1) := by decide +kernel
theorem dL_law_602 : decode cL_law 602 = .ok (.invokevirtual 88, 3) := by decide +kernel
theorem dL_law_605 : decode cL_law 605 = .ok (.if_icmp .eq 68, 3) := by decide +kernel
theorem dL_law_608 : decode cL_law 608 = .ok (.iconst 0, 1) := by decide +kernel
theorem dL_law_609 : decode cL_law 609 = .ok (.ireturn, 1) := by decide +kernel
theorem dL_law_610 : decode cL_law 610 = .ok (.aload_n 1, 1) := by decide +kernel
theorem dL_law_611 : decode cL_law 611 = .ok (.invokevirtual 89, 3) := by decide +kernel
theorem dL_law_614 : decode cL_law 614 = .ok (.aload_n 2, 1) := by decide +kernel
theorem dL_law_615 : decode cL_law 615 = .ok (.invokevirtual 92, 3) := by decide +kernel
theorem dL_law_618 : decode cL_law 618 = .ok (.if_icmp .eq 55, 3) := by decide +kernel
theorem dL_law_621 : decode cL_law 621 = .ok (.iconst 0, 1) := by decide +kernel
theorem dL_law_622 : decode cL_law 622 = .ok (.ireturn, 1) := by decide +kernel
theorem dL_law_623 : decode cL_law 623 = .ok (.aload_n 1, 1) := by decide +kernel
theorem dL_law_624 : decode cL_law 624 = .ok (.invokevirtual 93, 3) := by decide +kernel
theorem dL_law_627 : decode cL_law 627 = .ok (.aload_n 2, 1) := by decide +kernel
theorem dL_law_628 : decode cL_law 628 = .ok (.invokevirtual 96, 3) := by decide +kernel
theorem dL_law_631 : decode cL_law 631 = .ok (.if_icmp .eq 42, 3) := by decide +kernel
theorem dL_law_634 : decode cL_law 634 = .ok (.iconst 0, 1) := by decide +kernel
theorem dL_law_635 : decode cL_law 635 = .ok (.ireturn, 1) := by decide +kernel
theorem dL_law_636 : decode cL_law 636 = .ok (.aload_n 1, 1) := by decide +kernel
theorem dL_law_637 : decode cL_law 637 = .ok (.aload_n 0, 1) := by decide +kernel
theorem dL_law_638 : decode cL_law 638 = .ok (.iload_n 3, 1) := by decide +kernel
theorem dL_law_639 : decode cL_law 639 = .ok (.iconst 1, 1) := by decide +kernel
theorem dL_law_640 : decode cL_law 640 = .ok (.iadd, 1) := by decide +kernel
theorem dL_law_641 : decode cL_law 641 = .ok (.iaload, 1) := by decide +kernel
theorem dL_law_642 : decode cL_law 642 = .ok (.invokevirtual 97, 3) := by decide +kernel
theorem dL_law_645 : decode cL_law 645 = .ok (.aload_n 2, 1) := by decide +kernel
theorem dL_law_646 : decode cL_law 646 = .ok (.aload_n 0, 1) := by decide +kernel
theorem dL_law_647 : decode cL_law 647 = .ok (.iload_n 3, 1) := by decide +kernel
theorem dL_law_648 : decode cL_law 648 = .ok (.iconst 1, 1) := by decide +kernel
theorem dL_law_649 : decode cL_law 649 = .ok (.iadd, 1) := by decide +kernel
theorem dL_law_650 : decode cL_law 650 = .ok (.iaload, 1) := by decide +kernel
theorem dL_law_651 : decode cL_law 651 = .ok (.invokevirtual 100, 3) := by decide +kernel
theorem dL_law_654 : decode cL_law 654 = .ok (.if_icmp .eq 19, 3) := by decide +kernel
theorem dL_law_657 : decode cL_law 657 = .ok (.iconst 0, 1) := by decide +kernel
theorem dL_law_658 : decode cL_law 658 = .ok (.ireturn, 1) := by decide +kernel
theorem dL_law_659 : decode cL_law 659 = .ok (.aload_n 1, 1) := by decide +kernel
theorem dL_law_660 : decode cL_law 660 = .ok (.invokevirtual 101, 3) := by decide +kernel
theorem dL_law_663 : decode cL_law 663 = .ok (.aload_n 2, 1) := by decide +kernel
theorem dL_law_664 : decode cL_law 664 = .ok (.invokevirtual 105, 3) := by decide +kernel
theorem dL_law_667 : decode cL_law 667 = .ok (.lcmp, 1) := by decide +kernel
theorem dL_law_668 : decode cL_law 668 = .ok (.ifCond .eq 5, 3) := by decide +kernel
theorem dL_law_671 : decode cL_law 671 = .ok (.iconst 0, 1) := by decide +kernel
theorem dL_law_672 : decode cL_law 672 = .ok (.ireturn, 1) := by decide +kernel
theorem dL_law_673 : decode cL_law 673 = .ok (.iinc 3 4, 3) := by decide +kernel
theorem dL_law_676 : decode cL_law 676 = .ok (.goto (-658), 3) := by decide +kernel
theorem dL_law_679 : decode cL_law 679 = .ok (.iconst 1, 1) := by decide +kernel
theorem dL_law_680 : decode cL_law 680 = .ok (.ireturn, 1) := by decide +kernel
end
