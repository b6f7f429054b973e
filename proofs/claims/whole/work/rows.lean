section
-- ===== PART A: goes FIRST, ahead of the names: the tables' words, and 'selects' of the private methods out of them =====
/-- a private method of a class that the tables say can be made, by its rows of tables_1 -/
def lw_okq (q : MethodName × Nat) : Prop := (q.1.cls ≠ "java/lang/invoke/MethodHandle" ∧ q.1.cls ≠ "java/lang/invoke/VarHandle") ∧ Cond.instantiable q.1.cls q.2 ∈ tables_1 ∧ Cond.privateMethod q.1 ∈ tables_1 ∧ Cond.instanceMethod q.1 ∈ tables_1
theorem lw_p0 : lw_okq (⟨"DockGates", "failed", "(I)I"⟩, 6) := ⟨⟨by decide +kernel, by decide +kernel⟩, List.mem_of_getElem? (i := 5) (by decide +kernel), List.mem_of_getElem? (i := 102) (by decide +kernel), List.mem_of_getElem? (i := 103) (by decide +kernel)⟩
theorem lw_p1 : lw_okq (⟨"DockGates", "broughtThrough", "(II)LDockGates$Thing;"⟩, 6) := ⟨⟨by decide +kernel, by decide +kernel⟩, List.mem_of_getElem? (i := 5) (by decide +kernel), List.mem_of_getElem? (i := 106) (by decide +kernel), List.mem_of_getElem? (i := 107) (by decide +kernel)⟩
theorem lw_p2 : lw_okq (⟨"DockGates", "failedAtGate", "(II)I"⟩, 6) := ⟨⟨by decide +kernel, by decide +kernel⟩, List.mem_of_getElem? (i := 5) (by decide +kernel), List.mem_of_getElem? (i := 110) (by decide +kernel), List.mem_of_getElem? (i := 111) (by decide +kernel)⟩
theorem lw_p3 : lw_okq (⟨"DockGates", "turnBack", "(II)V"⟩, 6) := ⟨⟨by decide +kernel, by decide +kernel⟩, List.mem_of_getElem? (i := 5) (by decide +kernel), List.mem_of_getElem? (i := 114) (by decide +kernel), List.mem_of_getElem? (i := 115) (by decide +kernel)⟩
theorem lw_p4 : lw_okq (⟨"DockGates", "rowOfNumbers", "(I)LDockGates$Thing;"⟩, 6) := ⟨⟨by decide +kernel, by decide +kernel⟩, List.mem_of_getElem? (i := 5) (by decide +kernel), List.mem_of_getElem? (i := 153) (by decide +kernel), List.mem_of_getElem? (i := 154) (by decide +kernel)⟩
theorem lw_p5 : lw_okq (⟨"DockGates", "rowOfThings", "(I)LDockGates$Thing;"⟩, 6) := ⟨⟨by decide +kernel, by decide +kernel⟩, List.mem_of_getElem? (i := 5) (by decide +kernel), List.mem_of_getElem? (i := 168) (by decide +kernel), List.mem_of_getElem? (i := 169) (by decide +kernel)⟩
theorem lw_p6 : lw_okq (⟨"DockGatesModel", "fitsAt", "(II)Z"⟩, 10) := ⟨⟨by decide +kernel, by decide +kernel⟩, List.mem_of_getElem? (i := 221) (by decide +kernel), List.mem_of_getElem? (i := 279) (by decide +kernel), List.mem_of_getElem? (i := 280) (by decide +kernel)⟩
theorem lw_p7 : lw_okq (⟨"DockGatesModel", "fails", "(I)I"⟩, 10) := ⟨⟨by decide +kernel, by decide +kernel⟩, List.mem_of_getElem? (i := 221) (by decide +kernel), List.mem_of_getElem? (i := 290) (by decide +kernel), List.mem_of_getElem? (i := 291) (by decide +kernel)⟩
theorem lw_p8 : lw_okq (⟨"DockGatesModel", "turns", "(II)I"⟩, 10) := ⟨⟨by decide +kernel, by decide +kernel⟩, List.mem_of_getElem? (i := 221) (by decide +kernel), List.mem_of_getElem? (i := 294) (by decide +kernel), List.mem_of_getElem? (i := 295) (by decide +kernel)⟩
theorem lw_p9 : lw_okq (⟨"DockGatesModel", "turn", "(II)V"⟩, 10) := ⟨⟨by decide +kernel, by decide +kernel⟩, List.mem_of_getElem? (i := 221) (by decide +kernel), List.mem_of_getElem? (i := 298) (by decide +kernel), List.mem_of_getElem? (i := 299) (by decide +kernel)⟩
theorem lw_p10 : lw_okq (⟨"DockGatesModel", "toldBy", "(II)J"⟩, 10) := ⟨⟨by decide +kernel, by decide +kernel⟩, List.mem_of_getElem? (i := 221) (by decide +kernel), List.mem_of_getElem? (i := 302) (by decide +kernel), List.mem_of_getElem? (i := 303) (by decide +kernel)⟩
theorem lw_p11 : lw_okq (⟨"DockGatesModel", "sumOf", "(I)J"⟩, 10) := ⟨⟨by decide +kernel, by decide +kernel⟩, List.mem_of_getElem? (i := 221) (by decide +kernel), List.mem_of_getElem? (i := 306) (by decide +kernel), List.mem_of_getElem? (i := 307) (by decide +kernel)⟩
theorem lw_p12 : lw_okq (⟨"DockGatesModel", "rowsOf", "(II)I"⟩, 10) := ⟨⟨by decide +kernel, by decide +kernel⟩, List.mem_of_getElem? (i := 221) (by decide +kernel), List.mem_of_getElem? (i := 310) (by decide +kernel), List.mem_of_getElem? (i := 311) (by decide +kernel)⟩
theorem lw_p13 : lw_okq (⟨"DockGatesModel", "insideOf", "(IZ)I"⟩, 10) := ⟨⟨by decide +kernel, by decide +kernel⟩, List.mem_of_getElem? (i := 221) (by decide +kernel), List.mem_of_getElem? (i := 314) (by decide +kernel), List.mem_of_getElem? (i := 315) (by decide +kernel)⟩
theorem lw_p14 : lw_okq (⟨"DockGatesModel", "weighs", "(I)I"⟩, 10) := ⟨⟨by decide +kernel, by decide +kernel⟩, List.mem_of_getElem? (i := 221) (by decide +kernel), List.mem_of_getElem? (i := 318) (by decide +kernel), List.mem_of_getElem? (i := 319) (by decide +kernel)⟩
theorem lw_p15 : lw_okq (⟨"DockGatesModel", "bad", "()I"⟩, 10) := ⟨⟨by decide +kernel, by decide +kernel⟩, List.mem_of_getElem? (i := 221) (by decide +kernel), List.mem_of_getElem? (i := 326) (by decide +kernel), List.mem_of_getElem? (i := 327) (by decide +kernel)⟩
def lw_privs_1 : List (MethodName × Nat) := [(⟨"DockGates", "failed", "(I)I"⟩, 6), (⟨"DockGates", "broughtThrough", "(II)LDockGates$Thing;"⟩, 6), (⟨"DockGates", "failedAtGate", "(II)I"⟩, 6), (⟨"DockGates", "turnBack", "(II)V"⟩, 6), (⟨"DockGates", "rowOfNumbers", "(I)LDockGates$Thing;"⟩, 6), (⟨"DockGates", "rowOfThings", "(I)LDockGates$Thing;"⟩, 6), (⟨"DockGatesModel", "fitsAt", "(II)Z"⟩, 10), (⟨"DockGatesModel", "fails", "(I)I"⟩, 10), (⟨"DockGatesModel", "turns", "(II)I"⟩, 10), (⟨"DockGatesModel", "turn", "(II)V"⟩, 10), (⟨"DockGatesModel", "toldBy", "(II)J"⟩, 10), (⟨"DockGatesModel", "sumOf", "(I)J"⟩, 10), (⟨"DockGatesModel", "rowsOf", "(II)I"⟩, 10), (⟨"DockGatesModel", "insideOf", "(IZ)I"⟩, 10), (⟨"DockGatesModel", "weighs", "(I)I"⟩, 10), (⟨"DockGatesModel", "bad", "()I"⟩, 10)]
theorem lw_r1 : ∀ q ∈ lw_privs_1, lw_okq q := List.forall_mem_cons.mpr ⟨lw_p0, List.forall_mem_cons.mpr ⟨lw_p1, List.forall_mem_cons.mpr ⟨lw_p2, List.forall_mem_cons.mpr ⟨lw_p3, List.forall_mem_cons.mpr ⟨lw_p4, List.forall_mem_cons.mpr ⟨lw_p5, List.forall_mem_cons.mpr ⟨lw_p6, List.forall_mem_cons.mpr ⟨lw_p7, List.forall_mem_cons.mpr ⟨lw_p8, List.forall_mem_cons.mpr ⟨lw_p9, List.forall_mem_cons.mpr ⟨lw_p10, List.forall_mem_cons.mpr ⟨lw_p11, List.forall_mem_cons.mpr ⟨lw_p12, List.forall_mem_cons.mpr ⟨lw_p13, List.forall_mem_cons.mpr ⟨lw_p14, List.forall_mem_cons.mpr ⟨lw_p15, fun _ h => absurd h List.not_mem_nil⟩⟩⟩⟩⟩⟩⟩⟩⟩⟩⟩⟩⟩⟩⟩⟩
theorem lw_p16 : lw_okq (⟨"DockGatesModel", "isNumberAt", "(II)Z"⟩, 10) := ⟨⟨by decide +kernel, by decide +kernel⟩, List.mem_of_getElem? (i := 221) (by decide +kernel), List.mem_of_getElem? (i := 334) (by decide +kernel), List.mem_of_getElem? (i := 335) (by decide +kernel)⟩
theorem lw_p17 : lw_okq (⟨"DockGatesModel", "isLetThrough", "(II)Z"⟩, 10) := ⟨⟨by decide +kernel, by decide +kernel⟩, List.mem_of_getElem? (i := 221) (by decide +kernel), List.mem_of_getElem? (i := 365) (by decide +kernel), List.mem_of_getElem? (i := 366) (by decide +kernel)⟩
def lw_privs_2 : List (MethodName × Nat) := [(⟨"DockGatesModel", "isNumberAt", "(II)Z"⟩, 10), (⟨"DockGatesModel", "isLetThrough", "(II)Z"⟩, 10)]
theorem lw_r2 : ∀ q ∈ lw_privs_2, lw_okq q := List.forall_mem_cons.mpr ⟨lw_p16, List.forall_mem_cons.mpr ⟨lw_p17, fun _ h => absurd h List.not_mem_nil⟩⟩
def lw_privs : List (MethodName × Nat) := lw_privs_1 ++ (lw_privs_2)
def lw_tbl : List Cond := k2_sels lw_privs ++ tables_1
theorem lw_privs_ok : ∀ q ∈ lw_privs, lw_okq q := by
  show ∀ q ∈ lw_privs_1 ++ (lw_privs_2), lw_okq q
  exact List.forall_mem_append.mpr ⟨lw_r1, lw_r2⟩
/-! ===== BEGIN words of one list among another's, by their places ===== -/
theorem goodIn_r {big : List Cond} (ws : List Cond) (ps : List Nat) (hp : ws = ps.filterMap (fun i => big[i]?)) (h : ws.all goodWord = true) : GoodIn big ws := by
  intro w hw
  have h1 := List.all_eq_true.mp h w hw
  rw [hp] at hw
  obtain ⟨i, -, hi⟩ := List.mem_filterMap.mp hw
  have hm : w ∈ big := by first | exact List.mem_of_getElem? hi | exact List.getElem?_mem hi
  exact ⟨hm, good_of_word h1⟩
theorem goodIn_app {big a b : List Cond} (ha : GoodIn big a) (hb : GoodIn big b) : GoodIn big (a ++ b) := fun w h => (List.mem_append.mp h).elim (ha w) (hb w)
theorem goodIn_ca {big a b : List Cond} {c : Cond} (ha : GoodIn big (c :: a)) (hb : GoodIn big b) : GoodIn big (c :: (a ++ b)) := fun w h => (List.mem_cons.mp h).elim (fun e => ha w (List.mem_cons.mpr (Or.inl e))) (fun h => (List.mem_append.mp h).elim (fun h => ha w (List.mem_cons.mpr (Or.inr h))) (hb w))
theorem goodIn_sub {big ws : List Cond} (hm : ∀ w ∈ ws, w ∈ big) (h : ws.all goodWord = true) : GoodIn big ws := fun w hw => ⟨hm w hw, good_of_word (List.all_eq_true.mp h w hw)⟩
/-! ===== END ===== -/

/-! ===== BEGIN printed: names, fields, word lists, decode rows ===== -/
def RX0 : String := "DockGates$Thing"
def TX0 : u_T := fun k => match k with
  | 0 => ("DockGates$Thing", "number", "I", true)
  | 1 => ("DockGates$Thing", "kind", "I", true)
  | 2 => ("DockGates$Thing", "numbers", "[J", true)
  | 3 => ("DockGates$Thing", "parts", "[LDockGates$Thing;", true)
  | 4 => ("DockGates$Thing", "amount", "I", false)
  | _ => ("DockGates$Thing", "shut", "Z", false)
def tyX0 : Nat → FieldType := fun k => match k with
  | 0 => .int
  | 1 => .int
  | 2 => .array .long
  | 3 => .array (.object "DockGates$Thing")
  | 4 => .int
  | _ => .boolean
abbrev wsX00 : List Cond := u_ws RX0 TX0 6
theorem nmX0 : ∀ a, a < 6 → ∀ b, b < 6 → a ≠ b → (TX0 a).2.1 ≠ (TX0 b).2.1 := by decide +kernel
theorem tyX0_ok : ∀ k, k < 6 → parseFieldDescriptor (TX0 k).2.2.1 = some (tyX0 k) := by decide +kernel
abbrev cX0_init : ByteArray := prog_2_method_1_code
def yX0_init : MethodName := ⟨RX0, "<init>", "(III)V"⟩
def RX1 : String := "DockGates"
def TX1 : u_T := fun k => match k with
  | 0 => ("DockGates", "slots", "[LDockGates$Thing;", true)
  | 1 => ("DockGates", "made", "I", false)
  | 2 => ("DockGates", "latestFault", "I", false)
  | 3 => ("DockGates", "turns", "I", false)
  | 4 => ("DockGates", "turnedSlot", "I", false)
  | _ => ("DockGates", "turnedGate", "I", false)
def tyX1 : Nat → FieldType := fun k => match k with
  | 0 => .array (.object "DockGates$Thing")
  | 1 => .int
  | 2 => .int
  | 3 => .int
  | 4 => .int
  | _ => .int
abbrev wsX10 : List Cond := u_ws RX1 TX1 6
theorem nmX1 : ∀ a, a < 6 → ∀ b, b < 6 → a ≠ b → (TX1 a).2.1 ≠ (TX1 b).2.1 := by decide +kernel
theorem tyX1_ok : ∀ k, k < 6 → parseFieldDescriptor (TX1 k).2.2.1 = some (tyX1 k) := by decide +kernel
abbrev cX1_init : ByteArray := prog_1_method_1_code
def yX1_init : MethodName := ⟨RX1, "<init>", "()V"⟩
abbrev cX1_make : ByteArray := prog_1_method_2_code
def yX1_make : MethodName := ⟨RX1, "make", "(III)I"⟩
abbrev cX1_fits : ByteArray := prog_1_method_3_code
def yX1_fits : MethodName := ⟨RX1, "fits", "(II)I"⟩
abbrev cX1_pass : ByteArray := prog_1_method_4_code
def yX1_pass : MethodName := ⟨RX1, "pass", "(II)J"⟩
abbrev cX1_seek : ByteArray := prog_1_method_5_code
def yX1_seek : MethodName := ⟨RX1, "seek", "(III)I"⟩
abbrev cX1_put : ByteArray := prog_1_method_6_code
def yX1_put : MethodName := ⟨RX1, "put", "(IIJ)I"⟩
abbrev cX1_get : ByteArray := prog_1_method_7_code
def yX1_get : MethodName := ⟨RX1, "get", "(II)J"⟩
abbrev cX1_lay : ByteArray := prog_1_method_8_code
def yX1_lay : MethodName := ⟨RX1, "lay", "(III)I"⟩
abbrev cX1_take : ByteArray := prog_1_method_9_code
def yX1_take : MethodName := ⟨RX1, "take", "(III)I"⟩
abbrev cX1_share : ByteArray := prog_1_method_10_code
def yX1_share : MethodName := ⟨RX1, "share", "(II)I"⟩
abbrev cX1_empty : ByteArray := prog_1_method_11_code
def yX1_empty : MethodName := ⟨RX1, "empty", "(I)I"⟩
abbrev cX1_lid : ByteArray := prog_1_method_12_code
def yX1_lid : MethodName := ⟨RX1, "lid", "(IZ)I"⟩
abbrev cX1_weigh : ByteArray := prog_1_method_13_code
def yX1_weigh : MethodName := ⟨RX1, "weigh", "(II)I"⟩
abbrev cX1_size : ByteArray := prog_1_method_14_code
def yX1_size : MethodName := ⟨RX1, "size", "(I)I"⟩
abbrev cX1_at : ByteArray := prog_1_method_15_code
def yX1_at : MethodName := ⟨RX1, "at", "(I)I"⟩
abbrev cX1_fault : ByteArray := prog_1_method_16_code
def yX1_fault : MethodName := ⟨RX1, "fault", "()I"⟩
abbrev cX1_told : ByteArray := prog_1_method_17_code
def yX1_told : MethodName := ⟨RX1, "told", "(I)I"⟩
abbrev cX1_count : ByteArray := prog_1_method_18_code
def yX1_count : MethodName := ⟨RX1, "count", "()I"⟩
abbrev cX1_broughtThrough : ByteArray := prog_1_method_19_code
def yX1_broughtThrough : MethodName := ⟨RX1, "broughtThrough", "(II)LDockGates$Thing;"⟩
abbrev cX1_rowOfNumbers : ByteArray := prog_1_method_20_code
def yX1_rowOfNumbers : MethodName := ⟨RX1, "rowOfNumbers", "(I)LDockGates$Thing;"⟩
abbrev cX1_rowOfThings : ByteArray := prog_1_method_21_code
def yX1_rowOfThings : MethodName := ⟨RX1, "rowOfThings", "(I)LDockGates$Thing;"⟩
abbrev cX1_failed : ByteArray := prog_1_method_22_code
def yX1_failed : MethodName := ⟨RX1, "failed", "(I)I"⟩
abbrev cX1_failedAtGate : ByteArray := prog_1_method_23_code
def yX1_failedAtGate : MethodName := ⟨RX1, "failedAtGate", "(II)I"⟩
abbrev cX1_turnBack : ByteArray := prog_1_method_24_code
def yX1_turnBack : MethodName := ⟨RX1, "turnBack", "(II)V"⟩
abbrev cX1_isSlot : ByteArray := prog_1_method_25_code
def yX1_isSlot : MethodName := ⟨RX1, "isSlot", "(I)Z"⟩
abbrev cX1_isGate : ByteArray := prog_1_method_26_code
def yX1_isGate : MethodName := ⟨RX1, "isGate", "(I)Z"⟩
abbrev cX1_isKind : ByteArray := prog_1_method_27_code
def yX1_isKind : MethodName := ⟨RX1, "isKind", "(I)Z"⟩
abbrev cX1_holdsNumbers : ByteArray := prog_1_method_28_code
def yX1_holdsNumbers : MethodName := ⟨RX1, "holdsNumbers", "(I)Z"⟩
abbrev cX1_holdsThings : ByteArray := prog_1_method_29_code
def yX1_holdsThings : MethodName := ⟨RX1, "holdsThings", "(I)Z"⟩
abbrev cX1_mostOf : ByteArray := prog_1_method_30_code
def yX1_mostOf : MethodName := ⟨RX1, "mostOf", "(I)I"⟩
abbrev cX1_numberOf : ByteArray := prog_1_method_31_code
def yX1_numberOf : MethodName := ⟨RX1, "numberOf", "(LDockGates$Thing;)I"⟩
abbrev cX1_letsThrough : ByteArray := prog_1_method_32_code
def yX1_letsThrough : MethodName := ⟨RX1, "letsThrough", "(ILDockGates$Thing;)Z"⟩
abbrev cX1_gateOfLaying : ByteArray := prog_1_method_33_code
def yX1_gateOfLaying : MethodName := ⟨RX1, "gateOfLaying", "(I)I"⟩
abbrev cX1_gateOfPlaces : ByteArray := prog_1_method_34_code
def yX1_gateOfPlaces : MethodName := ⟨RX1, "gateOfPlaces", "(I)I"⟩
abbrev cX1_narrowed : ByteArray := prog_1_method_35_code
def yX1_narrowed : MethodName := ⟨RX1, "narrowed", "(IJ)J"⟩
abbrev cX1_hasHole : ByteArray := prog_1_method_36_code
def yX1_hasHole : MethodName := ⟨RX1, "hasHole", "(LDockGates$Thing;)Z"⟩
abbrev cX1_lacksPart : ByteArray := prog_1_method_37_code
def yX1_lacksPart : MethodName := ⟨RX1, "lacksPart", "(LDockGates$Thing;)Z"⟩
abbrev cX1_toldBy : ByteArray := prog_1_method_38_code
def yX1_toldBy : MethodName := ⟨RX1, "toldBy", "(LDockGates$Thing;I)J"⟩
abbrev cX1_toldByRows : ByteArray := prog_1_method_39_code
def yX1_toldByRows : MethodName := ⟨RX1, "toldByRows", "(LDockGates$Thing;I)J"⟩
abbrev cX1_toldByRow : ByteArray := prog_1_method_40_code
def yX1_toldByRow : MethodName := ⟨RX1, "toldByRow", "(LDockGates$Thing;I)J"⟩
abbrev cX1_sumOfNumbers : ByteArray := prog_1_method_41_code
def yX1_sumOfNumbers : MethodName := ⟨RX1, "sumOfNumbers", "(LDockGates$Thing;)J"⟩
abbrev cX1_toldByLoads : ByteArray := prog_1_method_42_code
def yX1_toldByLoads : MethodName := ⟨RX1, "toldByLoads", "(LDockGates$Thing;I)J"⟩
abbrev cX1_toldByLoad : ByteArray := prog_1_method_43_code
def yX1_toldByLoad : MethodName := ⟨RX1, "toldByLoad", "(LDockGates$Thing;I)I"⟩
abbrev cX1_lidOf : ByteArray := prog_1_method_44_code
def yX1_lidOf : MethodName := ⟨RX1, "lidOf", "(LDockGates$Thing;)I"⟩
def RX2 : String := "DockGatesModel"
def TX2 : u_T := fun k => match k with
  | 0 => ("DockGatesModel", "things", "I", false)
  | 1 => ("DockGatesModel", "kind", "[I", true)
  | 2 => ("DockGatesModel", "size", "[I", true)
  | 3 => ("DockGatesModel", "isShut", "[Z", true)
  | 4 => ("DockGatesModel", "cell", "[J", true)
  | 5 => ("DockGatesModel", "slots", "[I", true)
  | 6 => ("DockGatesModel", "fault", "I", false)
  | 7 => ("DockGatesModel", "turned", "I", false)
  | 8 => ("DockGatesModel", "turnedSlot", "I", false)
  | _ => ("DockGatesModel", "turnedGate", "I", false)
def tyX2 : Nat → FieldType := fun k => match k with
  | 0 => .int
  | 1 => .array .int
  | 2 => .array .int
  | 3 => .array .boolean
  | 4 => .array .long
  | 5 => .array .int
  | 6 => .int
  | 7 => .int
  | 8 => .int
  | _ => .int
abbrev wsX20 : List Cond := u_ws RX2 TX2 10
theorem nmX2 : ∀ a, a < 10 → ∀ b, b < 10 → a ≠ b → (TX2 a).2.1 ≠ (TX2 b).2.1 := by decide +kernel
theorem tyX2_ok : ∀ k, k < 10 → parseFieldDescriptor (TX2 k).2.2.1 = some (tyX2 k) := by decide +kernel
abbrev cX2_init : ByteArray := prog_4_method_1_code
def yX2_init : MethodName := ⟨RX2, "<init>", "()V"⟩
abbrev cX2_isIn : ByteArray := prog_4_method_2_code
def yX2_isIn : MethodName := ⟨RX2, "isIn", "(III)Z"⟩
abbrev cX2_isSlot : ByteArray := prog_4_method_3_code
def yX2_isSlot : MethodName := ⟨RX2, "isSlot", "(I)Z"⟩
abbrev cX2_goes : ByteArray := prog_4_method_4_code
def yX2_goes : MethodName := ⟨RX2, "goes", "(II)Z"⟩
abbrev cX2_fitsAt : ByteArray := prog_4_method_5_code
def yX2_fitsAt : MethodName := ⟨RX2, "fitsAt", "(II)Z"⟩
abbrev cX2_holdsThings : ByteArray := prog_4_method_6_code
def yX2_holdsThings : MethodName := ⟨RX2, "holdsThings", "(I)Z"⟩
abbrev cX2_fails : ByteArray := prog_4_method_7_code
def yX2_fails : MethodName := ⟨RX2, "fails", "(I)I"⟩
abbrev cX2_turn : ByteArray := prog_4_method_8_code
def yX2_turn : MethodName := ⟨RX2, "turn", "(II)V"⟩
abbrev cX2_turns : ByteArray := prog_4_method_9_code
def yX2_turns : MethodName := ⟨RX2, "turns", "(II)I"⟩
abbrev cX2_bad : ByteArray := prog_4_method_10_code
def yX2_bad : MethodName := ⟨RX2, "bad", "()I"⟩
abbrev cX2_make : ByteArray := prog_4_method_11_code
def yX2_make : MethodName := ⟨RX2, "make", "(III)I"⟩
abbrev cX2_fits : ByteArray := prog_4_method_12_code
def yX2_fits : MethodName := ⟨RX2, "fits", "(II)I"⟩
abbrev cX2_weighs : ByteArray := prog_4_method_13_code
def yX2_weighs : MethodName := ⟨RX2, "weighs", "(I)I"⟩
abbrev cX2_sumOf : ByteArray := prog_4_method_14_code
def yX2_sumOf : MethodName := ⟨RX2, "sumOf", "(I)J"⟩
abbrev cX2_insideOf : ByteArray := prog_4_method_15_code
def yX2_insideOf : MethodName := ⟨RX2, "insideOf", "(IZ)I"⟩
abbrev cX2_rowsOf : ByteArray := prog_4_method_16_code
def yX2_rowsOf : MethodName := ⟨RX2, "rowsOf", "(II)I"⟩
abbrev cX2_toldBy : ByteArray := prog_4_method_17_code
def yX2_toldBy : MethodName := ⟨RX2, "toldBy", "(II)J"⟩
abbrev cX2_pass : ByteArray := prog_4_method_18_code
def yX2_pass : MethodName := ⟨RX2, "pass", "(II)J"⟩
abbrev cX2_seek : ByteArray := prog_4_method_19_code
def yX2_seek : MethodName := ⟨RX2, "seek", "(III)I"⟩
abbrev cX2_isNumberAt : ByteArray := prog_4_method_20_code
def yX2_isNumberAt : MethodName := ⟨RX2, "isNumberAt", "(II)Z"⟩
abbrev cX2_put : ByteArray := prog_4_method_21_code
def yX2_put : MethodName := ⟨RX2, "put", "(IIJ)I"⟩
abbrev cX2_get : ByteArray := prog_4_method_22_code
def yX2_get : MethodName := ⟨RX2, "get", "(II)J"⟩
abbrev cX2_canHold : ByteArray := prog_4_method_23_code
def yX2_canHold : MethodName := ⟨RX2, "canHold", "(II)Z"⟩
abbrev cX2_lay : ByteArray := prog_4_method_24_code
def yX2_lay : MethodName := ⟨RX2, "lay", "(III)I"⟩
abbrev cX2_take : ByteArray := prog_4_method_25_code
def yX2_take : MethodName := ⟨RX2, "take", "(III)I"⟩
abbrev cX2_share : ByteArray := prog_4_method_26_code
def yX2_share : MethodName := ⟨RX2, "share", "(II)I"⟩
abbrev cX2_empty : ByteArray := prog_4_method_27_code
def yX2_empty : MethodName := ⟨RX2, "empty", "(I)I"⟩
abbrev cX2_isLetThrough : ByteArray := prog_4_method_28_code
def yX2_isLetThrough : MethodName := ⟨RX2, "isLetThrough", "(II)Z"⟩
abbrev cX2_lid : ByteArray := prog_4_method_29_code
def yX2_lid : MethodName := ⟨RX2, "lid", "(IZ)I"⟩
abbrev cX2_weigh : ByteArray := prog_4_method_30_code
def yX2_weigh : MethodName := ⟨RX2, "weigh", "(II)I"⟩
abbrev cX2_size : ByteArray := prog_4_method_31_code
def yX2_size : MethodName := ⟨RX2, "size", "(I)I"⟩
abbrev cX2_at : ByteArray := prog_4_method_32_code
def yX2_at : MethodName := ⟨RX2, "at", "(I)I"⟩
abbrev cX2_fault : ByteArray := prog_4_method_33_code
def yX2_fault : MethodName := ⟨RX2, "fault", "()I"⟩
abbrev cX2_told : ByteArray := prog_4_method_34_code
def yX2_told : MethodName := ⟨RX2, "told", "(I)I"⟩
abbrev cX2_count : ByteArray := prog_4_method_35_code
def yX2_count : MethodName := ⟨RX2, "count", "()I"⟩
def RL : String := "DockGatesLaw"
abbrev cL_law : ByteArray := code
def yL_law : MethodName := ⟨RL, "law", "([I)Z"⟩
def wsX1_holdsNumbers : List Cond := .code yX1_holdsNumbers cX1_holdsNumbers 1 (some .boolean) :: ([])
def wsX1_holdsThings : List Cond := .code yX1_holdsThings cX1_holdsThings 1 (some .boolean) :: ([])
def wsX0_init : List Cond := .code yX0_init cX0_init 6 none :: ([.methodLink RX0 1 objectInit, .instanceMethod objectInit, .code objectInit ⟨#[0xb1]⟩ 1 none, .fieldLink RX0 7 "DockGates$Thing" "number" "I", .fieldLink RX0 13 "DockGates$Thing" "kind" "I", .arrayClass .long, .fieldLink RX0 25 "DockGates$Thing" "numbers" "[J", .classLink RX0 8 RX0, .fieldLink RX0 29 "DockGates$Thing" "parts" "[LDockGates$Thing;", .fieldLink RX0 33 "DockGates$Thing" "amount" "I", .fieldLink RX0 36 "DockGates$Thing" "shut" "Z", .static yX1_holdsNumbers, .initialized RX1, .code yX1_holdsNumbers cX1_holdsNumbers 1 (some .boolean), .static yX1_holdsThings, .code yX1_holdsThings cX1_holdsThings 1 (some .boolean)] ++ wsX00)
def wsX1_init : List Cond := .code yX1_init cX1_init 1 none :: ([.methodLink RX1 1 objectInit, .instanceMethod objectInit, .code objectInit ⟨#[0xb1]⟩ 1 none, .classLink RX1 9 RX0, .fieldLink RX1 11 "DockGates" "slots" "[LDockGates$Thing;", .fieldLink RX1 15 "DockGates" "made" "I", .fieldLink RX1 19 "DockGates" "latestFault" "I", .fieldLink RX1 22 "DockGates" "turns" "I", .fieldLink RX1 25 "DockGates" "turnedSlot" "I", .fieldLink RX1 28 "DockGates" "turnedGate" "I"] ++ wsX10)
def wsX1_isKind : List Cond := .code yX1_isKind cX1_isKind 1 (some .boolean) :: ([])
def wsX1_isSlot : List Cond := .code yX1_isSlot cX1_isSlot 1 (some .boolean) :: ([])
def wsX1_mostOf : List Cond := .code yX1_mostOf cX1_mostOf 1 (some .int) :: ([.constant RX1 113 (1000000), .methodLink RX1 117 yX1_holdsNumbers, .static yX1_holdsNumbers, .initialized RX1, .code yX1_holdsNumbers cX1_holdsNumbers 1 (some .boolean), .methodLink RX1 120 yX1_holdsThings, .static yX1_holdsThings, .code yX1_holdsThings cX1_holdsThings 1 (some .boolean)])
def wsX1_make_r1 : List Cond := [Cond.fieldLink RX1 19 "DockGates" "latestFault" "I", Cond.fieldLink RX1 15 "DockGates" "made" "I", Cond.fieldLink RX1 11 "DockGates" "slots" "[LDockGates$Thing;", Cond.classLink RX1 9 RX0, Cond.instantiable RX0 6, Cond.initialized RX0, Cond.methodLink RX1 31 yX1_isKind, Cond.static yX1_isKind, Cond.initialized RX1, Cond.code yX1_isKind cX1_isKind 1 (some .boolean), Cond.methodLink RX1 35 yX1_isSlot, Cond.static yX1_isSlot, Cond.code yX1_isSlot cX1_isSlot 1 (some .boolean), Cond.methodLink RX1 38 yX1_mostOf, Cond.static yX1_mostOf, Cond.code yX1_mostOf cX1_mostOf 1 (some .int), Cond.constant RX1 113 (1000000), Cond.methodLink RX1 117 yX1_holdsNumbers, Cond.static yX1_holdsNumbers, Cond.code yX1_holdsNumbers cX1_holdsNumbers 1 (some .boolean), Cond.methodLink RX1 120 yX1_holdsThings, Cond.static yX1_holdsThings, Cond.code yX1_holdsThings cX1_holdsThings 1 (some .boolean), Cond.methodLink RX1 42 yX0_init]
def wsX1_make_r2 : List Cond := [Cond.instanceMethod yX0_init, Cond.code yX0_init cX0_init 6 none, Cond.methodLink RX0 1 objectInit, Cond.instanceMethod objectInit, Cond.code objectInit ⟨#[0xb1]⟩ 1 none, Cond.fieldLink RX0 7 "DockGates$Thing" "number" "I", Cond.fieldLink RX0 13 "DockGates$Thing" "kind" "I", Cond.arrayClass .long, Cond.fieldLink RX0 25 "DockGates$Thing" "numbers" "[J", Cond.classLink RX0 8 RX0, Cond.fieldLink RX0 29 "DockGates$Thing" "parts" "[LDockGates$Thing;", Cond.fieldLink RX0 33 "DockGates$Thing" "amount" "I", Cond.fieldLink RX0 36 "DockGates$Thing" "shut" "Z"]
def wsX1_make : List Cond := .code yX1_make cX1_make 5 (some .int) :: ((wsX1_make_r1 ++ wsX1_make_r2) ++ wsX10 ++ wsX00)
def wsX1_isGate : List Cond := .code yX1_isGate cX1_isGate 1 (some .boolean) :: ([])
def wsX1_letsThrough : List Cond := .code yX1_letsThrough cX1_letsThrough 3 (some .boolean) :: ([.fieldLink RX1 79 "DockGates$Thing" "kind" "I"] ++ wsX00)
def wsX1_fits : List Cond := .code yX1_fits cX1_fits 3 (some .int) :: ([.fieldLink RX1 19 "DockGates" "latestFault" "I", .fieldLink RX1 11 "DockGates" "slots" "[LDockGates$Thing;", .methodLink RX1 35 yX1_isSlot, .static yX1_isSlot, .initialized RX1, .code yX1_isSlot cX1_isSlot 1 (some .boolean), .methodLink RX1 45 yX1_isGate, .static yX1_isGate, .code yX1_isGate cX1_isGate 1 (some .boolean), .methodLink RX1 48 yX1_letsThrough, .static yX1_letsThrough, .code yX1_letsThrough cX1_letsThrough 3 (some .boolean), .fieldLink RX1 79 "DockGates$Thing" "kind" "I"] ++ wsX10 ++ wsX00)
def wsX1_failed : List Cond := .code yX1_failed cX1_failed 2 (some .int) :: ([.fieldLink RX1 19 "DockGates" "latestFault" "I"] ++ wsX10)
def wsX1_turnBack : List Cond := .code yX1_turnBack cX1_turnBack 3 none :: ([.fieldLink RX1 22 "DockGates" "turns" "I", .fieldLink RX1 25 "DockGates" "turnedSlot" "I", .fieldLink RX1 28 "DockGates" "turnedGate" "I"] ++ wsX10)
def wsX1_failedAtGate : List Cond := .code yX1_failedAtGate cX1_failedAtGate 3 (some .int) :: ([.methodLink RX1 67 yX1_turnBack, .instanceMethod yX1_turnBack, .selects RX1 yX1_turnBack yX1_turnBack, .initialized RX1, .code yX1_turnBack cX1_turnBack 3 none, .fieldLink RX1 22 "DockGates" "turns" "I", .fieldLink RX1 25 "DockGates" "turnedSlot" "I", .fieldLink RX1 28 "DockGates" "turnedGate" "I", .methodLink RX1 52 yX1_failed, .instanceMethod yX1_failed, .selects RX1 yX1_failed yX1_failed, .code yX1_failed cX1_failed 2 (some .int), .fieldLink RX1 19 "DockGates" "latestFault" "I"] ++ wsX10)
def wsX1_broughtThrough : List Cond := .code yX1_broughtThrough cX1_broughtThrough 4 (some (.object "DockGates$Thing")) :: ([.fieldLink RX1 11 "DockGates" "slots" "[LDockGates$Thing;", .methodLink RX1 52 yX1_failed, .instanceMethod yX1_failed, .selects RX1 yX1_failed yX1_failed, .initialized RX1, .code yX1_failed cX1_failed 2 (some .int), .fieldLink RX1 19 "DockGates" "latestFault" "I", .methodLink RX1 48 yX1_letsThrough, .static yX1_letsThrough, .code yX1_letsThrough cX1_letsThrough 3 (some .boolean), .fieldLink RX1 79 "DockGates$Thing" "kind" "I", .methodLink RX1 92 yX1_failedAtGate, .instanceMethod yX1_failedAtGate, .selects RX1 yX1_failedAtGate yX1_failedAtGate, .code yX1_failedAtGate cX1_failedAtGate 3 (some .int), .methodLink RX1 67 yX1_turnBack, .instanceMethod yX1_turnBack, .selects RX1 yX1_turnBack yX1_turnBack, .code yX1_turnBack cX1_turnBack 3 none, .fieldLink RX1 22 "DockGates" "turns" "I", .fieldLink RX1 25 "DockGates" "turnedSlot" "I", .fieldLink RX1 28 "DockGates" "turnedGate" "I"] ++ wsX10 ++ wsX00)
def wsX1_lacksPart : List Cond := .code yX1_lacksPart cX1_lacksPart 5 (some .boolean) :: ([.fieldLink RX1 96 "DockGates$Thing" "parts" "[LDockGates$Thing;"] ++ wsX00)
def wsX1_hasHole : List Cond := .code yX1_hasHole cX1_hasHole 5 (some .boolean) :: ([.fieldLink RX1 96 "DockGates$Thing" "parts" "[LDockGates$Thing;", .methodLink RX1 126 yX1_lacksPart, .static yX1_lacksPart, .initialized RX1, .code yX1_lacksPart cX1_lacksPart 5 (some .boolean)] ++ wsX00)
def wsX1_sumOfNumbers : List Cond := .code yX1_sumOfNumbers cX1_sumOfNumbers 8 (some .long) :: ([.fieldLink RX1 75 "DockGates$Thing" "numbers" "[J"] ++ wsX00)
def wsX1_lidOf : List Cond := .code yX1_lidOf cX1_lidOf 1 (some .int) :: ([.fieldLink RX1 109 "DockGates$Thing" "shut" "Z"] ++ wsX00)
def wsX1_toldByLoad : List Cond := .code yX1_toldByLoad cX1_toldByLoad 2 (some .int) :: ([.fieldLink RX1 79 "DockGates$Thing" "kind" "I", .fieldLink RX1 114 "DockGates$Thing" "amount" "I", .methodLink RX1 106 yX1_lidOf, .static yX1_lidOf, .initialized RX1, .code yX1_lidOf cX1_lidOf 1 (some .int), .fieldLink RX1 109 "DockGates$Thing" "shut" "Z"] ++ wsX00)
def wsX1_toldByLoads : List Cond := .code yX1_toldByLoads cX1_toldByLoads 8 (some .long) :: ([.fieldLink RX1 96 "DockGates$Thing" "parts" "[LDockGates$Thing;", .methodLink RX1 132 yX1_toldByLoad, .static yX1_toldByLoad, .initialized RX1, .code yX1_toldByLoad cX1_toldByLoad 2 (some .int), .fieldLink RX1 79 "DockGates$Thing" "kind" "I", .fieldLink RX1 114 "DockGates$Thing" "amount" "I", .methodLink RX1 106 yX1_lidOf, .static yX1_lidOf, .code yX1_lidOf cX1_lidOf 1 (some .int), .fieldLink RX1 109 "DockGates$Thing" "shut" "Z"] ++ wsX00)
def wsX1_toldByRow : List Cond := .code yX1_toldByRow cX1_toldByRow 2 (some .long) :: ([.methodLink RX1 139 yX1_sumOfNumbers, .static yX1_sumOfNumbers, .initialized RX1, .code yX1_sumOfNumbers cX1_sumOfNumbers 8 (some .long), .fieldLink RX1 75 "DockGates$Thing" "numbers" "[J", .methodLink RX1 143 yX1_toldByLoads, .static yX1_toldByLoads, .code yX1_toldByLoads cX1_toldByLoads 8 (some .long), .fieldLink RX1 96 "DockGates$Thing" "parts" "[LDockGates$Thing;", .methodLink RX1 132 yX1_toldByLoad, .static yX1_toldByLoad, .code yX1_toldByLoad cX1_toldByLoad 2 (some .int), .fieldLink RX1 79 "DockGates$Thing" "kind" "I", .fieldLink RX1 114 "DockGates$Thing" "amount" "I", .methodLink RX1 106 yX1_lidOf, .static yX1_lidOf, .code yX1_lidOf cX1_lidOf 1 (some .int), .fieldLink RX1 109 "DockGates$Thing" "shut" "Z"] ++ wsX00)
def wsX1_toldByRows : List Cond := .code yX1_toldByRows cX1_toldByRows 8 (some .long) :: ([.fieldLink RX1 96 "DockGates$Thing" "parts" "[LDockGates$Thing;", .methodLink RX1 136 yX1_toldByRow, .static yX1_toldByRow, .initialized RX1, .code yX1_toldByRow cX1_toldByRow 2 (some .long), .methodLink RX1 139 yX1_sumOfNumbers, .static yX1_sumOfNumbers, .code yX1_sumOfNumbers cX1_sumOfNumbers 8 (some .long), .fieldLink RX1 75 "DockGates$Thing" "numbers" "[J", .methodLink RX1 143 yX1_toldByLoads, .static yX1_toldByLoads, .code yX1_toldByLoads cX1_toldByLoads 8 (some .long), .methodLink RX1 132 yX1_toldByLoad, .static yX1_toldByLoad, .code yX1_toldByLoad cX1_toldByLoad 2 (some .int), .fieldLink RX1 79 "DockGates$Thing" "kind" "I", .fieldLink RX1 114 "DockGates$Thing" "amount" "I", .methodLink RX1 106 yX1_lidOf, .static yX1_lidOf, .code yX1_lidOf cX1_lidOf 1 (some .int), .fieldLink RX1 109 "DockGates$Thing" "shut" "Z"] ++ wsX00)
def wsX1_toldBy : List Cond := .code yX1_toldBy cX1_toldBy 2 (some .long) :: ([.methodLink RX1 129 yX1_toldByRows, .static yX1_toldByRows, .initialized RX1, .code yX1_toldByRows cX1_toldByRows 8 (some .long), .fieldLink RX1 96 "DockGates$Thing" "parts" "[LDockGates$Thing;", .methodLink RX1 136 yX1_toldByRow, .static yX1_toldByRow, .code yX1_toldByRow cX1_toldByRow 2 (some .long), .methodLink RX1 139 yX1_sumOfNumbers, .static yX1_sumOfNumbers, .code yX1_sumOfNumbers cX1_sumOfNumbers 8 (some .long), .fieldLink RX1 75 "DockGates$Thing" "numbers" "[J", .methodLink RX1 143 yX1_toldByLoads, .static yX1_toldByLoads, .code yX1_toldByLoads cX1_toldByLoads 8 (some .long), .methodLink RX1 132 yX1_toldByLoad, .static yX1_toldByLoad, .code yX1_toldByLoad cX1_toldByLoad 2 (some .int), .fieldLink RX1 79 "DockGates$Thing" "kind" "I", .fieldLink RX1 114 "DockGates$Thing" "amount" "I", .methodLink RX1 106 yX1_lidOf, .static yX1_lidOf, .code yX1_lidOf cX1_lidOf 1 (some .int), .fieldLink RX1 109 "DockGates$Thing" "shut" "Z"] ++ wsX00)
def wsX1_pass_r1 : List Cond := [Cond.fieldLink RX1 19 "DockGates" "latestFault" "I", Cond.methodLink RX1 35 yX1_isSlot, Cond.static yX1_isSlot, Cond.initialized RX1, Cond.code yX1_isSlot cX1_isSlot 1 (some .boolean), Cond.methodLink RX1 45 yX1_isGate, Cond.static yX1_isGate, Cond.code yX1_isGate cX1_isGate 1 (some .boolean), Cond.methodLink RX1 52 yX1_failed, Cond.instanceMethod yX1_failed, Cond.selects RX1 yX1_failed yX1_failed, Cond.code yX1_failed cX1_failed 2 (some .int), Cond.methodLink RX1 55 yX1_broughtThrough, Cond.instanceMethod yX1_broughtThrough, Cond.selects RX1 yX1_broughtThrough yX1_broughtThrough, Cond.code yX1_broughtThrough cX1_broughtThrough 4 (some (.object "DockGates$Thing")), Cond.fieldLink RX1 11 "DockGates" "slots" "[LDockGates$Thing;", Cond.methodLink RX1 48 yX1_letsThrough, Cond.static yX1_letsThrough, Cond.code yX1_letsThrough cX1_letsThrough 3 (some .boolean), Cond.fieldLink RX1 79 "DockGates$Thing" "kind" "I", Cond.methodLink RX1 92 yX1_failedAtGate, Cond.instanceMethod yX1_failedAtGate, Cond.selects RX1 yX1_failedAtGate yX1_failedAtGate]
def wsX1_pass_r2 : List Cond := [Cond.code yX1_failedAtGate cX1_failedAtGate 3 (some .int), Cond.methodLink RX1 67 yX1_turnBack, Cond.instanceMethod yX1_turnBack, Cond.selects RX1 yX1_turnBack yX1_turnBack, Cond.code yX1_turnBack cX1_turnBack 3 none, Cond.fieldLink RX1 22 "DockGates" "turns" "I", Cond.fieldLink RX1 25 "DockGates" "turnedSlot" "I", Cond.fieldLink RX1 28 "DockGates" "turnedGate" "I", Cond.methodLink RX1 59 yX1_hasHole, Cond.static yX1_hasHole, Cond.code yX1_hasHole cX1_hasHole 5 (some .boolean), Cond.fieldLink RX1 96 "DockGates$Thing" "parts" "[LDockGates$Thing;", Cond.methodLink RX1 126 yX1_lacksPart, Cond.static yX1_lacksPart, Cond.code yX1_lacksPart cX1_lacksPart 5 (some .boolean), Cond.methodLink RX1 63 yX1_toldBy, Cond.static yX1_toldBy, Cond.code yX1_toldBy cX1_toldBy 2 (some .long), Cond.methodLink RX1 129 yX1_toldByRows, Cond.static yX1_toldByRows, Cond.code yX1_toldByRows cX1_toldByRows 8 (some .long), Cond.methodLink RX1 136 yX1_toldByRow, Cond.static yX1_toldByRow, Cond.code yX1_toldByRow cX1_toldByRow 2 (some .long)]
def wsX1_pass_r3 : List Cond := [Cond.methodLink RX1 139 yX1_sumOfNumbers, Cond.static yX1_sumOfNumbers, Cond.code yX1_sumOfNumbers cX1_sumOfNumbers 8 (some .long), Cond.fieldLink RX1 75 "DockGates$Thing" "numbers" "[J", Cond.methodLink RX1 143 yX1_toldByLoads, Cond.static yX1_toldByLoads, Cond.code yX1_toldByLoads cX1_toldByLoads 8 (some .long), Cond.methodLink RX1 132 yX1_toldByLoad, Cond.static yX1_toldByLoad, Cond.code yX1_toldByLoad cX1_toldByLoad 2 (some .int), Cond.fieldLink RX1 114 "DockGates$Thing" "amount" "I", Cond.methodLink RX1 106 yX1_lidOf, Cond.static yX1_lidOf, Cond.code yX1_lidOf cX1_lidOf 1 (some .int), Cond.fieldLink RX1 109 "DockGates$Thing" "shut" "Z"]
def wsX1_pass : List Cond := .code yX1_pass cX1_pass 4 (some .long) :: ((wsX1_pass_r1 ++ (wsX1_pass_r2 ++ wsX1_pass_r3)) ++ wsX10 ++ wsX00)
def wsX1_seek : List Cond := .code yX1_seek cX1_seek 5 (some .int) :: ([.fieldLink RX1 19 "DockGates" "latestFault" "I", .fieldLink RX1 11 "DockGates" "slots" "[LDockGates$Thing;", .methodLink RX1 35 yX1_isSlot, .static yX1_isSlot, .initialized RX1, .code yX1_isSlot cX1_isSlot 1 (some .boolean), .methodLink RX1 45 yX1_isGate, .static yX1_isGate, .code yX1_isGate cX1_isGate 1 (some .boolean), .methodLink RX1 48 yX1_letsThrough, .static yX1_letsThrough, .code yX1_letsThrough cX1_letsThrough 3 (some .boolean), .fieldLink RX1 79 "DockGates$Thing" "kind" "I", .methodLink RX1 67 yX1_turnBack, .instanceMethod yX1_turnBack, .selects RX1 yX1_turnBack yX1_turnBack, .code yX1_turnBack cX1_turnBack 3 none, .fieldLink RX1 22 "DockGates" "turns" "I", .fieldLink RX1 25 "DockGates" "turnedSlot" "I", .fieldLink RX1 28 "DockGates" "turnedGate" "I"] ++ wsX10 ++ wsX00)
def wsX1_rowOfNumbers_r1 : List Cond := [Cond.fieldLink RX1 11 "DockGates" "slots" "[LDockGates$Thing;", Cond.fieldLink RX1 79 "DockGates$Thing" "kind" "I", Cond.methodLink RX1 117 yX1_holdsNumbers, Cond.static yX1_holdsNumbers, Cond.initialized RX1, Cond.code yX1_holdsNumbers cX1_holdsNumbers 1 (some .boolean), Cond.methodLink RX1 55 yX1_broughtThrough, Cond.instanceMethod yX1_broughtThrough, Cond.selects RX1 yX1_broughtThrough yX1_broughtThrough, Cond.code yX1_broughtThrough cX1_broughtThrough 4 (some (.object "DockGates$Thing")), Cond.methodLink RX1 52 yX1_failed, Cond.instanceMethod yX1_failed, Cond.selects RX1 yX1_failed yX1_failed, Cond.code yX1_failed cX1_failed 2 (some .int), Cond.fieldLink RX1 19 "DockGates" "latestFault" "I", Cond.methodLink RX1 48 yX1_letsThrough, Cond.static yX1_letsThrough, Cond.code yX1_letsThrough cX1_letsThrough 3 (some .boolean), Cond.methodLink RX1 92 yX1_failedAtGate, Cond.instanceMethod yX1_failedAtGate, Cond.selects RX1 yX1_failedAtGate yX1_failedAtGate, Cond.code yX1_failedAtGate cX1_failedAtGate 3 (some .int), Cond.methodLink RX1 67 yX1_turnBack, Cond.instanceMethod yX1_turnBack]
def wsX1_rowOfNumbers_r2 : List Cond := [Cond.selects RX1 yX1_turnBack yX1_turnBack, Cond.code yX1_turnBack cX1_turnBack 3 none, Cond.fieldLink RX1 22 "DockGates" "turns" "I", Cond.fieldLink RX1 25 "DockGates" "turnedSlot" "I", Cond.fieldLink RX1 28 "DockGates" "turnedGate" "I"]
def wsX1_rowOfNumbers : List Cond := .code yX1_rowOfNumbers cX1_rowOfNumbers 3 (some (.object "DockGates$Thing")) :: ((wsX1_rowOfNumbers_r1 ++ wsX1_rowOfNumbers_r2) ++ wsX10 ++ wsX00)
def wsX1_narrowed : List Cond := .code yX1_narrowed cX1_narrowed 3 (some .long) :: ([])
def wsX1_put_r1 : List Cond := [Cond.fieldLink RX1 19 "DockGates" "latestFault" "I", Cond.fieldLink RX1 75 "DockGates$Thing" "numbers" "[J", Cond.fieldLink RX1 79 "DockGates$Thing" "kind" "I", Cond.methodLink RX1 35 yX1_isSlot, Cond.static yX1_isSlot, Cond.initialized RX1, Cond.code yX1_isSlot cX1_isSlot 1 (some .boolean), Cond.methodLink RX1 71 yX1_rowOfNumbers, Cond.instanceMethod yX1_rowOfNumbers, Cond.selects RX1 yX1_rowOfNumbers yX1_rowOfNumbers, Cond.code yX1_rowOfNumbers cX1_rowOfNumbers 3 (some (.object "DockGates$Thing")), Cond.fieldLink RX1 11 "DockGates" "slots" "[LDockGates$Thing;", Cond.methodLink RX1 117 yX1_holdsNumbers, Cond.static yX1_holdsNumbers, Cond.code yX1_holdsNumbers cX1_holdsNumbers 1 (some .boolean), Cond.methodLink RX1 55 yX1_broughtThrough, Cond.instanceMethod yX1_broughtThrough, Cond.selects RX1 yX1_broughtThrough yX1_broughtThrough, Cond.code yX1_broughtThrough cX1_broughtThrough 4 (some (.object "DockGates$Thing")), Cond.methodLink RX1 52 yX1_failed, Cond.instanceMethod yX1_failed, Cond.selects RX1 yX1_failed yX1_failed, Cond.code yX1_failed cX1_failed 2 (some .int), Cond.methodLink RX1 48 yX1_letsThrough]
def wsX1_put_r2 : List Cond := [Cond.static yX1_letsThrough, Cond.code yX1_letsThrough cX1_letsThrough 3 (some .boolean), Cond.methodLink RX1 92 yX1_failedAtGate, Cond.instanceMethod yX1_failedAtGate, Cond.selects RX1 yX1_failedAtGate yX1_failedAtGate, Cond.code yX1_failedAtGate cX1_failedAtGate 3 (some .int), Cond.methodLink RX1 67 yX1_turnBack, Cond.instanceMethod yX1_turnBack, Cond.selects RX1 yX1_turnBack yX1_turnBack, Cond.code yX1_turnBack cX1_turnBack 3 none, Cond.fieldLink RX1 22 "DockGates" "turns" "I", Cond.fieldLink RX1 25 "DockGates" "turnedSlot" "I", Cond.fieldLink RX1 28 "DockGates" "turnedGate" "I", Cond.methodLink RX1 82 yX1_narrowed, Cond.static yX1_narrowed, Cond.code yX1_narrowed cX1_narrowed 3 (some .long)]
def wsX1_put : List Cond := .code yX1_put cX1_put 6 (some .int) :: ((wsX1_put_r1 ++ wsX1_put_r2) ++ wsX10 ++ wsX00)
def wsX1_get_r1 : List Cond := [Cond.fieldLink RX1 19 "DockGates" "latestFault" "I", Cond.fieldLink RX1 75 "DockGates$Thing" "numbers" "[J", Cond.methodLink RX1 35 yX1_isSlot, Cond.static yX1_isSlot, Cond.initialized RX1, Cond.code yX1_isSlot cX1_isSlot 1 (some .boolean), Cond.methodLink RX1 52 yX1_failed, Cond.instanceMethod yX1_failed, Cond.selects RX1 yX1_failed yX1_failed, Cond.code yX1_failed cX1_failed 2 (some .int), Cond.methodLink RX1 71 yX1_rowOfNumbers, Cond.instanceMethod yX1_rowOfNumbers, Cond.selects RX1 yX1_rowOfNumbers yX1_rowOfNumbers, Cond.code yX1_rowOfNumbers cX1_rowOfNumbers 3 (some (.object "DockGates$Thing")), Cond.fieldLink RX1 11 "DockGates" "slots" "[LDockGates$Thing;", Cond.fieldLink RX1 79 "DockGates$Thing" "kind" "I", Cond.methodLink RX1 117 yX1_holdsNumbers, Cond.static yX1_holdsNumbers, Cond.code yX1_holdsNumbers cX1_holdsNumbers 1 (some .boolean), Cond.methodLink RX1 55 yX1_broughtThrough, Cond.instanceMethod yX1_broughtThrough, Cond.selects RX1 yX1_broughtThrough yX1_broughtThrough, Cond.code yX1_broughtThrough cX1_broughtThrough 4 (some (.object "DockGates$Thing")), Cond.methodLink RX1 48 yX1_letsThrough]
def wsX1_get_r2 : List Cond := [Cond.static yX1_letsThrough, Cond.code yX1_letsThrough cX1_letsThrough 3 (some .boolean), Cond.methodLink RX1 92 yX1_failedAtGate, Cond.instanceMethod yX1_failedAtGate, Cond.selects RX1 yX1_failedAtGate yX1_failedAtGate, Cond.code yX1_failedAtGate cX1_failedAtGate 3 (some .int), Cond.methodLink RX1 67 yX1_turnBack, Cond.instanceMethod yX1_turnBack, Cond.selects RX1 yX1_turnBack yX1_turnBack, Cond.code yX1_turnBack cX1_turnBack 3 none, Cond.fieldLink RX1 22 "DockGates" "turns" "I", Cond.fieldLink RX1 25 "DockGates" "turnedSlot" "I", Cond.fieldLink RX1 28 "DockGates" "turnedGate" "I"]
def wsX1_get : List Cond := .code yX1_get cX1_get 4 (some .long) :: ((wsX1_get_r1 ++ wsX1_get_r2) ++ wsX10 ++ wsX00)
def wsX1_rowOfThings_r1 : List Cond := [Cond.fieldLink RX1 11 "DockGates" "slots" "[LDockGates$Thing;", Cond.fieldLink RX1 79 "DockGates$Thing" "kind" "I", Cond.methodLink RX1 120 yX1_holdsThings, Cond.static yX1_holdsThings, Cond.initialized RX1, Cond.code yX1_holdsThings cX1_holdsThings 1 (some .boolean), Cond.methodLink RX1 55 yX1_broughtThrough, Cond.instanceMethod yX1_broughtThrough, Cond.selects RX1 yX1_broughtThrough yX1_broughtThrough, Cond.code yX1_broughtThrough cX1_broughtThrough 4 (some (.object "DockGates$Thing")), Cond.methodLink RX1 52 yX1_failed, Cond.instanceMethod yX1_failed, Cond.selects RX1 yX1_failed yX1_failed, Cond.code yX1_failed cX1_failed 2 (some .int), Cond.fieldLink RX1 19 "DockGates" "latestFault" "I", Cond.methodLink RX1 48 yX1_letsThrough, Cond.static yX1_letsThrough, Cond.code yX1_letsThrough cX1_letsThrough 3 (some .boolean), Cond.methodLink RX1 92 yX1_failedAtGate, Cond.instanceMethod yX1_failedAtGate, Cond.selects RX1 yX1_failedAtGate yX1_failedAtGate, Cond.code yX1_failedAtGate cX1_failedAtGate 3 (some .int), Cond.methodLink RX1 67 yX1_turnBack, Cond.instanceMethod yX1_turnBack]
def wsX1_rowOfThings_r2 : List Cond := [Cond.selects RX1 yX1_turnBack yX1_turnBack, Cond.code yX1_turnBack cX1_turnBack 3 none, Cond.fieldLink RX1 22 "DockGates" "turns" "I", Cond.fieldLink RX1 25 "DockGates" "turnedSlot" "I", Cond.fieldLink RX1 28 "DockGates" "turnedGate" "I"]
def wsX1_rowOfThings : List Cond := .code yX1_rowOfThings cX1_rowOfThings 3 (some (.object "DockGates$Thing")) :: ((wsX1_rowOfThings_r1 ++ wsX1_rowOfThings_r2) ++ wsX10 ++ wsX00)
def wsX1_gateOfLaying : List Cond := .code yX1_gateOfLaying cX1_gateOfLaying 1 (some .int) :: ([])
def wsX1_gateOfPlaces : List Cond := .code yX1_gateOfPlaces cX1_gateOfPlaces 1 (some .int) :: ([.methodLink RX1 89 yX1_gateOfLaying, .static yX1_gateOfLaying, .initialized RX1, .code yX1_gateOfLaying cX1_gateOfLaying 1 (some .int)])
def wsX1_lay_r1 : List Cond := [Cond.fieldLink RX1 19 "DockGates" "latestFault" "I", Cond.fieldLink RX1 11 "DockGates" "slots" "[LDockGates$Thing;", Cond.fieldLink RX1 79 "DockGates$Thing" "kind" "I", Cond.fieldLink RX1 96 "DockGates$Thing" "parts" "[LDockGates$Thing;", Cond.methodLink RX1 35 yX1_isSlot, Cond.static yX1_isSlot, Cond.initialized RX1, Cond.code yX1_isSlot cX1_isSlot 1 (some .boolean), Cond.methodLink RX1 86 yX1_rowOfThings, Cond.instanceMethod yX1_rowOfThings, Cond.selects RX1 yX1_rowOfThings yX1_rowOfThings, Cond.code yX1_rowOfThings cX1_rowOfThings 3 (some (.object "DockGates$Thing")), Cond.methodLink RX1 120 yX1_holdsThings, Cond.static yX1_holdsThings, Cond.code yX1_holdsThings cX1_holdsThings 1 (some .boolean), Cond.methodLink RX1 55 yX1_broughtThrough, Cond.instanceMethod yX1_broughtThrough, Cond.selects RX1 yX1_broughtThrough yX1_broughtThrough, Cond.code yX1_broughtThrough cX1_broughtThrough 4 (some (.object "DockGates$Thing")), Cond.methodLink RX1 52 yX1_failed, Cond.instanceMethod yX1_failed, Cond.selects RX1 yX1_failed yX1_failed, Cond.code yX1_failed cX1_failed 2 (some .int), Cond.methodLink RX1 48 yX1_letsThrough]
def wsX1_lay_r2 : List Cond := [Cond.static yX1_letsThrough, Cond.code yX1_letsThrough cX1_letsThrough 3 (some .boolean), Cond.methodLink RX1 92 yX1_failedAtGate, Cond.instanceMethod yX1_failedAtGate, Cond.selects RX1 yX1_failedAtGate yX1_failedAtGate, Cond.code yX1_failedAtGate cX1_failedAtGate 3 (some .int), Cond.methodLink RX1 67 yX1_turnBack, Cond.instanceMethod yX1_turnBack, Cond.selects RX1 yX1_turnBack yX1_turnBack, Cond.code yX1_turnBack cX1_turnBack 3 none, Cond.fieldLink RX1 22 "DockGates" "turns" "I", Cond.fieldLink RX1 25 "DockGates" "turnedSlot" "I", Cond.fieldLink RX1 28 "DockGates" "turnedGate" "I", Cond.methodLink RX1 89 yX1_gateOfLaying, Cond.static yX1_gateOfLaying, Cond.code yX1_gateOfLaying cX1_gateOfLaying 1 (some .int), Cond.methodLink RX1 99 yX1_gateOfPlaces, Cond.static yX1_gateOfPlaces, Cond.code yX1_gateOfPlaces cX1_gateOfPlaces 1 (some .int)]
def wsX1_lay : List Cond := .code yX1_lay cX1_lay 7 (some .int) :: ((wsX1_lay_r1 ++ wsX1_lay_r2) ++ wsX10 ++ wsX00)
def wsX1_numberOf : List Cond := .code yX1_numberOf cX1_numberOf 1 (some .int) :: ([.fieldLink RX1 123 "DockGates$Thing" "number" "I"] ++ wsX00)
def wsX1_take_r1 : List Cond := [Cond.fieldLink RX1 19 "DockGates" "latestFault" "I", Cond.fieldLink RX1 96 "DockGates$Thing" "parts" "[LDockGates$Thing;", Cond.fieldLink RX1 11 "DockGates" "slots" "[LDockGates$Thing;", Cond.methodLink RX1 35 yX1_isSlot, Cond.static yX1_isSlot, Cond.initialized RX1, Cond.code yX1_isSlot cX1_isSlot 1 (some .boolean), Cond.methodLink RX1 86 yX1_rowOfThings, Cond.instanceMethod yX1_rowOfThings, Cond.selects RX1 yX1_rowOfThings yX1_rowOfThings, Cond.code yX1_rowOfThings cX1_rowOfThings 3 (some (.object "DockGates$Thing")), Cond.fieldLink RX1 79 "DockGates$Thing" "kind" "I", Cond.methodLink RX1 120 yX1_holdsThings, Cond.static yX1_holdsThings, Cond.code yX1_holdsThings cX1_holdsThings 1 (some .boolean), Cond.methodLink RX1 55 yX1_broughtThrough, Cond.instanceMethod yX1_broughtThrough, Cond.selects RX1 yX1_broughtThrough yX1_broughtThrough, Cond.code yX1_broughtThrough cX1_broughtThrough 4 (some (.object "DockGates$Thing")), Cond.methodLink RX1 52 yX1_failed, Cond.instanceMethod yX1_failed, Cond.selects RX1 yX1_failed yX1_failed, Cond.code yX1_failed cX1_failed 2 (some .int), Cond.methodLink RX1 48 yX1_letsThrough]
def wsX1_take_r2 : List Cond := [Cond.static yX1_letsThrough, Cond.code yX1_letsThrough cX1_letsThrough 3 (some .boolean), Cond.methodLink RX1 92 yX1_failedAtGate, Cond.instanceMethod yX1_failedAtGate, Cond.selects RX1 yX1_failedAtGate yX1_failedAtGate, Cond.code yX1_failedAtGate cX1_failedAtGate 3 (some .int), Cond.methodLink RX1 67 yX1_turnBack, Cond.instanceMethod yX1_turnBack, Cond.selects RX1 yX1_turnBack yX1_turnBack, Cond.code yX1_turnBack cX1_turnBack 3 none, Cond.fieldLink RX1 22 "DockGates" "turns" "I", Cond.fieldLink RX1 25 "DockGates" "turnedSlot" "I", Cond.fieldLink RX1 28 "DockGates" "turnedGate" "I", Cond.methodLink RX1 102 yX1_numberOf, Cond.static yX1_numberOf, Cond.code yX1_numberOf cX1_numberOf 1 (some .int), Cond.fieldLink RX1 123 "DockGates$Thing" "number" "I"]
def wsX1_take : List Cond := .code yX1_take cX1_take 5 (some .int) :: ((wsX1_take_r1 ++ wsX1_take_r2) ++ wsX10 ++ wsX00)
def wsX1_share : List Cond := .code yX1_share cX1_share 3 (some .int) :: ([.fieldLink RX1 19 "DockGates" "latestFault" "I", .fieldLink RX1 11 "DockGates" "slots" "[LDockGates$Thing;", .methodLink RX1 35 yX1_isSlot, .static yX1_isSlot, .initialized RX1, .code yX1_isSlot cX1_isSlot 1 (some .boolean), .methodLink RX1 102 yX1_numberOf, .static yX1_numberOf, .code yX1_numberOf cX1_numberOf 1 (some .int), .fieldLink RX1 123 "DockGates$Thing" "number" "I"] ++ wsX10 ++ wsX00)
def wsX1_empty : List Cond := .code yX1_empty cX1_empty 3 (some .int) :: ([.fieldLink RX1 19 "DockGates" "latestFault" "I", .fieldLink RX1 11 "DockGates" "slots" "[LDockGates$Thing;", .methodLink RX1 35 yX1_isSlot, .static yX1_isSlot, .initialized RX1, .code yX1_isSlot cX1_isSlot 1 (some .boolean), .methodLink RX1 102 yX1_numberOf, .static yX1_numberOf, .code yX1_numberOf cX1_numberOf 1 (some .int), .fieldLink RX1 123 "DockGates$Thing" "number" "I"] ++ wsX10 ++ wsX00)
def wsX1_lid_r1 : List Cond := [Cond.fieldLink RX1 19 "DockGates" "latestFault" "I", Cond.fieldLink RX1 109 "DockGates$Thing" "shut" "Z", Cond.methodLink RX1 35 yX1_isSlot, Cond.static yX1_isSlot, Cond.initialized RX1, Cond.code yX1_isSlot cX1_isSlot 1 (some .boolean), Cond.methodLink RX1 55 yX1_broughtThrough, Cond.instanceMethod yX1_broughtThrough, Cond.selects RX1 yX1_broughtThrough yX1_broughtThrough, Cond.code yX1_broughtThrough cX1_broughtThrough 4 (some (.object "DockGates$Thing")), Cond.fieldLink RX1 11 "DockGates" "slots" "[LDockGates$Thing;", Cond.methodLink RX1 52 yX1_failed, Cond.instanceMethod yX1_failed, Cond.selects RX1 yX1_failed yX1_failed, Cond.code yX1_failed cX1_failed 2 (some .int), Cond.methodLink RX1 48 yX1_letsThrough, Cond.static yX1_letsThrough, Cond.code yX1_letsThrough cX1_letsThrough 3 (some .boolean), Cond.fieldLink RX1 79 "DockGates$Thing" "kind" "I", Cond.methodLink RX1 92 yX1_failedAtGate, Cond.instanceMethod yX1_failedAtGate, Cond.selects RX1 yX1_failedAtGate yX1_failedAtGate, Cond.code yX1_failedAtGate cX1_failedAtGate 3 (some .int), Cond.methodLink RX1 67 yX1_turnBack]
def wsX1_lid_r2 : List Cond := [Cond.instanceMethod yX1_turnBack, Cond.selects RX1 yX1_turnBack yX1_turnBack, Cond.code yX1_turnBack cX1_turnBack 3 none, Cond.fieldLink RX1 22 "DockGates" "turns" "I", Cond.fieldLink RX1 25 "DockGates" "turnedSlot" "I", Cond.fieldLink RX1 28 "DockGates" "turnedGate" "I", Cond.methodLink RX1 106 yX1_lidOf, Cond.static yX1_lidOf, Cond.code yX1_lidOf cX1_lidOf 1 (some .int)]
def wsX1_lid : List Cond := .code yX1_lid cX1_lid 5 (some .int) :: ((wsX1_lid_r1 ++ wsX1_lid_r2) ++ wsX10 ++ wsX00)
def wsX1_weigh_r1 : List Cond := [Cond.fieldLink RX1 19 "DockGates" "latestFault" "I", Cond.constant RX1 113 (1000000), Cond.fieldLink RX1 114 "DockGates$Thing" "amount" "I", Cond.methodLink RX1 35 yX1_isSlot, Cond.static yX1_isSlot, Cond.initialized RX1, Cond.code yX1_isSlot cX1_isSlot 1 (some .boolean), Cond.methodLink RX1 55 yX1_broughtThrough, Cond.instanceMethod yX1_broughtThrough, Cond.selects RX1 yX1_broughtThrough yX1_broughtThrough, Cond.code yX1_broughtThrough cX1_broughtThrough 4 (some (.object "DockGates$Thing")), Cond.fieldLink RX1 11 "DockGates" "slots" "[LDockGates$Thing;", Cond.methodLink RX1 52 yX1_failed, Cond.instanceMethod yX1_failed, Cond.selects RX1 yX1_failed yX1_failed, Cond.code yX1_failed cX1_failed 2 (some .int), Cond.methodLink RX1 48 yX1_letsThrough, Cond.static yX1_letsThrough, Cond.code yX1_letsThrough cX1_letsThrough 3 (some .boolean), Cond.fieldLink RX1 79 "DockGates$Thing" "kind" "I", Cond.methodLink RX1 92 yX1_failedAtGate, Cond.instanceMethod yX1_failedAtGate, Cond.selects RX1 yX1_failedAtGate yX1_failedAtGate, Cond.code yX1_failedAtGate cX1_failedAtGate 3 (some .int)]
def wsX1_weigh_r2 : List Cond := [Cond.methodLink RX1 67 yX1_turnBack, Cond.instanceMethod yX1_turnBack, Cond.selects RX1 yX1_turnBack yX1_turnBack, Cond.code yX1_turnBack cX1_turnBack 3 none, Cond.fieldLink RX1 22 "DockGates" "turns" "I", Cond.fieldLink RX1 25 "DockGates" "turnedSlot" "I", Cond.fieldLink RX1 28 "DockGates" "turnedGate" "I"]
def wsX1_weigh : List Cond := .code yX1_weigh cX1_weigh 5 (some .int) :: ((wsX1_weigh_r1 ++ wsX1_weigh_r2) ++ wsX10 ++ wsX00)
def wsX1_size_r1 : List Cond := [Cond.fieldLink RX1 19 "DockGates" "latestFault" "I", Cond.fieldLink RX1 11 "DockGates" "slots" "[LDockGates$Thing;", Cond.fieldLink RX1 79 "DockGates$Thing" "kind" "I", Cond.fieldLink RX1 75 "DockGates$Thing" "numbers" "[J", Cond.fieldLink RX1 96 "DockGates$Thing" "parts" "[LDockGates$Thing;", Cond.methodLink RX1 35 yX1_isSlot, Cond.static yX1_isSlot, Cond.initialized RX1, Cond.code yX1_isSlot cX1_isSlot 1 (some .boolean), Cond.methodLink RX1 52 yX1_failed, Cond.instanceMethod yX1_failed, Cond.selects RX1 yX1_failed yX1_failed, Cond.code yX1_failed cX1_failed 2 (some .int), Cond.methodLink RX1 117 yX1_holdsNumbers, Cond.static yX1_holdsNumbers, Cond.code yX1_holdsNumbers cX1_holdsNumbers 1 (some .boolean), Cond.methodLink RX1 120 yX1_holdsThings, Cond.static yX1_holdsThings, Cond.code yX1_holdsThings cX1_holdsThings 1 (some .boolean), Cond.methodLink RX1 92 yX1_failedAtGate, Cond.instanceMethod yX1_failedAtGate, Cond.selects RX1 yX1_failedAtGate yX1_failedAtGate, Cond.code yX1_failedAtGate cX1_failedAtGate 3 (some .int), Cond.methodLink RX1 67 yX1_turnBack]
def wsX1_size_r2 : List Cond := [Cond.instanceMethod yX1_turnBack, Cond.selects RX1 yX1_turnBack yX1_turnBack, Cond.code yX1_turnBack cX1_turnBack 3 none, Cond.fieldLink RX1 22 "DockGates" "turns" "I", Cond.fieldLink RX1 25 "DockGates" "turnedSlot" "I", Cond.fieldLink RX1 28 "DockGates" "turnedGate" "I"]
def wsX1_size : List Cond := .code yX1_size cX1_size 3 (some .int) :: ((wsX1_size_r1 ++ wsX1_size_r2) ++ wsX10 ++ wsX00)
def wsX1_at : List Cond := .code yX1_at cX1_at 2 (some .int) :: ([.fieldLink RX1 11 "DockGates" "slots" "[LDockGates$Thing;", .methodLink RX1 35 yX1_isSlot, .static yX1_isSlot, .initialized RX1, .code yX1_isSlot cX1_isSlot 1 (some .boolean), .methodLink RX1 102 yX1_numberOf, .static yX1_numberOf, .code yX1_numberOf cX1_numberOf 1 (some .int), .fieldLink RX1 123 "DockGates$Thing" "number" "I"] ++ wsX10 ++ wsX00)
def wsX1_fault : List Cond := .code yX1_fault cX1_fault 1 (some .int) :: ([.fieldLink RX1 19 "DockGates" "latestFault" "I"] ++ wsX10)
def wsX1_told : List Cond := .code yX1_told cX1_told 2 (some .int) :: ([.fieldLink RX1 22 "DockGates" "turns" "I", .fieldLink RX1 25 "DockGates" "turnedSlot" "I", .fieldLink RX1 28 "DockGates" "turnedGate" "I"] ++ wsX10)
def wsX1_count : List Cond := .code yX1_count cX1_count 1 (some .int) :: ([.fieldLink RX1 15 "DockGates" "made" "I"] ++ wsX10)
def wsX2_init : List Cond := .code yX2_init cX2_init 2 none :: ([.methodLink RX2 1 objectInit, .instanceMethod objectInit, .code objectInit ⟨#[0xb1]⟩ 1 none, .arrayClass .int, .fieldLink RX2 7 "DockGatesModel" "kind" "[I", .fieldLink RX2 13 "DockGatesModel" "size" "[I", .arrayClass .boolean, .fieldLink RX2 16 "DockGatesModel" "isShut" "[Z", .arrayClass .long, .fieldLink RX2 20 "DockGatesModel" "cell" "[J", .fieldLink RX2 24 "DockGatesModel" "slots" "[I", .fieldLink RX2 27 "DockGatesModel" "turnedSlot" "I", .fieldLink RX2 31 "DockGatesModel" "turnedGate" "I"] ++ wsX20)
def wsX2_isIn : List Cond := .code yX2_isIn cX2_isIn 3 (some .boolean) :: ([])
def wsX2_isSlot : List Cond := .code yX2_isSlot cX2_isSlot 1 (some .boolean) :: ([.methodLink RX2 34 yX2_isIn, .static yX2_isIn, .initialized RX2, .code yX2_isIn cX2_isIn 3 (some .boolean)])
def wsX2_goes : List Cond := .code yX2_goes cX2_goes 2 (some .boolean) :: ([])
def wsX2_fitsAt : List Cond := .code yX2_fitsAt cX2_fitsAt 3 (some .boolean) :: ([.fieldLink RX2 24 "DockGatesModel" "slots" "[I", .fieldLink RX2 7 "DockGatesModel" "kind" "[I", .methodLink RX2 38 yX2_goes, .static yX2_goes, .initialized RX2, .code yX2_goes cX2_goes 2 (some .boolean)] ++ wsX20)
def wsX2_holdsThings : List Cond := .code yX2_holdsThings cX2_holdsThings 1 (some .boolean) :: ([.methodLink RX2 34 yX2_isIn, .static yX2_isIn, .initialized RX2, .code yX2_isIn cX2_isIn 3 (some .boolean)])
def wsX2_fails : List Cond := .code yX2_fails cX2_fails 2 (some .int) :: ([.fieldLink RX2 42 "DockGatesModel" "fault" "I"] ++ wsX20)
def wsX2_turn : List Cond := .code yX2_turn cX2_turn 3 none :: ([.fieldLink RX2 45 "DockGatesModel" "turned" "I", .fieldLink RX2 27 "DockGatesModel" "turnedSlot" "I", .fieldLink RX2 31 "DockGatesModel" "turnedGate" "I"] ++ wsX20)
def wsX2_turns : List Cond := .code yX2_turns cX2_turns 3 (some .int) :: ([.methodLink RX2 48 yX2_turn, .instanceMethod yX2_turn, .selects RX2 yX2_turn yX2_turn, .initialized RX2, .code yX2_turn cX2_turn 3 none, .fieldLink RX2 45 "DockGatesModel" "turned" "I", .fieldLink RX2 27 "DockGatesModel" "turnedSlot" "I", .fieldLink RX2 31 "DockGatesModel" "turnedGate" "I", .methodLink RX2 52 yX2_fails, .instanceMethod yX2_fails, .selects RX2 yX2_fails yX2_fails, .code yX2_fails cX2_fails 2 (some .int), .fieldLink RX2 42 "DockGatesModel" "fault" "I"] ++ wsX20)
def wsX2_bad : List Cond := .code yX2_bad cX2_bad 1 (some .int) :: ([.fieldLink RX2 42 "DockGatesModel" "fault" "I"] ++ wsX20)
def wsX2_make : List Cond := .code yX2_make cX2_make 5 (some .int) :: ([.fieldLink RX2 42 "DockGatesModel" "fault" "I", .constant RX2 56 (1000000), .fieldLink RX2 61 "DockGatesModel" "things" "I", .fieldLink RX2 7 "DockGatesModel" "kind" "[I", .fieldLink RX2 13 "DockGatesModel" "size" "[I", .fieldLink RX2 16 "DockGatesModel" "isShut" "[Z", .fieldLink RX2 20 "DockGatesModel" "cell" "[J", .constantLong RX2 67 (-1), .fieldLink RX2 24 "DockGatesModel" "slots" "[I", .methodLink RX2 34 yX2_isIn, .static yX2_isIn, .initialized RX2, .code yX2_isIn cX2_isIn 3 (some .boolean), .methodLink RX2 57 yX2_isSlot, .static yX2_isSlot, .code yX2_isSlot cX2_isSlot 1 (some .boolean), .methodLink RX2 64 yX2_holdsThings, .static yX2_holdsThings, .code yX2_holdsThings cX2_holdsThings 1 (some .boolean)] ++ wsX20)
def wsX2_fits : List Cond := .code yX2_fits cX2_fits 3 (some .int) :: ([.fieldLink RX2 42 "DockGatesModel" "fault" "I", .methodLink RX2 57 yX2_isSlot, .static yX2_isSlot, .initialized RX2, .code yX2_isSlot cX2_isSlot 1 (some .boolean), .methodLink RX2 34 yX2_isIn, .static yX2_isIn, .code yX2_isIn cX2_isIn 3 (some .boolean), .methodLink RX2 69 yX2_fitsAt, .instanceMethod yX2_fitsAt, .selects RX2 yX2_fitsAt yX2_fitsAt, .code yX2_fitsAt cX2_fitsAt 3 (some .boolean), .fieldLink RX2 24 "DockGatesModel" "slots" "[I", .fieldLink RX2 7 "DockGatesModel" "kind" "[I", .methodLink RX2 38 yX2_goes, .static yX2_goes, .code yX2_goes cX2_goes 2 (some .boolean)] ++ wsX20)
def wsX2_weighs : List Cond := .code yX2_weighs cX2_weighs 2 (some .int) :: ([.fieldLink RX2 7 "DockGatesModel" "kind" "[I", .fieldLink RX2 13 "DockGatesModel" "size" "[I", .fieldLink RX2 16 "DockGatesModel" "isShut" "[Z"] ++ wsX20)
def wsX2_sumOf : List Cond := .code yX2_sumOf cX2_sumOf 5 (some .long) :: ([.fieldLink RX2 13 "DockGatesModel" "size" "[I", .fieldLink RX2 20 "DockGatesModel" "cell" "[J", .fieldLink RX2 7 "DockGatesModel" "kind" "[I"] ++ wsX20)
def wsX2_insideOf : List Cond := .code yX2_insideOf cX2_insideOf 6 (some .int) :: ([.fieldLink RX2 13 "DockGatesModel" "size" "[I", .fieldLink RX2 20 "DockGatesModel" "cell" "[J", .fieldLink RX2 42 "DockGatesModel" "fault" "I", .fieldLink RX2 16 "DockGatesModel" "isShut" "[Z", .methodLink RX2 72 yX2_weighs, .instanceMethod yX2_weighs, .selects RX2 yX2_weighs yX2_weighs, .initialized RX2, .code yX2_weighs cX2_weighs 2 (some .int), .fieldLink RX2 7 "DockGatesModel" "kind" "[I"] ++ wsX20)
def wsX2_rowsOf : List Cond := .code yX2_rowsOf cX2_rowsOf 6 (some .int) :: ([.fieldLink RX2 13 "DockGatesModel" "size" "[I", .fieldLink RX2 20 "DockGatesModel" "cell" "[J", .fieldLink RX2 42 "DockGatesModel" "fault" "I", .methodLink RX2 75 yX2_sumOf, .instanceMethod yX2_sumOf, .selects RX2 yX2_sumOf yX2_sumOf, .initialized RX2, .code yX2_sumOf cX2_sumOf 5 (some .long), .fieldLink RX2 7 "DockGatesModel" "kind" "[I", .methodLink RX2 79 yX2_insideOf, .instanceMethod yX2_insideOf, .selects RX2 yX2_insideOf yX2_insideOf, .code yX2_insideOf cX2_insideOf 6 (some .int), .fieldLink RX2 16 "DockGatesModel" "isShut" "[Z", .methodLink RX2 72 yX2_weighs, .instanceMethod yX2_weighs, .selects RX2 yX2_weighs yX2_weighs, .code yX2_weighs cX2_weighs 2 (some .int)] ++ wsX20)
def wsX2_toldBy : List Cond := .code yX2_toldBy cX2_toldBy 3 (some .long) :: ([.fieldLink RX2 13 "DockGatesModel" "size" "[I", .fieldLink RX2 16 "DockGatesModel" "isShut" "[Z", .methodLink RX2 75 yX2_sumOf, .instanceMethod yX2_sumOf, .selects RX2 yX2_sumOf yX2_sumOf, .initialized RX2, .code yX2_sumOf cX2_sumOf 5 (some .long), .fieldLink RX2 20 "DockGatesModel" "cell" "[J", .fieldLink RX2 7 "DockGatesModel" "kind" "[I", .methodLink RX2 83 yX2_rowsOf, .instanceMethod yX2_rowsOf, .selects RX2 yX2_rowsOf yX2_rowsOf, .code yX2_rowsOf cX2_rowsOf 6 (some .int), .fieldLink RX2 42 "DockGatesModel" "fault" "I", .methodLink RX2 79 yX2_insideOf, .instanceMethod yX2_insideOf, .selects RX2 yX2_insideOf yX2_insideOf, .code yX2_insideOf cX2_insideOf 6 (some .int), .methodLink RX2 72 yX2_weighs, .instanceMethod yX2_weighs, .selects RX2 yX2_weighs yX2_weighs, .code yX2_weighs cX2_weighs 2 (some .int)] ++ wsX20)
def wsX2_pass_r1 : List Cond := [Cond.fieldLink RX2 42 "DockGatesModel" "fault" "I", Cond.fieldLink RX2 24 "DockGatesModel" "slots" "[I", Cond.methodLink RX2 57 yX2_isSlot, Cond.static yX2_isSlot, Cond.initialized RX2, Cond.code yX2_isSlot cX2_isSlot 1 (some .boolean), Cond.methodLink RX2 34 yX2_isIn, Cond.static yX2_isIn, Cond.code yX2_isIn cX2_isIn 3 (some .boolean), Cond.methodLink RX2 52 yX2_fails, Cond.instanceMethod yX2_fails, Cond.selects RX2 yX2_fails yX2_fails, Cond.code yX2_fails cX2_fails 2 (some .int), Cond.methodLink RX2 69 yX2_fitsAt, Cond.instanceMethod yX2_fitsAt, Cond.selects RX2 yX2_fitsAt yX2_fitsAt, Cond.code yX2_fitsAt cX2_fitsAt 3 (some .boolean), Cond.fieldLink RX2 7 "DockGatesModel" "kind" "[I", Cond.methodLink RX2 38 yX2_goes, Cond.static yX2_goes, Cond.code yX2_goes cX2_goes 2 (some .boolean), Cond.methodLink RX2 87 yX2_turns, Cond.instanceMethod yX2_turns, Cond.selects RX2 yX2_turns yX2_turns]
def wsX2_pass_r2 : List Cond := [Cond.code yX2_turns cX2_turns 3 (some .int), Cond.methodLink RX2 48 yX2_turn, Cond.instanceMethod yX2_turn, Cond.selects RX2 yX2_turn yX2_turn, Cond.code yX2_turn cX2_turn 3 none, Cond.fieldLink RX2 45 "DockGatesModel" "turned" "I", Cond.fieldLink RX2 27 "DockGatesModel" "turnedSlot" "I", Cond.fieldLink RX2 31 "DockGatesModel" "turnedGate" "I", Cond.methodLink RX2 90 yX2_toldBy, Cond.instanceMethod yX2_toldBy, Cond.selects RX2 yX2_toldBy yX2_toldBy, Cond.code yX2_toldBy cX2_toldBy 3 (some .long), Cond.fieldLink RX2 13 "DockGatesModel" "size" "[I", Cond.fieldLink RX2 16 "DockGatesModel" "isShut" "[Z", Cond.methodLink RX2 75 yX2_sumOf, Cond.instanceMethod yX2_sumOf, Cond.selects RX2 yX2_sumOf yX2_sumOf, Cond.code yX2_sumOf cX2_sumOf 5 (some .long), Cond.fieldLink RX2 20 "DockGatesModel" "cell" "[J", Cond.methodLink RX2 83 yX2_rowsOf, Cond.instanceMethod yX2_rowsOf, Cond.selects RX2 yX2_rowsOf yX2_rowsOf, Cond.code yX2_rowsOf cX2_rowsOf 6 (some .int), Cond.methodLink RX2 79 yX2_insideOf]
def wsX2_pass_r3 : List Cond := [Cond.instanceMethod yX2_insideOf, Cond.selects RX2 yX2_insideOf yX2_insideOf, Cond.code yX2_insideOf cX2_insideOf 6 (some .int), Cond.methodLink RX2 72 yX2_weighs, Cond.instanceMethod yX2_weighs, Cond.selects RX2 yX2_weighs yX2_weighs, Cond.code yX2_weighs cX2_weighs 2 (some .int)]
def wsX2_pass : List Cond := .code yX2_pass cX2_pass 5 (some .long) :: ((wsX2_pass_r1 ++ (wsX2_pass_r2 ++ wsX2_pass_r3)) ++ wsX20)
def wsX2_seek_r1 : List Cond := [Cond.fieldLink RX2 42 "DockGatesModel" "fault" "I", Cond.methodLink RX2 57 yX2_isSlot, Cond.static yX2_isSlot, Cond.initialized RX2, Cond.code yX2_isSlot cX2_isSlot 1 (some .boolean), Cond.methodLink RX2 34 yX2_isIn, Cond.static yX2_isIn, Cond.code yX2_isIn cX2_isIn 3 (some .boolean), Cond.methodLink RX2 94 yX2_bad, Cond.instanceMethod yX2_bad, Cond.selects RX2 yX2_bad yX2_bad, Cond.code yX2_bad cX2_bad 1 (some .int), Cond.methodLink RX2 69 yX2_fitsAt, Cond.instanceMethod yX2_fitsAt, Cond.selects RX2 yX2_fitsAt yX2_fitsAt, Cond.code yX2_fitsAt cX2_fitsAt 3 (some .boolean), Cond.fieldLink RX2 24 "DockGatesModel" "slots" "[I", Cond.fieldLink RX2 7 "DockGatesModel" "kind" "[I", Cond.methodLink RX2 38 yX2_goes, Cond.static yX2_goes, Cond.code yX2_goes cX2_goes 2 (some .boolean), Cond.methodLink RX2 48 yX2_turn, Cond.instanceMethod yX2_turn, Cond.selects RX2 yX2_turn yX2_turn]
def wsX2_seek_r2 : List Cond := [Cond.code yX2_turn cX2_turn 3 none, Cond.fieldLink RX2 45 "DockGatesModel" "turned" "I", Cond.fieldLink RX2 27 "DockGatesModel" "turnedSlot" "I", Cond.fieldLink RX2 31 "DockGatesModel" "turnedGate" "I"]
def wsX2_seek : List Cond := .code yX2_seek cX2_seek 5 (some .int) :: ((wsX2_seek_r1 ++ wsX2_seek_r2) ++ wsX20)
def wsX2_isNumberAt : List Cond := .code yX2_isNumberAt cX2_isNumberAt 4 (some .boolean) :: ([.fieldLink RX2 24 "DockGatesModel" "slots" "[I", .fieldLink RX2 7 "DockGatesModel" "kind" "[I", .fieldLink RX2 13 "DockGatesModel" "size" "[I", .fieldLink RX2 42 "DockGatesModel" "fault" "I", .methodLink RX2 52 yX2_fails, .instanceMethod yX2_fails, .selects RX2 yX2_fails yX2_fails, .initialized RX2, .code yX2_fails cX2_fails 2 (some .int), .methodLink RX2 87 yX2_turns, .instanceMethod yX2_turns, .selects RX2 yX2_turns yX2_turns, .code yX2_turns cX2_turns 3 (some .int), .methodLink RX2 48 yX2_turn, .instanceMethod yX2_turn, .selects RX2 yX2_turn yX2_turn, .code yX2_turn cX2_turn 3 none, .fieldLink RX2 45 "DockGatesModel" "turned" "I", .fieldLink RX2 27 "DockGatesModel" "turnedSlot" "I", .fieldLink RX2 31 "DockGatesModel" "turnedGate" "I", .methodLink RX2 34 yX2_isIn, .static yX2_isIn, .code yX2_isIn cX2_isIn 3 (some .boolean)] ++ wsX20)
def wsX2_put_r1 : List Cond := [Cond.fieldLink RX2 42 "DockGatesModel" "fault" "I", Cond.fieldLink RX2 7 "DockGatesModel" "kind" "[I", Cond.fieldLink RX2 24 "DockGatesModel" "slots" "[I", Cond.fieldLink RX2 20 "DockGatesModel" "cell" "[J", Cond.methodLink RX2 57 yX2_isSlot, Cond.static yX2_isSlot, Cond.initialized RX2, Cond.code yX2_isSlot cX2_isSlot 1 (some .boolean), Cond.methodLink RX2 34 yX2_isIn, Cond.static yX2_isIn, Cond.code yX2_isIn cX2_isIn 3 (some .boolean), Cond.methodLink RX2 98 yX2_isNumberAt, Cond.instanceMethod yX2_isNumberAt, Cond.selects RX2 yX2_isNumberAt yX2_isNumberAt, Cond.code yX2_isNumberAt cX2_isNumberAt 4 (some .boolean), Cond.fieldLink RX2 13 "DockGatesModel" "size" "[I", Cond.methodLink RX2 52 yX2_fails, Cond.instanceMethod yX2_fails, Cond.selects RX2 yX2_fails yX2_fails, Cond.code yX2_fails cX2_fails 2 (some .int), Cond.methodLink RX2 87 yX2_turns, Cond.instanceMethod yX2_turns, Cond.selects RX2 yX2_turns yX2_turns, Cond.code yX2_turns cX2_turns 3 (some .int)]
def wsX2_put_r2 : List Cond := [Cond.methodLink RX2 48 yX2_turn, Cond.instanceMethod yX2_turn, Cond.selects RX2 yX2_turn yX2_turn, Cond.code yX2_turn cX2_turn 3 none, Cond.fieldLink RX2 45 "DockGatesModel" "turned" "I", Cond.fieldLink RX2 27 "DockGatesModel" "turnedSlot" "I", Cond.fieldLink RX2 31 "DockGatesModel" "turnedGate" "I"]
def wsX2_put : List Cond := .code yX2_put cX2_put 6 (some .int) :: ((wsX2_put_r1 ++ wsX2_put_r2) ++ wsX20)
def wsX2_get_r1 : List Cond := [Cond.fieldLink RX2 42 "DockGatesModel" "fault" "I", Cond.fieldLink RX2 20 "DockGatesModel" "cell" "[J", Cond.fieldLink RX2 24 "DockGatesModel" "slots" "[I", Cond.methodLink RX2 57 yX2_isSlot, Cond.static yX2_isSlot, Cond.initialized RX2, Cond.code yX2_isSlot cX2_isSlot 1 (some .boolean), Cond.methodLink RX2 34 yX2_isIn, Cond.static yX2_isIn, Cond.code yX2_isIn cX2_isIn 3 (some .boolean), Cond.methodLink RX2 52 yX2_fails, Cond.instanceMethod yX2_fails, Cond.selects RX2 yX2_fails yX2_fails, Cond.code yX2_fails cX2_fails 2 (some .int), Cond.methodLink RX2 98 yX2_isNumberAt, Cond.instanceMethod yX2_isNumberAt, Cond.selects RX2 yX2_isNumberAt yX2_isNumberAt, Cond.code yX2_isNumberAt cX2_isNumberAt 4 (some .boolean), Cond.fieldLink RX2 7 "DockGatesModel" "kind" "[I", Cond.fieldLink RX2 13 "DockGatesModel" "size" "[I", Cond.methodLink RX2 87 yX2_turns, Cond.instanceMethod yX2_turns, Cond.selects RX2 yX2_turns yX2_turns, Cond.code yX2_turns cX2_turns 3 (some .int)]
def wsX2_get_r2 : List Cond := [Cond.methodLink RX2 48 yX2_turn, Cond.instanceMethod yX2_turn, Cond.selects RX2 yX2_turn yX2_turn, Cond.code yX2_turn cX2_turn 3 none, Cond.fieldLink RX2 45 "DockGatesModel" "turned" "I", Cond.fieldLink RX2 27 "DockGatesModel" "turnedSlot" "I", Cond.fieldLink RX2 31 "DockGatesModel" "turnedGate" "I"]
def wsX2_get : List Cond := .code yX2_get cX2_get 3 (some .long) :: ((wsX2_get_r1 ++ wsX2_get_r2) ++ wsX20)
def wsX2_canHold : List Cond := .code yX2_canHold cX2_canHold 2 (some .boolean) :: ([])
def wsX2_lay_r1 : List Cond := [Cond.fieldLink RX2 42 "DockGatesModel" "fault" "I", Cond.fieldLink RX2 24 "DockGatesModel" "slots" "[I", Cond.fieldLink RX2 7 "DockGatesModel" "kind" "[I", Cond.fieldLink RX2 13 "DockGatesModel" "size" "[I", Cond.fieldLink RX2 20 "DockGatesModel" "cell" "[J", Cond.methodLink RX2 57 yX2_isSlot, Cond.static yX2_isSlot, Cond.initialized RX2, Cond.code yX2_isSlot cX2_isSlot 1 (some .boolean), Cond.methodLink RX2 34 yX2_isIn, Cond.static yX2_isIn, Cond.code yX2_isIn cX2_isIn 3 (some .boolean), Cond.methodLink RX2 52 yX2_fails, Cond.instanceMethod yX2_fails, Cond.selects RX2 yX2_fails yX2_fails, Cond.code yX2_fails cX2_fails 2 (some .int), Cond.methodLink RX2 64 yX2_holdsThings, Cond.static yX2_holdsThings, Cond.code yX2_holdsThings cX2_holdsThings 1 (some .boolean), Cond.methodLink RX2 87 yX2_turns, Cond.instanceMethod yX2_turns, Cond.selects RX2 yX2_turns yX2_turns, Cond.code yX2_turns cX2_turns 3 (some .int), Cond.methodLink RX2 48 yX2_turn]
def wsX2_lay_r2 : List Cond := [Cond.instanceMethod yX2_turn, Cond.selects RX2 yX2_turn yX2_turn, Cond.code yX2_turn cX2_turn 3 none, Cond.fieldLink RX2 45 "DockGatesModel" "turned" "I", Cond.fieldLink RX2 27 "DockGatesModel" "turnedSlot" "I", Cond.fieldLink RX2 31 "DockGatesModel" "turnedGate" "I", Cond.methodLink RX2 38 yX2_goes, Cond.static yX2_goes, Cond.code yX2_goes cX2_goes 2 (some .boolean), Cond.methodLink RX2 101 yX2_canHold, Cond.static yX2_canHold, Cond.code yX2_canHold cX2_canHold 2 (some .boolean)]
def wsX2_lay : List Cond := .code yX2_lay cX2_lay 7 (some .int) :: ((wsX2_lay_r1 ++ wsX2_lay_r2) ++ wsX20)
def wsX2_take_r1 : List Cond := [Cond.fieldLink RX2 42 "DockGatesModel" "fault" "I", Cond.fieldLink RX2 24 "DockGatesModel" "slots" "[I", Cond.fieldLink RX2 7 "DockGatesModel" "kind" "[I", Cond.fieldLink RX2 13 "DockGatesModel" "size" "[I", Cond.fieldLink RX2 20 "DockGatesModel" "cell" "[J", Cond.methodLink RX2 57 yX2_isSlot, Cond.static yX2_isSlot, Cond.initialized RX2, Cond.code yX2_isSlot cX2_isSlot 1 (some .boolean), Cond.methodLink RX2 34 yX2_isIn, Cond.static yX2_isIn, Cond.code yX2_isIn cX2_isIn 3 (some .boolean), Cond.methodLink RX2 52 yX2_fails, Cond.instanceMethod yX2_fails, Cond.selects RX2 yX2_fails yX2_fails, Cond.code yX2_fails cX2_fails 2 (some .int), Cond.methodLink RX2 64 yX2_holdsThings, Cond.static yX2_holdsThings, Cond.code yX2_holdsThings cX2_holdsThings 1 (some .boolean), Cond.methodLink RX2 87 yX2_turns, Cond.instanceMethod yX2_turns, Cond.selects RX2 yX2_turns yX2_turns, Cond.code yX2_turns cX2_turns 3 (some .int), Cond.methodLink RX2 48 yX2_turn]
def wsX2_take_r2 : List Cond := [Cond.instanceMethod yX2_turn, Cond.selects RX2 yX2_turn yX2_turn, Cond.code yX2_turn cX2_turn 3 none, Cond.fieldLink RX2 45 "DockGatesModel" "turned" "I", Cond.fieldLink RX2 27 "DockGatesModel" "turnedSlot" "I", Cond.fieldLink RX2 31 "DockGatesModel" "turnedGate" "I"]
def wsX2_take : List Cond := .code yX2_take cX2_take 5 (some .int) :: ((wsX2_take_r1 ++ wsX2_take_r2) ++ wsX20)
def wsX2_share : List Cond := .code yX2_share cX2_share 3 (some .int) :: ([.fieldLink RX2 42 "DockGatesModel" "fault" "I", .fieldLink RX2 24 "DockGatesModel" "slots" "[I", .methodLink RX2 57 yX2_isSlot, .static yX2_isSlot, .initialized RX2, .code yX2_isSlot cX2_isSlot 1 (some .boolean), .methodLink RX2 34 yX2_isIn, .static yX2_isIn, .code yX2_isIn cX2_isIn 3 (some .boolean)] ++ wsX20)
def wsX2_empty : List Cond := .code yX2_empty cX2_empty 3 (some .int) :: ([.fieldLink RX2 42 "DockGatesModel" "fault" "I", .fieldLink RX2 24 "DockGatesModel" "slots" "[I", .methodLink RX2 57 yX2_isSlot, .static yX2_isSlot, .initialized RX2, .code yX2_isSlot cX2_isSlot 1 (some .boolean), .methodLink RX2 34 yX2_isIn, .static yX2_isIn, .code yX2_isIn cX2_isIn 3 (some .boolean)] ++ wsX20)
def wsX2_isLetThrough_r1 : List Cond := [Cond.fieldLink RX2 24 "DockGatesModel" "slots" "[I", Cond.fieldLink RX2 42 "DockGatesModel" "fault" "I", Cond.methodLink RX2 52 yX2_fails, Cond.instanceMethod yX2_fails, Cond.selects RX2 yX2_fails yX2_fails, Cond.initialized RX2, Cond.code yX2_fails cX2_fails 2 (some .int), Cond.methodLink RX2 69 yX2_fitsAt, Cond.instanceMethod yX2_fitsAt, Cond.selects RX2 yX2_fitsAt yX2_fitsAt, Cond.code yX2_fitsAt cX2_fitsAt 3 (some .boolean), Cond.fieldLink RX2 7 "DockGatesModel" "kind" "[I", Cond.methodLink RX2 38 yX2_goes, Cond.static yX2_goes, Cond.code yX2_goes cX2_goes 2 (some .boolean), Cond.methodLink RX2 87 yX2_turns, Cond.instanceMethod yX2_turns, Cond.selects RX2 yX2_turns yX2_turns, Cond.code yX2_turns cX2_turns 3 (some .int), Cond.methodLink RX2 48 yX2_turn, Cond.instanceMethod yX2_turn, Cond.selects RX2 yX2_turn yX2_turn, Cond.code yX2_turn cX2_turn 3 none, Cond.fieldLink RX2 45 "DockGatesModel" "turned" "I"]
def wsX2_isLetThrough_r2 : List Cond := [Cond.fieldLink RX2 27 "DockGatesModel" "turnedSlot" "I", Cond.fieldLink RX2 31 "DockGatesModel" "turnedGate" "I"]
def wsX2_isLetThrough : List Cond := .code yX2_isLetThrough cX2_isLetThrough 3 (some .boolean) :: ((wsX2_isLetThrough_r1 ++ wsX2_isLetThrough_r2) ++ wsX20)
def wsX2_lid_r1 : List Cond := [Cond.fieldLink RX2 42 "DockGatesModel" "fault" "I", Cond.fieldLink RX2 16 "DockGatesModel" "isShut" "[Z", Cond.fieldLink RX2 24 "DockGatesModel" "slots" "[I", Cond.methodLink RX2 57 yX2_isSlot, Cond.static yX2_isSlot, Cond.initialized RX2, Cond.code yX2_isSlot cX2_isSlot 1 (some .boolean), Cond.methodLink RX2 34 yX2_isIn, Cond.static yX2_isIn, Cond.code yX2_isIn cX2_isIn 3 (some .boolean), Cond.methodLink RX2 104 yX2_isLetThrough, Cond.instanceMethod yX2_isLetThrough, Cond.selects RX2 yX2_isLetThrough yX2_isLetThrough, Cond.code yX2_isLetThrough cX2_isLetThrough 3 (some .boolean), Cond.methodLink RX2 52 yX2_fails, Cond.instanceMethod yX2_fails, Cond.selects RX2 yX2_fails yX2_fails, Cond.code yX2_fails cX2_fails 2 (some .int), Cond.methodLink RX2 69 yX2_fitsAt, Cond.instanceMethod yX2_fitsAt, Cond.selects RX2 yX2_fitsAt yX2_fitsAt, Cond.code yX2_fitsAt cX2_fitsAt 3 (some .boolean), Cond.fieldLink RX2 7 "DockGatesModel" "kind" "[I", Cond.methodLink RX2 38 yX2_goes]
def wsX2_lid_r2 : List Cond := [Cond.static yX2_goes, Cond.code yX2_goes cX2_goes 2 (some .boolean), Cond.methodLink RX2 87 yX2_turns, Cond.instanceMethod yX2_turns, Cond.selects RX2 yX2_turns yX2_turns, Cond.code yX2_turns cX2_turns 3 (some .int), Cond.methodLink RX2 48 yX2_turn, Cond.instanceMethod yX2_turn, Cond.selects RX2 yX2_turn yX2_turn, Cond.code yX2_turn cX2_turn 3 none, Cond.fieldLink RX2 45 "DockGatesModel" "turned" "I", Cond.fieldLink RX2 27 "DockGatesModel" "turnedSlot" "I", Cond.fieldLink RX2 31 "DockGatesModel" "turnedGate" "I"]
def wsX2_lid : List Cond := .code yX2_lid cX2_lid 4 (some .int) :: ((wsX2_lid_r1 ++ wsX2_lid_r2) ++ wsX20)
def wsX2_weigh_r1 : List Cond := [Cond.fieldLink RX2 42 "DockGatesModel" "fault" "I", Cond.constant RX2 56 (1000000), Cond.fieldLink RX2 13 "DockGatesModel" "size" "[I", Cond.fieldLink RX2 24 "DockGatesModel" "slots" "[I", Cond.methodLink RX2 57 yX2_isSlot, Cond.static yX2_isSlot, Cond.initialized RX2, Cond.code yX2_isSlot cX2_isSlot 1 (some .boolean), Cond.methodLink RX2 34 yX2_isIn, Cond.static yX2_isIn, Cond.code yX2_isIn cX2_isIn 3 (some .boolean), Cond.methodLink RX2 104 yX2_isLetThrough, Cond.instanceMethod yX2_isLetThrough, Cond.selects RX2 yX2_isLetThrough yX2_isLetThrough, Cond.code yX2_isLetThrough cX2_isLetThrough 3 (some .boolean), Cond.methodLink RX2 52 yX2_fails, Cond.instanceMethod yX2_fails, Cond.selects RX2 yX2_fails yX2_fails, Cond.code yX2_fails cX2_fails 2 (some .int), Cond.methodLink RX2 69 yX2_fitsAt, Cond.instanceMethod yX2_fitsAt, Cond.selects RX2 yX2_fitsAt yX2_fitsAt, Cond.code yX2_fitsAt cX2_fitsAt 3 (some .boolean), Cond.fieldLink RX2 7 "DockGatesModel" "kind" "[I"]
def wsX2_weigh_r2 : List Cond := [Cond.methodLink RX2 38 yX2_goes, Cond.static yX2_goes, Cond.code yX2_goes cX2_goes 2 (some .boolean), Cond.methodLink RX2 87 yX2_turns, Cond.instanceMethod yX2_turns, Cond.selects RX2 yX2_turns yX2_turns, Cond.code yX2_turns cX2_turns 3 (some .int), Cond.methodLink RX2 48 yX2_turn, Cond.instanceMethod yX2_turn, Cond.selects RX2 yX2_turn yX2_turn, Cond.code yX2_turn cX2_turn 3 none, Cond.fieldLink RX2 45 "DockGatesModel" "turned" "I", Cond.fieldLink RX2 27 "DockGatesModel" "turnedSlot" "I", Cond.fieldLink RX2 31 "DockGatesModel" "turnedGate" "I"]
def wsX2_weigh : List Cond := .code yX2_weigh cX2_weigh 4 (some .int) :: ((wsX2_weigh_r1 ++ wsX2_weigh_r2) ++ wsX20)
def wsX2_size_r1 : List Cond := [Cond.fieldLink RX2 42 "DockGatesModel" "fault" "I", Cond.fieldLink RX2 24 "DockGatesModel" "slots" "[I", Cond.fieldLink RX2 7 "DockGatesModel" "kind" "[I", Cond.fieldLink RX2 13 "DockGatesModel" "size" "[I", Cond.methodLink RX2 57 yX2_isSlot, Cond.static yX2_isSlot, Cond.initialized RX2, Cond.code yX2_isSlot cX2_isSlot 1 (some .boolean), Cond.methodLink RX2 34 yX2_isIn, Cond.static yX2_isIn, Cond.code yX2_isIn cX2_isIn 3 (some .boolean), Cond.methodLink RX2 52 yX2_fails, Cond.instanceMethod yX2_fails, Cond.selects RX2 yX2_fails yX2_fails, Cond.code yX2_fails cX2_fails 2 (some .int), Cond.methodLink RX2 87 yX2_turns, Cond.instanceMethod yX2_turns, Cond.selects RX2 yX2_turns yX2_turns, Cond.code yX2_turns cX2_turns 3 (some .int), Cond.methodLink RX2 48 yX2_turn, Cond.instanceMethod yX2_turn, Cond.selects RX2 yX2_turn yX2_turn, Cond.code yX2_turn cX2_turn 3 none, Cond.fieldLink RX2 45 "DockGatesModel" "turned" "I"]
def wsX2_size_r2 : List Cond := [Cond.fieldLink RX2 27 "DockGatesModel" "turnedSlot" "I", Cond.fieldLink RX2 31 "DockGatesModel" "turnedGate" "I"]
def wsX2_size : List Cond := .code yX2_size cX2_size 2 (some .int) :: ((wsX2_size_r1 ++ wsX2_size_r2) ++ wsX20)
def wsX2_at : List Cond := .code yX2_at cX2_at 2 (some .int) :: ([.fieldLink RX2 24 "DockGatesModel" "slots" "[I", .methodLink RX2 57 yX2_isSlot, .static yX2_isSlot, .initialized RX2, .code yX2_isSlot cX2_isSlot 1 (some .boolean), .methodLink RX2 34 yX2_isIn, .static yX2_isIn, .code yX2_isIn cX2_isIn 3 (some .boolean)] ++ wsX20)
def wsX2_fault : List Cond := .code yX2_fault cX2_fault 1 (some .int) :: ([.fieldLink RX2 42 "DockGatesModel" "fault" "I"] ++ wsX20)
def wsX2_told : List Cond := .code yX2_told cX2_told 2 (some .int) :: ([.fieldLink RX2 45 "DockGatesModel" "turned" "I", .fieldLink RX2 27 "DockGatesModel" "turnedSlot" "I", .fieldLink RX2 31 "DockGatesModel" "turnedGate" "I"] ++ wsX20)
def wsX2_count : List Cond := .code yX2_count cX2_count 1 (some .int) :: ([.fieldLink RX2 61 "DockGatesModel" "things" "I"] ++ wsX20)
def wsL_law_r1 : List Cond := [Cond.classLink RL 7 RX1, Cond.instantiable RX1 6, Cond.initialized RX1, Cond.classLink RL 10 RX2, Cond.instantiable RX2 10, Cond.initialized RX2, Cond.constantLong RL 32 (4294967295), Cond.methodLink RL 9 yX1_init, Cond.instanceMethod yX1_init, Cond.code yX1_init cX1_init 1 none, Cond.methodLink RX1 1 objectInit, Cond.instanceMethod objectInit, Cond.code objectInit ⟨#[0xb1]⟩ 1 none, Cond.classLink RX1 9 RX0, Cond.fieldLink RX1 11 "DockGates" "slots" "[LDockGates$Thing;", Cond.fieldLink RX1 15 "DockGates" "made" "I", Cond.fieldLink RX1 19 "DockGates" "latestFault" "I", Cond.fieldLink RX1 22 "DockGates" "turns" "I", Cond.fieldLink RX1 25 "DockGates" "turnedSlot" "I", Cond.fieldLink RX1 28 "DockGates" "turnedGate" "I", Cond.methodLink RL 12 yX2_init, Cond.instanceMethod yX2_init, Cond.code yX2_init cX2_init 2 none, Cond.methodLink RX2 1 objectInit]
def wsL_law_r2 : List Cond := [Cond.arrayClass .int, Cond.fieldLink RX2 7 "DockGatesModel" "kind" "[I", Cond.fieldLink RX2 13 "DockGatesModel" "size" "[I", Cond.arrayClass .boolean, Cond.fieldLink RX2 16 "DockGatesModel" "isShut" "[Z", Cond.arrayClass .long, Cond.fieldLink RX2 20 "DockGatesModel" "cell" "[J", Cond.fieldLink RX2 24 "DockGatesModel" "slots" "[I", Cond.fieldLink RX2 27 "DockGatesModel" "turnedSlot" "I", Cond.fieldLink RX2 31 "DockGatesModel" "turnedGate" "I", Cond.methodLink RL 13 yX1_make, Cond.instanceMethod yX1_make, Cond.selects RX1 yX1_make yX1_make, Cond.code yX1_make cX1_make 5 (some .int), Cond.instantiable RX0 6, Cond.initialized RX0, Cond.methodLink RX1 31 yX1_isKind, Cond.static yX1_isKind, Cond.code yX1_isKind cX1_isKind 1 (some .boolean), Cond.methodLink RX1 35 yX1_isSlot, Cond.static yX1_isSlot, Cond.code yX1_isSlot cX1_isSlot 1 (some .boolean), Cond.methodLink RX1 38 yX1_mostOf, Cond.static yX1_mostOf]
def wsL_law_r3 : List Cond := [Cond.code yX1_mostOf cX1_mostOf 1 (some .int), Cond.constant RX1 113 (1000000), Cond.methodLink RX1 117 yX1_holdsNumbers, Cond.static yX1_holdsNumbers, Cond.code yX1_holdsNumbers cX1_holdsNumbers 1 (some .boolean), Cond.methodLink RX1 120 yX1_holdsThings, Cond.static yX1_holdsThings, Cond.code yX1_holdsThings cX1_holdsThings 1 (some .boolean), Cond.methodLink RX1 42 yX0_init, Cond.instanceMethod yX0_init, Cond.code yX0_init cX0_init 6 none, Cond.methodLink RX0 1 objectInit, Cond.fieldLink RX0 7 "DockGates$Thing" "number" "I", Cond.fieldLink RX0 13 "DockGates$Thing" "kind" "I", Cond.fieldLink RX0 25 "DockGates$Thing" "numbers" "[J", Cond.classLink RX0 8 RX0, Cond.fieldLink RX0 29 "DockGates$Thing" "parts" "[LDockGates$Thing;", Cond.fieldLink RX0 33 "DockGates$Thing" "amount" "I", Cond.fieldLink RX0 36 "DockGates$Thing" "shut" "Z", Cond.methodLink RL 17 yX2_make, Cond.instanceMethod yX2_make, Cond.selects RX2 yX2_make yX2_make, Cond.code yX2_make cX2_make 5 (some .int), Cond.fieldLink RX2 42 "DockGatesModel" "fault" "I"]
def wsL_law_r4 : List Cond := [Cond.constant RX2 56 (1000000), Cond.fieldLink RX2 61 "DockGatesModel" "things" "I", Cond.constantLong RX2 67 (-1), Cond.methodLink RX2 34 yX2_isIn, Cond.static yX2_isIn, Cond.code yX2_isIn cX2_isIn 3 (some .boolean), Cond.methodLink RX2 57 yX2_isSlot, Cond.static yX2_isSlot, Cond.code yX2_isSlot cX2_isSlot 1 (some .boolean), Cond.methodLink RX2 64 yX2_holdsThings, Cond.static yX2_holdsThings, Cond.code yX2_holdsThings cX2_holdsThings 1 (some .boolean), Cond.methodLink RL 18 yX1_fits, Cond.instanceMethod yX1_fits, Cond.selects RX1 yX1_fits yX1_fits, Cond.code yX1_fits cX1_fits 3 (some .int), Cond.methodLink RX1 45 yX1_isGate, Cond.static yX1_isGate, Cond.code yX1_isGate cX1_isGate 1 (some .boolean), Cond.methodLink RX1 48 yX1_letsThrough, Cond.static yX1_letsThrough, Cond.code yX1_letsThrough cX1_letsThrough 3 (some .boolean), Cond.fieldLink RX1 79 "DockGates$Thing" "kind" "I", Cond.methodLink RL 22 yX2_fits]
def wsL_law_r5 : List Cond := [Cond.instanceMethod yX2_fits, Cond.selects RX2 yX2_fits yX2_fits, Cond.code yX2_fits cX2_fits 3 (some .int), Cond.methodLink RX2 69 yX2_fitsAt, Cond.instanceMethod yX2_fitsAt, Cond.selects RX2 yX2_fitsAt yX2_fitsAt, Cond.code yX2_fitsAt cX2_fitsAt 3 (some .boolean), Cond.methodLink RX2 38 yX2_goes, Cond.static yX2_goes, Cond.code yX2_goes cX2_goes 2 (some .boolean), Cond.methodLink RL 23 yX1_pass, Cond.instanceMethod yX1_pass, Cond.selects RX1 yX1_pass yX1_pass, Cond.code yX1_pass cX1_pass 4 (some .long), Cond.methodLink RX1 52 yX1_failed, Cond.instanceMethod yX1_failed, Cond.selects RX1 yX1_failed yX1_failed, Cond.code yX1_failed cX1_failed 2 (some .int), Cond.methodLink RX1 55 yX1_broughtThrough, Cond.instanceMethod yX1_broughtThrough, Cond.selects RX1 yX1_broughtThrough yX1_broughtThrough, Cond.code yX1_broughtThrough cX1_broughtThrough 4 (some (.object "DockGates$Thing")), Cond.methodLink RX1 92 yX1_failedAtGate, Cond.instanceMethod yX1_failedAtGate]
def wsL_law_r6 : List Cond := [Cond.selects RX1 yX1_failedAtGate yX1_failedAtGate, Cond.code yX1_failedAtGate cX1_failedAtGate 3 (some .int), Cond.methodLink RX1 67 yX1_turnBack, Cond.instanceMethod yX1_turnBack, Cond.selects RX1 yX1_turnBack yX1_turnBack, Cond.code yX1_turnBack cX1_turnBack 3 none, Cond.methodLink RX1 59 yX1_hasHole, Cond.static yX1_hasHole, Cond.code yX1_hasHole cX1_hasHole 5 (some .boolean), Cond.fieldLink RX1 96 "DockGates$Thing" "parts" "[LDockGates$Thing;", Cond.methodLink RX1 126 yX1_lacksPart, Cond.static yX1_lacksPart, Cond.code yX1_lacksPart cX1_lacksPart 5 (some .boolean), Cond.methodLink RX1 63 yX1_toldBy, Cond.static yX1_toldBy, Cond.code yX1_toldBy cX1_toldBy 2 (some .long), Cond.methodLink RX1 129 yX1_toldByRows, Cond.static yX1_toldByRows, Cond.code yX1_toldByRows cX1_toldByRows 8 (some .long), Cond.methodLink RX1 136 yX1_toldByRow, Cond.static yX1_toldByRow, Cond.code yX1_toldByRow cX1_toldByRow 2 (some .long), Cond.methodLink RX1 139 yX1_sumOfNumbers, Cond.static yX1_sumOfNumbers]
def wsL_law_r7 : List Cond := [Cond.code yX1_sumOfNumbers cX1_sumOfNumbers 8 (some .long), Cond.fieldLink RX1 75 "DockGates$Thing" "numbers" "[J", Cond.methodLink RX1 143 yX1_toldByLoads, Cond.static yX1_toldByLoads, Cond.code yX1_toldByLoads cX1_toldByLoads 8 (some .long), Cond.methodLink RX1 132 yX1_toldByLoad, Cond.static yX1_toldByLoad, Cond.code yX1_toldByLoad cX1_toldByLoad 2 (some .int), Cond.fieldLink RX1 114 "DockGates$Thing" "amount" "I", Cond.methodLink RX1 106 yX1_lidOf, Cond.static yX1_lidOf, Cond.code yX1_lidOf cX1_lidOf 1 (some .int), Cond.fieldLink RX1 109 "DockGates$Thing" "shut" "Z", Cond.methodLink RL 27 yX2_pass, Cond.instanceMethod yX2_pass, Cond.selects RX2 yX2_pass yX2_pass, Cond.code yX2_pass cX2_pass 5 (some .long), Cond.methodLink RX2 52 yX2_fails, Cond.instanceMethod yX2_fails, Cond.selects RX2 yX2_fails yX2_fails, Cond.code yX2_fails cX2_fails 2 (some .int), Cond.methodLink RX2 87 yX2_turns, Cond.instanceMethod yX2_turns, Cond.selects RX2 yX2_turns yX2_turns]
def wsL_law_r8 : List Cond := [Cond.code yX2_turns cX2_turns 3 (some .int), Cond.methodLink RX2 48 yX2_turn, Cond.instanceMethod yX2_turn, Cond.selects RX2 yX2_turn yX2_turn, Cond.code yX2_turn cX2_turn 3 none, Cond.fieldLink RX2 45 "DockGatesModel" "turned" "I", Cond.methodLink RX2 90 yX2_toldBy, Cond.instanceMethod yX2_toldBy, Cond.selects RX2 yX2_toldBy yX2_toldBy, Cond.code yX2_toldBy cX2_toldBy 3 (some .long), Cond.methodLink RX2 75 yX2_sumOf, Cond.instanceMethod yX2_sumOf, Cond.selects RX2 yX2_sumOf yX2_sumOf, Cond.code yX2_sumOf cX2_sumOf 5 (some .long), Cond.methodLink RX2 83 yX2_rowsOf, Cond.instanceMethod yX2_rowsOf, Cond.selects RX2 yX2_rowsOf yX2_rowsOf, Cond.code yX2_rowsOf cX2_rowsOf 6 (some .int), Cond.methodLink RX2 79 yX2_insideOf, Cond.instanceMethod yX2_insideOf, Cond.selects RX2 yX2_insideOf yX2_insideOf, Cond.code yX2_insideOf cX2_insideOf 6 (some .int), Cond.methodLink RX2 72 yX2_weighs, Cond.instanceMethod yX2_weighs]
def wsL_law_r9 : List Cond := [Cond.selects RX2 yX2_weighs yX2_weighs, Cond.code yX2_weighs cX2_weighs 2 (some .int), Cond.methodLink RL 28 yX1_seek, Cond.instanceMethod yX1_seek, Cond.selects RX1 yX1_seek yX1_seek, Cond.code yX1_seek cX1_seek 5 (some .int), Cond.methodLink RL 31 yX2_seek, Cond.instanceMethod yX2_seek, Cond.selects RX2 yX2_seek yX2_seek, Cond.code yX2_seek cX2_seek 5 (some .int), Cond.methodLink RX2 94 yX2_bad, Cond.instanceMethod yX2_bad, Cond.selects RX2 yX2_bad yX2_bad, Cond.code yX2_bad cX2_bad 1 (some .int), Cond.methodLink RL 34 yX1_put, Cond.instanceMethod yX1_put, Cond.selects RX1 yX1_put yX1_put, Cond.code yX1_put cX1_put 6 (some .int), Cond.methodLink RX1 71 yX1_rowOfNumbers, Cond.instanceMethod yX1_rowOfNumbers, Cond.selects RX1 yX1_rowOfNumbers yX1_rowOfNumbers, Cond.code yX1_rowOfNumbers cX1_rowOfNumbers 3 (some (.object "DockGates$Thing")), Cond.methodLink RX1 82 yX1_narrowed, Cond.static yX1_narrowed]
def wsL_law_r10 : List Cond := [Cond.code yX1_narrowed cX1_narrowed 3 (some .long), Cond.methodLink RL 38 yX2_put, Cond.instanceMethod yX2_put, Cond.selects RX2 yX2_put yX2_put, Cond.code yX2_put cX2_put 6 (some .int), Cond.methodLink RX2 98 yX2_isNumberAt, Cond.instanceMethod yX2_isNumberAt, Cond.selects RX2 yX2_isNumberAt yX2_isNumberAt, Cond.code yX2_isNumberAt cX2_isNumberAt 4 (some .boolean), Cond.methodLink RL 39 yX1_get, Cond.instanceMethod yX1_get, Cond.selects RX1 yX1_get yX1_get, Cond.code yX1_get cX1_get 4 (some .long), Cond.methodLink RL 42 yX2_get, Cond.instanceMethod yX2_get, Cond.selects RX2 yX2_get yX2_get, Cond.code yX2_get cX2_get 3 (some .long), Cond.methodLink RL 43 yX1_lay, Cond.instanceMethod yX1_lay, Cond.selects RX1 yX1_lay yX1_lay, Cond.code yX1_lay cX1_lay 7 (some .int), Cond.methodLink RX1 86 yX1_rowOfThings, Cond.instanceMethod yX1_rowOfThings, Cond.selects RX1 yX1_rowOfThings yX1_rowOfThings]
def wsL_law_r11 : List Cond := [Cond.code yX1_rowOfThings cX1_rowOfThings 3 (some (.object "DockGates$Thing")), Cond.methodLink RX1 89 yX1_gateOfLaying, Cond.static yX1_gateOfLaying, Cond.code yX1_gateOfLaying cX1_gateOfLaying 1 (some .int), Cond.methodLink RX1 99 yX1_gateOfPlaces, Cond.static yX1_gateOfPlaces, Cond.code yX1_gateOfPlaces cX1_gateOfPlaces 1 (some .int), Cond.methodLink RL 46 yX2_lay, Cond.instanceMethod yX2_lay, Cond.selects RX2 yX2_lay yX2_lay, Cond.code yX2_lay cX2_lay 7 (some .int), Cond.methodLink RX2 101 yX2_canHold, Cond.static yX2_canHold, Cond.code yX2_canHold cX2_canHold 2 (some .boolean), Cond.methodLink RL 47 yX1_take, Cond.instanceMethod yX1_take, Cond.selects RX1 yX1_take yX1_take, Cond.code yX1_take cX1_take 5 (some .int), Cond.methodLink RX1 102 yX1_numberOf, Cond.static yX1_numberOf, Cond.code yX1_numberOf cX1_numberOf 1 (some .int), Cond.fieldLink RX1 123 "DockGates$Thing" "number" "I", Cond.methodLink RL 50 yX2_take, Cond.instanceMethod yX2_take]
def wsL_law_r12 : List Cond := [Cond.selects RX2 yX2_take yX2_take, Cond.code yX2_take cX2_take 5 (some .int), Cond.methodLink RL 51 yX1_share, Cond.instanceMethod yX1_share, Cond.selects RX1 yX1_share yX1_share, Cond.code yX1_share cX1_share 3 (some .int), Cond.methodLink RL 54 yX2_share, Cond.instanceMethod yX2_share, Cond.selects RX2 yX2_share yX2_share, Cond.code yX2_share cX2_share 3 (some .int), Cond.methodLink RL 55 yX1_empty, Cond.instanceMethod yX1_empty, Cond.selects RX1 yX1_empty yX1_empty, Cond.code yX1_empty cX1_empty 3 (some .int), Cond.methodLink RL 59 yX2_empty, Cond.instanceMethod yX2_empty, Cond.selects RX2 yX2_empty yX2_empty, Cond.code yX2_empty cX2_empty 3 (some .int), Cond.methodLink RL 60 yX1_lid, Cond.instanceMethod yX1_lid, Cond.selects RX1 yX1_lid yX1_lid, Cond.code yX1_lid cX1_lid 5 (some .int), Cond.methodLink RL 64 yX2_lid, Cond.instanceMethod yX2_lid]
def wsL_law_r13 : List Cond := [Cond.selects RX2 yX2_lid yX2_lid, Cond.code yX2_lid cX2_lid 4 (some .int), Cond.methodLink RX2 104 yX2_isLetThrough, Cond.instanceMethod yX2_isLetThrough, Cond.selects RX2 yX2_isLetThrough yX2_isLetThrough, Cond.code yX2_isLetThrough cX2_isLetThrough 3 (some .boolean), Cond.methodLink RL 65 yX1_weigh, Cond.instanceMethod yX1_weigh, Cond.selects RX1 yX1_weigh yX1_weigh, Cond.code yX1_weigh cX1_weigh 5 (some .int), Cond.methodLink RL 68 yX2_weigh, Cond.instanceMethod yX2_weigh, Cond.selects RX2 yX2_weigh yX2_weigh, Cond.code yX2_weigh cX2_weigh 4 (some .int), Cond.methodLink RL 69 yX1_size, Cond.instanceMethod yX1_size, Cond.selects RX1 yX1_size yX1_size, Cond.code yX1_size cX1_size 3 (some .int), Cond.methodLink RL 72 yX2_size, Cond.instanceMethod yX2_size, Cond.selects RX2 yX2_size yX2_size, Cond.code yX2_size cX2_size 2 (some .int), Cond.methodLink RL 73 yX1_at, Cond.instanceMethod yX1_at]
def wsL_law_r14 : List Cond := [Cond.selects RX1 yX1_at yX1_at, Cond.code yX1_at cX1_at 2 (some .int), Cond.methodLink RL 76 yX2_at, Cond.instanceMethod yX2_at, Cond.selects RX2 yX2_at yX2_at, Cond.code yX2_at cX2_at 2 (some .int), Cond.methodLink RL 77 yX1_fault, Cond.instanceMethod yX1_fault, Cond.selects RX1 yX1_fault yX1_fault, Cond.code yX1_fault cX1_fault 1 (some .int), Cond.methodLink RL 81 yX2_fault, Cond.instanceMethod yX2_fault, Cond.selects RX2 yX2_fault yX2_fault, Cond.code yX2_fault cX2_fault 1 (some .int), Cond.methodLink RL 82 yX1_told, Cond.instanceMethod yX1_told, Cond.selects RX1 yX1_told yX1_told, Cond.code yX1_told cX1_told 2 (some .int), Cond.methodLink RL 85 yX2_told, Cond.instanceMethod yX2_told, Cond.selects RX2 yX2_told yX2_told, Cond.code yX2_told cX2_told 2 (some .int), Cond.methodLink RL 86 yX1_count, Cond.instanceMethod yX1_count]
def wsL_law_r15 : List Cond := [Cond.selects RX1 yX1_count yX1_count, Cond.code yX1_count cX1_count 1 (some .int), Cond.methodLink RL 89 yX2_count, Cond.instanceMethod yX2_count, Cond.selects RX2 yX2_count yX2_count, Cond.code yX2_count cX2_count 1 (some .int)]
def wsL_law : List Cond := (wsL_law_r1 ++ (wsL_law_r2 ++ (wsL_law_r3 ++ (wsL_law_r4 ++ (wsL_law_r5 ++ (wsL_law_r6 ++ (wsL_law_r7 ++ (wsL_law_r8 ++ (wsL_law_r9 ++ (wsL_law_r10 ++ (wsL_law_r11 ++ (wsL_law_r12 ++ (wsL_law_r13 ++ (wsL_law_r14 ++ wsL_law_r15)))))))))))))) ++ wsX10 ++ wsX20 ++ wsX00 ++ ([] : List Cond)
abbrev vwCl : List vw_C := [(RX0, TX0, 6), (RX1, TX1, 6), (RX2, TX2, 10)]
end
section
set_option maxRecDepth 20000 in
theorem wsL_law_r1_in : ∀ w ∈ wsL_law_r1, w ∈ lw_tbl := fun w h => (goodIn_p wsL_law_r1 [26, 29, 242] (by decide +kernel) (by decide +kernel) w h).1
set_option maxRecDepth 20000 in
theorem wsL_law_r2_in : ∀ w ∈ wsL_law_r2, w ∈ lw_tbl := fun w h => (goodIn_p wsL_law_r2 [54, 57, 60] (by decide +kernel) (by decide +kernel) w h).1
set_option maxRecDepth 20000 in
theorem wsL_law_r3_in : ∀ w ∈ wsL_law_r3, w ∈ lw_tbl := fun w h => (goodIn_p wsL_law_r3 [63, 66, 69, 74, 280] (by decide +kernel) (by decide +kernel) w h).1
set_option maxRecDepth 20000 in
theorem wsL_law_r4_in : ∀ w ∈ wsL_law_r4, w ∈ lw_tbl := fun w h => (goodIn_p wsL_law_r4 [283, 287, 290, 108, 111, 114] (by decide +kernel) (by decide +kernel) w h).1
set_option maxRecDepth 20000 in
theorem wsL_law_r5_in : ∀ w ∈ wsL_law_r5, w ∈ lw_tbl := fun w h => (goodIn_p wsL_law_r5 [295, 299, 302, 118, 122, 126] (by decide +kernel) (by decide +kernel) w h).1
set_option maxRecDepth 20000 in
theorem wsL_law_r6_in : ∀ w ∈ wsL_law_r6, w ∈ lw_tbl := fun w h => (goodIn_p wsL_law_r6 [130, 134, 137, 140, 143, 146, 149] (by decide +kernel) (by decide +kernel) w h).1
set_option maxRecDepth 20000 in
theorem wsL_law_r7_in : ∀ w ∈ wsL_law_r7, w ∈ lw_tbl := fun w h => (goodIn_p wsL_law_r7 [152, 155, 158, 161, 306, 310] (by decide +kernel) (by decide +kernel) w h).1
set_option maxRecDepth 20000 in
theorem wsL_law_r8_in : ∀ w ∈ wsL_law_r8, w ∈ lw_tbl := fun w h => (goodIn_p wsL_law_r8 [314, 318, 322, 326, 330, 334] (by decide +kernel) (by decide +kernel) w h).1
set_option maxRecDepth 20000 in
theorem wsL_law_r9_in : ∀ w ∈ wsL_law_r9, w ∈ lw_tbl := fun w h => (goodIn_p wsL_law_r9 [338, 165, 342, 346, 169, 173] (by decide +kernel) (by decide +kernel) w h).1
set_option maxRecDepth 20000 in
theorem wsL_law_r10_in : ∀ w ∈ wsL_law_r10, w ∈ lw_tbl := fun w h => (goodIn_p wsL_law_r10 [176, 350, 354, 180, 358, 184] (by decide +kernel) (by decide +kernel) w h).1
set_option maxRecDepth 20000 in
theorem wsL_law_r11_in : ∀ w ∈ wsL_law_r11, w ∈ lw_tbl := fun w h => (goodIn_p wsL_law_r11 [188, 191, 194, 362, 365, 198, 201] (by decide +kernel) (by decide +kernel) w h).1
set_option maxRecDepth 20000 in
theorem wsL_law_r12_in : ∀ w ∈ wsL_law_r12, w ∈ lw_tbl := fun w h => (goodIn_p wsL_law_r12 [369, 205, 373, 209, 377, 213] (by decide +kernel) (by decide +kernel) w h).1
set_option maxRecDepth 20000 in
theorem wsL_law_r13_in : ∀ w ∈ wsL_law_r13, w ∈ lw_tbl := fun w h => (goodIn_p wsL_law_r13 [381, 385, 217, 389, 221, 393] (by decide +kernel) (by decide +kernel) w h).1
set_option maxRecDepth 20000 in
theorem wsL_law_r14_in : ∀ w ∈ wsL_law_r14, w ∈ lw_tbl := fun w h => (goodIn_p wsL_law_r14 [225, 397, 229, 401, 233, 405] (by decide +kernel) (by decide +kernel) w h).1
set_option maxRecDepth 20000 in
theorem wsL_law_r15_in : ∀ w ∈ wsL_law_r15, w ∈ lw_tbl := fun w h => (goodIn_p wsL_law_r15 [237, 409] (by decide +kernel) (by decide +kernel) w h).1
set_option maxRecDepth 20000 in
theorem wsL_law_x1 : ∀ w ∈ wsX10, w ∈ lw_tbl := fun w h => (goodIn_p wsX10 [] (by decide +kernel) (by decide +kernel) w h).1
set_option maxRecDepth 20000 in
theorem wsL_law_x2 : ∀ w ∈ wsX20, w ∈ lw_tbl := fun w h => (goodIn_p wsX20 [] (by decide +kernel) (by decide +kernel) w h).1
set_option maxRecDepth 20000 in
theorem wsL_law_x0 : ∀ w ∈ wsX00, w ∈ lw_tbl := fun w h => (goodIn_p wsX00 [] (by decide +kernel) (by decide +kernel) w h).1
theorem wsL_law_in : ∀ w ∈ wsL_law, w ∈ lw_tbl := by
  unfold wsL_law
  exact List.forall_mem_append.mpr ⟨List.forall_mem_append.mpr ⟨List.forall_mem_append.mpr ⟨List.forall_mem_append.mpr ⟨List.forall_mem_append.mpr ⟨wsL_law_r1_in, List.forall_mem_append.mpr ⟨wsL_law_r2_in, List.forall_mem_append.mpr ⟨wsL_law_r3_in, List.forall_mem_append.mpr ⟨wsL_law_r4_in, List.forall_mem_append.mpr ⟨wsL_law_r5_in, List.forall_mem_append.mpr ⟨wsL_law_r6_in, List.forall_mem_append.mpr ⟨wsL_law_r7_in, List.forall_mem_append.mpr ⟨wsL_law_r8_in, List.forall_mem_append.mpr ⟨wsL_law_r9_in, List.forall_mem_append.mpr ⟨wsL_law_r10_in, List.forall_mem_append.mpr ⟨wsL_law_r11_in, List.forall_mem_append.mpr ⟨wsL_law_r12_in, List.forall_mem_append.mpr ⟨wsL_law_r13_in, List.forall_mem_append.mpr ⟨wsL_law_r14_in, wsL_law_r15_in⟩⟩⟩⟩⟩⟩⟩⟩⟩⟩⟩⟩⟩⟩, wsL_law_x1⟩, wsL_law_x2⟩, wsL_law_x0⟩, fun _ h => absurd h List.not_mem_nil⟩
theorem inlX0 : ∀ w ∈ wsX00, w ∈ wsL_law := fun _ h => List.mem_append_left _ (List.mem_append_right _ h)
theorem inX0 : ∀ w ∈ wsX00, w ∈ lw_tbl := fun w h => wsL_law_in w (inlX0 w h)
theorem inlX1 : ∀ w ∈ wsX10, w ∈ wsL_law := fun _ h => List.mem_append_left _ (List.mem_append_left _ (List.mem_append_left _ (List.mem_append_right _ h)))
theorem inX1 : ∀ w ∈ wsX10, w ∈ lw_tbl := fun w h => wsL_law_in w (inlX1 w h)
theorem inlX2 : ∀ w ∈ wsX20, w ∈ wsL_law := fun _ h => List.mem_append_left _ (List.mem_append_left _ (List.mem_append_right _ h))
theorem inX2 : ∀ w ∈ wsX20, w ∈ lw_tbl := fun w h => wsL_law_in w (inlX2 w h)
end
section
set_option maxRecDepth 20000 in
theorem ggX0_init_X1_holdsNumbers : GoodIn wsX0_init wsX1_holdsNumbers := goodIn_r _ [14] (by decide +kernel) (by decide +kernel)
set_option maxRecDepth 20000 in
theorem gX0_init_X1_holdsNumbers_n16 : GoodIn wsX0_init (wsX1_holdsNumbers) := ggX0_init_X1_holdsNumbers
set_option maxRecDepth 20000 in
theorem ggX0_init_X1_holdsThings : GoodIn wsX0_init wsX1_holdsThings := goodIn_r _ [16] (by decide +kernel) (by decide +kernel)
set_option maxRecDepth 20000 in
theorem gX0_init_X1_holdsThings_n22 : GoodIn wsX0_init (wsX1_holdsThings) := ggX0_init_X1_holdsThings
theorem dX0_init_0 : decode cX0_init 0 = .ok (.aload_n 0, 1) := by decide +kernel
theorem dX0_init_1 : decode cX0_init 1 = .ok (.invokespecial 1, 3) := by decide +kernel
theorem dX0_init_4 : decode cX0_init 4 = .ok (.aload_n 0, 1) := by decide +kernel
theorem dX0_init_5 : decode cX0_init 5 = .ok (.iload_n 1, 1) := by decide +kernel
theorem dX0_init_6 : decode cX0_init 6 = .ok (.putfield 7, 3) := by decide +kernel
theorem dX0_init_9 : decode cX0_init 9 = .ok (.aload_n 0, 1) := by decide +kernel
theorem dX0_init_10 : decode cX0_init 10 = .ok (.iload_n 2, 1) := by decide +kernel
theorem dX0_init_11 : decode cX0_init 11 = .ok (.putfield 13, 3) := by decide +kernel
theorem dX0_init_14 : decode cX0_init 14 = .ok (.iload_n 2, 1) := by decide +kernel
theorem dX0_init_15 : decode cX0_init 15 = .ok (.invokestatic 16, 3) := by decide +kernel
theorem dX0_init_18 : decode cX0_init 18 = .ok (.istore 4, 2) := by decide +kernel
theorem dX0_init_20 : decode cX0_init 20 = .ok (.iload_n 2, 1) := by decide +kernel
theorem dX0_init_21 : decode cX0_init 21 = .ok (.invokestatic 22, 3) := by decide +kernel
theorem dX0_init_24 : decode cX0_init 24 = .ok (.istore 5, 2) := by decide +kernel
theorem dX0_init_26 : decode cX0_init 26 = .ok (.aload_n 0, 1) := by decide +kernel
theorem dX0_init_27 : decode cX0_init 27 = .ok (.iload 4, 2) := by decide +kernel
theorem dX0_init_29 : decode cX0_init 29 = .ok (.ifCond .eq 7, 3) := by decide +kernel
theorem dX0_init_32 : decode cX0_init 32 = .ok (.iload_n 3, 1) := by decide +kernel
theorem dX0_init_33 : decode cX0_init 33 = .ok (.goto 4, 3) := by decide +kernel
theorem dX0_init_36 : decode cX0_init 36 = .ok (.iconst 0, 1) := by decide +kernel
theorem dX0_init_37 : decode cX0_init 37 = .ok (.newarray .long, 2) := by decide +kernel
theorem dX0_init_39 : decode cX0_init 39 = .ok (.putfield 25, 3) := by decide +kernel
theorem dX0_init_42 : decode cX0_init 42 = .ok (.aload_n 0, 1) := by decide +kernel
theorem dX0_init_43 : decode cX0_init 43 = .ok (.iload 5, 2) := by decide +kernel
theorem dX0_init_45 : decode cX0_init 45 = .ok (.ifCond .eq 7, 3) := by decide +kernel
theorem dX0_init_48 : decode cX0_init 48 = .ok (.iload_n 3, 1) := by decide +kernel
theorem dX0_init_49 : decode cX0_init 49 = .ok (.goto 4, 3) := by decide +kernel
theorem dX0_init_52 : decode cX0_init 52 = .ok (.iconst 0, 1) := by decide +kernel
theorem dX0_init_53 : decode cX0_init 53 = .ok (.anewarray 8, 3) := by decide +kernel
theorem dX0_init_56 : decode cX0_init 56 = .ok (.putfield 29, 3) := by decide +kernel
theorem dX0_init_59 : decode cX0_init 59 = .ok (.aload_n 0, 1) := by decide +kernel
theorem dX0_init_60 : decode cX0_init 60 = .ok (.iload 4, 2) := by decide +kernel
theorem dX0_init_62 : decode cX0_init 62 = .ok (.ifCond .ne 8, 3) := by decide +kernel
theorem dX0_init_65 : decode cX0_init 65 = .ok (.iload 5, 2) := by decide +kernel
theorem dX0_init_67 : decode cX0_init 67 = .ok (.ifCond .eq 7, 3) := by decide +kernel
theorem dX0_init_70 : decode cX0_init 70 = .ok (.iconst 0, 1) := by decide +kernel
theorem dX0_init_71 : decode cX0_init 71 = .ok (.goto 4, 3) := by decide +kernel
theorem dX0_init_74 : decode cX0_init 74 = .ok (.iload_n 3, 1) := by decide +kernel
theorem dX0_init_75 : decode cX0_init 75 = .ok (.putfield 33, 3) := by decide +kernel
theorem dX0_init_78 : decode cX0_init 78 = .ok (.aload_n 0, 1) := by decide +kernel
theorem dX0_init_79 : decode cX0_init 79 = .ok (.iconst 0, 1) := by decide +kernel
theorem dX0_init_80 : decode cX0_init 80 = .ok (.putfield 36, 3) := by decide +kernel
theorem dX0_init_83 : decode cX0_init 83 = .ok (.return_, 1) := by decide +kernel
theorem dX1_init_0 : decode cX1_init 0 = .ok (.aload_n 0, 1) := by decide +kernel
theorem dX1_init_1 : decode cX1_init 1 = .ok (.invokespecial 1, 3) := by decide +kernel
theorem dX1_init_4 : decode cX1_init 4 = .ok (.aload_n 0, 1) := by decide +kernel
theorem dX1_init_5 : decode cX1_init 5 = .ok (.bipush 12, 2) := by decide +kernel
theorem dX1_init_7 : decode cX1_init 7 = .ok (.anewarray 9, 3) := by decide +kernel
theorem dX1_init_10 : decode cX1_init 10 = .ok (.putfield 11, 3) := by decide +kernel
theorem dX1_init_13 : decode cX1_init 13 = .ok (.aload_n 0, 1) := by decide +kernel
theorem dX1_init_14 : decode cX1_init 14 = .ok (.iconst 0, 1) := by decide +kernel
theorem dX1_init_15 : decode cX1_init 15 = .ok (.putfield 15, 3) := by decide +kernel
theorem dX1_init_18 : decode cX1_init 18 = .ok (.aload_n 0, 1) := by decide +kernel
theorem dX1_init_19 : decode cX1_init 19 = .ok (.iconst 0, 1) := by decide +kernel
theorem dX1_init_20 : decode cX1_init 20 = .ok (.putfield 19, 3) := by decide +kernel
theorem dX1_init_23 : decode cX1_init 23 = .ok (.aload_n 0, 1) := by decide +kernel
theorem dX1_init_24 : decode cX1_init 24 = .ok (.iconst 0, 1) := by decide +kernel
theorem dX1_init_25 : decode cX1_init 25 = .ok (.putfield 22, 3) := by decide +kernel
theorem dX1_init_28 : decode cX1_init 28 = .ok (.aload_n 0, 1) := by decide +kernel
theorem dX1_init_29 : decode cX1_init 29 = .ok (.iconst (-1), 1) := by decide +kernel
theorem dX1_init_30 : decode cX1_init 30 = .ok (.putfield 25, 3) := by decide +kernel
theorem dX1_init_33 : decode cX1_init 33 = .ok (.aload_n 0, 1) := by decide +kernel
theorem dX1_init_34 : decode cX1_init 34 = .ok (.iconst (-1), 1) := by decide +kernel
theorem dX1_init_35 : decode cX1_init 35 = .ok (.putfield 28, 3) := by decide +kernel
theorem dX1_init_38 : decode cX1_init 38 = .ok (.return_, 1) := by decide +kernel
set_option maxRecDepth 20000 in
theorem ggX1_make_X1_isKind : GoodIn wsX1_make wsX1_isKind := goodIn_r _ [10] (by decide +kernel) (by decide +kernel)
set_option maxRecDepth 20000 in
theorem gX1_make_X1_isKind : GoodIn wsX1_make (va_wsS RX1 31 yX1_isKind wsX1_isKind) := goodIn_app (goodIn_of _ (by decide +kernel)) ggX1_make_X1_isKind
set_option maxRecDepth 20000 in
theorem ggX1_make_X1_isSlot : GoodIn wsX1_make wsX1_isSlot := goodIn_r _ [13] (by decide +kernel) (by decide +kernel)
set_option maxRecDepth 20000 in
theorem gX1_make_X1_isSlot : GoodIn wsX1_make (va_wsS RX1 35 yX1_isSlot wsX1_isSlot) := goodIn_app (goodIn_of _ (by decide +kernel)) ggX1_make_X1_isSlot
set_option maxRecDepth 20000 in
theorem ggX1_make_X1_mostOf : GoodIn wsX1_make wsX1_mostOf := goodIn_r _ [16, 17, 18, 19, 9, 20, 21, 22, 23] (by decide +kernel) (by decide +kernel)
set_option maxRecDepth 20000 in
theorem gX1_make_X1_mostOf : GoodIn wsX1_make (va_wsS RX1 38 yX1_mostOf wsX1_mostOf) := goodIn_app (goodIn_of _ (by decide +kernel)) ggX1_make_X1_mostOf
set_option maxRecDepth 20000 in
theorem ggX1_make_X0_init : GoodIn wsX1_make wsX0_init := goodIn_r _ [26, 27, 28, 29, 30, 31, 32, 33, 34, 35, 36, 37, 19, 9, 20, 22, 23, 44, 45, 46, 47, 48, 49] (by decide +kernel) (by decide +kernel)
set_option maxRecDepth 20000 in
theorem gX1_make_X0_init : GoodIn wsX1_make (wsX0_init) := ggX1_make_X0_init
theorem dX1_make_0 : decode cX1_make 0 = .ok (.aload_n 0, 1) := by decide +kernel
theorem dX1_make_1 : decode cX1_make 1 = .ok (.iconst 0, 1) := by decide +kernel
theorem dX1_make_2 : decode cX1_make 2 = .ok (.putfield 19, 3) := by decide +kernel
theorem dX1_make_5 : decode cX1_make 5 = .ok (.iload_n 1, 1) := by decide +kernel
theorem dX1_make_6 : decode cX1_make 6 = .ok (.invokestatic 31, 3) := by decide +kernel
theorem dX1_make_9 : decode cX1_make 9 = .ok (.ifCond .eq 22, 3) := by decide +kernel
theorem dX1_make_12 : decode cX1_make 12 = .ok (.iload_n 3, 1) := by decide +kernel
theorem dX1_make_13 : decode cX1_make 13 = .ok (.invokestatic 35, 3) := by decide +kernel
theorem dX1_make_16 : decode cX1_make 16 = .ok (.ifCond .eq 15, 3) := by decide +kernel
theorem dX1_make_19 : decode cX1_make 19 = .ok (.iload_n 2, 1) := by decide +kernel
theorem dX1_make_20 : decode cX1_make 20 = .ok (.ifCond .lt 11, 3) := by decide +kernel
theorem dX1_make_23 : decode cX1_make 23 = .ok (.iload_n 2, 1) := by decide +kernel
theorem dX1_make_24 : decode cX1_make 24 = .ok (.iload_n 1, 1) := by decide +kernel
theorem dX1_make_25 : decode cX1_make 25 = .ok (.invokestatic 38, 3) := by decide +kernel
theorem dX1_make_28 : decode cX1_make 28 = .ok (.if_icmp .le 6, 3) := by decide +kernel
theorem dX1_make_31 : decode cX1_make 31 = .ok (.bipush (-2), 2) := by decide +kernel
theorem dX1_make_33 : decode cX1_make 33 = .ok (.ireturn, 1) := by decide +kernel
theorem dX1_make_34 : decode cX1_make 34 = .ok (.aload_n 0, 1) := by decide +kernel
theorem dX1_make_35 : decode cX1_make 35 = .ok (.getfield 15, 3) := by decide +kernel
theorem dX1_make_38 : decode cX1_make 38 = .ok (.bipush 60, 2) := by decide +kernel
theorem dX1_make_40 : decode cX1_make 40 = .ok (.if_icmp .lt 6, 3) := by decide +kernel
theorem dX1_make_43 : decode cX1_make 43 = .ok (.bipush (-3), 2) := by decide +kernel
theorem dX1_make_45 : decode cX1_make 45 = .ok (.ireturn, 1) := by decide +kernel
theorem dX1_make_46 : decode cX1_make 46 = .ok (.aload_n 0, 1) := by decide +kernel
theorem dX1_make_47 : decode cX1_make 47 = .ok (.getfield 15, 3) := by decide +kernel
theorem dX1_make_50 : decode cX1_make 50 = .ok (.istore 4, 2) := by decide +kernel
theorem dX1_make_52 : decode cX1_make 52 = .ok (.aload_n 0, 1) := by decide +kernel
theorem dX1_make_53 : decode cX1_make 53 = .ok (.getfield 11, 3) := by decide +kernel
theorem dX1_make_56 : decode cX1_make 56 = .ok (.iload_n 3, 1) := by decide +kernel
theorem dX1_make_57 : decode cX1_make 57 = .ok (.new 9, 3) := by decide +kernel
theorem dX1_make_60 : decode cX1_make 60 = .ok (.dup, 1) := by decide +kernel
theorem dX1_make_61 : decode cX1_make 61 = .ok (.iload 4, 2) := by decide +kernel
theorem dX1_make_63 : decode cX1_make 63 = .ok (.iload_n 1, 1) := by decide +kernel
theorem dX1_make_64 : decode cX1_make 64 = .ok (.iload_n 2, 1) := by decide +kernel
theorem dX1_make_65 : decode cX1_make 65 = .ok (.invokespecial 42, 3) := by decide +kernel
theorem dX1_make_68 : decode cX1_make 68 = .ok (.aastore, 1) := by decide +kernel
theorem dX1_make_69 : decode cX1_make 69 = .ok (.aload_n 0, 1) := by decide +kernel
theorem dX1_make_70 : decode cX1_make 70 = .ok (.dup, 1) := by decide +kernel
theorem dX1_make_71 : decode cX1_make 71 = .ok (.getfield 15, 3) := by decide +kernel
theorem dX1_make_74 : decode cX1_make 74 = .ok (.iconst 1, 1) := by decide +kernel
theorem dX1_make_75 : decode cX1_make 75 = .ok (.iadd, 1) := by decide +kernel
theorem dX1_make_76 : decode cX1_make 76 = .ok (.putfield 15, 3) := by decide +kernel
theorem dX1_make_79 : decode cX1_make 79 = .ok (.iload 4, 2) := by decide +kernel
theorem dX1_make_81 : decode cX1_make 81 = .ok (.ireturn, 1) := by decide +kernel
set_option maxRecDepth 20000 in
theorem ggX1_fits_X1_isSlot : GoodIn wsX1_fits wsX1_isSlot := goodIn_r _ [6] (by decide +kernel) (by decide +kernel)
set_option maxRecDepth 20000 in
theorem gX1_fits_X1_isSlot : GoodIn wsX1_fits (va_wsS RX1 35 yX1_isSlot wsX1_isSlot) := goodIn_app (goodIn_of _ (by decide +kernel)) ggX1_fits_X1_isSlot
set_option maxRecDepth 20000 in
theorem ggX1_fits_X1_isGate : GoodIn wsX1_fits wsX1_isGate := goodIn_r _ [9] (by decide +kernel) (by decide +kernel)
set_option maxRecDepth 20000 in
theorem gX1_fits_X1_isGate : GoodIn wsX1_fits (va_wsS RX1 45 yX1_isGate wsX1_isGate) := goodIn_app (goodIn_of _ (by decide +kernel)) ggX1_fits_X1_isGate
set_option maxRecDepth 20000 in
theorem ggX1_fits_X1_letsThrough : GoodIn wsX1_fits wsX1_letsThrough := goodIn_r _ [12, 13, 20, 21, 22, 23, 24, 25] (by decide +kernel) (by decide +kernel)
set_option maxRecDepth 20000 in
theorem gX1_fits_X1_letsThrough : GoodIn wsX1_fits (va_wsS RX1 48 yX1_letsThrough wsX1_letsThrough) := goodIn_app (goodIn_of _ (by decide +kernel)) ggX1_fits_X1_letsThrough
theorem dX1_fits_0 : decode cX1_fits 0 = .ok (.aload_n 0, 1) := by decide +kernel
theorem dX1_fits_1 : decode cX1_fits 1 = .ok (.iconst 0, 1) := by decide +kernel
theorem dX1_fits_2 : decode cX1_fits 2 = .ok (.putfield 19, 3) := by decide +kernel
theorem dX1_fits_5 : decode cX1_fits 5 = .ok (.iload_n 1, 1) := by decide +kernel
theorem dX1_fits_6 : decode cX1_fits 6 = .ok (.invokestatic 35, 3) := by decide +kernel
theorem dX1_fits_9 : decode cX1_fits 9 = .ok (.ifCond .eq 10, 3) := by decide +kernel
theorem dX1_fits_12 : decode cX1_fits 12 = .ok (.iload_n 2, 1) := by decide +kernel
theorem dX1_fits_13 : decode cX1_fits 13 = .ok (.invokestatic 45, 3) := by decide +kernel
theorem dX1_fits_16 : decode cX1_fits 16 = .ok (.ifCond .ne 6, 3) := by decide +kernel
theorem dX1_fits_19 : decode cX1_fits 19 = .ok (.bipush (-2), 2) := by decide +kernel
theorem dX1_fits_21 : decode cX1_fits 21 = .ok (.ireturn, 1) := by decide +kernel
theorem dX1_fits_22 : decode cX1_fits 22 = .ok (.iload_n 2, 1) := by decide +kernel
theorem dX1_fits_23 : decode cX1_fits 23 = .ok (.aload_n 0, 1) := by decide +kernel
theorem dX1_fits_24 : decode cX1_fits 24 = .ok (.getfield 11, 3) := by decide +kernel
theorem dX1_fits_27 : decode cX1_fits 27 = .ok (.iload_n 1, 1) := by decide +kernel
theorem dX1_fits_28 : decode cX1_fits 28 = .ok (.aaload, 1) := by decide +kernel
theorem dX1_fits_29 : decode cX1_fits 29 = .ok (.invokestatic 48, 3) := by decide +kernel
theorem dX1_fits_32 : decode cX1_fits 32 = .ok (.ifCond .eq 7, 3) := by decide +kernel
theorem dX1_fits_35 : decode cX1_fits 35 = .ok (.iconst 1, 1) := by decide +kernel
theorem dX1_fits_36 : decode cX1_fits 36 = .ok (.goto 4, 3) := by decide +kernel
theorem dX1_fits_39 : decode cX1_fits 39 = .ok (.iconst 0, 1) := by decide +kernel
theorem dX1_fits_40 : decode cX1_fits 40 = .ok (.ireturn, 1) := by decide +kernel
set_option maxRecDepth 20000 in
theorem ggX1_pass_X1_isSlot : GoodIn wsX1_pass wsX1_isSlot := goodIn_r _ [5] (by decide +kernel) (by decide +kernel)
set_option maxRecDepth 20000 in
theorem gX1_pass_X1_isSlot : GoodIn wsX1_pass (va_wsS RX1 35 yX1_isSlot wsX1_isSlot) := goodIn_app (goodIn_of _ (by decide +kernel)) ggX1_pass_X1_isSlot
set_option maxRecDepth 20000 in
theorem ggX1_pass_X1_isGate : GoodIn wsX1_pass wsX1_isGate := goodIn_r _ [8] (by decide +kernel) (by decide +kernel)
set_option maxRecDepth 20000 in
theorem gX1_pass_X1_isGate : GoodIn wsX1_pass (va_wsS RX1 45 yX1_isGate wsX1_isGate) := goodIn_app (goodIn_of _ (by decide +kernel)) ggX1_pass_X1_isGate
set_option maxRecDepth 20000 in
theorem ggX1_pass_X1_failed : GoodIn wsX1_pass wsX1_failed := goodIn_r _ [12, 1, 64, 65, 66, 67, 68, 69] (by decide +kernel) (by decide +kernel)
set_option maxRecDepth 20000 in
theorem gX1_pass_X1_failed : GoodIn wsX1_pass (wsV RX1 52 RX1 yX1_failed wsX1_failed) := goodIn_app (goodIn_of _ (by decide +kernel)) ggX1_pass_X1_failed
set_option maxRecDepth 20000 in
theorem ggX1_pass_X1_broughtThrough : GoodIn wsX1_pass wsX1_broughtThrough := goodIn_r _ [16, 17, 9, 10, 11, 4, 12, 1, 18, 19, 20, 21, 22, 23, 24, 25, 26, 27, 28, 29, 30, 31, 32, 64, 65, 66, 67, 68, 69, 70, 71, 72, 73, 74, 75] (by decide +kernel) (by decide +kernel)
set_option maxRecDepth 20000 in
theorem gX1_pass_X1_broughtThrough : GoodIn wsX1_pass (wsV RX1 55 RX1 yX1_broughtThrough wsX1_broughtThrough) := goodIn_app (goodIn_of _ (by decide +kernel)) ggX1_pass_X1_broughtThrough
set_option maxRecDepth 20000 in
theorem ggX1_pass_X1_hasHole : GoodIn wsX1_pass wsX1_hasHole := goodIn_r _ [35, 36, 37, 38, 4, 39, 70, 71, 72, 73, 74, 75] (by decide +kernel) (by decide +kernel)
set_option maxRecDepth 20000 in
theorem gX1_pass_X1_hasHole : GoodIn wsX1_pass (va_wsS RX1 59 yX1_hasHole wsX1_hasHole) := goodIn_app (goodIn_of _ (by decide +kernel)) ggX1_pass_X1_hasHole
set_option maxRecDepth 20000 in
theorem ggX1_pass_X1_toldBy : GoodIn wsX1_pass wsX1_toldBy := goodIn_r _ [42, 43, 44, 4, 45, 36, 46, 47, 48, 49, 50, 51, 52, 53, 54, 55, 56, 57, 58, 21, 59, 60, 61, 62, 63, 70, 71, 72, 73, 74, 75] (by decide +kernel) (by decide +kernel)
set_option maxRecDepth 20000 in
theorem gX1_pass_X1_toldBy : GoodIn wsX1_pass (va_wsS RX1 63 yX1_toldBy wsX1_toldBy) := goodIn_app (goodIn_of _ (by decide +kernel)) ggX1_pass_X1_toldBy
theorem dX1_pass_0 : decode cX1_pass 0 = .ok (.aload_n 0, 1) := by decide +kernel
theorem dX1_pass_1 : decode cX1_pass 1 = .ok (.iconst 0, 1) := by decide +kernel
theorem dX1_pass_2 : decode cX1_pass 2 = .ok (.putfield 19, 3) := by decide +kernel
theorem dX1_pass_5 : decode cX1_pass 5 = .ok (.iload_n 1, 1) := by decide +kernel
theorem dX1_pass_6 : decode cX1_pass 6 = .ok (.invokestatic 35, 3) := by decide +kernel
theorem dX1_pass_9 : decode cX1_pass 9 = .ok (.ifCond .eq 10, 3) := by decide +kernel
theorem dX1_pass_12 : decode cX1_pass 12 = .ok (.iload_n 2, 1) := by decide +kernel
theorem dX1_pass_13 : decode cX1_pass 13 = .ok (.invokestatic 45, 3) := by decide +kernel
theorem dX1_pass_16 : decode cX1_pass 16 = .ok (.ifCond .ne 11, 3) := by decide +kernel
theorem dX1_pass_19 : decode cX1_pass 19 = .ok (.aload_n 0, 1) := by decide +kernel
theorem dX1_pass_20 : decode cX1_pass 20 = .ok (.bipush (-2), 2) := by decide +kernel
theorem dX1_pass_22 : decode cX1_pass 22 = .ok (.invokevirtual 52, 3) := by decide +kernel
theorem dX1_pass_25 : decode cX1_pass 25 = .ok (.i2l, 1) := by decide +kernel
theorem dX1_pass_26 : decode cX1_pass 26 = .ok (.lreturn, 1) := by decide +kernel
theorem dX1_pass_27 : decode cX1_pass 27 = .ok (.aload_n 0, 1) := by decide +kernel
theorem dX1_pass_28 : decode cX1_pass 28 = .ok (.iload_n 2, 1) := by decide +kernel
theorem dX1_pass_29 : decode cX1_pass 29 = .ok (.iload_n 1, 1) := by decide +kernel
theorem dX1_pass_30 : decode cX1_pass 30 = .ok (.invokevirtual 55, 3) := by decide +kernel
theorem dX1_pass_33 : decode cX1_pass 33 = .ok (.astore_n 3, 1) := by decide +kernel
theorem dX1_pass_34 : decode cX1_pass 34 = .ok (.aload_n 3, 1) := by decide +kernel
theorem dX1_pass_35 : decode cX1_pass 35 = .ok (.ifnonnull 5, 3) := by decide +kernel
theorem dX1_pass_38 : decode cX1_pass 38 = .ok (.lconst 0, 1) := by decide +kernel
theorem dX1_pass_39 : decode cX1_pass 39 = .ok (.lreturn, 1) := by decide +kernel
theorem dX1_pass_40 : decode cX1_pass 40 = .ok (.aload_n 3, 1) := by decide +kernel
theorem dX1_pass_41 : decode cX1_pass 41 = .ok (.invokestatic 59, 3) := by decide +kernel
theorem dX1_pass_44 : decode cX1_pass 44 = .ok (.ifCond .eq 10, 3) := by decide +kernel
theorem dX1_pass_47 : decode cX1_pass 47 = .ok (.aload_n 0, 1) := by decide +kernel
theorem dX1_pass_48 : decode cX1_pass 48 = .ok (.iconst 4, 1) := by decide +kernel
theorem dX1_pass_49 : decode cX1_pass 49 = .ok (.invokevirtual 52, 3) := by decide +kernel
theorem dX1_pass_52 : decode cX1_pass 52 = .ok (.i2l, 1) := by decide +kernel
theorem dX1_pass_53 : decode cX1_pass 53 = .ok (.lreturn, 1) := by decide +kernel
theorem dX1_pass_54 : decode cX1_pass 54 = .ok (.aload_n 3, 1) := by decide +kernel
theorem dX1_pass_55 : decode cX1_pass 55 = .ok (.iload_n 2, 1) := by decide +kernel
theorem dX1_pass_56 : decode cX1_pass 56 = .ok (.invokestatic 63, 3) := by decide +kernel
theorem dX1_pass_59 : decode cX1_pass 59 = .ok (.lreturn, 1) := by decide +kernel
set_option maxRecDepth 20000 in
theorem ggX1_seek_X1_isSlot : GoodIn wsX1_seek wsX1_isSlot := goodIn_r _ [6] (by decide +kernel) (by decide +kernel)
set_option maxRecDepth 20000 in
theorem gX1_seek_X1_isSlot : GoodIn wsX1_seek (va_wsS RX1 35 yX1_isSlot wsX1_isSlot) := goodIn_app (goodIn_of _ (by decide +kernel)) ggX1_seek_X1_isSlot
set_option maxRecDepth 20000 in
theorem ggX1_seek_X1_isGate : GoodIn wsX1_seek wsX1_isGate := goodIn_r _ [9] (by decide +kernel) (by decide +kernel)
set_option maxRecDepth 20000 in
theorem gX1_seek_X1_isGate : GoodIn wsX1_seek (va_wsS RX1 45 yX1_isGate wsX1_isGate) := goodIn_app (goodIn_of _ (by decide +kernel)) ggX1_seek_X1_isGate
set_option maxRecDepth 20000 in
theorem ggX1_seek_X1_letsThrough : GoodIn wsX1_seek wsX1_letsThrough := goodIn_r _ [12, 13, 27, 28, 29, 30, 31, 32] (by decide +kernel) (by decide +kernel)
set_option maxRecDepth 20000 in
theorem gX1_seek_X1_letsThrough : GoodIn wsX1_seek (va_wsS RX1 48 yX1_letsThrough wsX1_letsThrough) := goodIn_app (goodIn_of _ (by decide +kernel)) ggX1_seek_X1_letsThrough
set_option maxRecDepth 20000 in
theorem ggX1_seek_X1_turnBack : GoodIn wsX1_seek wsX1_turnBack := goodIn_r _ [17, 18, 19, 20, 21, 22, 23, 24, 25, 26] (by decide +kernel) (by decide +kernel)
set_option maxRecDepth 20000 in
theorem gX1_seek_X1_turnBack : GoodIn wsX1_seek (wsV RX1 67 RX1 yX1_turnBack wsX1_turnBack) := goodIn_app (goodIn_of _ (by decide +kernel)) ggX1_seek_X1_turnBack
theorem dX1_seek_0 : decode cX1_seek 0 = .ok (.aload_n 0, 1) := by decide +kernel
theorem dX1_seek_1 : decode cX1_seek 1 = .ok (.iconst 0, 1) := by decide +kernel
theorem dX1_seek_2 : decode cX1_seek 2 = .ok (.putfield 19, 3) := by decide +kernel
theorem dX1_seek_5 : decode cX1_seek 5 = .ok (.iload_n 1, 1) := by decide +kernel
theorem dX1_seek_6 : decode cX1_seek 6 = .ok (.invokestatic 35, 3) := by decide +kernel
theorem dX1_seek_9 : decode cX1_seek 9 = .ok (.ifCond .eq 22, 3) := by decide +kernel
theorem dX1_seek_12 : decode cX1_seek 12 = .ok (.iload_n 2, 1) := by decide +kernel
theorem dX1_seek_13 : decode cX1_seek 13 = .ok (.invokestatic 45, 3) := by decide +kernel
theorem dX1_seek_16 : decode cX1_seek 16 = .ok (.ifCond .eq 15, 3) := by decide +kernel
theorem dX1_seek_19 : decode cX1_seek 19 = .ok (.iload_n 3, 1) := by decide +kernel
theorem dX1_seek_20 : decode cX1_seek 20 = .ok (.invokestatic 45, 3) := by decide +kernel
theorem dX1_seek_23 : decode cX1_seek 23 = .ok (.ifCond .eq 8, 3) := by decide +kernel
theorem dX1_seek_26 : decode cX1_seek 26 = .ok (.iload_n 3, 1) := by decide +kernel
theorem dX1_seek_27 : decode cX1_seek 27 = .ok (.iload_n 2, 1) := by decide +kernel
theorem dX1_seek_28 : decode cX1_seek 28 = .ok (.if_icmp .ge 6, 3) := by decide +kernel
theorem dX1_seek_31 : decode cX1_seek 31 = .ok (.bipush (-2), 2) := by decide +kernel
theorem dX1_seek_33 : decode cX1_seek 33 = .ok (.ireturn, 1) := by decide +kernel
theorem dX1_seek_34 : decode cX1_seek 34 = .ok (.iload_n 2, 1) := by decide +kernel
theorem dX1_seek_35 : decode cX1_seek 35 = .ok (.istore 4, 2) := by decide +kernel
theorem dX1_seek_37 : decode cX1_seek 37 = .ok (.iload 4, 2) := by decide +kernel
theorem dX1_seek_39 : decode cX1_seek 39 = .ok (.iload_n 3, 1) := by decide +kernel
theorem dX1_seek_40 : decode cX1_seek 40 = .ok (.if_icmp .gt 33, 3) := by decide +kernel
theorem dX1_seek_43 : decode cX1_seek 43 = .ok (.iload 4, 2) := by decide +kernel
theorem dX1_seek_45 : decode cX1_seek 45 = .ok (.aload_n 0, 1) := by decide +kernel
theorem dX1_seek_46 : decode cX1_seek 46 = .ok (.getfield 11, 3) := by decide +kernel
theorem dX1_seek_49 : decode cX1_seek 49 = .ok (.iload_n 1, 1) := by decide +kernel
theorem dX1_seek_50 : decode cX1_seek 50 = .ok (.aaload, 1) := by decide +kernel
theorem dX1_seek_51 : decode cX1_seek 51 = .ok (.invokestatic 48, 3) := by decide +kernel
theorem dX1_seek_54 : decode cX1_seek 54 = .ok (.ifCond .eq 6, 3) := by decide +kernel
theorem dX1_seek_57 : decode cX1_seek 57 = .ok (.iload 4, 2) := by decide +kernel
theorem dX1_seek_59 : decode cX1_seek 59 = .ok (.ireturn, 1) := by decide +kernel
theorem dX1_seek_60 : decode cX1_seek 60 = .ok (.aload_n 0, 1) := by decide +kernel
theorem dX1_seek_61 : decode cX1_seek 61 = .ok (.iload_n 1, 1) := by decide +kernel
theorem dX1_seek_62 : decode cX1_seek 62 = .ok (.iload 4, 2) := by decide +kernel
theorem dX1_seek_64 : decode cX1_seek 64 = .ok (.invokevirtual 67, 3) := by decide +kernel
theorem dX1_seek_67 : decode cX1_seek 67 = .ok (.iinc 4 1, 3) := by decide +kernel
theorem dX1_seek_70 : decode cX1_seek 70 = .ok (.goto (-33), 3) := by decide +kernel
theorem dX1_seek_73 : decode cX1_seek 73 = .ok (.iconst (-1), 1) := by decide +kernel
theorem dX1_seek_74 : decode cX1_seek 74 = .ok (.ireturn, 1) := by decide +kernel
set_option maxRecDepth 20000 in
theorem ggX1_put_X1_isSlot : GoodIn wsX1_put wsX1_isSlot := goodIn_r _ [7] (by decide +kernel) (by decide +kernel)
set_option maxRecDepth 20000 in
theorem gX1_put_X1_isSlot : GoodIn wsX1_put (va_wsS RX1 35 yX1_isSlot wsX1_isSlot) := goodIn_app (goodIn_of _ (by decide +kernel)) ggX1_put_X1_isSlot
set_option maxRecDepth 20000 in
theorem ggX1_put_X1_rowOfNumbers : GoodIn wsX1_put wsX1_rowOfNumbers := goodIn_r _ [11, 12, 3, 13, 14, 6, 15, 16, 17, 18, 19, 20, 21, 22, 23, 1, 24, 25, 26, 27, 28, 29, 30, 31, 32, 33, 34, 35, 36, 37, 41, 42, 43, 44, 45, 46, 47, 48, 49, 50, 51, 52] (by decide +kernel) (by decide +kernel)
set_option maxRecDepth 20000 in
theorem gX1_put_X1_rowOfNumbers : GoodIn wsX1_put (wsV RX1 71 RX1 yX1_rowOfNumbers wsX1_rowOfNumbers) := goodIn_app (goodIn_of _ (by decide +kernel)) ggX1_put_X1_rowOfNumbers
set_option maxRecDepth 20000 in
theorem ggX1_put_X1_failed : GoodIn wsX1_put wsX1_failed := goodIn_r _ [23, 1, 41, 42, 43, 44, 45, 46] (by decide +kernel) (by decide +kernel)
set_option maxRecDepth 20000 in
theorem gX1_put_X1_failed : GoodIn wsX1_put (wsV RX1 52 RX1 yX1_failed wsX1_failed) := goodIn_app (goodIn_of _ (by decide +kernel)) ggX1_put_X1_failed
set_option maxRecDepth 20000 in
theorem ggX1_put_X1_narrowed : GoodIn wsX1_put wsX1_narrowed := goodIn_r _ [40] (by decide +kernel) (by decide +kernel)
set_option maxRecDepth 20000 in
theorem gX1_put_X1_narrowed : GoodIn wsX1_put (va_wsS RX1 82 yX1_narrowed wsX1_narrowed) := goodIn_app (goodIn_of _ (by decide +kernel)) ggX1_put_X1_narrowed
theorem dX1_put_0 : decode cX1_put 0 = .ok (.aload_n 0, 1) := by decide +kernel
theorem dX1_put_1 : decode cX1_put 1 = .ok (.iconst 0, 1) := by decide +kernel
theorem dX1_put_2 : decode cX1_put 2 = .ok (.putfield 19, 3) := by decide +kernel
theorem dX1_put_5 : decode cX1_put 5 = .ok (.iload_n 1, 1) := by decide +kernel
theorem dX1_put_6 : decode cX1_put 6 = .ok (.invokestatic 35, 3) := by decide +kernel
theorem dX1_put_9 : decode cX1_put 9 = .ok (.ifCond .ne 6, 3) := by decide +kernel
theorem dX1_put_12 : decode cX1_put 12 = .ok (.bipush (-2), 2) := by decide +kernel
theorem dX1_put_14 : decode cX1_put 14 = .ok (.ireturn, 1) := by decide +kernel
theorem dX1_put_15 : decode cX1_put 15 = .ok (.aload_n 0, 1) := by decide +kernel
theorem dX1_put_16 : decode cX1_put 16 = .ok (.iload_n 1, 1) := by decide +kernel
theorem dX1_put_17 : decode cX1_put 17 = .ok (.invokevirtual 71, 3) := by decide +kernel
theorem dX1_put_20 : decode cX1_put 20 = .ok (.astore 5, 2) := by decide +kernel
theorem dX1_put_22 : decode cX1_put 22 = .ok (.aload 5, 2) := by decide +kernel
theorem dX1_put_24 : decode cX1_put 24 = .ok (.ifnonnull 5, 3) := by decide +kernel
theorem dX1_put_27 : decode cX1_put 27 = .ok (.iconst 0, 1) := by decide +kernel
theorem dX1_put_28 : decode cX1_put 28 = .ok (.ireturn, 1) := by decide +kernel
theorem dX1_put_29 : decode cX1_put 29 = .ok (.iload_n 2, 1) := by decide +kernel
theorem dX1_put_30 : decode cX1_put 30 = .ok (.ifCond .lt 13, 3) := by decide +kernel
theorem dX1_put_33 : decode cX1_put 33 = .ok (.iload_n 2, 1) := by decide +kernel
theorem dX1_put_34 : decode cX1_put 34 = .ok (.aload 5, 2) := by decide +kernel
theorem dX1_put_36 : decode cX1_put 36 = .ok (.getfield 75, 3) := by decide +kernel
theorem dX1_put_39 : decode cX1_put 39 = .ok (.arraylength, 1) := by decide +kernel
theorem dX1_put_40 : decode cX1_put 40 = .ok (.if_icmp .lt 9, 3) := by decide +kernel
theorem dX1_put_43 : decode cX1_put 43 = .ok (.aload_n 0, 1) := by decide +kernel
theorem dX1_put_44 : decode cX1_put 44 = .ok (.iconst 3, 1) := by decide +kernel
theorem dX1_put_45 : decode cX1_put 45 = .ok (.invokevirtual 52, 3) := by decide +kernel
theorem dX1_put_48 : decode cX1_put 48 = .ok (.ireturn, 1) := by decide +kernel
theorem dX1_put_49 : decode cX1_put 49 = .ok (.aload 5, 2) := by decide +kernel
theorem dX1_put_51 : decode cX1_put 51 = .ok (.getfield 75, 3) := by decide +kernel
theorem dX1_put_54 : decode cX1_put 54 = .ok (.iload_n 2, 1) := by decide +kernel
theorem dX1_put_55 : decode cX1_put 55 = .ok (.aload 5, 2) := by decide +kernel
theorem dX1_put_57 : decode cX1_put 57 = .ok (.getfield 79, 3) := by decide +kernel
theorem dX1_put_60 : decode cX1_put 60 = .ok (.lload_n 3, 1) := by decide +kernel
theorem dX1_put_61 : decode cX1_put 61 = .ok (.invokestatic 82, 3) := by decide +kernel
theorem dX1_put_64 : decode cX1_put 64 = .ok (.lastore, 1) := by decide +kernel
theorem dX1_put_65 : decode cX1_put 65 = .ok (.iconst 1, 1) := by decide +kernel
theorem dX1_put_66 : decode cX1_put 66 = .ok (.ireturn, 1) := by decide +kernel
set_option maxRecDepth 20000 in
theorem ggX1_get_X1_isSlot : GoodIn wsX1_get wsX1_isSlot := goodIn_r _ [6] (by decide +kernel) (by decide +kernel)
set_option maxRecDepth 20000 in
theorem gX1_get_X1_isSlot : GoodIn wsX1_get (va_wsS RX1 35 yX1_isSlot wsX1_isSlot) := goodIn_app (goodIn_of _ (by decide +kernel)) ggX1_get_X1_isSlot
set_option maxRecDepth 20000 in
theorem ggX1_get_X1_failed : GoodIn wsX1_get wsX1_failed := goodIn_r _ [10, 1, 38, 39, 40, 41, 42, 43] (by decide +kernel) (by decide +kernel)
set_option maxRecDepth 20000 in
theorem gX1_get_X1_failed : GoodIn wsX1_get (wsV RX1 52 RX1 yX1_failed wsX1_failed) := goodIn_app (goodIn_of _ (by decide +kernel)) ggX1_get_X1_failed
set_option maxRecDepth 20000 in
theorem ggX1_get_X1_rowOfNumbers : GoodIn wsX1_get wsX1_rowOfNumbers := goodIn_r _ [14, 15, 16, 17, 18, 5, 19, 20, 21, 22, 23, 7, 8, 9, 10, 1, 24, 25, 26, 27, 28, 29, 30, 31, 32, 33, 34, 35, 36, 37, 38, 39, 40, 41, 42, 43, 44, 45, 46, 47, 48, 49] (by decide +kernel) (by decide +kernel)
set_option maxRecDepth 20000 in
theorem gX1_get_X1_rowOfNumbers : GoodIn wsX1_get (wsV RX1 71 RX1 yX1_rowOfNumbers wsX1_rowOfNumbers) := goodIn_app (goodIn_of _ (by decide +kernel)) ggX1_get_X1_rowOfNumbers
theorem dX1_get_0 : decode cX1_get 0 = .ok (.aload_n 0, 1) := by decide +kernel
theorem dX1_get_1 : decode cX1_get 1 = .ok (.iconst 0, 1) := by decide +kernel
theorem dX1_get_2 : decode cX1_get 2 = .ok (.putfield 19, 3) := by decide +kernel
theorem dX1_get_5 : decode cX1_get 5 = .ok (.iload_n 1, 1) := by decide +kernel
theorem dX1_get_6 : decode cX1_get 6 = .ok (.invokestatic 35, 3) := by decide +kernel
theorem dX1_get_9 : decode cX1_get 9 = .ok (.ifCond .ne 11, 3) := by decide +kernel
theorem dX1_get_12 : decode cX1_get 12 = .ok (.aload_n 0, 1) := by decide +kernel
theorem dX1_get_13 : decode cX1_get 13 = .ok (.bipush (-2), 2) := by decide +kernel
theorem dX1_get_15 : decode cX1_get 15 = .ok (.invokevirtual 52, 3) := by decide +kernel
theorem dX1_get_18 : decode cX1_get 18 = .ok (.i2l, 1) := by decide +kernel
theorem dX1_get_19 : decode cX1_get 19 = .ok (.lreturn, 1) := by decide +kernel
theorem dX1_get_20 : decode cX1_get 20 = .ok (.aload_n 0, 1) := by decide +kernel
theorem dX1_get_21 : decode cX1_get 21 = .ok (.iload_n 1, 1) := by decide +kernel
theorem dX1_get_22 : decode cX1_get 22 = .ok (.invokevirtual 71, 3) := by decide +kernel
theorem dX1_get_25 : decode cX1_get 25 = .ok (.astore_n 3, 1) := by decide +kernel
theorem dX1_get_26 : decode cX1_get 26 = .ok (.aload_n 3, 1) := by decide +kernel
theorem dX1_get_27 : decode cX1_get 27 = .ok (.ifnonnull 5, 3) := by decide +kernel
theorem dX1_get_30 : decode cX1_get 30 = .ok (.lconst 0, 1) := by decide +kernel
theorem dX1_get_31 : decode cX1_get 31 = .ok (.lreturn, 1) := by decide +kernel
theorem dX1_get_32 : decode cX1_get 32 = .ok (.iload_n 2, 1) := by decide +kernel
theorem dX1_get_33 : decode cX1_get 33 = .ok (.ifCond .lt 12, 3) := by decide +kernel
theorem dX1_get_36 : decode cX1_get 36 = .ok (.iload_n 2, 1) := by decide +kernel
theorem dX1_get_37 : decode cX1_get 37 = .ok (.aload_n 3, 1) := by decide +kernel
theorem dX1_get_38 : decode cX1_get 38 = .ok (.getfield 75, 3) := by decide +kernel
theorem dX1_get_41 : decode cX1_get 41 = .ok (.arraylength, 1) := by decide +kernel
theorem dX1_get_42 : decode cX1_get 42 = .ok (.if_icmp .lt 10, 3) := by decide +kernel
theorem dX1_get_45 : decode cX1_get 45 = .ok (.aload_n 0, 1) := by decide +kernel
theorem dX1_get_46 : decode cX1_get 46 = .ok (.iconst 3, 1) := by decide +kernel
theorem dX1_get_47 : decode cX1_get 47 = .ok (.invokevirtual 52, 3) := by decide +kernel
theorem dX1_get_50 : decode cX1_get 50 = .ok (.i2l, 1) := by decide +kernel
theorem dX1_get_51 : decode cX1_get 51 = .ok (.lreturn, 1) := by decide +kernel
theorem dX1_get_52 : decode cX1_get 52 = .ok (.aload_n 3, 1) := by decide +kernel
theorem dX1_get_53 : decode cX1_get 53 = .ok (.getfield 75, 3) := by decide +kernel
theorem dX1_get_56 : decode cX1_get 56 = .ok (.iload_n 2, 1) := by decide +kernel
theorem dX1_get_57 : decode cX1_get 57 = .ok (.laload, 1) := by decide +kernel
theorem dX1_get_58 : decode cX1_get 58 = .ok (.lreturn, 1) := by decide +kernel
set_option maxRecDepth 20000 in
theorem ggX1_lay_X1_isSlot : GoodIn wsX1_lay wsX1_isSlot := goodIn_r _ [8] (by decide +kernel) (by decide +kernel)
set_option maxRecDepth 20000 in
theorem gX1_lay_X1_isSlot : GoodIn wsX1_lay (va_wsS RX1 35 yX1_isSlot wsX1_isSlot) := goodIn_app (goodIn_of _ (by decide +kernel)) ggX1_lay_X1_isSlot
set_option maxRecDepth 20000 in
theorem ggX1_lay_X1_rowOfThings : GoodIn wsX1_lay wsX1_rowOfThings := goodIn_r _ [12, 2, 3, 13, 14, 7, 15, 16, 17, 18, 19, 20, 21, 22, 23, 1, 24, 25, 26, 27, 28, 29, 30, 31, 32, 33, 34, 35, 36, 37, 44, 45, 46, 47, 48, 49, 50, 51, 52, 53, 54, 55] (by decide +kernel) (by decide +kernel)
set_option maxRecDepth 20000 in
theorem gX1_lay_X1_rowOfThings : GoodIn wsX1_lay (wsV RX1 86 RX1 yX1_rowOfThings wsX1_rowOfThings) := goodIn_app (goodIn_of _ (by decide +kernel)) ggX1_lay_X1_rowOfThings
set_option maxRecDepth 20000 in
theorem ggX1_lay_X1_gateOfLaying : GoodIn wsX1_lay wsX1_gateOfLaying := goodIn_r _ [40] (by decide +kernel) (by decide +kernel)
set_option maxRecDepth 20000 in
theorem gX1_lay_X1_gateOfLaying : GoodIn wsX1_lay (va_wsS RX1 89 yX1_gateOfLaying wsX1_gateOfLaying) := goodIn_app (goodIn_of _ (by decide +kernel)) ggX1_lay_X1_gateOfLaying
set_option maxRecDepth 20000 in
theorem ggX1_lay_X1_letsThrough : GoodIn wsX1_lay wsX1_letsThrough := goodIn_r _ [26, 3, 50, 51, 52, 53, 54, 55] (by decide +kernel) (by decide +kernel)
set_option maxRecDepth 20000 in
theorem gX1_lay_X1_letsThrough : GoodIn wsX1_lay (va_wsS RX1 48 yX1_letsThrough wsX1_letsThrough) := goodIn_app (goodIn_of _ (by decide +kernel)) ggX1_lay_X1_letsThrough
set_option maxRecDepth 20000 in
theorem ggX1_lay_X1_failedAtGate : GoodIn wsX1_lay wsX1_failedAtGate := goodIn_r _ [30, 31, 32, 33, 7, 34, 35, 36, 37, 20, 21, 22, 23, 1, 44, 45, 46, 47, 48, 49] (by decide +kernel) (by decide +kernel)
set_option maxRecDepth 20000 in
theorem gX1_lay_X1_failedAtGate : GoodIn wsX1_lay (wsV RX1 92 RX1 yX1_failedAtGate wsX1_failedAtGate) := goodIn_app (goodIn_of _ (by decide +kernel)) ggX1_lay_X1_failedAtGate
set_option maxRecDepth 20000 in
theorem ggX1_lay_X1_failed : GoodIn wsX1_lay wsX1_failed := goodIn_r _ [23, 1, 44, 45, 46, 47, 48, 49] (by decide +kernel) (by decide +kernel)
set_option maxRecDepth 20000 in
theorem gX1_lay_X1_failed : GoodIn wsX1_lay (wsV RX1 52 RX1 yX1_failed wsX1_failed) := goodIn_app (goodIn_of _ (by decide +kernel)) ggX1_lay_X1_failed
set_option maxRecDepth 20000 in
theorem ggX1_lay_X1_gateOfPlaces : GoodIn wsX1_lay wsX1_gateOfPlaces := goodIn_r _ [43, 38, 39, 7, 40] (by decide +kernel) (by decide +kernel)
set_option maxRecDepth 20000 in
theorem gX1_lay_X1_gateOfPlaces : GoodIn wsX1_lay (va_wsS RX1 99 yX1_gateOfPlaces wsX1_gateOfPlaces) := goodIn_app (goodIn_of _ (by decide +kernel)) ggX1_lay_X1_gateOfPlaces
theorem dX1_lay_0 : decode cX1_lay 0 = .ok (.aload_n 0, 1) := by decide +kernel
theorem dX1_lay_1 : decode cX1_lay 1 = .ok (.iconst 0, 1) := by decide +kernel
theorem dX1_lay_2 : decode cX1_lay 2 = .ok (.putfield 19, 3) := by decide +kernel
theorem dX1_lay_5 : decode cX1_lay 5 = .ok (.iload_n 1, 1) := by decide +kernel
theorem dX1_lay_6 : decode cX1_lay 6 = .ok (.invokestatic 35, 3) := by decide +kernel
theorem dX1_lay_9 : decode cX1_lay 9 = .ok (.ifCond .eq 10, 3) := by decide +kernel
theorem dX1_lay_12 : decode cX1_lay 12 = .ok (.iload_n 3, 1) := by decide +kernel
theorem dX1_lay_13 : decode cX1_lay 13 = .ok (.invokestatic 35, 3) := by decide +kernel
theorem dX1_lay_16 : decode cX1_lay 16 = .ok (.ifCond .ne 6, 3) := by decide +kernel
theorem dX1_lay_19 : decode cX1_lay 19 = .ok (.bipush (-2), 2) := by decide +kernel
theorem dX1_lay_21 : decode cX1_lay 21 = .ok (.ireturn, 1) := by decide +kernel
theorem dX1_lay_22 : decode cX1_lay 22 = .ok (.aload_n 0, 1) := by decide +kernel
theorem dX1_lay_23 : decode cX1_lay 23 = .ok (.iload_n 1, 1) := by decide +kernel
theorem dX1_lay_24 : decode cX1_lay 24 = .ok (.invokevirtual 86, 3) := by decide +kernel
theorem dX1_lay_27 : decode cX1_lay 27 = .ok (.astore 4, 2) := by decide +kernel
theorem dX1_lay_29 : decode cX1_lay 29 = .ok (.aload 4, 2) := by decide +kernel
theorem dX1_lay_31 : decode cX1_lay 31 = .ok (.ifnonnull 5, 3) := by decide +kernel
theorem dX1_lay_34 : decode cX1_lay 34 = .ok (.iconst 0, 1) := by decide +kernel
theorem dX1_lay_35 : decode cX1_lay 35 = .ok (.ireturn, 1) := by decide +kernel
theorem dX1_lay_36 : decode cX1_lay 36 = .ok (.aload_n 0, 1) := by decide +kernel
theorem dX1_lay_37 : decode cX1_lay 37 = .ok (.getfield 11, 3) := by decide +kernel
theorem dX1_lay_40 : decode cX1_lay 40 = .ok (.iload_n 3, 1) := by decide +kernel
theorem dX1_lay_41 : decode cX1_lay 41 = .ok (.aaload, 1) := by decide +kernel
theorem dX1_lay_42 : decode cX1_lay 42 = .ok (.astore 5, 2) := by decide +kernel
theorem dX1_lay_44 : decode cX1_lay 44 = .ok (.aload 4, 2) := by decide +kernel
theorem dX1_lay_46 : decode cX1_lay 46 = .ok (.getfield 79, 3) := by decide +kernel
theorem dX1_lay_49 : decode cX1_lay 49 = .ok (.invokestatic 89, 3) := by decide +kernel
theorem dX1_lay_52 : decode cX1_lay 52 = .ok (.istore 6, 2) := by decide +kernel
theorem dX1_lay_54 : decode cX1_lay 54 = .ok (.aload 5, 2) := by decide +kernel
theorem dX1_lay_56 : decode cX1_lay 56 = .ok (.ifnull 21, 3) := by decide +kernel
theorem dX1_lay_59 : decode cX1_lay 59 = .ok (.iload 6, 2) := by decide +kernel
theorem dX1_lay_61 : decode cX1_lay 61 = .ok (.aload 5, 2) := by decide +kernel
theorem dX1_lay_63 : decode cX1_lay 63 = .ok (.invokestatic 48, 3) := by decide +kernel
theorem dX1_lay_66 : decode cX1_lay 66 = .ok (.ifCond .ne 11, 3) := by decide +kernel
theorem dX1_lay_69 : decode cX1_lay 69 = .ok (.aload_n 0, 1) := by decide +kernel
theorem dX1_lay_70 : decode cX1_lay 70 = .ok (.iload_n 3, 1) := by decide +kernel
theorem dX1_lay_71 : decode cX1_lay 71 = .ok (.iload 6, 2) := by decide +kernel
theorem dX1_lay_73 : decode cX1_lay 73 = .ok (.invokevirtual 92, 3) := by decide +kernel
theorem dX1_lay_76 : decode cX1_lay 76 = .ok (.ireturn, 1) := by decide +kernel
theorem dX1_lay_77 : decode cX1_lay 77 = .ok (.iload_n 2, 1) := by decide +kernel
theorem dX1_lay_78 : decode cX1_lay 78 = .ok (.ifCond .lt 13, 3) := by decide +kernel
theorem dX1_lay_81 : decode cX1_lay 81 = .ok (.iload_n 2, 1) := by decide +kernel
theorem dX1_lay_82 : decode cX1_lay 82 = .ok (.aload 4, 2) := by decide +kernel
theorem dX1_lay_84 : decode cX1_lay 84 = .ok (.getfield 96, 3) := by decide +kernel
theorem dX1_lay_87 : decode cX1_lay 87 = .ok (.arraylength, 1) := by decide +kernel
theorem dX1_lay_88 : decode cX1_lay 88 = .ok (.if_icmp .lt 9, 3) := by decide +kernel
theorem dX1_lay_91 : decode cX1_lay 91 = .ok (.aload_n 0, 1) := by decide +kernel
theorem dX1_lay_92 : decode cX1_lay 92 = .ok (.iconst 3, 1) := by decide +kernel
theorem dX1_lay_93 : decode cX1_lay 93 = .ok (.invokevirtual 52, 3) := by decide +kernel
theorem dX1_lay_96 : decode cX1_lay 96 = .ok (.ireturn, 1) := by decide +kernel
theorem dX1_lay_97 : decode cX1_lay 97 = .ok (.aload 5, 2) := by decide +kernel
theorem dX1_lay_99 : decode cX1_lay 99 = .ok (.ifnull 25, 3) := by decide +kernel
theorem dX1_lay_102 : decode cX1_lay 102 = .ok (.aload 4, 2) := by decide +kernel
theorem dX1_lay_104 : decode cX1_lay 104 = .ok (.getfield 79, 3) := by decide +kernel
theorem dX1_lay_107 : decode cX1_lay 107 = .ok (.invokestatic 99, 3) := by decide +kernel
theorem dX1_lay_110 : decode cX1_lay 110 = .ok (.aload 5, 2) := by decide +kernel
theorem dX1_lay_112 : decode cX1_lay 112 = .ok (.invokestatic 48, 3) := by decide +kernel
theorem dX1_lay_115 : decode cX1_lay 115 = .ok (.ifCond .ne 9, 3) := by decide +kernel
theorem dX1_lay_118 : decode cX1_lay 118 = .ok (.aload_n 0, 1) := by decide +kernel
theorem dX1_lay_119 : decode cX1_lay 119 = .ok (.iconst 5, 1) := by decide +kernel
theorem dX1_lay_120 : decode cX1_lay 120 = .ok (.invokevirtual 52, 3) := by decide +kernel
theorem dX1_lay_123 : decode cX1_lay 123 = .ok (.ireturn, 1) := by decide +kernel
theorem dX1_lay_124 : decode cX1_lay 124 = .ok (.aload 4, 2) := by decide +kernel
theorem dX1_lay_126 : decode cX1_lay 126 = .ok (.getfield 96, 3) := by decide +kernel
theorem dX1_lay_129 : decode cX1_lay 129 = .ok (.iload_n 2, 1) := by decide +kernel
theorem dX1_lay_130 : decode cX1_lay 130 = .ok (.aload 5, 2) := by decide +kernel
theorem dX1_lay_132 : decode cX1_lay 132 = .ok (.aastore, 1) := by decide +kernel
theorem dX1_lay_133 : decode cX1_lay 133 = .ok (.iconst 1, 1) := by decide +kernel
theorem dX1_lay_134 : decode cX1_lay 134 = .ok (.ireturn, 1) := by decide +kernel
set_option maxRecDepth 20000 in
theorem ggX1_take_X1_isSlot : GoodIn wsX1_take wsX1_isSlot := goodIn_r _ [7] (by decide +kernel) (by decide +kernel)
set_option maxRecDepth 20000 in
theorem gX1_take_X1_isSlot : GoodIn wsX1_take (va_wsS RX1 35 yX1_isSlot wsX1_isSlot) := goodIn_app (goodIn_of _ (by decide +kernel)) ggX1_take_X1_isSlot
set_option maxRecDepth 20000 in
theorem ggX1_take_X1_rowOfThings : GoodIn wsX1_take wsX1_rowOfThings := goodIn_r _ [11, 3, 12, 13, 14, 6, 15, 16, 17, 18, 19, 20, 21, 22, 23, 1, 24, 25, 26, 27, 28, 29, 30, 31, 32, 33, 34, 35, 36, 37, 42, 43, 44, 45, 46, 47, 48, 49, 50, 51, 52, 53] (by decide +kernel) (by decide +kernel)
set_option maxRecDepth 20000 in
theorem gX1_take_X1_rowOfThings : GoodIn wsX1_take (wsV RX1 86 RX1 yX1_rowOfThings wsX1_rowOfThings) := goodIn_app (goodIn_of _ (by decide +kernel)) ggX1_take_X1_rowOfThings
set_option maxRecDepth 20000 in
theorem ggX1_take_X1_failed : GoodIn wsX1_take wsX1_failed := goodIn_r _ [23, 1, 42, 43, 44, 45, 46, 47] (by decide +kernel) (by decide +kernel)
set_option maxRecDepth 20000 in
theorem gX1_take_X1_failed : GoodIn wsX1_take (wsV RX1 52 RX1 yX1_failed wsX1_failed) := goodIn_app (goodIn_of _ (by decide +kernel)) ggX1_take_X1_failed
set_option maxRecDepth 20000 in
theorem ggX1_take_X1_numberOf : GoodIn wsX1_take wsX1_numberOf := goodIn_r _ [40, 41, 48, 49, 50, 51, 52, 53] (by decide +kernel) (by decide +kernel)
set_option maxRecDepth 20000 in
theorem gX1_take_X1_numberOf : GoodIn wsX1_take (va_wsS RX1 102 yX1_numberOf wsX1_numberOf) := goodIn_app (goodIn_of _ (by decide +kernel)) ggX1_take_X1_numberOf
theorem dX1_take_0 : decode cX1_take 0 = .ok (.aload_n 0, 1) := by decide +kernel
theorem dX1_take_1 : decode cX1_take 1 = .ok (.iconst 0, 1) := by decide +kernel
theorem dX1_take_2 : decode cX1_take 2 = .ok (.putfield 19, 3) := by decide +kernel
theorem dX1_take_5 : decode cX1_take 5 = .ok (.iload_n 1, 1) := by decide +kernel
theorem dX1_take_6 : decode cX1_take 6 = .ok (.invokestatic 35, 3) := by decide +kernel
theorem dX1_take_9 : decode cX1_take 9 = .ok (.ifCond .eq 10, 3) := by decide +kernel
theorem dX1_take_12 : decode cX1_take 12 = .ok (.iload_n 3, 1) := by decide +kernel
theorem dX1_take_13 : decode cX1_take 13 = .ok (.invokestatic 35, 3) := by decide +kernel
theorem dX1_take_16 : decode cX1_take 16 = .ok (.ifCond .ne 6, 3) := by decide +kernel
theorem dX1_take_19 : decode cX1_take 19 = .ok (.bipush (-2), 2) := by decide +kernel
theorem dX1_take_21 : decode cX1_take 21 = .ok (.ireturn, 1) := by decide +kernel
theorem dX1_take_22 : decode cX1_take 22 = .ok (.aload_n 0, 1) := by decide +kernel
theorem dX1_take_23 : decode cX1_take 23 = .ok (.iload_n 1, 1) := by decide +kernel
theorem dX1_take_24 : decode cX1_take 24 = .ok (.invokevirtual 86, 3) := by decide +kernel
theorem dX1_take_27 : decode cX1_take 27 = .ok (.astore 4, 2) := by decide +kernel
theorem dX1_take_29 : decode cX1_take 29 = .ok (.aload 4, 2) := by decide +kernel
theorem dX1_take_31 : decode cX1_take 31 = .ok (.ifnonnull 5, 3) := by decide +kernel
theorem dX1_take_34 : decode cX1_take 34 = .ok (.iconst 0, 1) := by decide +kernel
theorem dX1_take_35 : decode cX1_take 35 = .ok (.ireturn, 1) := by decide +kernel
theorem dX1_take_36 : decode cX1_take 36 = .ok (.iload_n 2, 1) := by decide +kernel
theorem dX1_take_37 : decode cX1_take 37 = .ok (.ifCond .lt 13, 3) := by decide +kernel
theorem dX1_take_40 : decode cX1_take 40 = .ok (.iload_n 2, 1) := by decide +kernel
theorem dX1_take_41 : decode cX1_take 41 = .ok (.aload 4, 2) := by decide +kernel
theorem dX1_take_43 : decode cX1_take 43 = .ok (.getfield 96, 3) := by decide +kernel
theorem dX1_take_46 : decode cX1_take 46 = .ok (.arraylength, 1) := by decide +kernel
theorem dX1_take_47 : decode cX1_take 47 = .ok (.if_icmp .lt 9, 3) := by decide +kernel
theorem dX1_take_50 : decode cX1_take 50 = .ok (.aload_n 0, 1) := by decide +kernel
theorem dX1_take_51 : decode cX1_take 51 = .ok (.iconst 3, 1) := by decide +kernel
theorem dX1_take_52 : decode cX1_take 52 = .ok (.invokevirtual 52, 3) := by decide +kernel
theorem dX1_take_55 : decode cX1_take 55 = .ok (.ireturn, 1) := by decide +kernel
theorem dX1_take_56 : decode cX1_take 56 = .ok (.aload_n 0, 1) := by decide +kernel
theorem dX1_take_57 : decode cX1_take 57 = .ok (.getfield 11, 3) := by decide +kernel
theorem dX1_take_60 : decode cX1_take 60 = .ok (.iload_n 3, 1) := by decide +kernel
theorem dX1_take_61 : decode cX1_take 61 = .ok (.aload 4, 2) := by decide +kernel
theorem dX1_take_63 : decode cX1_take 63 = .ok (.getfield 96, 3) := by decide +kernel
theorem dX1_take_66 : decode cX1_take 66 = .ok (.iload_n 2, 1) := by decide +kernel
theorem dX1_take_67 : decode cX1_take 67 = .ok (.aaload, 1) := by decide +kernel
theorem dX1_take_68 : decode cX1_take 68 = .ok (.aastore, 1) := by decide +kernel
theorem dX1_take_69 : decode cX1_take 69 = .ok (.aload_n 0, 1) := by decide +kernel
theorem dX1_take_70 : decode cX1_take 70 = .ok (.getfield 11, 3) := by decide +kernel
theorem dX1_take_73 : decode cX1_take 73 = .ok (.iload_n 3, 1) := by decide +kernel
theorem dX1_take_74 : decode cX1_take 74 = .ok (.aaload, 1) := by decide +kernel
theorem dX1_take_75 : decode cX1_take 75 = .ok (.invokestatic 102, 3) := by decide +kernel
theorem dX1_take_78 : decode cX1_take 78 = .ok (.ireturn, 1) := by decide +kernel
set_option maxRecDepth 20000 in
theorem ggX1_share_X1_isSlot : GoodIn wsX1_share wsX1_isSlot := goodIn_r _ [6] (by decide +kernel) (by decide +kernel)
set_option maxRecDepth 20000 in
theorem gX1_share_X1_isSlot : GoodIn wsX1_share (va_wsS RX1 35 yX1_isSlot wsX1_isSlot) := goodIn_app (goodIn_of _ (by decide +kernel)) ggX1_share_X1_isSlot
set_option maxRecDepth 20000 in
theorem ggX1_share_X1_numberOf : GoodIn wsX1_share wsX1_numberOf := goodIn_r _ [9, 10, 17, 18, 19, 20, 21, 22] (by decide +kernel) (by decide +kernel)
set_option maxRecDepth 20000 in
theorem gX1_share_X1_numberOf : GoodIn wsX1_share (va_wsS RX1 102 yX1_numberOf wsX1_numberOf) := goodIn_app (goodIn_of _ (by decide +kernel)) ggX1_share_X1_numberOf
theorem dX1_share_0 : decode cX1_share 0 = .ok (.aload_n 0, 1) := by decide +kernel
theorem dX1_share_1 : decode cX1_share 1 = .ok (.iconst 0, 1) := by decide +kernel
theorem dX1_share_2 : decode cX1_share 2 = .ok (.putfield 19, 3) := by decide +kernel
theorem dX1_share_5 : decode cX1_share 5 = .ok (.iload_n 1, 1) := by decide +kernel
theorem dX1_share_6 : decode cX1_share 6 = .ok (.invokestatic 35, 3) := by decide +kernel
theorem dX1_share_9 : decode cX1_share 9 = .ok (.ifCond .eq 10, 3) := by decide +kernel
theorem dX1_share_12 : decode cX1_share 12 = .ok (.iload_n 2, 1) := by decide +kernel
theorem dX1_share_13 : decode cX1_share 13 = .ok (.invokestatic 35, 3) := by decide +kernel
theorem dX1_share_16 : decode cX1_share 16 = .ok (.ifCond .ne 6, 3) := by decide +kernel
theorem dX1_share_19 : decode cX1_share 19 = .ok (.bipush (-2), 2) := by decide +kernel
theorem dX1_share_21 : decode cX1_share 21 = .ok (.ireturn, 1) := by decide +kernel
theorem dX1_share_22 : decode cX1_share 22 = .ok (.aload_n 0, 1) := by decide +kernel
theorem dX1_share_23 : decode cX1_share 23 = .ok (.getfield 11, 3) := by decide +kernel
theorem dX1_share_26 : decode cX1_share 26 = .ok (.iload_n 2, 1) := by decide +kernel
theorem dX1_share_27 : decode cX1_share 27 = .ok (.aload_n 0, 1) := by decide +kernel
theorem dX1_share_28 : decode cX1_share 28 = .ok (.getfield 11, 3) := by decide +kernel
theorem dX1_share_31 : decode cX1_share 31 = .ok (.iload_n 1, 1) := by decide +kernel
theorem dX1_share_32 : decode cX1_share 32 = .ok (.aaload, 1) := by decide +kernel
theorem dX1_share_33 : decode cX1_share 33 = .ok (.aastore, 1) := by decide +kernel
theorem dX1_share_34 : decode cX1_share 34 = .ok (.aload_n 0, 1) := by decide +kernel
theorem dX1_share_35 : decode cX1_share 35 = .ok (.getfield 11, 3) := by decide +kernel
theorem dX1_share_38 : decode cX1_share 38 = .ok (.iload_n 2, 1) := by decide +kernel
theorem dX1_share_39 : decode cX1_share 39 = .ok (.aaload, 1) := by decide +kernel
theorem dX1_share_40 : decode cX1_share 40 = .ok (.invokestatic 102, 3) := by decide +kernel
theorem dX1_share_43 : decode cX1_share 43 = .ok (.ireturn, 1) := by decide +kernel
set_option maxRecDepth 20000 in
theorem ggX1_empty_X1_isSlot : GoodIn wsX1_empty wsX1_isSlot := goodIn_r _ [6] (by decide +kernel) (by decide +kernel)
set_option maxRecDepth 20000 in
theorem gX1_empty_X1_isSlot : GoodIn wsX1_empty (va_wsS RX1 35 yX1_isSlot wsX1_isSlot) := goodIn_app (goodIn_of _ (by decide +kernel)) ggX1_empty_X1_isSlot
set_option maxRecDepth 20000 in
theorem ggX1_empty_X1_numberOf : GoodIn wsX1_empty wsX1_numberOf := goodIn_r _ [9, 10, 17, 18, 19, 20, 21, 22] (by decide +kernel) (by decide +kernel)
set_option maxRecDepth 20000 in
theorem gX1_empty_X1_numberOf : GoodIn wsX1_empty (va_wsS RX1 102 yX1_numberOf wsX1_numberOf) := goodIn_app (goodIn_of _ (by decide +kernel)) ggX1_empty_X1_numberOf
theorem dX1_empty_0 : decode cX1_empty 0 = .ok (.aload_n 0, 1) := by decide +kernel
theorem dX1_empty_1 : decode cX1_empty 1 = .ok (.iconst 0, 1) := by decide +kernel
theorem dX1_empty_2 : decode cX1_empty 2 = .ok (.putfield 19, 3) := by decide +kernel
theorem dX1_empty_5 : decode cX1_empty 5 = .ok (.iload_n 1, 1) := by decide +kernel
theorem dX1_empty_6 : decode cX1_empty 6 = .ok (.invokestatic 35, 3) := by decide +kernel
theorem dX1_empty_9 : decode cX1_empty 9 = .ok (.ifCond .ne 6, 3) := by decide +kernel
theorem dX1_empty_12 : decode cX1_empty 12 = .ok (.bipush (-2), 2) := by decide +kernel
theorem dX1_empty_14 : decode cX1_empty 14 = .ok (.ireturn, 1) := by decide +kernel
theorem dX1_empty_15 : decode cX1_empty 15 = .ok (.aload_n 0, 1) := by decide +kernel
theorem dX1_empty_16 : decode cX1_empty 16 = .ok (.getfield 11, 3) := by decide +kernel
theorem dX1_empty_19 : decode cX1_empty 19 = .ok (.iload_n 1, 1) := by decide +kernel
theorem dX1_empty_20 : decode cX1_empty 20 = .ok (.aaload, 1) := by decide +kernel
theorem dX1_empty_21 : decode cX1_empty 21 = .ok (.invokestatic 102, 3) := by decide +kernel
theorem dX1_empty_24 : decode cX1_empty 24 = .ok (.istore_n 2, 1) := by decide +kernel
theorem dX1_empty_25 : decode cX1_empty 25 = .ok (.aload_n 0, 1) := by decide +kernel
theorem dX1_empty_26 : decode cX1_empty 26 = .ok (.getfield 11, 3) := by decide +kernel
theorem dX1_empty_29 : decode cX1_empty 29 = .ok (.iload_n 1, 1) := by decide +kernel
theorem dX1_empty_30 : decode cX1_empty 30 = .ok (.aconst_null, 1) := by decide +kernel
theorem dX1_empty_31 : decode cX1_empty 31 = .ok (.aastore, 1) := by decide +kernel
theorem dX1_empty_32 : decode cX1_empty 32 = .ok (.iload_n 2, 1) := by decide +kernel
theorem dX1_empty_33 : decode cX1_empty 33 = .ok (.ireturn, 1) := by decide +kernel
set_option maxRecDepth 20000 in
theorem ggX1_lid_X1_isSlot : GoodIn wsX1_lid wsX1_isSlot := goodIn_r _ [6] (by decide +kernel) (by decide +kernel)
set_option maxRecDepth 20000 in
theorem gX1_lid_X1_isSlot : GoodIn wsX1_lid (va_wsS RX1 35 yX1_isSlot wsX1_isSlot) := goodIn_app (goodIn_of _ (by decide +kernel)) ggX1_lid_X1_isSlot
set_option maxRecDepth 20000 in
theorem ggX1_lid_X1_broughtThrough : GoodIn wsX1_lid wsX1_broughtThrough := goodIn_r _ [10, 11, 12, 13, 14, 5, 15, 1, 16, 17, 18, 19, 20, 21, 22, 23, 24, 25, 26, 27, 28, 29, 30, 34, 35, 36, 37, 38, 39, 40, 41, 42, 43, 44, 45] (by decide +kernel) (by decide +kernel)
set_option maxRecDepth 20000 in
theorem gX1_lid_X1_broughtThrough : GoodIn wsX1_lid (wsV RX1 55 RX1 yX1_broughtThrough wsX1_broughtThrough) := goodIn_app (goodIn_of _ (by decide +kernel)) ggX1_lid_X1_broughtThrough
set_option maxRecDepth 20000 in
theorem ggX1_lid_X1_lidOf : GoodIn wsX1_lid wsX1_lidOf := goodIn_r _ [33, 2, 40, 41, 42, 43, 44, 45] (by decide +kernel) (by decide +kernel)
set_option maxRecDepth 20000 in
theorem gX1_lid_X1_lidOf : GoodIn wsX1_lid (va_wsS RX1 106 yX1_lidOf wsX1_lidOf) := goodIn_app (goodIn_of _ (by decide +kernel)) ggX1_lid_X1_lidOf
theorem dX1_lid_0 : decode cX1_lid 0 = .ok (.aload_n 0, 1) := by decide +kernel
theorem dX1_lid_1 : decode cX1_lid 1 = .ok (.iconst 0, 1) := by decide +kernel
theorem dX1_lid_2 : decode cX1_lid 2 = .ok (.putfield 19, 3) := by decide +kernel
theorem dX1_lid_5 : decode cX1_lid 5 = .ok (.iload_n 1, 1) := by decide +kernel
theorem dX1_lid_6 : decode cX1_lid 6 = .ok (.invokestatic 35, 3) := by decide +kernel
theorem dX1_lid_9 : decode cX1_lid 9 = .ok (.ifCond .ne 6, 3) := by decide +kernel
theorem dX1_lid_12 : decode cX1_lid 12 = .ok (.bipush (-2), 2) := by decide +kernel
theorem dX1_lid_14 : decode cX1_lid 14 = .ok (.ireturn, 1) := by decide +kernel
theorem dX1_lid_15 : decode cX1_lid 15 = .ok (.aload_n 0, 1) := by decide +kernel
theorem dX1_lid_16 : decode cX1_lid 16 = .ok (.bipush 10, 2) := by decide +kernel
theorem dX1_lid_18 : decode cX1_lid 18 = .ok (.iload_n 1, 1) := by decide +kernel
theorem dX1_lid_19 : decode cX1_lid 19 = .ok (.invokevirtual 55, 3) := by decide +kernel
theorem dX1_lid_22 : decode cX1_lid 22 = .ok (.astore_n 3, 1) := by decide +kernel
theorem dX1_lid_23 : decode cX1_lid 23 = .ok (.aload_n 3, 1) := by decide +kernel
theorem dX1_lid_24 : decode cX1_lid 24 = .ok (.ifnonnull 5, 3) := by decide +kernel
theorem dX1_lid_27 : decode cX1_lid 27 = .ok (.iconst 0, 1) := by decide +kernel
theorem dX1_lid_28 : decode cX1_lid 28 = .ok (.ireturn, 1) := by decide +kernel
theorem dX1_lid_29 : decode cX1_lid 29 = .ok (.aload_n 3, 1) := by decide +kernel
theorem dX1_lid_30 : decode cX1_lid 30 = .ok (.invokestatic 106, 3) := by decide +kernel
theorem dX1_lid_33 : decode cX1_lid 33 = .ok (.istore 4, 2) := by decide +kernel
theorem dX1_lid_35 : decode cX1_lid 35 = .ok (.aload_n 3, 1) := by decide +kernel
theorem dX1_lid_36 : decode cX1_lid 36 = .ok (.iload_n 2, 1) := by decide +kernel
theorem dX1_lid_37 : decode cX1_lid 37 = .ok (.putfield 109, 3) := by decide +kernel
theorem dX1_lid_40 : decode cX1_lid 40 = .ok (.iload 4, 2) := by decide +kernel
theorem dX1_lid_42 : decode cX1_lid 42 = .ok (.ireturn, 1) := by decide +kernel
set_option maxRecDepth 20000 in
theorem ggX1_weigh_X1_isSlot : GoodIn wsX1_weigh wsX1_isSlot := goodIn_r _ [7] (by decide +kernel) (by decide +kernel)
set_option maxRecDepth 20000 in
theorem gX1_weigh_X1_isSlot : GoodIn wsX1_weigh (va_wsS RX1 35 yX1_isSlot wsX1_isSlot) := goodIn_app (goodIn_of _ (by decide +kernel)) ggX1_weigh_X1_isSlot
set_option maxRecDepth 20000 in
theorem ggX1_weigh_X1_broughtThrough : GoodIn wsX1_weigh wsX1_broughtThrough := goodIn_r _ [11, 12, 13, 14, 15, 6, 16, 1, 17, 18, 19, 20, 21, 22, 23, 24, 25, 26, 27, 28, 29, 30, 31, 32, 33, 34, 35, 36, 37, 38, 39, 40, 41, 42, 43] (by decide +kernel) (by decide +kernel)
set_option maxRecDepth 20000 in
theorem gX1_weigh_X1_broughtThrough : GoodIn wsX1_weigh (wsV RX1 55 RX1 yX1_broughtThrough wsX1_broughtThrough) := goodIn_app (goodIn_of _ (by decide +kernel)) ggX1_weigh_X1_broughtThrough
theorem dX1_weigh_0 : decode cX1_weigh 0 = .ok (.aload_n 0, 1) := by decide +kernel
theorem dX1_weigh_1 : decode cX1_weigh 1 = .ok (.iconst 0, 1) := by decide +kernel
theorem dX1_weigh_2 : decode cX1_weigh 2 = .ok (.putfield 19, 3) := by decide +kernel
theorem dX1_weigh_5 : decode cX1_weigh 5 = .ok (.iload_n 1, 1) := by decide +kernel
theorem dX1_weigh_6 : decode cX1_weigh 6 = .ok (.invokestatic 35, 3) := by decide +kernel
theorem dX1_weigh_9 : decode cX1_weigh 9 = .ok (.ifCond .eq 13, 3) := by decide +kernel
theorem dX1_weigh_12 : decode cX1_weigh 12 = .ok (.iload_n 2, 1) := by decide +kernel
theorem dX1_weigh_13 : decode cX1_weigh 13 = .ok (.ifCond .lt 9, 3) := by decide +kernel
theorem dX1_weigh_16 : decode cX1_weigh 16 = .ok (.iload_n 2, 1) := by decide +kernel
theorem dX1_weigh_17 : decode cX1_weigh 17 = .ok (.ldc 113, 2) := by decide +kernel
theorem dX1_weigh_19 : decode cX1_weigh 19 = .ok (.if_icmp .le 6, 3) := by decide +kernel
theorem dX1_weigh_22 : decode cX1_weigh 22 = .ok (.bipush (-2), 2) := by decide +kernel
theorem dX1_weigh_24 : decode cX1_weigh 24 = .ok (.ireturn, 1) := by decide +kernel
theorem dX1_weigh_25 : decode cX1_weigh 25 = .ok (.aload_n 0, 1) := by decide +kernel
theorem dX1_weigh_26 : decode cX1_weigh 26 = .ok (.bipush 9, 2) := by decide +kernel
theorem dX1_weigh_28 : decode cX1_weigh 28 = .ok (.iload_n 1, 1) := by decide +kernel
theorem dX1_weigh_29 : decode cX1_weigh 29 = .ok (.invokevirtual 55, 3) := by decide +kernel
theorem dX1_weigh_32 : decode cX1_weigh 32 = .ok (.astore_n 3, 1) := by decide +kernel
theorem dX1_weigh_33 : decode cX1_weigh 33 = .ok (.aload_n 3, 1) := by decide +kernel
theorem dX1_weigh_34 : decode cX1_weigh 34 = .ok (.ifnonnull 5, 3) := by decide +kernel
theorem dX1_weigh_37 : decode cX1_weigh 37 = .ok (.iconst 0, 1) := by decide +kernel
theorem dX1_weigh_38 : decode cX1_weigh 38 = .ok (.ireturn, 1) := by decide +kernel
theorem dX1_weigh_39 : decode cX1_weigh 39 = .ok (.aload_n 3, 1) := by decide +kernel
theorem dX1_weigh_40 : decode cX1_weigh 40 = .ok (.getfield 114, 3) := by decide +kernel
theorem dX1_weigh_43 : decode cX1_weigh 43 = .ok (.istore 4, 2) := by decide +kernel
theorem dX1_weigh_45 : decode cX1_weigh 45 = .ok (.aload_n 3, 1) := by decide +kernel
theorem dX1_weigh_46 : decode cX1_weigh 46 = .ok (.iload_n 2, 1) := by decide +kernel
theorem dX1_weigh_47 : decode cX1_weigh 47 = .ok (.putfield 114, 3) := by decide +kernel
theorem dX1_weigh_50 : decode cX1_weigh 50 = .ok (.iload 4, 2) := by decide +kernel
theorem dX1_weigh_52 : decode cX1_weigh 52 = .ok (.ireturn, 1) := by decide +kernel
set_option maxRecDepth 20000 in
theorem ggX1_size_X1_isSlot : GoodIn wsX1_size wsX1_isSlot := goodIn_r _ [9] (by decide +kernel) (by decide +kernel)
set_option maxRecDepth 20000 in
theorem gX1_size_X1_isSlot : GoodIn wsX1_size (va_wsS RX1 35 yX1_isSlot wsX1_isSlot) := goodIn_app (goodIn_of _ (by decide +kernel)) ggX1_size_X1_isSlot
set_option maxRecDepth 20000 in
theorem ggX1_size_X1_failed : GoodIn wsX1_size wsX1_failed := goodIn_r _ [13, 1, 31, 32, 33, 34, 35, 36] (by decide +kernel) (by decide +kernel)
set_option maxRecDepth 20000 in
theorem gX1_size_X1_failed : GoodIn wsX1_size (wsV RX1 52 RX1 yX1_failed wsX1_failed) := goodIn_app (goodIn_of _ (by decide +kernel)) ggX1_size_X1_failed
set_option maxRecDepth 20000 in
theorem ggX1_size_X1_holdsNumbers : GoodIn wsX1_size wsX1_holdsNumbers := goodIn_r _ [16] (by decide +kernel) (by decide +kernel)
set_option maxRecDepth 20000 in
theorem gX1_size_X1_holdsNumbers : GoodIn wsX1_size (va_wsS RX1 117 yX1_holdsNumbers wsX1_holdsNumbers) := goodIn_app (goodIn_of _ (by decide +kernel)) ggX1_size_X1_holdsNumbers
set_option maxRecDepth 20000 in
theorem ggX1_size_X1_holdsThings : GoodIn wsX1_size wsX1_holdsThings := goodIn_r _ [19] (by decide +kernel) (by decide +kernel)
set_option maxRecDepth 20000 in
theorem gX1_size_X1_holdsThings : GoodIn wsX1_size (va_wsS RX1 120 yX1_holdsThings wsX1_holdsThings) := goodIn_app (goodIn_of _ (by decide +kernel)) ggX1_size_X1_holdsThings
set_option maxRecDepth 20000 in
theorem ggX1_size_X1_failedAtGate : GoodIn wsX1_size wsX1_failedAtGate := goodIn_r _ [23, 24, 25, 26, 8, 27, 28, 29, 30, 10, 11, 12, 13, 1, 31, 32, 33, 34, 35, 36] (by decide +kernel) (by decide +kernel)
set_option maxRecDepth 20000 in
theorem gX1_size_X1_failedAtGate : GoodIn wsX1_size (wsV RX1 92 RX1 yX1_failedAtGate wsX1_failedAtGate) := goodIn_app (goodIn_of _ (by decide +kernel)) ggX1_size_X1_failedAtGate
theorem dX1_size_0 : decode cX1_size 0 = .ok (.aload_n 0, 1) := by decide +kernel
theorem dX1_size_1 : decode cX1_size 1 = .ok (.iconst 0, 1) := by decide +kernel
theorem dX1_size_2 : decode cX1_size 2 = .ok (.putfield 19, 3) := by decide +kernel
theorem dX1_size_5 : decode cX1_size 5 = .ok (.iload_n 1, 1) := by decide +kernel
theorem dX1_size_6 : decode cX1_size 6 = .ok (.invokestatic 35, 3) := by decide +kernel
theorem dX1_size_9 : decode cX1_size 9 = .ok (.ifCond .ne 6, 3) := by decide +kernel
theorem dX1_size_12 : decode cX1_size 12 = .ok (.bipush (-2), 2) := by decide +kernel
theorem dX1_size_14 : decode cX1_size 14 = .ok (.ireturn, 1) := by decide +kernel
theorem dX1_size_15 : decode cX1_size 15 = .ok (.aload_n 0, 1) := by decide +kernel
theorem dX1_size_16 : decode cX1_size 16 = .ok (.getfield 11, 3) := by decide +kernel
theorem dX1_size_19 : decode cX1_size 19 = .ok (.iload_n 1, 1) := by decide +kernel
theorem dX1_size_20 : decode cX1_size 20 = .ok (.aaload, 1) := by decide +kernel
theorem dX1_size_21 : decode cX1_size 21 = .ok (.astore_n 2, 1) := by decide +kernel
theorem dX1_size_22 : decode cX1_size 22 = .ok (.aload_n 2, 1) := by decide +kernel
theorem dX1_size_23 : decode cX1_size 23 = .ok (.ifnonnull 9, 3) := by decide +kernel
theorem dX1_size_26 : decode cX1_size 26 = .ok (.aload_n 0, 1) := by decide +kernel
theorem dX1_size_27 : decode cX1_size 27 = .ok (.iconst 2, 1) := by decide +kernel
theorem dX1_size_28 : decode cX1_size 28 = .ok (.invokevirtual 52, 3) := by decide +kernel
theorem dX1_size_31 : decode cX1_size 31 = .ok (.ireturn, 1) := by decide +kernel
theorem dX1_size_32 : decode cX1_size 32 = .ok (.aload_n 2, 1) := by decide +kernel
theorem dX1_size_33 : decode cX1_size 33 = .ok (.getfield 79, 3) := by decide +kernel
theorem dX1_size_36 : decode cX1_size 36 = .ok (.invokestatic 117, 3) := by decide +kernel
theorem dX1_size_39 : decode cX1_size 39 = .ok (.ifCond .eq 9, 3) := by decide +kernel
theorem dX1_size_42 : decode cX1_size 42 = .ok (.aload_n 2, 1) := by decide +kernel
theorem dX1_size_43 : decode cX1_size 43 = .ok (.getfield 75, 3) := by decide +kernel
theorem dX1_size_46 : decode cX1_size 46 = .ok (.arraylength, 1) := by decide +kernel
theorem dX1_size_47 : decode cX1_size 47 = .ok (.ireturn, 1) := by decide +kernel
theorem dX1_size_48 : decode cX1_size 48 = .ok (.aload_n 2, 1) := by decide +kernel
theorem dX1_size_49 : decode cX1_size 49 = .ok (.getfield 79, 3) := by decide +kernel
theorem dX1_size_52 : decode cX1_size 52 = .ok (.invokestatic 120, 3) := by decide +kernel
theorem dX1_size_55 : decode cX1_size 55 = .ok (.ifCond .eq 9, 3) := by decide +kernel
theorem dX1_size_58 : decode cX1_size 58 = .ok (.aload_n 2, 1) := by decide +kernel
theorem dX1_size_59 : decode cX1_size 59 = .ok (.getfield 96, 3) := by decide +kernel
theorem dX1_size_62 : decode cX1_size 62 = .ok (.arraylength, 1) := by decide +kernel
theorem dX1_size_63 : decode cX1_size 63 = .ok (.ireturn, 1) := by decide +kernel
theorem dX1_size_64 : decode cX1_size 64 = .ok (.aload_n 0, 1) := by decide +kernel
theorem dX1_size_65 : decode cX1_size 65 = .ok (.iload_n 1, 1) := by decide +kernel
theorem dX1_size_66 : decode cX1_size 66 = .ok (.bipush 8, 2) := by decide +kernel
theorem dX1_size_68 : decode cX1_size 68 = .ok (.invokevirtual 92, 3) := by decide +kernel
theorem dX1_size_71 : decode cX1_size 71 = .ok (.ireturn, 1) := by decide +kernel
set_option maxRecDepth 20000 in
theorem ggX1_at_X1_isSlot : GoodIn wsX1_at wsX1_isSlot := goodIn_r _ [5] (by decide +kernel) (by decide +kernel)
set_option maxRecDepth 20000 in
theorem gX1_at_X1_isSlot : GoodIn wsX1_at (va_wsS RX1 35 yX1_isSlot wsX1_isSlot) := goodIn_app (goodIn_of _ (by decide +kernel)) ggX1_at_X1_isSlot
set_option maxRecDepth 20000 in
theorem ggX1_at_X1_numberOf : GoodIn wsX1_at wsX1_numberOf := goodIn_r _ [8, 9, 16, 17, 18, 19, 20, 21] (by decide +kernel) (by decide +kernel)
set_option maxRecDepth 20000 in
theorem gX1_at_X1_numberOf : GoodIn wsX1_at (va_wsS RX1 102 yX1_numberOf wsX1_numberOf) := goodIn_app (goodIn_of _ (by decide +kernel)) ggX1_at_X1_numberOf
theorem dX1_at_0 : decode cX1_at 0 = .ok (.iload_n 1, 1) := by decide +kernel
theorem dX1_at_1 : decode cX1_at 1 = .ok (.invokestatic 35, 3) := by decide +kernel
theorem dX1_at_4 : decode cX1_at 4 = .ok (.ifCond .eq 15, 3) := by decide +kernel
theorem dX1_at_7 : decode cX1_at 7 = .ok (.aload_n 0, 1) := by decide +kernel
theorem dX1_at_8 : decode cX1_at 8 = .ok (.getfield 11, 3) := by decide +kernel
theorem dX1_at_11 : decode cX1_at 11 = .ok (.iload_n 1, 1) := by decide +kernel
theorem dX1_at_12 : decode cX1_at 12 = .ok (.aaload, 1) := by decide +kernel
theorem dX1_at_13 : decode cX1_at 13 = .ok (.invokestatic 102, 3) := by decide +kernel
theorem dX1_at_16 : decode cX1_at 16 = .ok (.goto 5, 3) := by decide +kernel
theorem dX1_at_19 : decode cX1_at 19 = .ok (.bipush (-2), 2) := by decide +kernel
theorem dX1_at_21 : decode cX1_at 21 = .ok (.ireturn, 1) := by decide +kernel
theorem dX1_fault_0 : decode cX1_fault 0 = .ok (.aload_n 0, 1) := by decide +kernel
theorem dX1_fault_1 : decode cX1_fault 1 = .ok (.getfield 19, 3) := by decide +kernel
theorem dX1_fault_4 : decode cX1_fault 4 = .ok (.ireturn, 1) := by decide +kernel
theorem dX1_told_0 : decode cX1_told 0 = .ok (.iload_n 1, 1) := by decide +kernel
theorem dX1_told_1 : decode cX1_told 1 = .ok (.tableswitch 42 0 2 #[27, 32, 37], 27) := by decide +kernel
theorem dX1_told_28 : decode cX1_told 28 = .ok (.aload_n 0, 1) := by decide +kernel
theorem dX1_told_29 : decode cX1_told 29 = .ok (.getfield 22, 3) := by decide +kernel
theorem dX1_told_32 : decode cX1_told 32 = .ok (.ireturn, 1) := by decide +kernel
theorem dX1_told_33 : decode cX1_told 33 = .ok (.aload_n 0, 1) := by decide +kernel
theorem dX1_told_34 : decode cX1_told 34 = .ok (.getfield 25, 3) := by decide +kernel
theorem dX1_told_37 : decode cX1_told 37 = .ok (.ireturn, 1) := by decide +kernel
theorem dX1_told_38 : decode cX1_told 38 = .ok (.aload_n 0, 1) := by decide +kernel
theorem dX1_told_39 : decode cX1_told 39 = .ok (.getfield 28, 3) := by decide +kernel
theorem dX1_told_42 : decode cX1_told 42 = .ok (.ireturn, 1) := by decide +kernel
theorem dX1_told_43 : decode cX1_told 43 = .ok (.bipush (-2), 2) := by decide +kernel
theorem dX1_told_45 : decode cX1_told 45 = .ok (.ireturn, 1) := by decide +kernel
theorem dX1_count_0 : decode cX1_count 0 = .ok (.aload_n 0, 1) := by decide +kernel
theorem dX1_count_1 : decode cX1_count 1 = .ok (.getfield 15, 3) := by decide +kernel
theorem dX1_count_4 : decode cX1_count 4 = .ok (.ireturn, 1) := by decide +kernel
set_option maxRecDepth 20000 in
theorem ggX1_broughtThrough_X1_failed : GoodIn wsX1_broughtThrough wsX1_failed := goodIn_r _ [6, 7, 23, 24, 25, 26, 27, 28] (by decide +kernel) (by decide +kernel)
set_option maxRecDepth 20000 in
theorem gX1_broughtThrough_X1_failed : GoodIn wsX1_broughtThrough (wsV RX1 52 RX1 yX1_failed wsX1_failed) := goodIn_app (goodIn_of _ (by decide +kernel)) ggX1_broughtThrough_X1_failed
set_option maxRecDepth 20000 in
theorem ggX1_broughtThrough_X1_letsThrough : GoodIn wsX1_broughtThrough wsX1_letsThrough := goodIn_r _ [10, 11, 29, 30, 31, 32, 33, 34] (by decide +kernel) (by decide +kernel)
set_option maxRecDepth 20000 in
theorem gX1_broughtThrough_X1_letsThrough : GoodIn wsX1_broughtThrough (va_wsS RX1 48 yX1_letsThrough wsX1_letsThrough) := goodIn_app (goodIn_of _ (by decide +kernel)) ggX1_broughtThrough_X1_letsThrough
set_option maxRecDepth 20000 in
theorem ggX1_broughtThrough_X1_failedAtGate : GoodIn wsX1_broughtThrough wsX1_failedAtGate := goodIn_r _ [15, 16, 17, 18, 5, 19, 20, 21, 22, 2, 3, 4, 6, 7, 23, 24, 25, 26, 27, 28] (by decide +kernel) (by decide +kernel)
set_option maxRecDepth 20000 in
theorem gX1_broughtThrough_X1_failedAtGate : GoodIn wsX1_broughtThrough (wsV RX1 92 RX1 yX1_failedAtGate wsX1_failedAtGate) := goodIn_app (goodIn_of _ (by decide +kernel)) ggX1_broughtThrough_X1_failedAtGate
theorem dX1_broughtThrough_0 : decode cX1_broughtThrough 0 = .ok (.aload_n 0, 1) := by decide +kernel
theorem dX1_broughtThrough_1 : decode cX1_broughtThrough 1 = .ok (.getfield 11, 3) := by decide +kernel
theorem dX1_broughtThrough_4 : decode cX1_broughtThrough 4 = .ok (.iload_n 2, 1) := by decide +kernel
theorem dX1_broughtThrough_5 : decode cX1_broughtThrough 5 = .ok (.aaload, 1) := by decide +kernel
theorem dX1_broughtThrough_6 : decode cX1_broughtThrough 6 = .ok (.astore_n 3, 1) := by decide +kernel
theorem dX1_broughtThrough_7 : decode cX1_broughtThrough 7 = .ok (.aload_n 3, 1) := by decide +kernel
theorem dX1_broughtThrough_8 : decode cX1_broughtThrough 8 = .ok (.ifnonnull 11, 3) := by decide +kernel
theorem dX1_broughtThrough_11 : decode cX1_broughtThrough 11 = .ok (.aload_n 0, 1) := by decide +kernel
theorem dX1_broughtThrough_12 : decode cX1_broughtThrough 12 = .ok (.iconst 2, 1) := by decide +kernel
theorem dX1_broughtThrough_13 : decode cX1_broughtThrough 13 = .ok (.invokevirtual 52, 3) := by decide +kernel
theorem dX1_broughtThrough_16 : decode cX1_broughtThrough 16 = .ok (.pop, 1) := by decide +kernel
theorem dX1_broughtThrough_17 : decode cX1_broughtThrough 17 = .ok (.aconst_null, 1) := by decide +kernel
theorem dX1_broughtThrough_18 : decode cX1_broughtThrough 18 = .ok (.areturn, 1) := by decide +kernel
theorem dX1_broughtThrough_19 : decode cX1_broughtThrough 19 = .ok (.iload_n 1, 1) := by decide +kernel
theorem dX1_broughtThrough_20 : decode cX1_broughtThrough 20 = .ok (.aload_n 3, 1) := by decide +kernel
theorem dX1_broughtThrough_21 : decode cX1_broughtThrough 21 = .ok (.invokestatic 48, 3) := by decide +kernel
theorem dX1_broughtThrough_24 : decode cX1_broughtThrough 24 = .ok (.ifCond .ne 12, 3) := by decide +kernel
theorem dX1_broughtThrough_27 : decode cX1_broughtThrough 27 = .ok (.aload_n 0, 1) := by decide +kernel
theorem dX1_broughtThrough_28 : decode cX1_broughtThrough 28 = .ok (.iload_n 2, 1) := by decide +kernel
theorem dX1_broughtThrough_29 : decode cX1_broughtThrough 29 = .ok (.iload_n 1, 1) := by decide +kernel
theorem dX1_broughtThrough_30 : decode cX1_broughtThrough 30 = .ok (.invokevirtual 92, 3) := by decide +kernel
theorem dX1_broughtThrough_33 : decode cX1_broughtThrough 33 = .ok (.pop, 1) := by decide +kernel
theorem dX1_broughtThrough_34 : decode cX1_broughtThrough 34 = .ok (.aconst_null, 1) := by decide +kernel
theorem dX1_broughtThrough_35 : decode cX1_broughtThrough 35 = .ok (.areturn, 1) := by decide +kernel
theorem dX1_broughtThrough_36 : decode cX1_broughtThrough 36 = .ok (.aload_n 3, 1) := by decide +kernel
theorem dX1_broughtThrough_37 : decode cX1_broughtThrough 37 = .ok (.areturn, 1) := by decide +kernel
set_option maxRecDepth 20000 in
theorem ggX1_rowOfNumbers_X1_holdsNumbers : GoodIn wsX1_rowOfNumbers wsX1_holdsNumbers := goodIn_r _ [6] (by decide +kernel) (by decide +kernel)
set_option maxRecDepth 20000 in
theorem gX1_rowOfNumbers_X1_holdsNumbers : GoodIn wsX1_rowOfNumbers (va_wsS RX1 117 yX1_holdsNumbers wsX1_holdsNumbers) := goodIn_app (goodIn_of _ (by decide +kernel)) ggX1_rowOfNumbers_X1_holdsNumbers
set_option maxRecDepth 20000 in
theorem ggX1_rowOfNumbers_X1_broughtThrough : GoodIn wsX1_rowOfNumbers wsX1_broughtThrough := goodIn_r _ [10, 1, 11, 12, 13, 5, 14, 15, 16, 17, 18, 2, 19, 20, 21, 22, 23, 24, 25, 26, 27, 28, 29, 30, 31, 32, 33, 34, 35, 36, 37, 38, 39, 40, 41] (by decide +kernel) (by decide +kernel)
set_option maxRecDepth 20000 in
theorem gX1_rowOfNumbers_X1_broughtThrough : GoodIn wsX1_rowOfNumbers (wsV RX1 55 RX1 yX1_broughtThrough wsX1_broughtThrough) := goodIn_app (goodIn_of _ (by decide +kernel)) ggX1_rowOfNumbers_X1_broughtThrough
theorem dX1_rowOfNumbers_0 : decode cX1_rowOfNumbers 0 = .ok (.aload_n 0, 1) := by decide +kernel
theorem dX1_rowOfNumbers_1 : decode cX1_rowOfNumbers 1 = .ok (.getfield 11, 3) := by decide +kernel
theorem dX1_rowOfNumbers_4 : decode cX1_rowOfNumbers 4 = .ok (.iload_n 1, 1) := by decide +kernel
theorem dX1_rowOfNumbers_5 : decode cX1_rowOfNumbers 5 = .ok (.aaload, 1) := by decide +kernel
theorem dX1_rowOfNumbers_6 : decode cX1_rowOfNumbers 6 = .ok (.astore_n 2, 1) := by decide +kernel
theorem dX1_rowOfNumbers_7 : decode cX1_rowOfNumbers 7 = .ok (.aload_n 2, 1) := by decide +kernel
theorem dX1_rowOfNumbers_8 : decode cX1_rowOfNumbers 8 = .ok (.ifnull 17, 3) := by decide +kernel
theorem dX1_rowOfNumbers_11 : decode cX1_rowOfNumbers 11 = .ok (.aload_n 2, 1) := by decide +kernel
theorem dX1_rowOfNumbers_12 : decode cX1_rowOfNumbers 12 = .ok (.getfield 79, 3) := by decide +kernel
theorem dX1_rowOfNumbers_15 : decode cX1_rowOfNumbers 15 = .ok (.invokestatic 117, 3) := by decide +kernel
theorem dX1_rowOfNumbers_18 : decode cX1_rowOfNumbers 18 = .ok (.ifCond .eq 7, 3) := by decide +kernel
theorem dX1_rowOfNumbers_21 : decode cX1_rowOfNumbers 21 = .ok (.aload_n 2, 1) := by decide +kernel
theorem dX1_rowOfNumbers_22 : decode cX1_rowOfNumbers 22 = .ok (.goto 9, 3) := by decide +kernel
theorem dX1_rowOfNumbers_25 : decode cX1_rowOfNumbers 25 = .ok (.aload_n 0, 1) := by decide +kernel
theorem dX1_rowOfNumbers_26 : decode cX1_rowOfNumbers 26 = .ok (.iconst 2, 1) := by decide +kernel
theorem dX1_rowOfNumbers_27 : decode cX1_rowOfNumbers 27 = .ok (.iload_n 1, 1) := by decide +kernel
theorem dX1_rowOfNumbers_28 : decode cX1_rowOfNumbers 28 = .ok (.invokevirtual 55, 3) := by decide +kernel
theorem dX1_rowOfNumbers_31 : decode cX1_rowOfNumbers 31 = .ok (.areturn, 1) := by decide +kernel
set_option maxRecDepth 20000 in
theorem ggX1_rowOfThings_X1_holdsThings : GoodIn wsX1_rowOfThings wsX1_holdsThings := goodIn_r _ [6] (by decide +kernel) (by decide +kernel)
set_option maxRecDepth 20000 in
theorem gX1_rowOfThings_X1_holdsThings : GoodIn wsX1_rowOfThings (va_wsS RX1 120 yX1_holdsThings wsX1_holdsThings) := goodIn_app (goodIn_of _ (by decide +kernel)) ggX1_rowOfThings_X1_holdsThings
set_option maxRecDepth 20000 in
theorem ggX1_rowOfThings_X1_broughtThrough : GoodIn wsX1_rowOfThings wsX1_broughtThrough := goodIn_r _ [10, 1, 11, 12, 13, 5, 14, 15, 16, 17, 18, 2, 19, 20, 21, 22, 23, 24, 25, 26, 27, 28, 29, 30, 31, 32, 33, 34, 35, 36, 37, 38, 39, 40, 41] (by decide +kernel) (by decide +kernel)
set_option maxRecDepth 20000 in
theorem gX1_rowOfThings_X1_broughtThrough : GoodIn wsX1_rowOfThings (wsV RX1 55 RX1 yX1_broughtThrough wsX1_broughtThrough) := goodIn_app (goodIn_of _ (by decide +kernel)) ggX1_rowOfThings_X1_broughtThrough
theorem dX1_rowOfThings_0 : decode cX1_rowOfThings 0 = .ok (.aload_n 0, 1) := by decide +kernel
theorem dX1_rowOfThings_1 : decode cX1_rowOfThings 1 = .ok (.getfield 11, 3) := by decide +kernel
theorem dX1_rowOfThings_4 : decode cX1_rowOfThings 4 = .ok (.iload_n 1, 1) := by decide +kernel
theorem dX1_rowOfThings_5 : decode cX1_rowOfThings 5 = .ok (.aaload, 1) := by decide +kernel
theorem dX1_rowOfThings_6 : decode cX1_rowOfThings 6 = .ok (.astore_n 2, 1) := by decide +kernel
theorem dX1_rowOfThings_7 : decode cX1_rowOfThings 7 = .ok (.aload_n 2, 1) := by decide +kernel
theorem dX1_rowOfThings_8 : decode cX1_rowOfThings 8 = .ok (.ifnull 17, 3) := by decide +kernel
theorem dX1_rowOfThings_11 : decode cX1_rowOfThings 11 = .ok (.aload_n 2, 1) := by decide +kernel
theorem dX1_rowOfThings_12 : decode cX1_rowOfThings 12 = .ok (.getfield 79, 3) := by decide +kernel
theorem dX1_rowOfThings_15 : decode cX1_rowOfThings 15 = .ok (.invokestatic 120, 3) := by decide +kernel
theorem dX1_rowOfThings_18 : decode cX1_rowOfThings 18 = .ok (.ifCond .eq 7, 3) := by decide +kernel
theorem dX1_rowOfThings_21 : decode cX1_rowOfThings 21 = .ok (.aload_n 2, 1) := by decide +kernel
theorem dX1_rowOfThings_22 : decode cX1_rowOfThings 22 = .ok (.goto 10, 3) := by decide +kernel
theorem dX1_rowOfThings_25 : decode cX1_rowOfThings 25 = .ok (.aload_n 0, 1) := by decide +kernel
theorem dX1_rowOfThings_26 : decode cX1_rowOfThings 26 = .ok (.bipush 6, 2) := by decide +kernel
theorem dX1_rowOfThings_28 : decode cX1_rowOfThings 28 = .ok (.iload_n 1, 1) := by decide +kernel
theorem dX1_rowOfThings_29 : decode cX1_rowOfThings 29 = .ok (.invokevirtual 55, 3) := by decide +kernel
theorem dX1_rowOfThings_32 : decode cX1_rowOfThings 32 = .ok (.areturn, 1) := by decide +kernel
theorem dX1_failed_0 : decode cX1_failed 0 = .ok (.aload_n 0, 1) := by decide +kernel
theorem dX1_failed_1 : decode cX1_failed 1 = .ok (.iload_n 1, 1) := by decide +kernel
theorem dX1_failed_2 : decode cX1_failed 2 = .ok (.putfield 19, 3) := by decide +kernel
theorem dX1_failed_5 : decode cX1_failed 5 = .ok (.iconst 0, 1) := by decide +kernel
theorem dX1_failed_6 : decode cX1_failed 6 = .ok (.ireturn, 1) := by decide +kernel
set_option maxRecDepth 20000 in
theorem ggX1_failedAtGate_X1_turnBack : GoodIn wsX1_failedAtGate wsX1_turnBack := goodIn_r _ [5, 6, 7, 8, 14, 15, 16, 17, 18, 19] (by decide +kernel) (by decide +kernel)
set_option maxRecDepth 20000 in
theorem gX1_failedAtGate_X1_turnBack : GoodIn wsX1_failedAtGate (wsV RX1 67 RX1 yX1_turnBack wsX1_turnBack) := goodIn_app (goodIn_of _ (by decide +kernel)) ggX1_failedAtGate_X1_turnBack
set_option maxRecDepth 20000 in
theorem ggX1_failedAtGate_X1_failed : GoodIn wsX1_failedAtGate wsX1_failed := goodIn_r _ [12, 13, 14, 15, 16, 17, 18, 19] (by decide +kernel) (by decide +kernel)
set_option maxRecDepth 20000 in
theorem gX1_failedAtGate_X1_failed : GoodIn wsX1_failedAtGate (wsV RX1 52 RX1 yX1_failed wsX1_failed) := goodIn_app (goodIn_of _ (by decide +kernel)) ggX1_failedAtGate_X1_failed
theorem dX1_failedAtGate_0 : decode cX1_failedAtGate 0 = .ok (.aload_n 0, 1) := by decide +kernel
theorem dX1_failedAtGate_1 : decode cX1_failedAtGate 1 = .ok (.iload_n 1, 1) := by decide +kernel
theorem dX1_failedAtGate_2 : decode cX1_failedAtGate 2 = .ok (.iload_n 2, 1) := by decide +kernel
theorem dX1_failedAtGate_3 : decode cX1_failedAtGate 3 = .ok (.invokevirtual 67, 3) := by decide +kernel
theorem dX1_failedAtGate_6 : decode cX1_failedAtGate 6 = .ok (.aload_n 0, 1) := by decide +kernel
theorem dX1_failedAtGate_7 : decode cX1_failedAtGate 7 = .ok (.iconst 1, 1) := by decide +kernel
theorem dX1_failedAtGate_8 : decode cX1_failedAtGate 8 = .ok (.invokevirtual 52, 3) := by decide +kernel
theorem dX1_failedAtGate_11 : decode cX1_failedAtGate 11 = .ok (.ireturn, 1) := by decide +kernel
theorem dX1_turnBack_0 : decode cX1_turnBack 0 = .ok (.aload_n 0, 1) := by decide +kernel
theorem dX1_turnBack_1 : decode cX1_turnBack 1 = .ok (.dup, 1) := by decide +kernel
theorem dX1_turnBack_2 : decode cX1_turnBack 2 = .ok (.getfield 22, 3) := by decide +kernel
theorem dX1_turnBack_5 : decode cX1_turnBack 5 = .ok (.iconst 1, 1) := by decide +kernel
theorem dX1_turnBack_6 : decode cX1_turnBack 6 = .ok (.iadd, 1) := by decide +kernel
theorem dX1_turnBack_7 : decode cX1_turnBack 7 = .ok (.putfield 22, 3) := by decide +kernel
theorem dX1_turnBack_10 : decode cX1_turnBack 10 = .ok (.aload_n 0, 1) := by decide +kernel
theorem dX1_turnBack_11 : decode cX1_turnBack 11 = .ok (.iload_n 1, 1) := by decide +kernel
theorem dX1_turnBack_12 : decode cX1_turnBack 12 = .ok (.putfield 25, 3) := by decide +kernel
theorem dX1_turnBack_15 : decode cX1_turnBack 15 = .ok (.aload_n 0, 1) := by decide +kernel
theorem dX1_turnBack_16 : decode cX1_turnBack 16 = .ok (.iload_n 2, 1) := by decide +kernel
theorem dX1_turnBack_17 : decode cX1_turnBack 17 = .ok (.putfield 28, 3) := by decide +kernel
theorem dX1_turnBack_20 : decode cX1_turnBack 20 = .ok (.return_, 1) := by decide +kernel
theorem dX1_isSlot_0 : decode cX1_isSlot 0 = .ok (.iload_n 0, 1) := by decide +kernel
theorem dX1_isSlot_1 : decode cX1_isSlot 1 = .ok (.ifCond .lt 13, 3) := by decide +kernel
theorem dX1_isSlot_4 : decode cX1_isSlot 4 = .ok (.iload_n 0, 1) := by decide +kernel
theorem dX1_isSlot_5 : decode cX1_isSlot 5 = .ok (.bipush 12, 2) := by decide +kernel
theorem dX1_isSlot_7 : decode cX1_isSlot 7 = .ok (.if_icmp .ge 7, 3) := by decide +kernel
theorem dX1_isSlot_10 : decode cX1_isSlot 10 = .ok (.iconst 1, 1) := by decide +kernel
theorem dX1_isSlot_11 : decode cX1_isSlot 11 = .ok (.goto 4, 3) := by decide +kernel
theorem dX1_isSlot_14 : decode cX1_isSlot 14 = .ok (.iconst 0, 1) := by decide +kernel
theorem dX1_isSlot_15 : decode cX1_isSlot 15 = .ok (.ireturn, 1) := by decide +kernel
theorem dX1_isGate_0 : decode cX1_isGate 0 = .ok (.iload_n 0, 1) := by decide +kernel
theorem dX1_isGate_1 : decode cX1_isGate 1 = .ok (.ifCond .lt 13, 3) := by decide +kernel
theorem dX1_isGate_4 : decode cX1_isGate 4 = .ok (.iload_n 0, 1) := by decide +kernel
theorem dX1_isGate_5 : decode cX1_isGate 5 = .ok (.bipush 13, 2) := by decide +kernel
theorem dX1_isGate_7 : decode cX1_isGate 7 = .ok (.if_icmp .ge 7, 3) := by decide +kernel
theorem dX1_isGate_10 : decode cX1_isGate 10 = .ok (.iconst 1, 1) := by decide +kernel
theorem dX1_isGate_11 : decode cX1_isGate 11 = .ok (.goto 4, 3) := by decide +kernel
theorem dX1_isGate_14 : decode cX1_isGate 14 = .ok (.iconst 0, 1) := by decide +kernel
theorem dX1_isGate_15 : decode cX1_isGate 15 = .ok (.ireturn, 1) := by decide +kernel
theorem dX1_isKind_0 : decode cX1_isKind 0 = .ok (.iload_n 0, 1) := by decide +kernel
theorem dX1_isKind_1 : decode cX1_isKind 1 = .ok (.ifCond .lt 13, 3) := by decide +kernel
theorem dX1_isKind_4 : decode cX1_isKind 4 = .ok (.iload_n 0, 1) := by decide +kernel
theorem dX1_isKind_5 : decode cX1_isKind 5 = .ok (.bipush 12, 2) := by decide +kernel
theorem dX1_isKind_7 : decode cX1_isKind 7 = .ok (.if_icmp .ge 7, 3) := by decide +kernel
theorem dX1_isKind_10 : decode cX1_isKind 10 = .ok (.iconst 1, 1) := by decide +kernel
theorem dX1_isKind_11 : decode cX1_isKind 11 = .ok (.goto 4, 3) := by decide +kernel
theorem dX1_isKind_14 : decode cX1_isKind 14 = .ok (.iconst 0, 1) := by decide +kernel
theorem dX1_isKind_15 : decode cX1_isKind 15 = .ok (.ireturn, 1) := by decide +kernel
theorem dX1_holdsNumbers_0 : decode cX1_holdsNumbers 0 = .ok (.iload_n 0, 1) := by decide +kernel
theorem dX1_holdsNumbers_1 : decode cX1_holdsNumbers 1 = .ok (.ifCond .lt 12, 3) := by decide +kernel
theorem dX1_holdsNumbers_4 : decode cX1_holdsNumbers 4 = .ok (.iload_n 0, 1) := by decide +kernel
theorem dX1_holdsNumbers_5 : decode cX1_holdsNumbers 5 = .ok (.iconst 2, 1) := by decide +kernel
theorem dX1_holdsNumbers_6 : decode cX1_holdsNumbers 6 = .ok (.if_icmp .gt 7, 3) := by decide +kernel
theorem dX1_holdsNumbers_9 : decode cX1_holdsNumbers 9 = .ok (.iconst 1, 1) := by decide +kernel
theorem dX1_holdsNumbers_10 : decode cX1_holdsNumbers 10 = .ok (.goto 4, 3) := by decide +kernel
theorem dX1_holdsNumbers_13 : decode cX1_holdsNumbers 13 = .ok (.iconst 0, 1) := by decide +kernel
theorem dX1_holdsNumbers_14 : decode cX1_holdsNumbers 14 = .ok (.ireturn, 1) := by decide +kernel
theorem dX1_holdsThings_0 : decode cX1_holdsThings 0 = .ok (.iload_n 0, 1) := by decide +kernel
theorem dX1_holdsThings_1 : decode cX1_holdsThings 1 = .ok (.iconst 3, 1) := by decide +kernel
theorem dX1_holdsThings_2 : decode cX1_holdsThings 2 = .ok (.if_icmp .lt 13, 3) := by decide +kernel
theorem dX1_holdsThings_5 : decode cX1_holdsThings 5 = .ok (.iload_n 0, 1) := by decide +kernel
theorem dX1_holdsThings_6 : decode cX1_holdsThings 6 = .ok (.bipush 8, 2) := by decide +kernel
theorem dX1_holdsThings_8 : decode cX1_holdsThings 8 = .ok (.if_icmp .gt 7, 3) := by decide +kernel
theorem dX1_holdsThings_11 : decode cX1_holdsThings 11 = .ok (.iconst 1, 1) := by decide +kernel
theorem dX1_holdsThings_12 : decode cX1_holdsThings 12 = .ok (.goto 4, 3) := by decide +kernel
theorem dX1_holdsThings_15 : decode cX1_holdsThings 15 = .ok (.iconst 0, 1) := by decide +kernel
theorem dX1_holdsThings_16 : decode cX1_holdsThings 16 = .ok (.ireturn, 1) := by decide +kernel
set_option maxRecDepth 20000 in
theorem ggX1_mostOf_X1_holdsNumbers : GoodIn wsX1_mostOf wsX1_holdsNumbers := goodIn_r _ [5] (by decide +kernel) (by decide +kernel)
set_option maxRecDepth 20000 in
theorem gX1_mostOf_X1_holdsNumbers : GoodIn wsX1_mostOf (va_wsS RX1 117 yX1_holdsNumbers wsX1_holdsNumbers) := goodIn_app (goodIn_of _ (by decide +kernel)) ggX1_mostOf_X1_holdsNumbers
set_option maxRecDepth 20000 in
theorem ggX1_mostOf_X1_holdsThings : GoodIn wsX1_mostOf wsX1_holdsThings := goodIn_r _ [8] (by decide +kernel) (by decide +kernel)
set_option maxRecDepth 20000 in
theorem gX1_mostOf_X1_holdsThings : GoodIn wsX1_mostOf (va_wsS RX1 120 yX1_holdsThings wsX1_holdsThings) := goodIn_app (goodIn_of _ (by decide +kernel)) ggX1_mostOf_X1_holdsThings
theorem dX1_mostOf_0 : decode cX1_mostOf 0 = .ok (.iload_n 0, 1) := by decide +kernel
theorem dX1_mostOf_1 : decode cX1_mostOf 1 = .ok (.invokestatic 117, 3) := by decide +kernel
theorem dX1_mostOf_4 : decode cX1_mostOf 4 = .ok (.ifCond .ne 10, 3) := by decide +kernel
theorem dX1_mostOf_7 : decode cX1_mostOf 7 = .ok (.iload_n 0, 1) := by decide +kernel
theorem dX1_mostOf_8 : decode cX1_mostOf 8 = .ok (.invokestatic 120, 3) := by decide +kernel
theorem dX1_mostOf_11 : decode cX1_mostOf 11 = .ok (.ifCond .eq 8, 3) := by decide +kernel
theorem dX1_mostOf_14 : decode cX1_mostOf 14 = .ok (.bipush 8, 2) := by decide +kernel
theorem dX1_mostOf_16 : decode cX1_mostOf 16 = .ok (.goto 5, 3) := by decide +kernel
theorem dX1_mostOf_19 : decode cX1_mostOf 19 = .ok (.ldc 113, 2) := by decide +kernel
theorem dX1_mostOf_21 : decode cX1_mostOf 21 = .ok (.ireturn, 1) := by decide +kernel
theorem dX1_numberOf_0 : decode cX1_numberOf 0 = .ok (.aload_n 0, 1) := by decide +kernel
theorem dX1_numberOf_1 : decode cX1_numberOf 1 = .ok (.ifnonnull 7, 3) := by decide +kernel
theorem dX1_numberOf_4 : decode cX1_numberOf 4 = .ok (.iconst (-1), 1) := by decide +kernel
theorem dX1_numberOf_5 : decode cX1_numberOf 5 = .ok (.goto 7, 3) := by decide +kernel
theorem dX1_numberOf_8 : decode cX1_numberOf 8 = .ok (.aload_n 0, 1) := by decide +kernel
theorem dX1_numberOf_9 : decode cX1_numberOf 9 = .ok (.getfield 123, 3) := by decide +kernel
theorem dX1_numberOf_12 : decode cX1_numberOf 12 = .ok (.ireturn, 1) := by decide +kernel
theorem dX1_letsThrough_0 : decode cX1_letsThrough 0 = .ok (.aload_n 1, 1) := by decide +kernel
theorem dX1_letsThrough_1 : decode cX1_letsThrough 1 = .ok (.ifnonnull 5, 3) := by decide +kernel
theorem dX1_letsThrough_4 : decode cX1_letsThrough 4 = .ok (.iconst 0, 1) := by decide +kernel
theorem dX1_letsThrough_5 : decode cX1_letsThrough 5 = .ok (.ireturn, 1) := by decide +kernel
theorem dX1_letsThrough_6 : decode cX1_letsThrough 6 = .ok (.aload_n 1, 1) := by decide +kernel
theorem dX1_letsThrough_7 : decode cX1_letsThrough 7 = .ok (.getfield 79, 3) := by decide +kernel
theorem dX1_letsThrough_10 : decode cX1_letsThrough 10 = .ok (.istore_n 2, 1) := by decide +kernel
theorem dX1_letsThrough_11 : decode cX1_letsThrough 11 = .ok (.iload_n 2, 1) := by decide +kernel
theorem dX1_letsThrough_12 : decode cX1_letsThrough 12 = .ok (.iload_n 0, 1) := by decide +kernel
theorem dX1_letsThrough_13 : decode cX1_letsThrough 13 = .ok (.if_icmp .ne 5, 3) := by decide +kernel
theorem dX1_letsThrough_16 : decode cX1_letsThrough 16 = .ok (.iconst 1, 1) := by decide +kernel
theorem dX1_letsThrough_17 : decode cX1_letsThrough 17 = .ok (.ireturn, 1) := by decide +kernel
theorem dX1_letsThrough_18 : decode cX1_letsThrough 18 = .ok (.iload_n 0, 1) := by decide +kernel
theorem dX1_letsThrough_19 : decode cX1_letsThrough 19 = .ok (.tableswitch 124 4 12 #[49, 124, 60, 76, 124, 88, 124, 124, 100], 49) := by decide +kernel
theorem dX1_letsThrough_68 : decode cX1_letsThrough 68 = .ok (.iload_n 2, 1) := by decide +kernel
theorem dX1_letsThrough_69 : decode cX1_letsThrough 69 = .ok (.iconst 5, 1) := by decide +kernel
theorem dX1_letsThrough_70 : decode cX1_letsThrough 70 = .ok (.if_icmp .ne 7, 3) := by decide +kernel
theorem dX1_letsThrough_73 : decode cX1_letsThrough 73 = .ok (.iconst 1, 1) := by decide +kernel
theorem dX1_letsThrough_74 : decode cX1_letsThrough 74 = .ok (.goto 4, 3) := by decide +kernel
theorem dX1_letsThrough_77 : decode cX1_letsThrough 77 = .ok (.iconst 0, 1) := by decide +kernel
theorem dX1_letsThrough_78 : decode cX1_letsThrough 78 = .ok (.ireturn, 1) := by decide +kernel
theorem dX1_letsThrough_79 : decode cX1_letsThrough 79 = .ok (.iload_n 2, 1) := by decide +kernel
theorem dX1_letsThrough_80 : decode cX1_letsThrough 80 = .ok (.iconst 5, 1) := by decide +kernel
theorem dX1_letsThrough_81 : decode cX1_letsThrough 81 = .ok (.if_icmp .eq 8, 3) := by decide +kernel
theorem dX1_letsThrough_84 : decode cX1_letsThrough 84 = .ok (.iload_n 2, 1) := by decide +kernel
theorem dX1_letsThrough_85 : decode cX1_letsThrough 85 = .ok (.iconst 4, 1) := by decide +kernel
theorem dX1_letsThrough_86 : decode cX1_letsThrough 86 = .ok (.if_icmp .ne 7, 3) := by decide +kernel
theorem dX1_letsThrough_89 : decode cX1_letsThrough 89 = .ok (.iconst 1, 1) := by decide +kernel
theorem dX1_letsThrough_90 : decode cX1_letsThrough 90 = .ok (.goto 4, 3) := by decide +kernel
theorem dX1_letsThrough_93 : decode cX1_letsThrough 93 = .ok (.iconst 0, 1) := by decide +kernel
theorem dX1_letsThrough_94 : decode cX1_letsThrough 94 = .ok (.ireturn, 1) := by decide +kernel
theorem dX1_letsThrough_95 : decode cX1_letsThrough 95 = .ok (.iload_n 2, 1) := by decide +kernel
theorem dX1_letsThrough_96 : decode cX1_letsThrough 96 = .ok (.bipush 8, 2) := by decide +kernel
theorem dX1_letsThrough_98 : decode cX1_letsThrough 98 = .ok (.if_icmp .ne 7, 3) := by decide +kernel
theorem dX1_letsThrough_101 : decode cX1_letsThrough 101 = .ok (.iconst 1, 1) := by decide +kernel
theorem dX1_letsThrough_102 : decode cX1_letsThrough 102 = .ok (.goto 4, 3) := by decide +kernel
theorem dX1_letsThrough_105 : decode cX1_letsThrough 105 = .ok (.iconst 0, 1) := by decide +kernel
theorem dX1_letsThrough_106 : decode cX1_letsThrough 106 = .ok (.ireturn, 1) := by decide +kernel
theorem dX1_letsThrough_107 : decode cX1_letsThrough 107 = .ok (.iload_n 2, 1) := by decide +kernel
theorem dX1_letsThrough_108 : decode cX1_letsThrough 108 = .ok (.bipush 10, 2) := by decide +kernel
theorem dX1_letsThrough_110 : decode cX1_letsThrough 110 = .ok (.if_icmp .ne 7, 3) := by decide +kernel
theorem dX1_letsThrough_113 : decode cX1_letsThrough 113 = .ok (.iconst 1, 1) := by decide +kernel
theorem dX1_letsThrough_114 : decode cX1_letsThrough 114 = .ok (.goto 4, 3) := by decide +kernel
theorem dX1_letsThrough_117 : decode cX1_letsThrough 117 = .ok (.iconst 0, 1) := by decide +kernel
theorem dX1_letsThrough_118 : decode cX1_letsThrough 118 = .ok (.ireturn, 1) := by decide +kernel
theorem dX1_letsThrough_119 : decode cX1_letsThrough 119 = .ok (.iload_n 2, 1) := by decide +kernel
theorem dX1_letsThrough_120 : decode cX1_letsThrough 120 = .ok (.bipush 9, 2) := by decide +kernel
theorem dX1_letsThrough_122 : decode cX1_letsThrough 122 = .ok (.if_icmp .eq 15, 3) := by decide +kernel
theorem dX1_letsThrough_125 : decode cX1_letsThrough 125 = .ok (.iload_n 2, 1) := by decide +kernel
theorem dX1_letsThrough_126 : decode cX1_letsThrough 126 = .ok (.bipush 10, 2) := by decide +kernel
theorem dX1_letsThrough_128 : decode cX1_letsThrough 128 = .ok (.if_icmp .eq 9, 3) := by decide +kernel
theorem dX1_letsThrough_131 : decode cX1_letsThrough 131 = .ok (.iload_n 2, 1) := by decide +kernel
theorem dX1_letsThrough_132 : decode cX1_letsThrough 132 = .ok (.bipush 11, 2) := by decide +kernel
theorem dX1_letsThrough_134 : decode cX1_letsThrough 134 = .ok (.if_icmp .ne 7, 3) := by decide +kernel
theorem dX1_letsThrough_137 : decode cX1_letsThrough 137 = .ok (.iconst 1, 1) := by decide +kernel
theorem dX1_letsThrough_138 : decode cX1_letsThrough 138 = .ok (.goto 4, 3) := by decide +kernel
theorem dX1_letsThrough_141 : decode cX1_letsThrough 141 = .ok (.iconst 0, 1) := by decide +kernel
theorem dX1_letsThrough_142 : decode cX1_letsThrough 142 = .ok (.ireturn, 1) := by decide +kernel
theorem dX1_letsThrough_143 : decode cX1_letsThrough 143 = .ok (.iconst 0, 1) := by decide +kernel
theorem dX1_letsThrough_144 : decode cX1_letsThrough 144 = .ok (.ireturn, 1) := by decide +kernel
theorem dX1_gateOfLaying_0 : decode cX1_gateOfLaying 0 = .ok (.iload_n 0, 1) := by decide +kernel
theorem dX1_gateOfLaying_1 : decode cX1_gateOfLaying 1 = .ok (.lookupswitch 39 #[(3, 35), (7, 37), (8, 37)], 35) := by decide +kernel
theorem dX1_gateOfLaying_36 : decode cX1_gateOfLaying 36 = .ok (.iconst 0, 1) := by decide +kernel
theorem dX1_gateOfLaying_37 : decode cX1_gateOfLaying 37 = .ok (.ireturn, 1) := by decide +kernel
theorem dX1_gateOfLaying_38 : decode cX1_gateOfLaying 38 = .ok (.iconst 4, 1) := by decide +kernel
theorem dX1_gateOfLaying_39 : decode cX1_gateOfLaying 39 = .ok (.ireturn, 1) := by decide +kernel
theorem dX1_gateOfLaying_40 : decode cX1_gateOfLaying 40 = .ok (.bipush 12, 2) := by decide +kernel
theorem dX1_gateOfLaying_42 : decode cX1_gateOfLaying 42 = .ok (.ireturn, 1) := by decide +kernel
set_option maxRecDepth 20000 in
theorem ggX1_gateOfPlaces_X1_gateOfLaying : GoodIn wsX1_gateOfPlaces wsX1_gateOfLaying := goodIn_r _ [4] (by decide +kernel) (by decide +kernel)
set_option maxRecDepth 20000 in
theorem gX1_gateOfPlaces_X1_gateOfLaying : GoodIn wsX1_gateOfPlaces (va_wsS RX1 89 yX1_gateOfLaying wsX1_gateOfLaying) := goodIn_app (goodIn_of _ (by decide +kernel)) ggX1_gateOfPlaces_X1_gateOfLaying
theorem dX1_gateOfPlaces_0 : decode cX1_gateOfPlaces 0 = .ok (.iload_n 0, 1) := by decide +kernel
theorem dX1_gateOfPlaces_1 : decode cX1_gateOfPlaces 1 = .ok (.tableswitch 43 4 8 #[35, 38, 43, 43, 41], 35) := by decide +kernel
theorem dX1_gateOfPlaces_36 : decode cX1_gateOfPlaces 36 = .ok (.bipush 9, 2) := by decide +kernel
theorem dX1_gateOfPlaces_38 : decode cX1_gateOfPlaces 38 = .ok (.ireturn, 1) := by decide +kernel
theorem dX1_gateOfPlaces_39 : decode cX1_gateOfPlaces 39 = .ok (.bipush 10, 2) := by decide +kernel
theorem dX1_gateOfPlaces_41 : decode cX1_gateOfPlaces 41 = .ok (.ireturn, 1) := by decide +kernel
theorem dX1_gateOfPlaces_42 : decode cX1_gateOfPlaces 42 = .ok (.iconst 5, 1) := by decide +kernel
theorem dX1_gateOfPlaces_43 : decode cX1_gateOfPlaces 43 = .ok (.ireturn, 1) := by decide +kernel
theorem dX1_gateOfPlaces_44 : decode cX1_gateOfPlaces 44 = .ok (.iload_n 0, 1) := by decide +kernel
theorem dX1_gateOfPlaces_45 : decode cX1_gateOfPlaces 45 = .ok (.invokestatic 89, 3) := by decide +kernel
theorem dX1_gateOfPlaces_48 : decode cX1_gateOfPlaces 48 = .ok (.ireturn, 1) := by decide +kernel
theorem dX1_narrowed_0 : decode cX1_narrowed 0 = .ok (.iload_n 0, 1) := by decide +kernel
theorem dX1_narrowed_1 : decode cX1_narrowed 1 = .ok (.lookupswitch 36 #[(0, 27), (1, 31)], 27) := by decide +kernel
theorem dX1_narrowed_28 : decode cX1_narrowed 28 = .ok (.lload_n 1, 1) := by decide +kernel
theorem dX1_narrowed_29 : decode cX1_narrowed 29 = .ok (.l2i, 1) := by decide +kernel
theorem dX1_narrowed_30 : decode cX1_narrowed 30 = .ok (.i2l, 1) := by decide +kernel
theorem dX1_narrowed_31 : decode cX1_narrowed 31 = .ok (.lreturn, 1) := by decide +kernel
theorem dX1_narrowed_32 : decode cX1_narrowed 32 = .ok (.lload_n 1, 1) := by decide +kernel
theorem dX1_narrowed_33 : decode cX1_narrowed 33 = .ok (.l2i, 1) := by decide +kernel
theorem dX1_narrowed_34 : decode cX1_narrowed 34 = .ok (.i2b, 1) := by decide +kernel
theorem dX1_narrowed_35 : decode cX1_narrowed 35 = .ok (.i2l, 1) := by decide +kernel
theorem dX1_narrowed_36 : decode cX1_narrowed 36 = .ok (.lreturn, 1) := by decide +kernel
theorem dX1_narrowed_37 : decode cX1_narrowed 37 = .ok (.lload_n 1, 1) := by decide +kernel
theorem dX1_narrowed_38 : decode cX1_narrowed 38 = .ok (.lreturn, 1) := by decide +kernel
set_option maxRecDepth 20000 in
theorem ggX1_hasHole_X1_lacksPart : GoodIn wsX1_hasHole wsX1_lacksPart := goodIn_r _ [5, 1, 6, 7, 8, 9, 10, 11] (by decide +kernel) (by decide +kernel)
set_option maxRecDepth 20000 in
theorem gX1_hasHole_X1_lacksPart : GoodIn wsX1_hasHole (va_wsS RX1 126 yX1_lacksPart wsX1_lacksPart) := goodIn_app (goodIn_of _ (by decide +kernel)) ggX1_hasHole_X1_lacksPart
theorem dX1_hasHole_0 : decode cX1_hasHole 0 = .ok (.aload_n 0, 1) := by decide +kernel
theorem dX1_hasHole_1 : decode cX1_hasHole 1 = .ok (.getfield 96, 3) := by decide +kernel
theorem dX1_hasHole_4 : decode cX1_hasHole 4 = .ok (.astore_n 1, 1) := by decide +kernel
theorem dX1_hasHole_5 : decode cX1_hasHole 5 = .ok (.aload_n 1, 1) := by decide +kernel
theorem dX1_hasHole_6 : decode cX1_hasHole 6 = .ok (.arraylength, 1) := by decide +kernel
theorem dX1_hasHole_7 : decode cX1_hasHole 7 = .ok (.istore_n 2, 1) := by decide +kernel
theorem dX1_hasHole_8 : decode cX1_hasHole 8 = .ok (.iconst 0, 1) := by decide +kernel
theorem dX1_hasHole_9 : decode cX1_hasHole 9 = .ok (.istore_n 3, 1) := by decide +kernel
theorem dX1_hasHole_10 : decode cX1_hasHole 10 = .ok (.iload_n 3, 1) := by decide +kernel
theorem dX1_hasHole_11 : decode cX1_hasHole 11 = .ok (.iload_n 2, 1) := by decide +kernel
theorem dX1_hasHole_12 : decode cX1_hasHole 12 = .ok (.if_icmp .ge 29, 3) := by decide +kernel
theorem dX1_hasHole_15 : decode cX1_hasHole 15 = .ok (.aload_n 1, 1) := by decide +kernel
theorem dX1_hasHole_16 : decode cX1_hasHole 16 = .ok (.iload_n 3, 1) := by decide +kernel
theorem dX1_hasHole_17 : decode cX1_hasHole 17 = .ok (.aaload, 1) := by decide +kernel
theorem dX1_hasHole_18 : decode cX1_hasHole 18 = .ok (.astore 4, 2) := by decide +kernel
theorem dX1_hasHole_20 : decode cX1_hasHole 20 = .ok (.aload 4, 2) := by decide +kernel
theorem dX1_hasHole_22 : decode cX1_hasHole 22 = .ok (.ifnull 11, 3) := by decide +kernel
theorem dX1_hasHole_25 : decode cX1_hasHole 25 = .ok (.aload 4, 2) := by decide +kernel
theorem dX1_hasHole_27 : decode cX1_hasHole 27 = .ok (.invokestatic 126, 3) := by decide +kernel
theorem dX1_hasHole_30 : decode cX1_hasHole 30 = .ok (.ifCond .eq 5, 3) := by decide +kernel
theorem dX1_hasHole_33 : decode cX1_hasHole 33 = .ok (.iconst 1, 1) := by decide +kernel
theorem dX1_hasHole_34 : decode cX1_hasHole 34 = .ok (.ireturn, 1) := by decide +kernel
theorem dX1_hasHole_35 : decode cX1_hasHole 35 = .ok (.iinc 3 1, 3) := by decide +kernel
theorem dX1_hasHole_38 : decode cX1_hasHole 38 = .ok (.goto (-28), 3) := by decide +kernel
theorem dX1_hasHole_41 : decode cX1_hasHole 41 = .ok (.iconst 0, 1) := by decide +kernel
theorem dX1_hasHole_42 : decode cX1_hasHole 42 = .ok (.ireturn, 1) := by decide +kernel
theorem dX1_lacksPart_0 : decode cX1_lacksPart 0 = .ok (.aload_n 0, 1) := by decide +kernel
theorem dX1_lacksPart_1 : decode cX1_lacksPart 1 = .ok (.getfield 96, 3) := by decide +kernel
theorem dX1_lacksPart_4 : decode cX1_lacksPart 4 = .ok (.astore_n 1, 1) := by decide +kernel
theorem dX1_lacksPart_5 : decode cX1_lacksPart 5 = .ok (.aload_n 1, 1) := by decide +kernel
theorem dX1_lacksPart_6 : decode cX1_lacksPart 6 = .ok (.arraylength, 1) := by decide +kernel
theorem dX1_lacksPart_7 : decode cX1_lacksPart 7 = .ok (.istore_n 2, 1) := by decide +kernel
theorem dX1_lacksPart_8 : decode cX1_lacksPart 8 = .ok (.iconst 0, 1) := by decide +kernel
theorem dX1_lacksPart_9 : decode cX1_lacksPart 9 = .ok (.istore_n 3, 1) := by decide +kernel
theorem dX1_lacksPart_10 : decode cX1_lacksPart 10 = .ok (.iload_n 3, 1) := by decide +kernel
theorem dX1_lacksPart_11 : decode cX1_lacksPart 11 = .ok (.iload_n 2, 1) := by decide +kernel
theorem dX1_lacksPart_12 : decode cX1_lacksPart 12 = .ok (.if_icmp .ge 21, 3) := by decide +kernel
theorem dX1_lacksPart_15 : decode cX1_lacksPart 15 = .ok (.aload_n 1, 1) := by decide +kernel
theorem dX1_lacksPart_16 : decode cX1_lacksPart 16 = .ok (.iload_n 3, 1) := by decide +kernel
theorem dX1_lacksPart_17 : decode cX1_lacksPart 17 = .ok (.aaload, 1) := by decide +kernel
theorem dX1_lacksPart_18 : decode cX1_lacksPart 18 = .ok (.astore 4, 2) := by decide +kernel
theorem dX1_lacksPart_20 : decode cX1_lacksPart 20 = .ok (.aload 4, 2) := by decide +kernel
theorem dX1_lacksPart_22 : decode cX1_lacksPart 22 = .ok (.ifnonnull 5, 3) := by decide +kernel
theorem dX1_lacksPart_25 : decode cX1_lacksPart 25 = .ok (.iconst 1, 1) := by decide +kernel
theorem dX1_lacksPart_26 : decode cX1_lacksPart 26 = .ok (.ireturn, 1) := by decide +kernel
theorem dX1_lacksPart_27 : decode cX1_lacksPart 27 = .ok (.iinc 3 1, 3) := by decide +kernel
theorem dX1_lacksPart_30 : decode cX1_lacksPart 30 = .ok (.goto (-20), 3) := by decide +kernel
theorem dX1_lacksPart_33 : decode cX1_lacksPart 33 = .ok (.iconst 0, 1) := by decide +kernel
theorem dX1_lacksPart_34 : decode cX1_lacksPart 34 = .ok (.ireturn, 1) := by decide +kernel
set_option maxRecDepth 20000 in
theorem ggX1_toldBy_X1_toldByRows : GoodIn wsX1_toldBy wsX1_toldByRows := goodIn_r _ [4, 5, 6, 7, 3, 8, 9, 10, 11, 12, 13, 14, 15, 16, 17, 18, 19, 20, 21, 22, 23, 24, 25, 26, 27, 28, 29, 30] (by decide +kernel) (by decide +kernel)
set_option maxRecDepth 20000 in
theorem gX1_toldBy_X1_toldByRows : GoodIn wsX1_toldBy (va_wsS RX1 129 yX1_toldByRows wsX1_toldByRows) := goodIn_app (goodIn_of _ (by decide +kernel)) ggX1_toldBy_X1_toldByRows
set_option maxRecDepth 20000 in
theorem ggX1_toldBy_X1_toldByLoad : GoodIn wsX1_toldBy wsX1_toldByLoad := goodIn_r _ [18, 19, 20, 21, 22, 3, 23, 24, 25, 26, 27, 28, 29, 30] (by decide +kernel) (by decide +kernel)
set_option maxRecDepth 20000 in
theorem gX1_toldBy_X1_toldByLoad : GoodIn wsX1_toldBy (va_wsS RX1 132 yX1_toldByLoad wsX1_toldByLoad) := goodIn_app (goodIn_of _ (by decide +kernel)) ggX1_toldBy_X1_toldByLoad
set_option maxRecDepth 20000 in
theorem ggX1_toldBy_X1_toldByRow : GoodIn wsX1_toldBy wsX1_toldByRow := goodIn_r _ [8, 9, 10, 3, 11, 12, 13, 14, 15, 5, 16, 17, 18, 19, 20, 21, 22, 23, 24, 25, 26, 27, 28, 29, 30] (by decide +kernel) (by decide +kernel)
set_option maxRecDepth 20000 in
theorem gX1_toldBy_X1_toldByRow : GoodIn wsX1_toldBy (va_wsS RX1 136 yX1_toldByRow wsX1_toldByRow) := goodIn_app (goodIn_of _ (by decide +kernel)) ggX1_toldBy_X1_toldByRow
theorem dX1_toldBy_0 : decode cX1_toldBy 0 = .ok (.iload_n 1, 1) := by decide +kernel
theorem dX1_toldBy_1 : decode cX1_toldBy 1 = .ok (.tableswitch 82 3 12 #[55, 82, 82, 82, 63, 69, 75, 75, 75, 75], 55) := by decide +kernel
theorem dX1_toldBy_56 : decode cX1_toldBy 56 = .ok (.aload_n 0, 1) := by decide +kernel
theorem dX1_toldBy_57 : decode cX1_toldBy 57 = .ok (.iconst 0, 1) := by decide +kernel
theorem dX1_toldBy_58 : decode cX1_toldBy 58 = .ok (.invokestatic 129, 3) := by decide +kernel
theorem dX1_toldBy_61 : decode cX1_toldBy 61 = .ok (.l2i, 1) := by decide +kernel
theorem dX1_toldBy_62 : decode cX1_toldBy 62 = .ok (.i2l, 1) := by decide +kernel
theorem dX1_toldBy_63 : decode cX1_toldBy 63 = .ok (.lreturn, 1) := by decide +kernel
theorem dX1_toldBy_64 : decode cX1_toldBy 64 = .ok (.aload_n 0, 1) := by decide +kernel
theorem dX1_toldBy_65 : decode cX1_toldBy 65 = .ok (.iconst 4, 1) := by decide +kernel
theorem dX1_toldBy_66 : decode cX1_toldBy 66 = .ok (.invokestatic 129, 3) := by decide +kernel
theorem dX1_toldBy_69 : decode cX1_toldBy 69 = .ok (.lreturn, 1) := by decide +kernel
theorem dX1_toldBy_70 : decode cX1_toldBy 70 = .ok (.aload_n 0, 1) := by decide +kernel
theorem dX1_toldBy_71 : decode cX1_toldBy 71 = .ok (.iconst 5, 1) := by decide +kernel
theorem dX1_toldBy_72 : decode cX1_toldBy 72 = .ok (.invokestatic 129, 3) := by decide +kernel
theorem dX1_toldBy_75 : decode cX1_toldBy 75 = .ok (.lreturn, 1) := by decide +kernel
theorem dX1_toldBy_76 : decode cX1_toldBy 76 = .ok (.aload_n 0, 1) := by decide +kernel
theorem dX1_toldBy_77 : decode cX1_toldBy 77 = .ok (.iload_n 1, 1) := by decide +kernel
theorem dX1_toldBy_78 : decode cX1_toldBy 78 = .ok (.invokestatic 132, 3) := by decide +kernel
theorem dX1_toldBy_81 : decode cX1_toldBy 81 = .ok (.i2l, 1) := by decide +kernel
theorem dX1_toldBy_82 : decode cX1_toldBy 82 = .ok (.lreturn, 1) := by decide +kernel
theorem dX1_toldBy_83 : decode cX1_toldBy 83 = .ok (.aload_n 0, 1) := by decide +kernel
theorem dX1_toldBy_84 : decode cX1_toldBy 84 = .ok (.iload_n 1, 1) := by decide +kernel
theorem dX1_toldBy_85 : decode cX1_toldBy 85 = .ok (.invokestatic 136, 3) := by decide +kernel
theorem dX1_toldBy_88 : decode cX1_toldBy 88 = .ok (.lreturn, 1) := by decide +kernel
set_option maxRecDepth 20000 in
theorem ggX1_toldByRows_X1_toldByRow : GoodIn wsX1_toldByRows wsX1_toldByRow := goodIn_r _ [5, 6, 7, 4, 8, 9, 10, 11, 12, 1, 13, 14, 15, 16, 17, 18, 19, 20, 21, 22, 23, 24, 25, 26, 27] (by decide +kernel) (by decide +kernel)
set_option maxRecDepth 20000 in
theorem gX1_toldByRows_X1_toldByRow : GoodIn wsX1_toldByRows (va_wsS RX1 136 yX1_toldByRow wsX1_toldByRow) := goodIn_app (goodIn_of _ (by decide +kernel)) ggX1_toldByRows_X1_toldByRow
theorem dX1_toldByRows_0 : decode cX1_toldByRows 0 = .ok (.lconst 0, 1) := by decide +kernel
theorem dX1_toldByRows_1 : decode cX1_toldByRows 1 = .ok (.lstore_n 2, 1) := by decide +kernel
theorem dX1_toldByRows_2 : decode cX1_toldByRows 2 = .ok (.aload_n 0, 1) := by decide +kernel
theorem dX1_toldByRows_3 : decode cX1_toldByRows 3 = .ok (.getfield 96, 3) := by decide +kernel
theorem dX1_toldByRows_6 : decode cX1_toldByRows 6 = .ok (.astore 4, 2) := by decide +kernel
theorem dX1_toldByRows_8 : decode cX1_toldByRows 8 = .ok (.aload 4, 2) := by decide +kernel
theorem dX1_toldByRows_10 : decode cX1_toldByRows 10 = .ok (.arraylength, 1) := by decide +kernel
theorem dX1_toldByRows_11 : decode cX1_toldByRows 11 = .ok (.istore 5, 2) := by decide +kernel
theorem dX1_toldByRows_13 : decode cX1_toldByRows 13 = .ok (.iconst 0, 1) := by decide +kernel
theorem dX1_toldByRows_14 : decode cX1_toldByRows 14 = .ok (.istore 6, 2) := by decide +kernel
theorem dX1_toldByRows_16 : decode cX1_toldByRows 16 = .ok (.iload 6, 2) := by decide +kernel
theorem dX1_toldByRows_18 : decode cX1_toldByRows 18 = .ok (.iload 5, 2) := by decide +kernel
theorem dX1_toldByRows_20 : decode cX1_toldByRows 20 = .ok (.if_icmp .ge 30, 3) := by decide +kernel
theorem dX1_toldByRows_23 : decode cX1_toldByRows 23 = .ok (.aload 4, 2) := by decide +kernel
theorem dX1_toldByRows_25 : decode cX1_toldByRows 25 = .ok (.iload 6, 2) := by decide +kernel
theorem dX1_toldByRows_27 : decode cX1_toldByRows 27 = .ok (.aaload, 1) := by decide +kernel
theorem dX1_toldByRows_28 : decode cX1_toldByRows 28 = .ok (.astore 7, 2) := by decide +kernel
theorem dX1_toldByRows_30 : decode cX1_toldByRows 30 = .ok (.aload 7, 2) := by decide +kernel
theorem dX1_toldByRows_32 : decode cX1_toldByRows 32 = .ok (.ifnull 12, 3) := by decide +kernel
theorem dX1_toldByRows_35 : decode cX1_toldByRows 35 = .ok (.lload_n 2, 1) := by decide +kernel
theorem dX1_toldByRows_36 : decode cX1_toldByRows 36 = .ok (.aload 7, 2) := by decide +kernel
theorem dX1_toldByRows_38 : decode cX1_toldByRows 38 = .ok (.iload_n 1, 1) := by decide +kernel
theorem dX1_toldByRows_39 : decode cX1_toldByRows 39 = .ok (.invokestatic 136, 3) := by decide +kernel
theorem dX1_toldByRows_42 : decode cX1_toldByRows 42 = .ok (.ladd, 1) := by decide +kernel
theorem dX1_toldByRows_43 : decode cX1_toldByRows 43 = .ok (.lstore_n 2, 1) := by decide +kernel
theorem dX1_toldByRows_44 : decode cX1_toldByRows 44 = .ok (.iinc 6 1, 3) := by decide +kernel
theorem dX1_toldByRows_47 : decode cX1_toldByRows 47 = .ok (.goto (-31), 3) := by decide +kernel
theorem dX1_toldByRows_50 : decode cX1_toldByRows 50 = .ok (.lload_n 2, 1) := by decide +kernel
theorem dX1_toldByRows_51 : decode cX1_toldByRows 51 = .ok (.lreturn, 1) := by decide +kernel
set_option maxRecDepth 20000 in
theorem ggX1_toldByRow_X1_sumOfNumbers : GoodIn wsX1_toldByRow wsX1_sumOfNumbers := goodIn_r _ [4, 5, 19, 20, 21, 22, 23, 24] (by decide +kernel) (by decide +kernel)
set_option maxRecDepth 20000 in
theorem gX1_toldByRow_X1_sumOfNumbers : GoodIn wsX1_toldByRow (va_wsS RX1 139 yX1_sumOfNumbers wsX1_sumOfNumbers) := goodIn_app (goodIn_of _ (by decide +kernel)) ggX1_toldByRow_X1_sumOfNumbers
set_option maxRecDepth 20000 in
theorem ggX1_toldByRow_X1_toldByLoads : GoodIn wsX1_toldByRow wsX1_toldByLoads := goodIn_r _ [8, 9, 10, 11, 3, 12, 13, 14, 15, 16, 17, 18, 19, 20, 21, 22, 23, 24] (by decide +kernel) (by decide +kernel)
set_option maxRecDepth 20000 in
theorem gX1_toldByRow_X1_toldByLoads : GoodIn wsX1_toldByRow (va_wsS RX1 143 yX1_toldByLoads wsX1_toldByLoads) := goodIn_app (goodIn_of _ (by decide +kernel)) ggX1_toldByRow_X1_toldByLoads
theorem dX1_toldByRow_0 : decode cX1_toldByRow 0 = .ok (.iload_n 1, 1) := by decide +kernel
theorem dX1_toldByRow_1 : decode cX1_toldByRow 1 = .ok (.tableswitch 58 0 5 #[39, 39, 46, 58, 58, 51], 39) := by decide +kernel
theorem dX1_toldByRow_40 : decode cX1_toldByRow 40 = .ok (.aload_n 0, 1) := by decide +kernel
theorem dX1_toldByRow_41 : decode cX1_toldByRow 41 = .ok (.invokestatic 139, 3) := by decide +kernel
theorem dX1_toldByRow_44 : decode cX1_toldByRow 44 = .ok (.l2i, 1) := by decide +kernel
theorem dX1_toldByRow_45 : decode cX1_toldByRow 45 = .ok (.i2l, 1) := by decide +kernel
theorem dX1_toldByRow_46 : decode cX1_toldByRow 46 = .ok (.lreturn, 1) := by decide +kernel
theorem dX1_toldByRow_47 : decode cX1_toldByRow 47 = .ok (.aload_n 0, 1) := by decide +kernel
theorem dX1_toldByRow_48 : decode cX1_toldByRow 48 = .ok (.invokestatic 139, 3) := by decide +kernel
theorem dX1_toldByRow_51 : decode cX1_toldByRow 51 = .ok (.lreturn, 1) := by decide +kernel
theorem dX1_toldByRow_52 : decode cX1_toldByRow 52 = .ok (.aload_n 0, 1) := by decide +kernel
theorem dX1_toldByRow_53 : decode cX1_toldByRow 53 = .ok (.bipush 10, 2) := by decide +kernel
theorem dX1_toldByRow_55 : decode cX1_toldByRow 55 = .ok (.invokestatic 143, 3) := by decide +kernel
theorem dX1_toldByRow_58 : decode cX1_toldByRow 58 = .ok (.lreturn, 1) := by decide +kernel
theorem dX1_toldByRow_59 : decode cX1_toldByRow 59 = .ok (.aload_n 0, 1) := by decide +kernel
theorem dX1_toldByRow_60 : decode cX1_toldByRow 60 = .ok (.bipush 12, 2) := by decide +kernel
theorem dX1_toldByRow_62 : decode cX1_toldByRow 62 = .ok (.invokestatic 143, 3) := by decide +kernel
theorem dX1_toldByRow_65 : decode cX1_toldByRow 65 = .ok (.lreturn, 1) := by decide +kernel
theorem dX1_sumOfNumbers_0 : decode cX1_sumOfNumbers 0 = .ok (.lconst 0, 1) := by decide +kernel
theorem dX1_sumOfNumbers_1 : decode cX1_sumOfNumbers 1 = .ok (.lstore_n 1, 1) := by decide +kernel
theorem dX1_sumOfNumbers_2 : decode cX1_sumOfNumbers 2 = .ok (.aload_n 0, 1) := by decide +kernel
theorem dX1_sumOfNumbers_3 : decode cX1_sumOfNumbers 3 = .ok (.getfield 75, 3) := by decide +kernel
theorem dX1_sumOfNumbers_6 : decode cX1_sumOfNumbers 6 = .ok (.astore_n 3, 1) := by decide +kernel
theorem dX1_sumOfNumbers_7 : decode cX1_sumOfNumbers 7 = .ok (.aload_n 3, 1) := by decide +kernel
theorem dX1_sumOfNumbers_8 : decode cX1_sumOfNumbers 8 = .ok (.arraylength, 1) := by decide +kernel
theorem dX1_sumOfNumbers_9 : decode cX1_sumOfNumbers 9 = .ok (.istore 4, 2) := by decide +kernel
theorem dX1_sumOfNumbers_11 : decode cX1_sumOfNumbers 11 = .ok (.iconst 0, 1) := by decide +kernel
theorem dX1_sumOfNumbers_12 : decode cX1_sumOfNumbers 12 = .ok (.istore 5, 2) := by decide +kernel
theorem dX1_sumOfNumbers_14 : decode cX1_sumOfNumbers 14 = .ok (.iload 5, 2) := by decide +kernel
theorem dX1_sumOfNumbers_16 : decode cX1_sumOfNumbers 16 = .ok (.iload 4, 2) := by decide +kernel
theorem dX1_sumOfNumbers_18 : decode cX1_sumOfNumbers 18 = .ok (.if_icmp .ge 20, 3) := by decide +kernel
theorem dX1_sumOfNumbers_21 : decode cX1_sumOfNumbers 21 = .ok (.aload_n 3, 1) := by decide +kernel
theorem dX1_sumOfNumbers_22 : decode cX1_sumOfNumbers 22 = .ok (.iload 5, 2) := by decide +kernel
theorem dX1_sumOfNumbers_24 : decode cX1_sumOfNumbers 24 = .ok (.laload, 1) := by decide +kernel
theorem dX1_sumOfNumbers_25 : decode cX1_sumOfNumbers 25 = .ok (.lstore 6, 2) := by decide +kernel
theorem dX1_sumOfNumbers_27 : decode cX1_sumOfNumbers 27 = .ok (.lload_n 1, 1) := by decide +kernel
theorem dX1_sumOfNumbers_28 : decode cX1_sumOfNumbers 28 = .ok (.lload 6, 2) := by decide +kernel
theorem dX1_sumOfNumbers_30 : decode cX1_sumOfNumbers 30 = .ok (.ladd, 1) := by decide +kernel
theorem dX1_sumOfNumbers_31 : decode cX1_sumOfNumbers 31 = .ok (.lstore_n 1, 1) := by decide +kernel
theorem dX1_sumOfNumbers_32 : decode cX1_sumOfNumbers 32 = .ok (.iinc 5 1, 3) := by decide +kernel
theorem dX1_sumOfNumbers_35 : decode cX1_sumOfNumbers 35 = .ok (.goto (-21), 3) := by decide +kernel
theorem dX1_sumOfNumbers_38 : decode cX1_sumOfNumbers 38 = .ok (.lload_n 1, 1) := by decide +kernel
theorem dX1_sumOfNumbers_39 : decode cX1_sumOfNumbers 39 = .ok (.lreturn, 1) := by decide +kernel
set_option maxRecDepth 20000 in
theorem ggX1_toldByLoads_X1_toldByLoad : GoodIn wsX1_toldByLoads wsX1_toldByLoad := goodIn_r _ [5, 6, 7, 8, 9, 4, 10, 11, 12, 13, 14, 15, 16, 17] (by decide +kernel) (by decide +kernel)
set_option maxRecDepth 20000 in
theorem gX1_toldByLoads_X1_toldByLoad : GoodIn wsX1_toldByLoads (va_wsS RX1 132 yX1_toldByLoad wsX1_toldByLoad) := goodIn_app (goodIn_of _ (by decide +kernel)) ggX1_toldByLoads_X1_toldByLoad
theorem dX1_toldByLoads_0 : decode cX1_toldByLoads 0 = .ok (.lconst 0, 1) := by decide +kernel
theorem dX1_toldByLoads_1 : decode cX1_toldByLoads 1 = .ok (.lstore_n 2, 1) := by decide +kernel
theorem dX1_toldByLoads_2 : decode cX1_toldByLoads 2 = .ok (.aload_n 0, 1) := by decide +kernel
theorem dX1_toldByLoads_3 : decode cX1_toldByLoads 3 = .ok (.getfield 96, 3) := by decide +kernel
theorem dX1_toldByLoads_6 : decode cX1_toldByLoads 6 = .ok (.astore 4, 2) := by decide +kernel
theorem dX1_toldByLoads_8 : decode cX1_toldByLoads 8 = .ok (.aload 4, 2) := by decide +kernel
theorem dX1_toldByLoads_10 : decode cX1_toldByLoads 10 = .ok (.arraylength, 1) := by decide +kernel
theorem dX1_toldByLoads_11 : decode cX1_toldByLoads 11 = .ok (.istore 5, 2) := by decide +kernel
theorem dX1_toldByLoads_13 : decode cX1_toldByLoads 13 = .ok (.iconst 0, 1) := by decide +kernel
theorem dX1_toldByLoads_14 : decode cX1_toldByLoads 14 = .ok (.istore 6, 2) := by decide +kernel
theorem dX1_toldByLoads_16 : decode cX1_toldByLoads 16 = .ok (.iload 6, 2) := by decide +kernel
theorem dX1_toldByLoads_18 : decode cX1_toldByLoads 18 = .ok (.iload 5, 2) := by decide +kernel
theorem dX1_toldByLoads_20 : decode cX1_toldByLoads 20 = .ok (.if_icmp .ge 31, 3) := by decide +kernel
theorem dX1_toldByLoads_23 : decode cX1_toldByLoads 23 = .ok (.aload 4, 2) := by decide +kernel
theorem dX1_toldByLoads_25 : decode cX1_toldByLoads 25 = .ok (.iload 6, 2) := by decide +kernel
theorem dX1_toldByLoads_27 : decode cX1_toldByLoads 27 = .ok (.aaload, 1) := by decide +kernel
theorem dX1_toldByLoads_28 : decode cX1_toldByLoads 28 = .ok (.astore 7, 2) := by decide +kernel
theorem dX1_toldByLoads_30 : decode cX1_toldByLoads 30 = .ok (.aload 7, 2) := by decide +kernel
theorem dX1_toldByLoads_32 : decode cX1_toldByLoads 32 = .ok (.ifnull 13, 3) := by decide +kernel
theorem dX1_toldByLoads_35 : decode cX1_toldByLoads 35 = .ok (.lload_n 2, 1) := by decide +kernel
theorem dX1_toldByLoads_36 : decode cX1_toldByLoads 36 = .ok (.aload 7, 2) := by decide +kernel
theorem dX1_toldByLoads_38 : decode cX1_toldByLoads 38 = .ok (.iload_n 1, 1) := by decide +kernel
theorem dX1_toldByLoads_39 : decode cX1_toldByLoads 39 = .ok (.invokestatic 132, 3) := by decide +kernel
theorem dX1_toldByLoads_42 : decode cX1_toldByLoads 42 = .ok (.i2l, 1) := by decide +kernel
theorem dX1_toldByLoads_43 : decode cX1_toldByLoads 43 = .ok (.ladd, 1) := by decide +kernel
theorem dX1_toldByLoads_44 : decode cX1_toldByLoads 44 = .ok (.lstore_n 2, 1) := by decide +kernel
theorem dX1_toldByLoads_45 : decode cX1_toldByLoads 45 = .ok (.iinc 6 1, 3) := by decide +kernel
theorem dX1_toldByLoads_48 : decode cX1_toldByLoads 48 = .ok (.goto (-32), 3) := by decide +kernel
theorem dX1_toldByLoads_51 : decode cX1_toldByLoads 51 = .ok (.lload_n 2, 1) := by decide +kernel
theorem dX1_toldByLoads_52 : decode cX1_toldByLoads 52 = .ok (.lreturn, 1) := by decide +kernel
set_option maxRecDepth 20000 in
theorem ggX1_toldByLoad_X1_lidOf : GoodIn wsX1_toldByLoad wsX1_lidOf := goodIn_r _ [6, 7, 8, 9, 10, 11, 12, 13] (by decide +kernel) (by decide +kernel)
set_option maxRecDepth 20000 in
theorem gX1_toldByLoad_X1_lidOf : GoodIn wsX1_toldByLoad (va_wsS RX1 106 yX1_lidOf wsX1_lidOf) := goodIn_app (goodIn_of _ (by decide +kernel)) ggX1_toldByLoad_X1_lidOf
theorem dX1_toldByLoad_0 : decode cX1_toldByLoad 0 = .ok (.iload_n 1, 1) := by decide +kernel
theorem dX1_toldByLoad_1 : decode cX1_toldByLoad 1 = .ok (.lookupswitch 60 #[(10, 27), (12, 32)], 27) := by decide +kernel
theorem dX1_toldByLoad_28 : decode cX1_toldByLoad 28 = .ok (.aload_n 0, 1) := by decide +kernel
theorem dX1_toldByLoad_29 : decode cX1_toldByLoad 29 = .ok (.invokestatic 106, 3) := by decide +kernel
theorem dX1_toldByLoad_32 : decode cX1_toldByLoad 32 = .ok (.ireturn, 1) := by decide +kernel
theorem dX1_toldByLoad_33 : decode cX1_toldByLoad 33 = .ok (.aload_n 0, 1) := by decide +kernel
theorem dX1_toldByLoad_34 : decode cX1_toldByLoad 34 = .ok (.getfield 79, 3) := by decide +kernel
theorem dX1_toldByLoad_37 : decode cX1_toldByLoad 37 = .ok (.bipush 11, 2) := by decide +kernel
theorem dX1_toldByLoad_39 : decode cX1_toldByLoad 39 = .ok (.if_icmp .ne 12, 3) := by decide +kernel
theorem dX1_toldByLoad_42 : decode cX1_toldByLoad 42 = .ok (.iconst 2, 1) := by decide +kernel
theorem dX1_toldByLoad_43 : decode cX1_toldByLoad 43 = .ok (.aload_n 0, 1) := by decide +kernel
theorem dX1_toldByLoad_44 : decode cX1_toldByLoad 44 = .ok (.getfield 114, 3) := by decide +kernel
theorem dX1_toldByLoad_47 : decode cX1_toldByLoad 47 = .ok (.imul, 1) := by decide +kernel
theorem dX1_toldByLoad_48 : decode cX1_toldByLoad 48 = .ok (.goto 12, 3) := by decide +kernel
theorem dX1_toldByLoad_51 : decode cX1_toldByLoad 51 = .ok (.aload_n 0, 1) := by decide +kernel
theorem dX1_toldByLoad_52 : decode cX1_toldByLoad 52 = .ok (.getfield 114, 3) := by decide +kernel
theorem dX1_toldByLoad_55 : decode cX1_toldByLoad 55 = .ok (.aload_n 0, 1) := by decide +kernel
theorem dX1_toldByLoad_56 : decode cX1_toldByLoad 56 = .ok (.invokestatic 106, 3) := by decide +kernel
theorem dX1_toldByLoad_59 : decode cX1_toldByLoad 59 = .ok (.iadd, 1) := by decide +kernel
theorem dX1_toldByLoad_60 : decode cX1_toldByLoad 60 = .ok (.ireturn, 1) := by decide +kernel
theorem dX1_toldByLoad_61 : decode cX1_toldByLoad 61 = .ok (.aload_n 0, 1) := by decide +kernel
theorem dX1_toldByLoad_62 : decode cX1_toldByLoad 62 = .ok (.getfield 114, 3) := by decide +kernel
theorem dX1_toldByLoad_65 : decode cX1_toldByLoad 65 = .ok (.ireturn, 1) := by decide +kernel
theorem dX1_lidOf_0 : decode cX1_lidOf 0 = .ok (.aload_n 0, 1) := by decide +kernel
theorem dX1_lidOf_1 : decode cX1_lidOf 1 = .ok (.getfield 109, 3) := by decide +kernel
theorem dX1_lidOf_4 : decode cX1_lidOf 4 = .ok (.ifCond .eq 7, 3) := by decide +kernel
theorem dX1_lidOf_7 : decode cX1_lidOf 7 = .ok (.iconst 1, 1) := by decide +kernel
theorem dX1_lidOf_8 : decode cX1_lidOf 8 = .ok (.goto 4, 3) := by decide +kernel
theorem dX1_lidOf_11 : decode cX1_lidOf 11 = .ok (.iconst 0, 1) := by decide +kernel
theorem dX1_lidOf_12 : decode cX1_lidOf 12 = .ok (.ireturn, 1) := by decide +kernel
end
section
theorem dX2_init_0 : decode cX2_init 0 = .ok (.aload_n 0, 1) := by decide +kernel
theorem dX2_init_1 : decode cX2_init 1 = .ok (.invokespecial 1, 3) := by decide +kernel
theorem dX2_init_4 : decode cX2_init 4 = .ok (.aload_n 0, 1) := by decide +kernel
theorem dX2_init_5 : decode cX2_init 5 = .ok (.bipush 60, 2) := by decide +kernel
theorem dX2_init_7 : decode cX2_init 7 = .ok (.newarray .int, 2) := by decide +kernel
theorem dX2_init_9 : decode cX2_init 9 = .ok (.putfield 7, 3) := by decide +kernel
theorem dX2_init_12 : decode cX2_init 12 = .ok (.aload_n 0, 1) := by decide +kernel
theorem dX2_init_13 : decode cX2_init 13 = .ok (.bipush 60, 2) := by decide +kernel
theorem dX2_init_15 : decode cX2_init 15 = .ok (.newarray .int, 2) := by decide +kernel
theorem dX2_init_17 : decode cX2_init 17 = .ok (.putfield 13, 3) := by decide +kernel
theorem dX2_init_20 : decode cX2_init 20 = .ok (.aload_n 0, 1) := by decide +kernel
theorem dX2_init_21 : decode cX2_init 21 = .ok (.bipush 60, 2) := by decide +kernel
theorem dX2_init_23 : decode cX2_init 23 = .ok (.newarray .boolean, 2) := by decide +kernel
theorem dX2_init_25 : decode cX2_init 25 = .ok (.putfield 16, 3) := by decide +kernel
theorem dX2_init_28 : decode cX2_init 28 = .ok (.aload_n 0, 1) := by decide +kernel
theorem dX2_init_29 : decode cX2_init 29 = .ok (.sipush 480, 3) := by decide +kernel
theorem dX2_init_32 : decode cX2_init 32 = .ok (.newarray .long, 2) := by decide +kernel
theorem dX2_init_34 : decode cX2_init 34 = .ok (.putfield 20, 3) := by decide +kernel
theorem dX2_init_37 : decode cX2_init 37 = .ok (.aload_n 0, 1) := by decide +kernel
theorem dX2_init_38 : decode cX2_init 38 = .ok (.bipush 12, 2) := by decide +kernel
theorem dX2_init_40 : decode cX2_init 40 = .ok (.newarray .int, 2) := by decide +kernel
theorem dX2_init_42 : decode cX2_init 42 = .ok (.putfield 24, 3) := by decide +kernel
theorem dX2_init_45 : decode cX2_init 45 = .ok (.aload_n 0, 1) := by decide +kernel
theorem dX2_init_46 : decode cX2_init 46 = .ok (.iconst (-1), 1) := by decide +kernel
theorem dX2_init_47 : decode cX2_init 47 = .ok (.putfield 27, 3) := by decide +kernel
theorem dX2_init_50 : decode cX2_init 50 = .ok (.aload_n 0, 1) := by decide +kernel
theorem dX2_init_51 : decode cX2_init 51 = .ok (.iconst (-1), 1) := by decide +kernel
theorem dX2_init_52 : decode cX2_init 52 = .ok (.putfield 31, 3) := by decide +kernel
theorem dX2_init_55 : decode cX2_init 55 = .ok (.iconst 0, 1) := by decide +kernel
theorem dX2_init_56 : decode cX2_init 56 = .ok (.istore_n 1, 1) := by decide +kernel
theorem dX2_init_57 : decode cX2_init 57 = .ok (.iload_n 1, 1) := by decide +kernel
theorem dX2_init_58 : decode cX2_init 58 = .ok (.bipush 12, 2) := by decide +kernel
theorem dX2_init_60 : decode cX2_init 60 = .ok (.if_icmp .ge 16, 3) := by decide +kernel
theorem dX2_init_63 : decode cX2_init 63 = .ok (.aload_n 0, 1) := by decide +kernel
theorem dX2_init_64 : decode cX2_init 64 = .ok (.getfield 24, 3) := by decide +kernel
theorem dX2_init_67 : decode cX2_init 67 = .ok (.iload_n 1, 1) := by decide +kernel
theorem dX2_init_68 : decode cX2_init 68 = .ok (.iconst (-1), 1) := by decide +kernel
theorem dX2_init_69 : decode cX2_init 69 = .ok (.iastore, 1) := by decide +kernel
theorem dX2_init_70 : decode cX2_init 70 = .ok (.iinc 1 1, 3) := by decide +kernel
theorem dX2_init_73 : decode cX2_init 73 = .ok (.goto (-16), 3) := by decide +kernel
theorem dX2_init_76 : decode cX2_init 76 = .ok (.return_, 1) := by decide +kernel
theorem dX2_isIn_0 : decode cX2_isIn 0 = .ok (.iload_n 0, 1) := by decide +kernel
theorem dX2_isIn_1 : decode cX2_isIn 1 = .ok (.iload_n 1, 1) := by decide +kernel
theorem dX2_isIn_2 : decode cX2_isIn 2 = .ok (.if_icmp .lt 12, 3) := by decide +kernel
theorem dX2_isIn_5 : decode cX2_isIn 5 = .ok (.iload_n 0, 1) := by decide +kernel
theorem dX2_isIn_6 : decode cX2_isIn 6 = .ok (.iload_n 2, 1) := by decide +kernel
theorem dX2_isIn_7 : decode cX2_isIn 7 = .ok (.if_icmp .gt 7, 3) := by decide +kernel
theorem dX2_isIn_10 : decode cX2_isIn 10 = .ok (.iconst 1, 1) := by decide +kernel
theorem dX2_isIn_11 : decode cX2_isIn 11 = .ok (.goto 4, 3) := by decide +kernel
theorem dX2_isIn_14 : decode cX2_isIn 14 = .ok (.iconst 0, 1) := by decide +kernel
theorem dX2_isIn_15 : decode cX2_isIn 15 = .ok (.ireturn, 1) := by decide +kernel
set_option maxRecDepth 20000 in
theorem ggX2_isSlot_X2_isIn : GoodIn wsX2_isSlot wsX2_isIn := goodIn_r _ [4] (by decide +kernel) (by decide +kernel)
set_option maxRecDepth 20000 in
theorem gX2_isSlot_X2_isIn : GoodIn wsX2_isSlot (va_wsS RX2 34 yX2_isIn wsX2_isIn) := goodIn_app (goodIn_of _ (by decide +kernel)) ggX2_isSlot_X2_isIn
theorem dX2_isSlot_0 : decode cX2_isSlot 0 = .ok (.iload_n 0, 1) := by decide +kernel
theorem dX2_isSlot_1 : decode cX2_isSlot 1 = .ok (.iconst 0, 1) := by decide +kernel
theorem dX2_isSlot_2 : decode cX2_isSlot 2 = .ok (.bipush 11, 2) := by decide +kernel
theorem dX2_isSlot_4 : decode cX2_isSlot 4 = .ok (.invokestatic 34, 3) := by decide +kernel
theorem dX2_isSlot_7 : decode cX2_isSlot 7 = .ok (.ireturn, 1) := by decide +kernel
theorem dX2_goes_0 : decode cX2_goes 0 = .ok (.iload_n 1, 1) := by decide +kernel
theorem dX2_goes_1 : decode cX2_goes 1 = .ok (.iload_n 0, 1) := by decide +kernel
theorem dX2_goes_2 : decode cX2_goes 2 = .ok (.if_icmp .ne 5, 3) := by decide +kernel
theorem dX2_goes_5 : decode cX2_goes 5 = .ok (.iconst 1, 1) := by decide +kernel
theorem dX2_goes_6 : decode cX2_goes 6 = .ok (.ireturn, 1) := by decide +kernel
theorem dX2_goes_7 : decode cX2_goes 7 = .ok (.iload_n 0, 1) := by decide +kernel
theorem dX2_goes_8 : decode cX2_goes 8 = .ok (.tableswitch 119 4 11 #[95, 78, 119, 119, 107, 66, 48, 66], 48) := by decide +kernel
theorem dX2_goes_56 : decode cX2_goes 56 = .ok (.iload_n 1, 1) := by decide +kernel
theorem dX2_goes_57 : decode cX2_goes 57 = .ok (.bipush 9, 2) := by decide +kernel
theorem dX2_goes_59 : decode cX2_goes 59 = .ok (.if_icmp .eq 9, 3) := by decide +kernel
theorem dX2_goes_62 : decode cX2_goes 62 = .ok (.iload_n 1, 1) := by decide +kernel
theorem dX2_goes_63 : decode cX2_goes 63 = .ok (.bipush 12, 2) := by decide +kernel
theorem dX2_goes_65 : decode cX2_goes 65 = .ok (.if_icmp .ne 7, 3) := by decide +kernel
theorem dX2_goes_68 : decode cX2_goes 68 = .ok (.iconst 1, 1) := by decide +kernel
theorem dX2_goes_69 : decode cX2_goes 69 = .ok (.goto 4, 3) := by decide +kernel
theorem dX2_goes_72 : decode cX2_goes 72 = .ok (.iconst 0, 1) := by decide +kernel
theorem dX2_goes_73 : decode cX2_goes 73 = .ok (.ireturn, 1) := by decide +kernel
theorem dX2_goes_74 : decode cX2_goes 74 = .ok (.iload_n 1, 1) := by decide +kernel
theorem dX2_goes_75 : decode cX2_goes 75 = .ok (.bipush 12, 2) := by decide +kernel
theorem dX2_goes_77 : decode cX2_goes 77 = .ok (.if_icmp .ne 7, 3) := by decide +kernel
theorem dX2_goes_80 : decode cX2_goes 80 = .ok (.iconst 1, 1) := by decide +kernel
theorem dX2_goes_81 : decode cX2_goes 81 = .ok (.goto 4, 3) := by decide +kernel
theorem dX2_goes_84 : decode cX2_goes 84 = .ok (.iconst 0, 1) := by decide +kernel
theorem dX2_goes_85 : decode cX2_goes 85 = .ok (.ireturn, 1) := by decide +kernel
theorem dX2_goes_86 : decode cX2_goes 86 = .ok (.iload_n 1, 1) := by decide +kernel
theorem dX2_goes_87 : decode cX2_goes 87 = .ok (.iconst 4, 1) := by decide +kernel
theorem dX2_goes_88 : decode cX2_goes 88 = .ok (.if_icmp .eq 9, 3) := by decide +kernel
theorem dX2_goes_91 : decode cX2_goes 91 = .ok (.iload_n 1, 1) := by decide +kernel
theorem dX2_goes_92 : decode cX2_goes 92 = .ok (.bipush 6, 2) := by decide +kernel
theorem dX2_goes_94 : decode cX2_goes 94 = .ok (.if_icmp .ne 7, 3) := by decide +kernel
theorem dX2_goes_97 : decode cX2_goes 97 = .ok (.iconst 1, 1) := by decide +kernel
theorem dX2_goes_98 : decode cX2_goes 98 = .ok (.goto 4, 3) := by decide +kernel
theorem dX2_goes_101 : decode cX2_goes 101 = .ok (.iconst 0, 1) := by decide +kernel
theorem dX2_goes_102 : decode cX2_goes 102 = .ok (.ireturn, 1) := by decide +kernel
theorem dX2_goes_103 : decode cX2_goes 103 = .ok (.iload_n 1, 1) := by decide +kernel
theorem dX2_goes_104 : decode cX2_goes 104 = .ok (.bipush 6, 2) := by decide +kernel
theorem dX2_goes_106 : decode cX2_goes 106 = .ok (.if_icmp .ne 7, 3) := by decide +kernel
theorem dX2_goes_109 : decode cX2_goes 109 = .ok (.iconst 1, 1) := by decide +kernel
theorem dX2_goes_110 : decode cX2_goes 110 = .ok (.goto 4, 3) := by decide +kernel
theorem dX2_goes_113 : decode cX2_goes 113 = .ok (.iconst 0, 1) := by decide +kernel
theorem dX2_goes_114 : decode cX2_goes 114 = .ok (.ireturn, 1) := by decide +kernel
theorem dX2_goes_115 : decode cX2_goes 115 = .ok (.iload_n 1, 1) := by decide +kernel
theorem dX2_goes_116 : decode cX2_goes 116 = .ok (.bipush 7, 2) := by decide +kernel
theorem dX2_goes_118 : decode cX2_goes 118 = .ok (.if_icmp .ne 7, 3) := by decide +kernel
theorem dX2_goes_121 : decode cX2_goes 121 = .ok (.iconst 1, 1) := by decide +kernel
theorem dX2_goes_122 : decode cX2_goes 122 = .ok (.goto 4, 3) := by decide +kernel
theorem dX2_goes_125 : decode cX2_goes 125 = .ok (.iconst 0, 1) := by decide +kernel
theorem dX2_goes_126 : decode cX2_goes 126 = .ok (.ireturn, 1) := by decide +kernel
theorem dX2_goes_127 : decode cX2_goes 127 = .ok (.iconst 0, 1) := by decide +kernel
theorem dX2_goes_128 : decode cX2_goes 128 = .ok (.ireturn, 1) := by decide +kernel
set_option maxRecDepth 20000 in
theorem ggX2_fitsAt_X2_goes : GoodIn wsX2_fitsAt wsX2_goes := goodIn_r _ [6] (by decide +kernel) (by decide +kernel)
set_option maxRecDepth 20000 in
theorem gX2_fitsAt_X2_goes : GoodIn wsX2_fitsAt (va_wsS RX2 38 yX2_goes wsX2_goes) := goodIn_app (goodIn_of _ (by decide +kernel)) ggX2_fitsAt_X2_goes
theorem dX2_fitsAt_0 : decode cX2_fitsAt 0 = .ok (.aload_n 0, 1) := by decide +kernel
theorem dX2_fitsAt_1 : decode cX2_fitsAt 1 = .ok (.getfield 24, 3) := by decide +kernel
theorem dX2_fitsAt_4 : decode cX2_fitsAt 4 = .ok (.iload_n 1, 1) := by decide +kernel
theorem dX2_fitsAt_5 : decode cX2_fitsAt 5 = .ok (.iaload, 1) := by decide +kernel
theorem dX2_fitsAt_6 : decode cX2_fitsAt 6 = .ok (.iconst (-1), 1) := by decide +kernel
theorem dX2_fitsAt_7 : decode cX2_fitsAt 7 = .ok (.if_icmp .eq 25, 3) := by decide +kernel
theorem dX2_fitsAt_10 : decode cX2_fitsAt 10 = .ok (.aload_n 0, 1) := by decide +kernel
theorem dX2_fitsAt_11 : decode cX2_fitsAt 11 = .ok (.getfield 7, 3) := by decide +kernel
theorem dX2_fitsAt_14 : decode cX2_fitsAt 14 = .ok (.aload_n 0, 1) := by decide +kernel
theorem dX2_fitsAt_15 : decode cX2_fitsAt 15 = .ok (.getfield 24, 3) := by decide +kernel
theorem dX2_fitsAt_18 : decode cX2_fitsAt 18 = .ok (.iload_n 1, 1) := by decide +kernel
theorem dX2_fitsAt_19 : decode cX2_fitsAt 19 = .ok (.iaload, 1) := by decide +kernel
theorem dX2_fitsAt_20 : decode cX2_fitsAt 20 = .ok (.iaload, 1) := by decide +kernel
theorem dX2_fitsAt_21 : decode cX2_fitsAt 21 = .ok (.iload_n 2, 1) := by decide +kernel
theorem dX2_fitsAt_22 : decode cX2_fitsAt 22 = .ok (.invokestatic 38, 3) := by decide +kernel
theorem dX2_fitsAt_25 : decode cX2_fitsAt 25 = .ok (.ifCond .eq 7, 3) := by decide +kernel
theorem dX2_fitsAt_28 : decode cX2_fitsAt 28 = .ok (.iconst 1, 1) := by decide +kernel
theorem dX2_fitsAt_29 : decode cX2_fitsAt 29 = .ok (.goto 4, 3) := by decide +kernel
theorem dX2_fitsAt_32 : decode cX2_fitsAt 32 = .ok (.iconst 0, 1) := by decide +kernel
theorem dX2_fitsAt_33 : decode cX2_fitsAt 33 = .ok (.ireturn, 1) := by decide +kernel
set_option maxRecDepth 20000 in
theorem ggX2_holdsThings_X2_isIn : GoodIn wsX2_holdsThings wsX2_isIn := goodIn_r _ [4] (by decide +kernel) (by decide +kernel)
set_option maxRecDepth 20000 in
theorem gX2_holdsThings_X2_isIn : GoodIn wsX2_holdsThings (va_wsS RX2 34 yX2_isIn wsX2_isIn) := goodIn_app (goodIn_of _ (by decide +kernel)) ggX2_holdsThings_X2_isIn
theorem dX2_holdsThings_0 : decode cX2_holdsThings 0 = .ok (.iload_n 0, 1) := by decide +kernel
theorem dX2_holdsThings_1 : decode cX2_holdsThings 1 = .ok (.iconst 3, 1) := by decide +kernel
theorem dX2_holdsThings_2 : decode cX2_holdsThings 2 = .ok (.bipush 8, 2) := by decide +kernel
theorem dX2_holdsThings_4 : decode cX2_holdsThings 4 = .ok (.invokestatic 34, 3) := by decide +kernel
theorem dX2_holdsThings_7 : decode cX2_holdsThings 7 = .ok (.ireturn, 1) := by decide +kernel
theorem dX2_fails_0 : decode cX2_fails 0 = .ok (.aload_n 0, 1) := by decide +kernel
theorem dX2_fails_1 : decode cX2_fails 1 = .ok (.iload_n 1, 1) := by decide +kernel
theorem dX2_fails_2 : decode cX2_fails 2 = .ok (.putfield 42, 3) := by decide +kernel
theorem dX2_fails_5 : decode cX2_fails 5 = .ok (.iconst 0, 1) := by decide +kernel
theorem dX2_fails_6 : decode cX2_fails 6 = .ok (.ireturn, 1) := by decide +kernel
theorem dX2_turn_0 : decode cX2_turn 0 = .ok (.aload_n 0, 1) := by decide +kernel
theorem dX2_turn_1 : decode cX2_turn 1 = .ok (.dup, 1) := by decide +kernel
theorem dX2_turn_2 : decode cX2_turn 2 = .ok (.getfield 45, 3) := by decide +kernel
theorem dX2_turn_5 : decode cX2_turn 5 = .ok (.iconst 1, 1) := by decide +kernel
theorem dX2_turn_6 : decode cX2_turn 6 = .ok (.iadd, 1) := by decide +kernel
theorem dX2_turn_7 : decode cX2_turn 7 = .ok (.putfield 45, 3) := by decide +kernel
theorem dX2_turn_10 : decode cX2_turn 10 = .ok (.aload_n 0, 1) := by decide +kernel
theorem dX2_turn_11 : decode cX2_turn 11 = .ok (.iload_n 1, 1) := by decide +kernel
theorem dX2_turn_12 : decode cX2_turn 12 = .ok (.putfield 27, 3) := by decide +kernel
theorem dX2_turn_15 : decode cX2_turn 15 = .ok (.aload_n 0, 1) := by decide +kernel
theorem dX2_turn_16 : decode cX2_turn 16 = .ok (.iload_n 2, 1) := by decide +kernel
theorem dX2_turn_17 : decode cX2_turn 17 = .ok (.putfield 31, 3) := by decide +kernel
theorem dX2_turn_20 : decode cX2_turn 20 = .ok (.return_, 1) := by decide +kernel
set_option maxRecDepth 20000 in
theorem ggX2_turns_X2_turn : GoodIn wsX2_turns wsX2_turn := goodIn_r _ [5, 6, 7, 8, 14, 15, 16, 17, 18, 19, 20, 21, 22, 23] (by decide +kernel) (by decide +kernel)
set_option maxRecDepth 20000 in
theorem gX2_turns_X2_turn : GoodIn wsX2_turns (wsV RX2 48 RX2 yX2_turn wsX2_turn) := goodIn_app (goodIn_of _ (by decide +kernel)) ggX2_turns_X2_turn
set_option maxRecDepth 20000 in
theorem ggX2_turns_X2_fails : GoodIn wsX2_turns wsX2_fails := goodIn_r _ [12, 13, 14, 15, 16, 17, 18, 19, 20, 21, 22, 23] (by decide +kernel) (by decide +kernel)
set_option maxRecDepth 20000 in
theorem gX2_turns_X2_fails : GoodIn wsX2_turns (wsV RX2 52 RX2 yX2_fails wsX2_fails) := goodIn_app (goodIn_of _ (by decide +kernel)) ggX2_turns_X2_fails
theorem dX2_turns_0 : decode cX2_turns 0 = .ok (.aload_n 0, 1) := by decide +kernel
theorem dX2_turns_1 : decode cX2_turns 1 = .ok (.iload_n 1, 1) := by decide +kernel
theorem dX2_turns_2 : decode cX2_turns 2 = .ok (.iload_n 2, 1) := by decide +kernel
theorem dX2_turns_3 : decode cX2_turns 3 = .ok (.invokevirtual 48, 3) := by decide +kernel
theorem dX2_turns_6 : decode cX2_turns 6 = .ok (.aload_n 0, 1) := by decide +kernel
theorem dX2_turns_7 : decode cX2_turns 7 = .ok (.iconst 1, 1) := by decide +kernel
theorem dX2_turns_8 : decode cX2_turns 8 = .ok (.invokevirtual 52, 3) := by decide +kernel
theorem dX2_turns_11 : decode cX2_turns 11 = .ok (.ireturn, 1) := by decide +kernel
theorem dX2_bad_0 : decode cX2_bad 0 = .ok (.aload_n 0, 1) := by decide +kernel
theorem dX2_bad_1 : decode cX2_bad 1 = .ok (.iconst 0, 1) := by decide +kernel
theorem dX2_bad_2 : decode cX2_bad 2 = .ok (.putfield 42, 3) := by decide +kernel
theorem dX2_bad_5 : decode cX2_bad 5 = .ok (.bipush (-2), 2) := by decide +kernel
theorem dX2_bad_7 : decode cX2_bad 7 = .ok (.ireturn, 1) := by decide +kernel
set_option maxRecDepth 20000 in
theorem ggX2_make_X2_isIn : GoodIn wsX2_make wsX2_isIn := goodIn_r _ [13] (by decide +kernel) (by decide +kernel)
set_option maxRecDepth 20000 in
theorem gX2_make_X2_isIn : GoodIn wsX2_make (va_wsS RX2 34 yX2_isIn wsX2_isIn) := goodIn_app (goodIn_of _ (by decide +kernel)) ggX2_make_X2_isIn
set_option maxRecDepth 20000 in
theorem ggX2_make_X2_isSlot : GoodIn wsX2_make wsX2_isSlot := goodIn_r _ [16, 10, 11, 12, 13] (by decide +kernel) (by decide +kernel)
set_option maxRecDepth 20000 in
theorem gX2_make_X2_isSlot : GoodIn wsX2_make (va_wsS RX2 57 yX2_isSlot wsX2_isSlot) := goodIn_app (goodIn_of _ (by decide +kernel)) ggX2_make_X2_isSlot
set_option maxRecDepth 20000 in
theorem ggX2_make_X2_holdsThings : GoodIn wsX2_make wsX2_holdsThings := goodIn_r _ [19, 10, 11, 12, 13] (by decide +kernel) (by decide +kernel)
set_option maxRecDepth 20000 in
theorem gX2_make_X2_holdsThings : GoodIn wsX2_make (va_wsS RX2 64 yX2_holdsThings wsX2_holdsThings) := goodIn_app (goodIn_of _ (by decide +kernel)) ggX2_make_X2_holdsThings
theorem dX2_make_0 : decode cX2_make 0 = .ok (.aload_n 0, 1) := by decide +kernel
theorem dX2_make_1 : decode cX2_make 1 = .ok (.iconst 0, 1) := by decide +kernel
theorem dX2_make_2 : decode cX2_make 2 = .ok (.putfield 42, 3) := by decide +kernel
theorem dX2_make_5 : decode cX2_make 5 = .ok (.iload_n 1, 1) := by decide +kernel
theorem dX2_make_6 : decode cX2_make 6 = .ok (.iconst 0, 1) := by decide +kernel
theorem dX2_make_7 : decode cX2_make 7 = .ok (.bipush 11, 2) := by decide +kernel
theorem dX2_make_9 : decode cX2_make 9 = .ok (.invokestatic 34, 3) := by decide +kernel
theorem dX2_make_12 : decode cX2_make 12 = .ok (.ifCond .eq 31, 3) := by decide +kernel
theorem dX2_make_15 : decode cX2_make 15 = .ok (.iload_n 2, 1) := by decide +kernel
theorem dX2_make_16 : decode cX2_make 16 = .ok (.iconst 0, 1) := by decide +kernel
theorem dX2_make_17 : decode cX2_make 17 = .ok (.iload_n 1, 1) := by decide +kernel
theorem dX2_make_18 : decode cX2_make 18 = .ok (.bipush 9, 2) := by decide +kernel
theorem dX2_make_20 : decode cX2_make 20 = .ok (.if_icmp .ge 8, 3) := by decide +kernel
theorem dX2_make_23 : decode cX2_make 23 = .ok (.bipush 8, 2) := by decide +kernel
theorem dX2_make_25 : decode cX2_make 25 = .ok (.goto 5, 3) := by decide +kernel
theorem dX2_make_28 : decode cX2_make 28 = .ok (.ldc 56, 2) := by decide +kernel
theorem dX2_make_30 : decode cX2_make 30 = .ok (.invokestatic 34, 3) := by decide +kernel
theorem dX2_make_33 : decode cX2_make 33 = .ok (.ifCond .eq 10, 3) := by decide +kernel
theorem dX2_make_36 : decode cX2_make 36 = .ok (.iload_n 3, 1) := by decide +kernel
theorem dX2_make_37 : decode cX2_make 37 = .ok (.invokestatic 57, 3) := by decide +kernel
theorem dX2_make_40 : decode cX2_make 40 = .ok (.ifCond .ne 6, 3) := by decide +kernel
theorem dX2_make_43 : decode cX2_make 43 = .ok (.bipush (-2), 2) := by decide +kernel
theorem dX2_make_45 : decode cX2_make 45 = .ok (.ireturn, 1) := by decide +kernel
theorem dX2_make_46 : decode cX2_make 46 = .ok (.aload_n 0, 1) := by decide +kernel
theorem dX2_make_47 : decode cX2_make 47 = .ok (.getfield 61, 3) := by decide +kernel
theorem dX2_make_50 : decode cX2_make 50 = .ok (.bipush 60, 2) := by decide +kernel
theorem dX2_make_52 : decode cX2_make 52 = .ok (.if_icmp .ne 6, 3) := by decide +kernel
theorem dX2_make_55 : decode cX2_make 55 = .ok (.bipush (-3), 2) := by decide +kernel
theorem dX2_make_57 : decode cX2_make 57 = .ok (.ireturn, 1) := by decide +kernel
theorem dX2_make_58 : decode cX2_make 58 = .ok (.aload_n 0, 1) := by decide +kernel
theorem dX2_make_59 : decode cX2_make 59 = .ok (.getfield 7, 3) := by decide +kernel
theorem dX2_make_62 : decode cX2_make 62 = .ok (.aload_n 0, 1) := by decide +kernel
theorem dX2_make_63 : decode cX2_make 63 = .ok (.getfield 61, 3) := by decide +kernel
theorem dX2_make_66 : decode cX2_make 66 = .ok (.iload_n 1, 1) := by decide +kernel
theorem dX2_make_67 : decode cX2_make 67 = .ok (.iastore, 1) := by decide +kernel
theorem dX2_make_68 : decode cX2_make 68 = .ok (.aload_n 0, 1) := by decide +kernel
theorem dX2_make_69 : decode cX2_make 69 = .ok (.getfield 13, 3) := by decide +kernel
theorem dX2_make_72 : decode cX2_make 72 = .ok (.aload_n 0, 1) := by decide +kernel
theorem dX2_make_73 : decode cX2_make 73 = .ok (.getfield 61, 3) := by decide +kernel
theorem dX2_make_76 : decode cX2_make 76 = .ok (.iload_n 2, 1) := by decide +kernel
theorem dX2_make_77 : decode cX2_make 77 = .ok (.iastore, 1) := by decide +kernel
theorem dX2_make_78 : decode cX2_make 78 = .ok (.aload_n 0, 1) := by decide +kernel
theorem dX2_make_79 : decode cX2_make 79 = .ok (.getfield 16, 3) := by decide +kernel
theorem dX2_make_82 : decode cX2_make 82 = .ok (.aload_n 0, 1) := by decide +kernel
theorem dX2_make_83 : decode cX2_make 83 = .ok (.getfield 61, 3) := by decide +kernel
theorem dX2_make_86 : decode cX2_make 86 = .ok (.iconst 0, 1) := by decide +kernel
theorem dX2_make_87 : decode cX2_make 87 = .ok (.bastore, 1) := by decide +kernel
theorem dX2_make_88 : decode cX2_make 88 = .ok (.iconst 0, 1) := by decide +kernel
theorem dX2_make_89 : decode cX2_make 89 = .ok (.istore 4, 2) := by decide +kernel
theorem dX2_make_91 : decode cX2_make 91 = .ok (.iload 4, 2) := by decide +kernel
theorem dX2_make_93 : decode cX2_make 93 = .ok (.bipush 8, 2) := by decide +kernel
theorem dX2_make_95 : decode cX2_make 95 = .ok (.if_icmp .ge 38, 3) := by decide +kernel
theorem dX2_make_98 : decode cX2_make 98 = .ok (.aload_n 0, 1) := by decide +kernel
theorem dX2_make_99 : decode cX2_make 99 = .ok (.getfield 20, 3) := by decide +kernel
theorem dX2_make_102 : decode cX2_make 102 = .ok (.bipush 8, 2) := by decide +kernel
theorem dX2_make_104 : decode cX2_make 104 = .ok (.aload_n 0, 1) := by decide +kernel
theorem dX2_make_105 : decode cX2_make 105 = .ok (.getfield 61, 3) := by decide +kernel
theorem dX2_make_108 : decode cX2_make 108 = .ok (.imul, 1) := by decide +kernel
theorem dX2_make_109 : decode cX2_make 109 = .ok (.iload 4, 2) := by decide +kernel
theorem dX2_make_111 : decode cX2_make 111 = .ok (.iadd, 1) := by decide +kernel
theorem dX2_make_112 : decode cX2_make 112 = .ok (.iload_n 1, 1) := by decide +kernel
theorem dX2_make_113 : decode cX2_make 113 = .ok (.invokestatic 64, 3) := by decide +kernel
theorem dX2_make_116 : decode cX2_make 116 = .ok (.ifCond .eq 9, 3) := by decide +kernel
theorem dX2_make_119 : decode cX2_make 119 = .ok (.ldc2_w 67, 3) := by decide +kernel
theorem dX2_make_122 : decode cX2_make 122 = .ok (.goto 4, 3) := by decide +kernel
theorem dX2_make_125 : decode cX2_make 125 = .ok (.lconst 0, 1) := by decide +kernel
theorem dX2_make_126 : decode cX2_make 126 = .ok (.lastore, 1) := by decide +kernel
theorem dX2_make_127 : decode cX2_make 127 = .ok (.iinc 4 1, 3) := by decide +kernel
theorem dX2_make_130 : decode cX2_make 130 = .ok (.goto (-39), 3) := by decide +kernel
theorem dX2_make_133 : decode cX2_make 133 = .ok (.aload_n 0, 1) := by decide +kernel
theorem dX2_make_134 : decode cX2_make 134 = .ok (.getfield 24, 3) := by decide +kernel
theorem dX2_make_137 : decode cX2_make 137 = .ok (.iload_n 3, 1) := by decide +kernel
theorem dX2_make_138 : decode cX2_make 138 = .ok (.aload_n 0, 1) := by decide +kernel
theorem dX2_make_139 : decode cX2_make 139 = .ok (.getfield 61, 3) := by decide +kernel
theorem dX2_make_142 : decode cX2_make 142 = .ok (.iastore, 1) := by decide +kernel
theorem dX2_make_143 : decode cX2_make 143 = .ok (.aload_n 0, 1) := by decide +kernel
theorem dX2_make_144 : decode cX2_make 144 = .ok (.dup, 1) := by decide +kernel
theorem dX2_make_145 : decode cX2_make 145 = .ok (.getfield 61, 3) := by decide +kernel
theorem dX2_make_148 : decode cX2_make 148 = .ok (.iconst 1, 1) := by decide +kernel
theorem dX2_make_149 : decode cX2_make 149 = .ok (.iadd, 1) := by decide +kernel
theorem dX2_make_150 : decode cX2_make 150 = .ok (.putfield 61, 3) := by decide +kernel
theorem dX2_make_153 : decode cX2_make 153 = .ok (.aload_n 0, 1) := by decide +kernel
theorem dX2_make_154 : decode cX2_make 154 = .ok (.getfield 61, 3) := by decide +kernel
theorem dX2_make_157 : decode cX2_make 157 = .ok (.iconst 1, 1) := by decide +kernel
theorem dX2_make_158 : decode cX2_make 158 = .ok (.isub, 1) := by decide +kernel
theorem dX2_make_159 : decode cX2_make 159 = .ok (.ireturn, 1) := by decide +kernel
set_option maxRecDepth 20000 in
theorem ggX2_fits_X2_isSlot : GoodIn wsX2_fits wsX2_isSlot := goodIn_r _ [5, 6, 7, 4, 8] (by decide +kernel) (by decide +kernel)
set_option maxRecDepth 20000 in
theorem gX2_fits_X2_isSlot : GoodIn wsX2_fits (va_wsS RX2 57 yX2_isSlot wsX2_isSlot) := goodIn_app (goodIn_of _ (by decide +kernel)) ggX2_fits_X2_isSlot
set_option maxRecDepth 20000 in
theorem ggX2_fits_X2_isIn : GoodIn wsX2_fits wsX2_isIn := goodIn_r _ [8] (by decide +kernel) (by decide +kernel)
set_option maxRecDepth 20000 in
theorem gX2_fits_X2_isIn : GoodIn wsX2_fits (va_wsS RX2 34 yX2_isIn wsX2_isIn) := goodIn_app (goodIn_of _ (by decide +kernel)) ggX2_fits_X2_isIn
set_option maxRecDepth 20000 in
theorem ggX2_fits_X2_fitsAt : GoodIn wsX2_fits wsX2_fitsAt := goodIn_r _ [12, 13, 14, 15, 16, 4, 17, 18, 19, 20, 21, 22, 23, 24, 25, 26, 27] (by decide +kernel) (by decide +kernel)
set_option maxRecDepth 20000 in
theorem gX2_fits_X2_fitsAt : GoodIn wsX2_fits (wsV RX2 69 RX2 yX2_fitsAt wsX2_fitsAt) := goodIn_app (goodIn_of _ (by decide +kernel)) ggX2_fits_X2_fitsAt
theorem dX2_fits_0 : decode cX2_fits 0 = .ok (.aload_n 0, 1) := by decide +kernel
theorem dX2_fits_1 : decode cX2_fits 1 = .ok (.iconst 0, 1) := by decide +kernel
theorem dX2_fits_2 : decode cX2_fits 2 = .ok (.putfield 42, 3) := by decide +kernel
theorem dX2_fits_5 : decode cX2_fits 5 = .ok (.iload_n 1, 1) := by decide +kernel
theorem dX2_fits_6 : decode cX2_fits 6 = .ok (.invokestatic 57, 3) := by decide +kernel
theorem dX2_fits_9 : decode cX2_fits 9 = .ok (.ifCond .eq 13, 3) := by decide +kernel
theorem dX2_fits_12 : decode cX2_fits 12 = .ok (.iload_n 2, 1) := by decide +kernel
theorem dX2_fits_13 : decode cX2_fits 13 = .ok (.iconst 0, 1) := by decide +kernel
theorem dX2_fits_14 : decode cX2_fits 14 = .ok (.bipush 12, 2) := by decide +kernel
theorem dX2_fits_16 : decode cX2_fits 16 = .ok (.invokestatic 34, 3) := by decide +kernel
theorem dX2_fits_19 : decode cX2_fits 19 = .ok (.ifCond .ne 8, 3) := by decide +kernel
theorem dX2_fits_22 : decode cX2_fits 22 = .ok (.bipush (-2), 2) := by decide +kernel
theorem dX2_fits_24 : decode cX2_fits 24 = .ok (.goto 17, 3) := by decide +kernel
theorem dX2_fits_27 : decode cX2_fits 27 = .ok (.aload_n 0, 1) := by decide +kernel
theorem dX2_fits_28 : decode cX2_fits 28 = .ok (.iload_n 1, 1) := by decide +kernel
theorem dX2_fits_29 : decode cX2_fits 29 = .ok (.iload_n 2, 1) := by decide +kernel
theorem dX2_fits_30 : decode cX2_fits 30 = .ok (.invokevirtual 69, 3) := by decide +kernel
theorem dX2_fits_33 : decode cX2_fits 33 = .ok (.ifCond .eq 7, 3) := by decide +kernel
theorem dX2_fits_36 : decode cX2_fits 36 = .ok (.iconst 1, 1) := by decide +kernel
theorem dX2_fits_37 : decode cX2_fits 37 = .ok (.goto 4, 3) := by decide +kernel
theorem dX2_fits_40 : decode cX2_fits 40 = .ok (.iconst 0, 1) := by decide +kernel
theorem dX2_fits_41 : decode cX2_fits 41 = .ok (.ireturn, 1) := by decide +kernel
theorem dX2_weighs_0 : decode cX2_weighs 0 = .ok (.aload_n 0, 1) := by decide +kernel
theorem dX2_weighs_1 : decode cX2_weighs 1 = .ok (.getfield 7, 3) := by decide +kernel
theorem dX2_weighs_4 : decode cX2_weighs 4 = .ok (.iload_n 1, 1) := by decide +kernel
theorem dX2_weighs_5 : decode cX2_weighs 5 = .ok (.iaload, 1) := by decide +kernel
theorem dX2_weighs_6 : decode cX2_weighs 6 = .ok (.bipush 11, 2) := by decide +kernel
theorem dX2_weighs_8 : decode cX2_weighs 8 = .ok (.if_icmp .ne 14, 3) := by decide +kernel
theorem dX2_weighs_11 : decode cX2_weighs 11 = .ok (.iconst 2, 1) := by decide +kernel
theorem dX2_weighs_12 : decode cX2_weighs 12 = .ok (.aload_n 0, 1) := by decide +kernel
theorem dX2_weighs_13 : decode cX2_weighs 13 = .ok (.getfield 13, 3) := by decide +kernel
theorem dX2_weighs_16 : decode cX2_weighs 16 = .ok (.iload_n 1, 1) := by decide +kernel
theorem dX2_weighs_17 : decode cX2_weighs 17 = .ok (.iaload, 1) := by decide +kernel
theorem dX2_weighs_18 : decode cX2_weighs 18 = .ok (.imul, 1) := by decide +kernel
theorem dX2_weighs_19 : decode cX2_weighs 19 = .ok (.goto 24, 3) := by decide +kernel
theorem dX2_weighs_22 : decode cX2_weighs 22 = .ok (.aload_n 0, 1) := by decide +kernel
theorem dX2_weighs_23 : decode cX2_weighs 23 = .ok (.getfield 13, 3) := by decide +kernel
theorem dX2_weighs_26 : decode cX2_weighs 26 = .ok (.iload_n 1, 1) := by decide +kernel
theorem dX2_weighs_27 : decode cX2_weighs 27 = .ok (.iaload, 1) := by decide +kernel
theorem dX2_weighs_28 : decode cX2_weighs 28 = .ok (.aload_n 0, 1) := by decide +kernel
theorem dX2_weighs_29 : decode cX2_weighs 29 = .ok (.getfield 16, 3) := by decide +kernel
theorem dX2_weighs_32 : decode cX2_weighs 32 = .ok (.iload_n 1, 1) := by decide +kernel
theorem dX2_weighs_33 : decode cX2_weighs 33 = .ok (.baload, 1) := by decide +kernel
theorem dX2_weighs_34 : decode cX2_weighs 34 = .ok (.ifCond .eq 7, 3) := by decide +kernel
theorem dX2_weighs_37 : decode cX2_weighs 37 = .ok (.iconst 1, 1) := by decide +kernel
theorem dX2_weighs_38 : decode cX2_weighs 38 = .ok (.goto 4, 3) := by decide +kernel
theorem dX2_weighs_41 : decode cX2_weighs 41 = .ok (.iconst 0, 1) := by decide +kernel
theorem dX2_weighs_42 : decode cX2_weighs 42 = .ok (.iadd, 1) := by decide +kernel
theorem dX2_weighs_43 : decode cX2_weighs 43 = .ok (.ireturn, 1) := by decide +kernel
theorem dX2_sumOf_0 : decode cX2_sumOf 0 = .ok (.lconst 0, 1) := by decide +kernel
theorem dX2_sumOf_1 : decode cX2_sumOf 1 = .ok (.lstore_n 2, 1) := by decide +kernel
theorem dX2_sumOf_2 : decode cX2_sumOf 2 = .ok (.iconst 0, 1) := by decide +kernel
theorem dX2_sumOf_3 : decode cX2_sumOf 3 = .ok (.istore 4, 2) := by decide +kernel
theorem dX2_sumOf_5 : decode cX2_sumOf 5 = .ok (.iload 4, 2) := by decide +kernel
theorem dX2_sumOf_7 : decode cX2_sumOf 7 = .ok (.aload_n 0, 1) := by decide +kernel
theorem dX2_sumOf_8 : decode cX2_sumOf 8 = .ok (.getfield 13, 3) := by decide +kernel
theorem dX2_sumOf_11 : decode cX2_sumOf 11 = .ok (.iload_n 1, 1) := by decide +kernel
theorem dX2_sumOf_12 : decode cX2_sumOf 12 = .ok (.iaload, 1) := by decide +kernel
theorem dX2_sumOf_13 : decode cX2_sumOf 13 = .ok (.if_icmp .ge 24, 3) := by decide +kernel
theorem dX2_sumOf_16 : decode cX2_sumOf 16 = .ok (.lload_n 2, 1) := by decide +kernel
theorem dX2_sumOf_17 : decode cX2_sumOf 17 = .ok (.aload_n 0, 1) := by decide +kernel
theorem dX2_sumOf_18 : decode cX2_sumOf 18 = .ok (.getfield 20, 3) := by decide +kernel
theorem dX2_sumOf_21 : decode cX2_sumOf 21 = .ok (.bipush 8, 2) := by decide +kernel
theorem dX2_sumOf_23 : decode cX2_sumOf 23 = .ok (.iload_n 1, 1) := by decide +kernel
theorem dX2_sumOf_24 : decode cX2_sumOf 24 = .ok (.imul, 1) := by decide +kernel
theorem dX2_sumOf_25 : decode cX2_sumOf 25 = .ok (.iload 4, 2) := by decide +kernel
theorem dX2_sumOf_27 : decode cX2_sumOf 27 = .ok (.iadd, 1) := by decide +kernel
theorem dX2_sumOf_28 : decode cX2_sumOf 28 = .ok (.laload, 1) := by decide +kernel
theorem dX2_sumOf_29 : decode cX2_sumOf 29 = .ok (.ladd, 1) := by decide +kernel
theorem dX2_sumOf_30 : decode cX2_sumOf 30 = .ok (.lstore_n 2, 1) := by decide +kernel
theorem dX2_sumOf_31 : decode cX2_sumOf 31 = .ok (.iinc 4 1, 3) := by decide +kernel
theorem dX2_sumOf_34 : decode cX2_sumOf 34 = .ok (.goto (-29), 3) := by decide +kernel
theorem dX2_sumOf_37 : decode cX2_sumOf 37 = .ok (.aload_n 0, 1) := by decide +kernel
theorem dX2_sumOf_38 : decode cX2_sumOf 38 = .ok (.getfield 7, 3) := by decide +kernel
theorem dX2_sumOf_41 : decode cX2_sumOf 41 = .ok (.iload_n 1, 1) := by decide +kernel
theorem dX2_sumOf_42 : decode cX2_sumOf 42 = .ok (.iaload, 1) := by decide +kernel
theorem dX2_sumOf_43 : decode cX2_sumOf 43 = .ok (.iconst 2, 1) := by decide +kernel
theorem dX2_sumOf_44 : decode cX2_sumOf 44 = .ok (.if_icmp .ne 7, 3) := by decide +kernel
theorem dX2_sumOf_47 : decode cX2_sumOf 47 = .ok (.lload_n 2, 1) := by decide +kernel
theorem dX2_sumOf_48 : decode cX2_sumOf 48 = .ok (.goto 6, 3) := by decide +kernel
theorem dX2_sumOf_51 : decode cX2_sumOf 51 = .ok (.lload_n 2, 1) := by decide +kernel
theorem dX2_sumOf_52 : decode cX2_sumOf 52 = .ok (.l2i, 1) := by decide +kernel
theorem dX2_sumOf_53 : decode cX2_sumOf 53 = .ok (.i2l, 1) := by decide +kernel
theorem dX2_sumOf_54 : decode cX2_sumOf 54 = .ok (.lreturn, 1) := by decide +kernel
set_option maxRecDepth 20000 in
theorem ggX2_insideOf_X2_weighs : GoodIn wsX2_insideOf wsX2_weighs := goodIn_r _ [9, 10, 1, 4, 11, 12, 13, 14, 15, 16, 17, 18, 19, 20] (by decide +kernel) (by decide +kernel)
set_option maxRecDepth 20000 in
theorem gX2_insideOf_X2_weighs : GoodIn wsX2_insideOf (wsV RX2 72 RX2 yX2_weighs wsX2_weighs) := goodIn_app (goodIn_of _ (by decide +kernel)) ggX2_insideOf_X2_weighs
theorem dX2_insideOf_0 : decode cX2_insideOf 0 = .ok (.iconst 0, 1) := by decide +kernel
theorem dX2_insideOf_1 : decode cX2_insideOf 1 = .ok (.istore_n 3, 1) := by decide +kernel
theorem dX2_insideOf_2 : decode cX2_insideOf 2 = .ok (.iconst 0, 1) := by decide +kernel
theorem dX2_insideOf_3 : decode cX2_insideOf 3 = .ok (.istore 4, 2) := by decide +kernel
theorem dX2_insideOf_5 : decode cX2_insideOf 5 = .ok (.iload 4, 2) := by decide +kernel
theorem dX2_insideOf_7 : decode cX2_insideOf 7 = .ok (.aload_n 0, 1) := by decide +kernel
theorem dX2_insideOf_8 : decode cX2_insideOf 8 = .ok (.getfield 13, 3) := by decide +kernel
theorem dX2_insideOf_11 : decode cX2_insideOf 11 = .ok (.iload_n 1, 1) := by decide +kernel
theorem dX2_insideOf_12 : decode cX2_insideOf 12 = .ok (.iaload, 1) := by decide +kernel
theorem dX2_insideOf_13 : decode cX2_insideOf 13 = .ok (.if_icmp .ge 69, 3) := by decide +kernel
theorem dX2_insideOf_16 : decode cX2_insideOf 16 = .ok (.aload_n 0, 1) := by decide +kernel
theorem dX2_insideOf_17 : decode cX2_insideOf 17 = .ok (.getfield 20, 3) := by decide +kernel
theorem dX2_insideOf_20 : decode cX2_insideOf 20 = .ok (.bipush 8, 2) := by decide +kernel
theorem dX2_insideOf_22 : decode cX2_insideOf 22 = .ok (.iload_n 1, 1) := by decide +kernel
theorem dX2_insideOf_23 : decode cX2_insideOf 23 = .ok (.imul, 1) := by decide +kernel
theorem dX2_insideOf_24 : decode cX2_insideOf 24 = .ok (.iload 4, 2) := by decide +kernel
theorem dX2_insideOf_26 : decode cX2_insideOf 26 = .ok (.iadd, 1) := by decide +kernel
theorem dX2_insideOf_27 : decode cX2_insideOf 27 = .ok (.laload, 1) := by decide +kernel
theorem dX2_insideOf_28 : decode cX2_insideOf 28 = .ok (.l2i, 1) := by decide +kernel
theorem dX2_insideOf_29 : decode cX2_insideOf 29 = .ok (.istore 5, 2) := by decide +kernel
theorem dX2_insideOf_31 : decode cX2_insideOf 31 = .ok (.iload 5, 2) := by decide +kernel
theorem dX2_insideOf_33 : decode cX2_insideOf 33 = .ok (.iconst (-1), 1) := by decide +kernel
theorem dX2_insideOf_34 : decode cX2_insideOf 34 = .ok (.if_icmp .ne 11, 3) := by decide +kernel
theorem dX2_insideOf_37 : decode cX2_insideOf 37 = .ok (.aload_n 0, 1) := by decide +kernel
theorem dX2_insideOf_38 : decode cX2_insideOf 38 = .ok (.iconst 4, 1) := by decide +kernel
theorem dX2_insideOf_39 : decode cX2_insideOf 39 = .ok (.putfield 42, 3) := by decide +kernel
theorem dX2_insideOf_42 : decode cX2_insideOf 42 = .ok (.goto 34, 3) := by decide +kernel
theorem dX2_insideOf_45 : decode cX2_insideOf 45 = .ok (.iload_n 3, 1) := by decide +kernel
theorem dX2_insideOf_46 : decode cX2_insideOf 46 = .ok (.iload_n 2, 1) := by decide +kernel
theorem dX2_insideOf_47 : decode cX2_insideOf 47 = .ok (.ifCond .eq 21, 3) := by decide +kernel
theorem dX2_insideOf_50 : decode cX2_insideOf 50 = .ok (.aload_n 0, 1) := by decide +kernel
theorem dX2_insideOf_51 : decode cX2_insideOf 51 = .ok (.getfield 16, 3) := by decide +kernel
theorem dX2_insideOf_54 : decode cX2_insideOf 54 = .ok (.iload 5, 2) := by decide +kernel
theorem dX2_insideOf_56 : decode cX2_insideOf 56 = .ok (.baload, 1) := by decide +kernel
theorem dX2_insideOf_57 : decode cX2_insideOf 57 = .ok (.ifCond .eq 7, 3) := by decide +kernel
theorem dX2_insideOf_60 : decode cX2_insideOf 60 = .ok (.iconst 1, 1) := by decide +kernel
theorem dX2_insideOf_61 : decode cX2_insideOf 61 = .ok (.goto 13, 3) := by decide +kernel
theorem dX2_insideOf_64 : decode cX2_insideOf 64 = .ok (.iconst 0, 1) := by decide +kernel
theorem dX2_insideOf_65 : decode cX2_insideOf 65 = .ok (.goto 9, 3) := by decide +kernel
theorem dX2_insideOf_68 : decode cX2_insideOf 68 = .ok (.aload_n 0, 1) := by decide +kernel
theorem dX2_insideOf_69 : decode cX2_insideOf 69 = .ok (.iload 5, 2) := by decide +kernel
theorem dX2_insideOf_71 : decode cX2_insideOf 71 = .ok (.invokevirtual 72, 3) := by decide +kernel
theorem dX2_insideOf_74 : decode cX2_insideOf 74 = .ok (.iadd, 1) := by decide +kernel
theorem dX2_insideOf_75 : decode cX2_insideOf 75 = .ok (.istore_n 3, 1) := by decide +kernel
theorem dX2_insideOf_76 : decode cX2_insideOf 76 = .ok (.iinc 4 1, 3) := by decide +kernel
theorem dX2_insideOf_79 : decode cX2_insideOf 79 = .ok (.goto (-74), 3) := by decide +kernel
theorem dX2_insideOf_82 : decode cX2_insideOf 82 = .ok (.iload_n 3, 1) := by decide +kernel
theorem dX2_insideOf_83 : decode cX2_insideOf 83 = .ok (.ireturn, 1) := by decide +kernel
set_option maxRecDepth 20000 in
theorem ggX2_rowsOf_X2_sumOf : GoodIn wsX2_rowsOf wsX2_sumOf := goodIn_r _ [8, 1, 2, 9, 19, 20, 21, 22, 23, 24, 25, 26, 27, 28] (by decide +kernel) (by decide +kernel)
set_option maxRecDepth 20000 in
theorem gX2_rowsOf_X2_sumOf : GoodIn wsX2_rowsOf (wsV RX2 75 RX2 yX2_sumOf wsX2_sumOf) := goodIn_app (goodIn_of _ (by decide +kernel)) ggX2_rowsOf_X2_sumOf
set_option maxRecDepth 20000 in
theorem ggX2_rowsOf_X2_insideOf : GoodIn wsX2_rowsOf wsX2_insideOf := goodIn_r _ [13, 1, 2, 3, 14, 15, 16, 17, 7, 18, 9, 19, 20, 21, 22, 23, 24, 25, 26, 27, 28] (by decide +kernel) (by decide +kernel)
set_option maxRecDepth 20000 in
theorem gX2_rowsOf_X2_insideOf : GoodIn wsX2_rowsOf (wsV RX2 79 RX2 yX2_insideOf wsX2_insideOf) := goodIn_app (goodIn_of _ (by decide +kernel)) ggX2_rowsOf_X2_insideOf
theorem dX2_rowsOf_0 : decode cX2_rowsOf 0 = .ok (.iconst 0, 1) := by decide +kernel
theorem dX2_rowsOf_1 : decode cX2_rowsOf 1 = .ok (.istore_n 3, 1) := by decide +kernel
theorem dX2_rowsOf_2 : decode cX2_rowsOf 2 = .ok (.iconst 0, 1) := by decide +kernel
theorem dX2_rowsOf_3 : decode cX2_rowsOf 3 = .ok (.istore 4, 2) := by decide +kernel
theorem dX2_rowsOf_5 : decode cX2_rowsOf 5 = .ok (.iload 4, 2) := by decide +kernel
theorem dX2_rowsOf_7 : decode cX2_rowsOf 7 = .ok (.aload_n 0, 1) := by decide +kernel
theorem dX2_rowsOf_8 : decode cX2_rowsOf 8 = .ok (.getfield 13, 3) := by decide +kernel
theorem dX2_rowsOf_11 : decode cX2_rowsOf 11 = .ok (.iload_n 1, 1) := by decide +kernel
theorem dX2_rowsOf_12 : decode cX2_rowsOf 12 = .ok (.iaload, 1) := by decide +kernel
theorem dX2_rowsOf_13 : decode cX2_rowsOf 13 = .ok (.if_icmp .ge 73, 3) := by decide +kernel
theorem dX2_rowsOf_16 : decode cX2_rowsOf 16 = .ok (.aload_n 0, 1) := by decide +kernel
theorem dX2_rowsOf_17 : decode cX2_rowsOf 17 = .ok (.getfield 20, 3) := by decide +kernel
theorem dX2_rowsOf_20 : decode cX2_rowsOf 20 = .ok (.bipush 8, 2) := by decide +kernel
theorem dX2_rowsOf_22 : decode cX2_rowsOf 22 = .ok (.iload_n 1, 1) := by decide +kernel
theorem dX2_rowsOf_23 : decode cX2_rowsOf 23 = .ok (.imul, 1) := by decide +kernel
theorem dX2_rowsOf_24 : decode cX2_rowsOf 24 = .ok (.iload 4, 2) := by decide +kernel
theorem dX2_rowsOf_26 : decode cX2_rowsOf 26 = .ok (.iadd, 1) := by decide +kernel
theorem dX2_rowsOf_27 : decode cX2_rowsOf 27 = .ok (.laload, 1) := by decide +kernel
theorem dX2_rowsOf_28 : decode cX2_rowsOf 28 = .ok (.l2i, 1) := by decide +kernel
theorem dX2_rowsOf_29 : decode cX2_rowsOf 29 = .ok (.istore 5, 2) := by decide +kernel
theorem dX2_rowsOf_31 : decode cX2_rowsOf 31 = .ok (.iload 5, 2) := by decide +kernel
theorem dX2_rowsOf_33 : decode cX2_rowsOf 33 = .ok (.iconst (-1), 1) := by decide +kernel
theorem dX2_rowsOf_34 : decode cX2_rowsOf 34 = .ok (.if_icmp .ne 11, 3) := by decide +kernel
theorem dX2_rowsOf_37 : decode cX2_rowsOf 37 = .ok (.aload_n 0, 1) := by decide +kernel
theorem dX2_rowsOf_38 : decode cX2_rowsOf 38 = .ok (.iconst 4, 1) := by decide +kernel
theorem dX2_rowsOf_39 : decode cX2_rowsOf 39 = .ok (.putfield 42, 3) := by decide +kernel
theorem dX2_rowsOf_42 : decode cX2_rowsOf 42 = .ok (.goto 38, 3) := by decide +kernel
theorem dX2_rowsOf_45 : decode cX2_rowsOf 45 = .ok (.iload_n 3, 1) := by decide +kernel
theorem dX2_rowsOf_46 : decode cX2_rowsOf 46 = .ok (.iload_n 2, 1) := by decide +kernel
theorem dX2_rowsOf_47 : decode cX2_rowsOf 47 = .ok (.iconst 3, 1) := by decide +kernel
theorem dX2_rowsOf_48 : decode cX2_rowsOf 48 = .ok (.if_icmp .ne 13, 3) := by decide +kernel
theorem dX2_rowsOf_51 : decode cX2_rowsOf 51 = .ok (.aload_n 0, 1) := by decide +kernel
theorem dX2_rowsOf_52 : decode cX2_rowsOf 52 = .ok (.iload 5, 2) := by decide +kernel
theorem dX2_rowsOf_54 : decode cX2_rowsOf 54 = .ok (.invokevirtual 75, 3) := by decide +kernel
theorem dX2_rowsOf_57 : decode cX2_rowsOf 57 = .ok (.l2i, 1) := by decide +kernel
theorem dX2_rowsOf_58 : decode cX2_rowsOf 58 = .ok (.goto 20, 3) := by decide +kernel
theorem dX2_rowsOf_61 : decode cX2_rowsOf 61 = .ok (.aload_n 0, 1) := by decide +kernel
theorem dX2_rowsOf_62 : decode cX2_rowsOf 62 = .ok (.iload 5, 2) := by decide +kernel
theorem dX2_rowsOf_64 : decode cX2_rowsOf 64 = .ok (.iload_n 2, 1) := by decide +kernel
theorem dX2_rowsOf_65 : decode cX2_rowsOf 65 = .ok (.bipush 8, 2) := by decide +kernel
theorem dX2_rowsOf_67 : decode cX2_rowsOf 67 = .ok (.if_icmp .ne 7, 3) := by decide +kernel
theorem dX2_rowsOf_70 : decode cX2_rowsOf 70 = .ok (.iconst 1, 1) := by decide +kernel
theorem dX2_rowsOf_71 : decode cX2_rowsOf 71 = .ok (.goto 4, 3) := by decide +kernel
theorem dX2_rowsOf_74 : decode cX2_rowsOf 74 = .ok (.iconst 0, 1) := by decide +kernel
theorem dX2_rowsOf_75 : decode cX2_rowsOf 75 = .ok (.invokevirtual 79, 3) := by decide +kernel
theorem dX2_rowsOf_78 : decode cX2_rowsOf 78 = .ok (.iadd, 1) := by decide +kernel
theorem dX2_rowsOf_79 : decode cX2_rowsOf 79 = .ok (.istore_n 3, 1) := by decide +kernel
theorem dX2_rowsOf_80 : decode cX2_rowsOf 80 = .ok (.iinc 4 1, 3) := by decide +kernel
theorem dX2_rowsOf_83 : decode cX2_rowsOf 83 = .ok (.goto (-78), 3) := by decide +kernel
theorem dX2_rowsOf_86 : decode cX2_rowsOf 86 = .ok (.iload_n 3, 1) := by decide +kernel
theorem dX2_rowsOf_87 : decode cX2_rowsOf 87 = .ok (.ireturn, 1) := by decide +kernel
set_option maxRecDepth 20000 in
theorem ggX2_toldBy_X2_sumOf : GoodIn wsX2_toldBy wsX2_sumOf := goodIn_r _ [7, 1, 8, 9, 23, 24, 25, 26, 27, 28, 29, 30, 31, 32] (by decide +kernel) (by decide +kernel)
set_option maxRecDepth 20000 in
theorem gX2_toldBy_X2_sumOf : GoodIn wsX2_toldBy (wsV RX2 75 RX2 yX2_sumOf wsX2_sumOf) := goodIn_app (goodIn_of _ (by decide +kernel)) ggX2_toldBy_X2_sumOf
set_option maxRecDepth 20000 in
theorem ggX2_toldBy_X2_rowsOf : GoodIn wsX2_toldBy wsX2_rowsOf := goodIn_r _ [13, 1, 8, 14, 3, 4, 5, 6, 7, 9, 15, 16, 17, 18, 2, 19, 20, 21, 22, 23, 24, 25, 26, 27, 28, 29, 30, 31, 32] (by decide +kernel) (by decide +kernel)
set_option maxRecDepth 20000 in
theorem gX2_toldBy_X2_rowsOf : GoodIn wsX2_toldBy (wsV RX2 83 RX2 yX2_rowsOf wsX2_rowsOf) := goodIn_app (goodIn_of _ (by decide +kernel)) ggX2_toldBy_X2_rowsOf
set_option maxRecDepth 20000 in
theorem ggX2_toldBy_X2_insideOf : GoodIn wsX2_toldBy wsX2_insideOf := goodIn_r _ [18, 1, 8, 14, 2, 19, 20, 21, 6, 22, 9, 23, 24, 25, 26, 27, 28, 29, 30, 31, 32] (by decide +kernel) (by decide +kernel)
set_option maxRecDepth 20000 in
theorem gX2_toldBy_X2_insideOf : GoodIn wsX2_toldBy (wsV RX2 79 RX2 yX2_insideOf wsX2_insideOf) := goodIn_app (goodIn_of _ (by decide +kernel)) ggX2_toldBy_X2_insideOf
set_option maxRecDepth 20000 in
theorem ggX2_toldBy_X2_weighs : GoodIn wsX2_toldBy wsX2_weighs := goodIn_r _ [22, 9, 1, 2, 23, 24, 25, 26, 27, 28, 29, 30, 31, 32] (by decide +kernel) (by decide +kernel)
set_option maxRecDepth 20000 in
theorem gX2_toldBy_X2_weighs : GoodIn wsX2_toldBy (wsV RX2 72 RX2 yX2_weighs wsX2_weighs) := goodIn_app (goodIn_of _ (by decide +kernel)) ggX2_toldBy_X2_weighs
theorem dX2_toldBy_0 : decode cX2_toldBy 0 = .ok (.iload_n 2, 1) := by decide +kernel
theorem dX2_toldBy_1 : decode cX2_toldBy 1 = .ok (.tableswitch 116 0 11 #[63, 63, 63, 69, 77, 85, 77, 69, 69, 93, 101, 93], 63) := by decide +kernel
theorem dX2_toldBy_64 : decode cX2_toldBy 64 = .ok (.aload_n 0, 1) := by decide +kernel
theorem dX2_toldBy_65 : decode cX2_toldBy 65 = .ok (.iload_n 1, 1) := by decide +kernel
theorem dX2_toldBy_66 : decode cX2_toldBy 66 = .ok (.invokevirtual 75, 3) := by decide +kernel
theorem dX2_toldBy_69 : decode cX2_toldBy 69 = .ok (.lreturn, 1) := by decide +kernel
theorem dX2_toldBy_70 : decode cX2_toldBy 70 = .ok (.aload_n 0, 1) := by decide +kernel
theorem dX2_toldBy_71 : decode cX2_toldBy 71 = .ok (.iload_n 1, 1) := by decide +kernel
theorem dX2_toldBy_72 : decode cX2_toldBy 72 = .ok (.iload_n 2, 1) := by decide +kernel
theorem dX2_toldBy_73 : decode cX2_toldBy 73 = .ok (.invokevirtual 83, 3) := by decide +kernel
theorem dX2_toldBy_76 : decode cX2_toldBy 76 = .ok (.i2l, 1) := by decide +kernel
theorem dX2_toldBy_77 : decode cX2_toldBy 77 = .ok (.lreturn, 1) := by decide +kernel
theorem dX2_toldBy_78 : decode cX2_toldBy 78 = .ok (.aload_n 0, 1) := by decide +kernel
theorem dX2_toldBy_79 : decode cX2_toldBy 79 = .ok (.iload_n 1, 1) := by decide +kernel
theorem dX2_toldBy_80 : decode cX2_toldBy 80 = .ok (.iconst 0, 1) := by decide +kernel
theorem dX2_toldBy_81 : decode cX2_toldBy 81 = .ok (.invokevirtual 79, 3) := by decide +kernel
theorem dX2_toldBy_84 : decode cX2_toldBy 84 = .ok (.i2l, 1) := by decide +kernel
theorem dX2_toldBy_85 : decode cX2_toldBy 85 = .ok (.lreturn, 1) := by decide +kernel
theorem dX2_toldBy_86 : decode cX2_toldBy 86 = .ok (.aload_n 0, 1) := by decide +kernel
theorem dX2_toldBy_87 : decode cX2_toldBy 87 = .ok (.iload_n 1, 1) := by decide +kernel
theorem dX2_toldBy_88 : decode cX2_toldBy 88 = .ok (.iconst 1, 1) := by decide +kernel
theorem dX2_toldBy_89 : decode cX2_toldBy 89 = .ok (.invokevirtual 79, 3) := by decide +kernel
theorem dX2_toldBy_92 : decode cX2_toldBy 92 = .ok (.i2l, 1) := by decide +kernel
theorem dX2_toldBy_93 : decode cX2_toldBy 93 = .ok (.lreturn, 1) := by decide +kernel
theorem dX2_toldBy_94 : decode cX2_toldBy 94 = .ok (.aload_n 0, 1) := by decide +kernel
theorem dX2_toldBy_95 : decode cX2_toldBy 95 = .ok (.getfield 13, 3) := by decide +kernel
theorem dX2_toldBy_98 : decode cX2_toldBy 98 = .ok (.iload_n 1, 1) := by decide +kernel
theorem dX2_toldBy_99 : decode cX2_toldBy 99 = .ok (.iaload, 1) := by decide +kernel
theorem dX2_toldBy_100 : decode cX2_toldBy 100 = .ok (.i2l, 1) := by decide +kernel
theorem dX2_toldBy_101 : decode cX2_toldBy 101 = .ok (.lreturn, 1) := by decide +kernel
theorem dX2_toldBy_102 : decode cX2_toldBy 102 = .ok (.aload_n 0, 1) := by decide +kernel
theorem dX2_toldBy_103 : decode cX2_toldBy 103 = .ok (.getfield 16, 3) := by decide +kernel
theorem dX2_toldBy_106 : decode cX2_toldBy 106 = .ok (.iload_n 1, 1) := by decide +kernel
theorem dX2_toldBy_107 : decode cX2_toldBy 107 = .ok (.baload, 1) := by decide +kernel
theorem dX2_toldBy_108 : decode cX2_toldBy 108 = .ok (.ifCond .eq 7, 3) := by decide +kernel
theorem dX2_toldBy_111 : decode cX2_toldBy 111 = .ok (.lconst 1, 1) := by decide +kernel
theorem dX2_toldBy_112 : decode cX2_toldBy 112 = .ok (.goto 4, 3) := by decide +kernel
theorem dX2_toldBy_115 : decode cX2_toldBy 115 = .ok (.lconst 0, 1) := by decide +kernel
theorem dX2_toldBy_116 : decode cX2_toldBy 116 = .ok (.lreturn, 1) := by decide +kernel
theorem dX2_toldBy_117 : decode cX2_toldBy 117 = .ok (.aload_n 0, 1) := by decide +kernel
theorem dX2_toldBy_118 : decode cX2_toldBy 118 = .ok (.iload_n 1, 1) := by decide +kernel
theorem dX2_toldBy_119 : decode cX2_toldBy 119 = .ok (.invokevirtual 72, 3) := by decide +kernel
theorem dX2_toldBy_122 : decode cX2_toldBy 122 = .ok (.i2l, 1) := by decide +kernel
theorem dX2_toldBy_123 : decode cX2_toldBy 123 = .ok (.lreturn, 1) := by decide +kernel
set_option maxRecDepth 20000 in
theorem ggX2_pass_X2_isSlot : GoodIn wsX2_pass wsX2_isSlot := goodIn_r _ [6, 7, 8, 5, 9] (by decide +kernel) (by decide +kernel)
set_option maxRecDepth 20000 in
theorem gX2_pass_X2_isSlot : GoodIn wsX2_pass (va_wsS RX2 57 yX2_isSlot wsX2_isSlot) := goodIn_app (goodIn_of _ (by decide +kernel)) ggX2_pass_X2_isSlot
set_option maxRecDepth 20000 in
theorem ggX2_pass_X2_isIn : GoodIn wsX2_pass wsX2_isIn := goodIn_r _ [9] (by decide +kernel) (by decide +kernel)
set_option maxRecDepth 20000 in
theorem gX2_pass_X2_isIn : GoodIn wsX2_pass (va_wsS RX2 34 yX2_isIn wsX2_isIn) := goodIn_app (goodIn_of _ (by decide +kernel)) ggX2_pass_X2_isIn
set_option maxRecDepth 20000 in
theorem ggX2_pass_X2_fails : GoodIn wsX2_pass wsX2_fails := goodIn_r _ [13, 1, 56, 57, 58, 59, 60, 61, 62, 63, 64, 65] (by decide +kernel) (by decide +kernel)
set_option maxRecDepth 20000 in
theorem gX2_pass_X2_fails : GoodIn wsX2_pass (wsV RX2 52 RX2 yX2_fails wsX2_fails) := goodIn_app (goodIn_of _ (by decide +kernel)) ggX2_pass_X2_fails
set_option maxRecDepth 20000 in
theorem ggX2_pass_X2_fitsAt : GoodIn wsX2_pass wsX2_fitsAt := goodIn_r _ [17, 2, 18, 19, 20, 5, 21, 56, 57, 58, 59, 60, 61, 62, 63, 64, 65] (by decide +kernel) (by decide +kernel)
set_option maxRecDepth 20000 in
theorem gX2_pass_X2_fitsAt : GoodIn wsX2_pass (wsV RX2 69 RX2 yX2_fitsAt wsX2_fitsAt) := goodIn_app (goodIn_of _ (by decide +kernel)) ggX2_pass_X2_fitsAt
set_option maxRecDepth 20000 in
theorem ggX2_pass_X2_turns : GoodIn wsX2_pass wsX2_turns := goodIn_r _ [25, 26, 27, 28, 5, 29, 30, 31, 32, 10, 11, 12, 13, 1, 56, 57, 58, 59, 60, 61, 62, 63, 64, 65] (by decide +kernel) (by decide +kernel)
set_option maxRecDepth 20000 in
theorem gX2_pass_X2_turns : GoodIn wsX2_pass (wsV RX2 87 RX2 yX2_turns wsX2_turns) := goodIn_app (goodIn_of _ (by decide +kernel)) ggX2_pass_X2_turns
set_option maxRecDepth 20000 in
theorem ggX2_pass_X2_toldBy : GoodIn wsX2_pass wsX2_toldBy := goodIn_r _ [36, 37, 38, 39, 40, 41, 5, 42, 43, 18, 44, 45, 46, 47, 1, 48, 49, 50, 51, 52, 53, 54, 55, 56, 57, 58, 59, 60, 61, 62, 63, 64, 65] (by decide +kernel) (by decide +kernel)
set_option maxRecDepth 20000 in
theorem gX2_pass_X2_toldBy : GoodIn wsX2_pass (wsV RX2 90 RX2 yX2_toldBy wsX2_toldBy) := goodIn_app (goodIn_of _ (by decide +kernel)) ggX2_pass_X2_toldBy
theorem dX2_pass_0 : decode cX2_pass 0 = .ok (.aload_n 0, 1) := by decide +kernel
theorem dX2_pass_1 : decode cX2_pass 1 = .ok (.iconst 0, 1) := by decide +kernel
theorem dX2_pass_2 : decode cX2_pass 2 = .ok (.putfield 42, 3) := by decide +kernel
theorem dX2_pass_5 : decode cX2_pass 5 = .ok (.iload_n 1, 1) := by decide +kernel
theorem dX2_pass_6 : decode cX2_pass 6 = .ok (.invokestatic 57, 3) := by decide +kernel
theorem dX2_pass_9 : decode cX2_pass 9 = .ok (.ifCond .eq 13, 3) := by decide +kernel
theorem dX2_pass_12 : decode cX2_pass 12 = .ok (.iload_n 2, 1) := by decide +kernel
theorem dX2_pass_13 : decode cX2_pass 13 = .ok (.iconst 0, 1) := by decide +kernel
theorem dX2_pass_14 : decode cX2_pass 14 = .ok (.bipush 12, 2) := by decide +kernel
theorem dX2_pass_16 : decode cX2_pass 16 = .ok (.invokestatic 34, 3) := by decide +kernel
theorem dX2_pass_19 : decode cX2_pass 19 = .ok (.ifCond .ne 11, 3) := by decide +kernel
theorem dX2_pass_22 : decode cX2_pass 22 = .ok (.aload_n 0, 1) := by decide +kernel
theorem dX2_pass_23 : decode cX2_pass 23 = .ok (.bipush (-2), 2) := by decide +kernel
theorem dX2_pass_25 : decode cX2_pass 25 = .ok (.invokevirtual 52, 3) := by decide +kernel
theorem dX2_pass_28 : decode cX2_pass 28 = .ok (.i2l, 1) := by decide +kernel
theorem dX2_pass_29 : decode cX2_pass 29 = .ok (.lreturn, 1) := by decide +kernel
theorem dX2_pass_30 : decode cX2_pass 30 = .ok (.aload_n 0, 1) := by decide +kernel
theorem dX2_pass_31 : decode cX2_pass 31 = .ok (.getfield 24, 3) := by decide +kernel
theorem dX2_pass_34 : decode cX2_pass 34 = .ok (.iload_n 1, 1) := by decide +kernel
theorem dX2_pass_35 : decode cX2_pass 35 = .ok (.iaload, 1) := by decide +kernel
theorem dX2_pass_36 : decode cX2_pass 36 = .ok (.iconst (-1), 1) := by decide +kernel
theorem dX2_pass_37 : decode cX2_pass 37 = .ok (.if_icmp .ne 10, 3) := by decide +kernel
theorem dX2_pass_40 : decode cX2_pass 40 = .ok (.aload_n 0, 1) := by decide +kernel
theorem dX2_pass_41 : decode cX2_pass 41 = .ok (.iconst 2, 1) := by decide +kernel
theorem dX2_pass_42 : decode cX2_pass 42 = .ok (.invokevirtual 52, 3) := by decide +kernel
theorem dX2_pass_45 : decode cX2_pass 45 = .ok (.i2l, 1) := by decide +kernel
theorem dX2_pass_46 : decode cX2_pass 46 = .ok (.lreturn, 1) := by decide +kernel
theorem dX2_pass_47 : decode cX2_pass 47 = .ok (.aload_n 0, 1) := by decide +kernel
theorem dX2_pass_48 : decode cX2_pass 48 = .ok (.iload_n 1, 1) := by decide +kernel
theorem dX2_pass_49 : decode cX2_pass 49 = .ok (.iload_n 2, 1) := by decide +kernel
theorem dX2_pass_50 : decode cX2_pass 50 = .ok (.invokevirtual 69, 3) := by decide +kernel
theorem dX2_pass_53 : decode cX2_pass 53 = .ok (.ifCond .ne 11, 3) := by decide +kernel
theorem dX2_pass_56 : decode cX2_pass 56 = .ok (.aload_n 0, 1) := by decide +kernel
theorem dX2_pass_57 : decode cX2_pass 57 = .ok (.iload_n 1, 1) := by decide +kernel
theorem dX2_pass_58 : decode cX2_pass 58 = .ok (.iload_n 2, 1) := by decide +kernel
theorem dX2_pass_59 : decode cX2_pass 59 = .ok (.invokevirtual 87, 3) := by decide +kernel
theorem dX2_pass_62 : decode cX2_pass 62 = .ok (.i2l, 1) := by decide +kernel
theorem dX2_pass_63 : decode cX2_pass 63 = .ok (.lreturn, 1) := by decide +kernel
theorem dX2_pass_64 : decode cX2_pass 64 = .ok (.aload_n 0, 1) := by decide +kernel
theorem dX2_pass_65 : decode cX2_pass 65 = .ok (.aload_n 0, 1) := by decide +kernel
theorem dX2_pass_66 : decode cX2_pass 66 = .ok (.getfield 24, 3) := by decide +kernel
theorem dX2_pass_69 : decode cX2_pass 69 = .ok (.iload_n 1, 1) := by decide +kernel
theorem dX2_pass_70 : decode cX2_pass 70 = .ok (.iaload, 1) := by decide +kernel
theorem dX2_pass_71 : decode cX2_pass 71 = .ok (.iload_n 2, 1) := by decide +kernel
theorem dX2_pass_72 : decode cX2_pass 72 = .ok (.invokevirtual 90, 3) := by decide +kernel
theorem dX2_pass_75 : decode cX2_pass 75 = .ok (.lstore_n 3, 1) := by decide +kernel
theorem dX2_pass_76 : decode cX2_pass 76 = .ok (.aload_n 0, 1) := by decide +kernel
theorem dX2_pass_77 : decode cX2_pass 77 = .ok (.getfield 42, 3) := by decide +kernel
theorem dX2_pass_80 : decode cX2_pass 80 = .ok (.ifCond .ne 7, 3) := by decide +kernel
theorem dX2_pass_83 : decode cX2_pass 83 = .ok (.lload_n 3, 1) := by decide +kernel
theorem dX2_pass_84 : decode cX2_pass 84 = .ok (.goto 4, 3) := by decide +kernel
theorem dX2_pass_87 : decode cX2_pass 87 = .ok (.lconst 0, 1) := by decide +kernel
theorem dX2_pass_88 : decode cX2_pass 88 = .ok (.lreturn, 1) := by decide +kernel
set_option maxRecDepth 20000 in
theorem ggX2_seek_X2_isSlot : GoodIn wsX2_seek wsX2_isSlot := goodIn_r _ [5, 6, 7, 4, 8] (by decide +kernel) (by decide +kernel)
set_option maxRecDepth 20000 in
theorem gX2_seek_X2_isSlot : GoodIn wsX2_seek (va_wsS RX2 57 yX2_isSlot wsX2_isSlot) := goodIn_app (goodIn_of _ (by decide +kernel)) ggX2_seek_X2_isSlot
set_option maxRecDepth 20000 in
theorem ggX2_seek_X2_isIn : GoodIn wsX2_seek wsX2_isIn := goodIn_r _ [8] (by decide +kernel) (by decide +kernel)
set_option maxRecDepth 20000 in
theorem gX2_seek_X2_isIn : GoodIn wsX2_seek (va_wsS RX2 34 yX2_isIn wsX2_isIn) := goodIn_app (goodIn_of _ (by decide +kernel)) ggX2_seek_X2_isIn
set_option maxRecDepth 20000 in
theorem ggX2_seek_X2_bad : GoodIn wsX2_seek wsX2_bad := goodIn_r _ [12, 1, 29, 30, 31, 32, 33, 34, 35, 36, 37, 38] (by decide +kernel) (by decide +kernel)
set_option maxRecDepth 20000 in
theorem gX2_seek_X2_bad : GoodIn wsX2_seek (wsV RX2 94 RX2 yX2_bad wsX2_bad) := goodIn_app (goodIn_of _ (by decide +kernel)) ggX2_seek_X2_bad
set_option maxRecDepth 20000 in
theorem ggX2_seek_X2_fitsAt : GoodIn wsX2_seek wsX2_fitsAt := goodIn_r _ [16, 17, 18, 19, 20, 4, 21, 29, 30, 31, 32, 33, 34, 35, 36, 37, 38] (by decide +kernel) (by decide +kernel)
set_option maxRecDepth 20000 in
theorem gX2_seek_X2_fitsAt : GoodIn wsX2_seek (wsV RX2 69 RX2 yX2_fitsAt wsX2_fitsAt) := goodIn_app (goodIn_of _ (by decide +kernel)) ggX2_seek_X2_fitsAt
set_option maxRecDepth 20000 in
theorem ggX2_seek_X2_turn : GoodIn wsX2_seek wsX2_turn := goodIn_r _ [25, 26, 27, 28, 29, 30, 31, 32, 33, 34, 35, 36, 37, 38] (by decide +kernel) (by decide +kernel)
set_option maxRecDepth 20000 in
theorem gX2_seek_X2_turn : GoodIn wsX2_seek (wsV RX2 48 RX2 yX2_turn wsX2_turn) := goodIn_app (goodIn_of _ (by decide +kernel)) ggX2_seek_X2_turn
theorem dX2_seek_0 : decode cX2_seek 0 = .ok (.iload_n 1, 1) := by decide +kernel
theorem dX2_seek_1 : decode cX2_seek 1 = .ok (.invokestatic 57, 3) := by decide +kernel
theorem dX2_seek_4 : decode cX2_seek 4 = .ok (.ifCond .eq 23, 3) := by decide +kernel
theorem dX2_seek_7 : decode cX2_seek 7 = .ok (.iload_n 2, 1) := by decide +kernel
theorem dX2_seek_8 : decode cX2_seek 8 = .ok (.iconst 0, 1) := by decide +kernel
theorem dX2_seek_9 : decode cX2_seek 9 = .ok (.bipush 12, 2) := by decide +kernel
theorem dX2_seek_11 : decode cX2_seek 11 = .ok (.invokestatic 34, 3) := by decide +kernel
theorem dX2_seek_14 : decode cX2_seek 14 = .ok (.ifCond .eq 13, 3) := by decide +kernel
theorem dX2_seek_17 : decode cX2_seek 17 = .ok (.iload_n 3, 1) := by decide +kernel
theorem dX2_seek_18 : decode cX2_seek 18 = .ok (.iload_n 2, 1) := by decide +kernel
theorem dX2_seek_19 : decode cX2_seek 19 = .ok (.bipush 12, 2) := by decide +kernel
theorem dX2_seek_21 : decode cX2_seek 21 = .ok (.invokestatic 34, 3) := by decide +kernel
theorem dX2_seek_24 : decode cX2_seek 24 = .ok (.ifCond .ne 8, 3) := by decide +kernel
theorem dX2_seek_27 : decode cX2_seek 27 = .ok (.aload_n 0, 1) := by decide +kernel
theorem dX2_seek_28 : decode cX2_seek 28 = .ok (.invokevirtual 94, 3) := by decide +kernel
theorem dX2_seek_31 : decode cX2_seek 31 = .ok (.ireturn, 1) := by decide +kernel
theorem dX2_seek_32 : decode cX2_seek 32 = .ok (.aload_n 0, 1) := by decide +kernel
theorem dX2_seek_33 : decode cX2_seek 33 = .ok (.iconst 0, 1) := by decide +kernel
theorem dX2_seek_34 : decode cX2_seek 34 = .ok (.putfield 42, 3) := by decide +kernel
theorem dX2_seek_37 : decode cX2_seek 37 = .ok (.iload_n 2, 1) := by decide +kernel
theorem dX2_seek_38 : decode cX2_seek 38 = .ok (.istore 4, 2) := by decide +kernel
theorem dX2_seek_40 : decode cX2_seek 40 = .ok (.iload 4, 2) := by decide +kernel
theorem dX2_seek_42 : decode cX2_seek 42 = .ok (.iload_n 3, 1) := by decide +kernel
theorem dX2_seek_43 : decode cX2_seek 43 = .ok (.if_icmp .gt 29, 3) := by decide +kernel
theorem dX2_seek_46 : decode cX2_seek 46 = .ok (.aload_n 0, 1) := by decide +kernel
theorem dX2_seek_47 : decode cX2_seek 47 = .ok (.iload_n 1, 1) := by decide +kernel
theorem dX2_seek_48 : decode cX2_seek 48 = .ok (.iload 4, 2) := by decide +kernel
theorem dX2_seek_50 : decode cX2_seek 50 = .ok (.invokevirtual 69, 3) := by decide +kernel
theorem dX2_seek_53 : decode cX2_seek 53 = .ok (.ifCond .eq 6, 3) := by decide +kernel
theorem dX2_seek_56 : decode cX2_seek 56 = .ok (.iload 4, 2) := by decide +kernel
theorem dX2_seek_58 : decode cX2_seek 58 = .ok (.ireturn, 1) := by decide +kernel
theorem dX2_seek_59 : decode cX2_seek 59 = .ok (.aload_n 0, 1) := by decide +kernel
theorem dX2_seek_60 : decode cX2_seek 60 = .ok (.iload_n 1, 1) := by decide +kernel
theorem dX2_seek_61 : decode cX2_seek 61 = .ok (.iload 4, 2) := by decide +kernel
theorem dX2_seek_63 : decode cX2_seek 63 = .ok (.invokevirtual 48, 3) := by decide +kernel
theorem dX2_seek_66 : decode cX2_seek 66 = .ok (.iinc 4 1, 3) := by decide +kernel
theorem dX2_seek_69 : decode cX2_seek 69 = .ok (.goto (-29), 3) := by decide +kernel
theorem dX2_seek_72 : decode cX2_seek 72 = .ok (.iconst (-1), 1) := by decide +kernel
theorem dX2_seek_73 : decode cX2_seek 73 = .ok (.ireturn, 1) := by decide +kernel
set_option maxRecDepth 20000 in
theorem ggX2_isNumberAt_X2_fails : GoodIn wsX2_isNumberAt wsX2_fails := goodIn_r _ [9, 4, 24, 25, 26, 27, 28, 29, 30, 31, 32, 33] (by decide +kernel) (by decide +kernel)
set_option maxRecDepth 20000 in
theorem gX2_isNumberAt_X2_fails : GoodIn wsX2_isNumberAt (wsV RX2 52 RX2 yX2_fails wsX2_fails) := goodIn_app (goodIn_of _ (by decide +kernel)) ggX2_isNumberAt_X2_fails
set_option maxRecDepth 20000 in
theorem ggX2_isNumberAt_X2_turns : GoodIn wsX2_isNumberAt wsX2_turns := goodIn_r _ [13, 14, 15, 16, 8, 17, 18, 19, 20, 5, 6, 7, 9, 4, 24, 25, 26, 27, 28, 29, 30, 31, 32, 33] (by decide +kernel) (by decide +kernel)
set_option maxRecDepth 20000 in
theorem gX2_isNumberAt_X2_turns : GoodIn wsX2_isNumberAt (wsV RX2 87 RX2 yX2_turns wsX2_turns) := goodIn_app (goodIn_of _ (by decide +kernel)) ggX2_isNumberAt_X2_turns
set_option maxRecDepth 20000 in
theorem ggX2_isNumberAt_X2_isIn : GoodIn wsX2_isNumberAt wsX2_isIn := goodIn_r _ [23] (by decide +kernel) (by decide +kernel)
set_option maxRecDepth 20000 in
theorem gX2_isNumberAt_X2_isIn : GoodIn wsX2_isNumberAt (va_wsS RX2 34 yX2_isIn wsX2_isIn) := goodIn_app (goodIn_of _ (by decide +kernel)) ggX2_isNumberAt_X2_isIn
theorem dX2_isNumberAt_0 : decode cX2_isNumberAt 0 = .ok (.aload_n 0, 1) := by decide +kernel
theorem dX2_isNumberAt_1 : decode cX2_isNumberAt 1 = .ok (.getfield 24, 3) := by decide +kernel
theorem dX2_isNumberAt_4 : decode cX2_isNumberAt 4 = .ok (.iload_n 1, 1) := by decide +kernel
theorem dX2_isNumberAt_5 : decode cX2_isNumberAt 5 = .ok (.iaload, 1) := by decide +kernel
theorem dX2_isNumberAt_6 : decode cX2_isNumberAt 6 = .ok (.istore_n 3, 1) := by decide +kernel
theorem dX2_isNumberAt_7 : decode cX2_isNumberAt 7 = .ok (.iload_n 3, 1) := by decide +kernel
theorem dX2_isNumberAt_8 : decode cX2_isNumberAt 8 = .ok (.iconst (-1), 1) := by decide +kernel
theorem dX2_isNumberAt_9 : decode cX2_isNumberAt 9 = .ok (.if_icmp .ne 12, 3) := by decide +kernel
theorem dX2_isNumberAt_12 : decode cX2_isNumberAt 12 = .ok (.aload_n 0, 1) := by decide +kernel
theorem dX2_isNumberAt_13 : decode cX2_isNumberAt 13 = .ok (.iconst 2, 1) := by decide +kernel
theorem dX2_isNumberAt_14 : decode cX2_isNumberAt 14 = .ok (.invokevirtual 52, 3) := by decide +kernel
theorem dX2_isNumberAt_17 : decode cX2_isNumberAt 17 = .ok (.pop, 1) := by decide +kernel
theorem dX2_isNumberAt_18 : decode cX2_isNumberAt 18 = .ok (.goto 45, 3) := by decide +kernel
theorem dX2_isNumberAt_21 : decode cX2_isNumberAt 21 = .ok (.aload_n 0, 1) := by decide +kernel
theorem dX2_isNumberAt_22 : decode cX2_isNumberAt 22 = .ok (.getfield 7, 3) := by decide +kernel
theorem dX2_isNumberAt_25 : decode cX2_isNumberAt 25 = .ok (.iload_n 3, 1) := by decide +kernel
theorem dX2_isNumberAt_26 : decode cX2_isNumberAt 26 = .ok (.iaload, 1) := by decide +kernel
theorem dX2_isNumberAt_27 : decode cX2_isNumberAt 27 = .ok (.iconst 2, 1) := by decide +kernel
theorem dX2_isNumberAt_28 : decode cX2_isNumberAt 28 = .ok (.if_icmp .le 13, 3) := by decide +kernel
theorem dX2_isNumberAt_31 : decode cX2_isNumberAt 31 = .ok (.aload_n 0, 1) := by decide +kernel
theorem dX2_isNumberAt_32 : decode cX2_isNumberAt 32 = .ok (.iload_n 1, 1) := by decide +kernel
theorem dX2_isNumberAt_33 : decode cX2_isNumberAt 33 = .ok (.iconst 2, 1) := by decide +kernel
theorem dX2_isNumberAt_34 : decode cX2_isNumberAt 34 = .ok (.invokevirtual 87, 3) := by decide +kernel
theorem dX2_isNumberAt_37 : decode cX2_isNumberAt 37 = .ok (.pop, 1) := by decide +kernel
theorem dX2_isNumberAt_38 : decode cX2_isNumberAt 38 = .ok (.goto 25, 3) := by decide +kernel
theorem dX2_isNumberAt_41 : decode cX2_isNumberAt 41 = .ok (.iload_n 2, 1) := by decide +kernel
theorem dX2_isNumberAt_42 : decode cX2_isNumberAt 42 = .ok (.iconst 0, 1) := by decide +kernel
theorem dX2_isNumberAt_43 : decode cX2_isNumberAt 43 = .ok (.aload_n 0, 1) := by decide +kernel
theorem dX2_isNumberAt_44 : decode cX2_isNumberAt 44 = .ok (.getfield 13, 3) := by decide +kernel
theorem dX2_isNumberAt_47 : decode cX2_isNumberAt 47 = .ok (.iload_n 3, 1) := by decide +kernel
theorem dX2_isNumberAt_48 : decode cX2_isNumberAt 48 = .ok (.iaload, 1) := by decide +kernel
theorem dX2_isNumberAt_49 : decode cX2_isNumberAt 49 = .ok (.iconst 1, 1) := by decide +kernel
theorem dX2_isNumberAt_50 : decode cX2_isNumberAt 50 = .ok (.isub, 1) := by decide +kernel
theorem dX2_isNumberAt_51 : decode cX2_isNumberAt 51 = .ok (.invokestatic 34, 3) := by decide +kernel
theorem dX2_isNumberAt_54 : decode cX2_isNumberAt 54 = .ok (.ifCond .ne 9, 3) := by decide +kernel
theorem dX2_isNumberAt_57 : decode cX2_isNumberAt 57 = .ok (.aload_n 0, 1) := by decide +kernel
theorem dX2_isNumberAt_58 : decode cX2_isNumberAt 58 = .ok (.iconst 3, 1) := by decide +kernel
theorem dX2_isNumberAt_59 : decode cX2_isNumberAt 59 = .ok (.invokevirtual 52, 3) := by decide +kernel
theorem dX2_isNumberAt_62 : decode cX2_isNumberAt 62 = .ok (.pop, 1) := by decide +kernel
theorem dX2_isNumberAt_63 : decode cX2_isNumberAt 63 = .ok (.aload_n 0, 1) := by decide +kernel
theorem dX2_isNumberAt_64 : decode cX2_isNumberAt 64 = .ok (.getfield 42, 3) := by decide +kernel
theorem dX2_isNumberAt_67 : decode cX2_isNumberAt 67 = .ok (.ifCond .ne 7, 3) := by decide +kernel
theorem dX2_isNumberAt_70 : decode cX2_isNumberAt 70 = .ok (.iconst 1, 1) := by decide +kernel
theorem dX2_isNumberAt_71 : decode cX2_isNumberAt 71 = .ok (.goto 4, 3) := by decide +kernel
theorem dX2_isNumberAt_74 : decode cX2_isNumberAt 74 = .ok (.iconst 0, 1) := by decide +kernel
theorem dX2_isNumberAt_75 : decode cX2_isNumberAt 75 = .ok (.ireturn, 1) := by decide +kernel
set_option maxRecDepth 20000 in
theorem ggX2_put_X2_isSlot : GoodIn wsX2_put wsX2_isSlot := goodIn_r _ [8, 9, 10, 7, 11] (by decide +kernel) (by decide +kernel)
set_option maxRecDepth 20000 in
theorem gX2_put_X2_isSlot : GoodIn wsX2_put (va_wsS RX2 57 yX2_isSlot wsX2_isSlot) := goodIn_app (goodIn_of _ (by decide +kernel)) ggX2_put_X2_isSlot
set_option maxRecDepth 20000 in
theorem ggX2_put_X2_isNumberAt : GoodIn wsX2_put wsX2_isNumberAt := goodIn_r _ [15, 3, 2, 16, 1, 17, 18, 19, 7, 20, 21, 22, 23, 24, 25, 26, 27, 28, 29, 30, 31, 9, 10, 11, 32, 33, 34, 35, 36, 37, 38, 39, 40, 41] (by decide +kernel) (by decide +kernel)
set_option maxRecDepth 20000 in
theorem gX2_put_X2_isNumberAt : GoodIn wsX2_put (wsV RX2 98 RX2 yX2_isNumberAt wsX2_isNumberAt) := goodIn_app (goodIn_of _ (by decide +kernel)) ggX2_put_X2_isNumberAt
theorem dX2_put_0 : decode cX2_put 0 = .ok (.aload_n 0, 1) := by decide +kernel
theorem dX2_put_1 : decode cX2_put 1 = .ok (.iconst 0, 1) := by decide +kernel
theorem dX2_put_2 : decode cX2_put 2 = .ok (.putfield 42, 3) := by decide +kernel
theorem dX2_put_5 : decode cX2_put 5 = .ok (.iload_n 1, 1) := by decide +kernel
theorem dX2_put_6 : decode cX2_put 6 = .ok (.invokestatic 57, 3) := by decide +kernel
theorem dX2_put_9 : decode cX2_put 9 = .ok (.ifCond .ne 6, 3) := by decide +kernel
theorem dX2_put_12 : decode cX2_put 12 = .ok (.bipush (-2), 2) := by decide +kernel
theorem dX2_put_14 : decode cX2_put 14 = .ok (.ireturn, 1) := by decide +kernel
theorem dX2_put_15 : decode cX2_put 15 = .ok (.aload_n 0, 1) := by decide +kernel
theorem dX2_put_16 : decode cX2_put 16 = .ok (.iload_n 1, 1) := by decide +kernel
theorem dX2_put_17 : decode cX2_put 17 = .ok (.iload_n 2, 1) := by decide +kernel
theorem dX2_put_18 : decode cX2_put 18 = .ok (.invokevirtual 98, 3) := by decide +kernel
theorem dX2_put_21 : decode cX2_put 21 = .ok (.ifCond .ne 5, 3) := by decide +kernel
theorem dX2_put_24 : decode cX2_put 24 = .ok (.iconst 0, 1) := by decide +kernel
theorem dX2_put_25 : decode cX2_put 25 = .ok (.ireturn, 1) := by decide +kernel
theorem dX2_put_26 : decode cX2_put 26 = .ok (.aload_n 0, 1) := by decide +kernel
theorem dX2_put_27 : decode cX2_put 27 = .ok (.getfield 7, 3) := by decide +kernel
theorem dX2_put_30 : decode cX2_put 30 = .ok (.aload_n 0, 1) := by decide +kernel
theorem dX2_put_31 : decode cX2_put 31 = .ok (.getfield 24, 3) := by decide +kernel
theorem dX2_put_34 : decode cX2_put 34 = .ok (.iload_n 1, 1) := by decide +kernel
theorem dX2_put_35 : decode cX2_put 35 = .ok (.iaload, 1) := by decide +kernel
theorem dX2_put_36 : decode cX2_put 36 = .ok (.iaload, 1) := by decide +kernel
theorem dX2_put_37 : decode cX2_put 37 = .ok (.istore 5, 2) := by decide +kernel
theorem dX2_put_39 : decode cX2_put 39 = .ok (.aload_n 0, 1) := by decide +kernel
theorem dX2_put_40 : decode cX2_put 40 = .ok (.getfield 20, 3) := by decide +kernel
theorem dX2_put_43 : decode cX2_put 43 = .ok (.bipush 8, 2) := by decide +kernel
theorem dX2_put_45 : decode cX2_put 45 = .ok (.aload_n 0, 1) := by decide +kernel
theorem dX2_put_46 : decode cX2_put 46 = .ok (.getfield 24, 3) := by decide +kernel
theorem dX2_put_49 : decode cX2_put 49 = .ok (.iload_n 1, 1) := by decide +kernel
theorem dX2_put_50 : decode cX2_put 50 = .ok (.iaload, 1) := by decide +kernel
theorem dX2_put_51 : decode cX2_put 51 = .ok (.imul, 1) := by decide +kernel
theorem dX2_put_52 : decode cX2_put 52 = .ok (.iload_n 2, 1) := by decide +kernel
theorem dX2_put_53 : decode cX2_put 53 = .ok (.iadd, 1) := by decide +kernel
theorem dX2_put_54 : decode cX2_put 54 = .ok (.iload 5, 2) := by decide +kernel
theorem dX2_put_56 : decode cX2_put 56 = .ok (.ifCond .ne 9, 3) := by decide +kernel
theorem dX2_put_59 : decode cX2_put 59 = .ok (.lload_n 3, 1) := by decide +kernel
theorem dX2_put_60 : decode cX2_put 60 = .ok (.l2i, 1) := by decide +kernel
theorem dX2_put_61 : decode cX2_put 61 = .ok (.i2l, 1) := by decide +kernel
theorem dX2_put_62 : decode cX2_put 62 = .ok (.goto 17, 3) := by decide +kernel
theorem dX2_put_65 : decode cX2_put 65 = .ok (.iload 5, 2) := by decide +kernel
theorem dX2_put_67 : decode cX2_put 67 = .ok (.iconst 1, 1) := by decide +kernel
theorem dX2_put_68 : decode cX2_put 68 = .ok (.if_icmp .ne 10, 3) := by decide +kernel
theorem dX2_put_71 : decode cX2_put 71 = .ok (.lload_n 3, 1) := by decide +kernel
theorem dX2_put_72 : decode cX2_put 72 = .ok (.l2i, 1) := by decide +kernel
theorem dX2_put_73 : decode cX2_put 73 = .ok (.i2b, 1) := by decide +kernel
theorem dX2_put_74 : decode cX2_put 74 = .ok (.i2l, 1) := by decide +kernel
theorem dX2_put_75 : decode cX2_put 75 = .ok (.goto 4, 3) := by decide +kernel
theorem dX2_put_78 : decode cX2_put 78 = .ok (.lload_n 3, 1) := by decide +kernel
theorem dX2_put_79 : decode cX2_put 79 = .ok (.lastore, 1) := by decide +kernel
theorem dX2_put_80 : decode cX2_put 80 = .ok (.iconst 1, 1) := by decide +kernel
theorem dX2_put_81 : decode cX2_put 81 = .ok (.ireturn, 1) := by decide +kernel
set_option maxRecDepth 20000 in
theorem ggX2_get_X2_isSlot : GoodIn wsX2_get wsX2_isSlot := goodIn_r _ [7, 8, 9, 6, 10] (by decide +kernel) (by decide +kernel)
set_option maxRecDepth 20000 in
theorem gX2_get_X2_isSlot : GoodIn wsX2_get (va_wsS RX2 57 yX2_isSlot wsX2_isSlot) := goodIn_app (goodIn_of _ (by decide +kernel)) ggX2_get_X2_isSlot
set_option maxRecDepth 20000 in
theorem ggX2_get_X2_fails : GoodIn wsX2_get wsX2_fails := goodIn_r _ [14, 1, 32, 33, 34, 35, 36, 37, 38, 39, 40, 41] (by decide +kernel) (by decide +kernel)
set_option maxRecDepth 20000 in
theorem gX2_get_X2_fails : GoodIn wsX2_get (wsV RX2 52 RX2 yX2_fails wsX2_fails) := goodIn_app (goodIn_of _ (by decide +kernel)) ggX2_get_X2_fails
set_option maxRecDepth 20000 in
theorem ggX2_get_X2_isNumberAt : GoodIn wsX2_get wsX2_isNumberAt := goodIn_r _ [18, 3, 19, 20, 1, 11, 12, 13, 6, 14, 21, 22, 23, 24, 25, 26, 27, 28, 29, 30, 31, 8, 9, 10, 32, 33, 34, 35, 36, 37, 38, 39, 40, 41] (by decide +kernel) (by decide +kernel)
set_option maxRecDepth 20000 in
theorem gX2_get_X2_isNumberAt : GoodIn wsX2_get (wsV RX2 98 RX2 yX2_isNumberAt wsX2_isNumberAt) := goodIn_app (goodIn_of _ (by decide +kernel)) ggX2_get_X2_isNumberAt
theorem dX2_get_0 : decode cX2_get 0 = .ok (.aload_n 0, 1) := by decide +kernel
theorem dX2_get_1 : decode cX2_get 1 = .ok (.iconst 0, 1) := by decide +kernel
theorem dX2_get_2 : decode cX2_get 2 = .ok (.putfield 42, 3) := by decide +kernel
theorem dX2_get_5 : decode cX2_get 5 = .ok (.iload_n 1, 1) := by decide +kernel
theorem dX2_get_6 : decode cX2_get 6 = .ok (.invokestatic 57, 3) := by decide +kernel
theorem dX2_get_9 : decode cX2_get 9 = .ok (.ifCond .ne 11, 3) := by decide +kernel
theorem dX2_get_12 : decode cX2_get 12 = .ok (.aload_n 0, 1) := by decide +kernel
theorem dX2_get_13 : decode cX2_get 13 = .ok (.bipush (-2), 2) := by decide +kernel
theorem dX2_get_15 : decode cX2_get 15 = .ok (.invokevirtual 52, 3) := by decide +kernel
theorem dX2_get_18 : decode cX2_get 18 = .ok (.i2l, 1) := by decide +kernel
theorem dX2_get_19 : decode cX2_get 19 = .ok (.lreturn, 1) := by decide +kernel
theorem dX2_get_20 : decode cX2_get 20 = .ok (.aload_n 0, 1) := by decide +kernel
theorem dX2_get_21 : decode cX2_get 21 = .ok (.iload_n 1, 1) := by decide +kernel
theorem dX2_get_22 : decode cX2_get 22 = .ok (.iload_n 2, 1) := by decide +kernel
theorem dX2_get_23 : decode cX2_get 23 = .ok (.invokevirtual 98, 3) := by decide +kernel
theorem dX2_get_26 : decode cX2_get 26 = .ok (.ifCond .eq 22, 3) := by decide +kernel
theorem dX2_get_29 : decode cX2_get 29 = .ok (.aload_n 0, 1) := by decide +kernel
theorem dX2_get_30 : decode cX2_get 30 = .ok (.getfield 20, 3) := by decide +kernel
theorem dX2_get_33 : decode cX2_get 33 = .ok (.bipush 8, 2) := by decide +kernel
theorem dX2_get_35 : decode cX2_get 35 = .ok (.aload_n 0, 1) := by decide +kernel
theorem dX2_get_36 : decode cX2_get 36 = .ok (.getfield 24, 3) := by decide +kernel
theorem dX2_get_39 : decode cX2_get 39 = .ok (.iload_n 1, 1) := by decide +kernel
theorem dX2_get_40 : decode cX2_get 40 = .ok (.iaload, 1) := by decide +kernel
theorem dX2_get_41 : decode cX2_get 41 = .ok (.imul, 1) := by decide +kernel
theorem dX2_get_42 : decode cX2_get 42 = .ok (.iload_n 2, 1) := by decide +kernel
theorem dX2_get_43 : decode cX2_get 43 = .ok (.iadd, 1) := by decide +kernel
theorem dX2_get_44 : decode cX2_get 44 = .ok (.laload, 1) := by decide +kernel
theorem dX2_get_45 : decode cX2_get 45 = .ok (.goto 4, 3) := by decide +kernel
theorem dX2_get_48 : decode cX2_get 48 = .ok (.lconst 0, 1) := by decide +kernel
theorem dX2_get_49 : decode cX2_get 49 = .ok (.lreturn, 1) := by decide +kernel
theorem dX2_canHold_0 : decode cX2_canHold 0 = .ok (.iload_n 0, 1) := by decide +kernel
theorem dX2_canHold_1 : decode cX2_canHold 1 = .ok (.tableswitch 70 4 8 #[35, 47, 70, 70, 59], 35) := by decide +kernel
theorem dX2_canHold_36 : decode cX2_canHold 36 = .ok (.iload_n 1, 1) := by decide +kernel
theorem dX2_canHold_37 : decode cX2_canHold 37 = .ok (.bipush 11, 2) := by decide +kernel
theorem dX2_canHold_39 : decode cX2_canHold 39 = .ok (.if_icmp .eq 7, 3) := by decide +kernel
theorem dX2_canHold_42 : decode cX2_canHold 42 = .ok (.iconst 1, 1) := by decide +kernel
theorem dX2_canHold_43 : decode cX2_canHold 43 = .ok (.goto 4, 3) := by decide +kernel
theorem dX2_canHold_46 : decode cX2_canHold 46 = .ok (.iconst 0, 1) := by decide +kernel
theorem dX2_canHold_47 : decode cX2_canHold 47 = .ok (.ireturn, 1) := by decide +kernel
theorem dX2_canHold_48 : decode cX2_canHold 48 = .ok (.iload_n 1, 1) := by decide +kernel
theorem dX2_canHold_49 : decode cX2_canHold 49 = .ok (.bipush 10, 2) := by decide +kernel
theorem dX2_canHold_51 : decode cX2_canHold 51 = .ok (.if_icmp .ne 7, 3) := by decide +kernel
theorem dX2_canHold_54 : decode cX2_canHold 54 = .ok (.iconst 1, 1) := by decide +kernel
theorem dX2_canHold_55 : decode cX2_canHold 55 = .ok (.goto 4, 3) := by decide +kernel
theorem dX2_canHold_58 : decode cX2_canHold 58 = .ok (.iconst 0, 1) := by decide +kernel
theorem dX2_canHold_59 : decode cX2_canHold 59 = .ok (.ireturn, 1) := by decide +kernel
theorem dX2_canHold_60 : decode cX2_canHold 60 = .ok (.iload_n 1, 1) := by decide +kernel
theorem dX2_canHold_61 : decode cX2_canHold 61 = .ok (.iconst 5, 1) := by decide +kernel
theorem dX2_canHold_62 : decode cX2_canHold 62 = .ok (.if_icmp .ne 7, 3) := by decide +kernel
theorem dX2_canHold_65 : decode cX2_canHold 65 = .ok (.iconst 1, 1) := by decide +kernel
theorem dX2_canHold_66 : decode cX2_canHold 66 = .ok (.goto 4, 3) := by decide +kernel
theorem dX2_canHold_69 : decode cX2_canHold 69 = .ok (.iconst 0, 1) := by decide +kernel
theorem dX2_canHold_70 : decode cX2_canHold 70 = .ok (.ireturn, 1) := by decide +kernel
theorem dX2_canHold_71 : decode cX2_canHold 71 = .ok (.iconst 1, 1) := by decide +kernel
theorem dX2_canHold_72 : decode cX2_canHold 72 = .ok (.ireturn, 1) := by decide +kernel
set_option maxRecDepth 20000 in
theorem ggX2_lay_X2_isSlot : GoodIn wsX2_lay wsX2_isSlot := goodIn_r _ [9, 10, 11, 8, 12] (by decide +kernel) (by decide +kernel)
set_option maxRecDepth 20000 in
theorem gX2_lay_X2_isSlot : GoodIn wsX2_lay (va_wsS RX2 57 yX2_isSlot wsX2_isSlot) := goodIn_app (goodIn_of _ (by decide +kernel)) ggX2_lay_X2_isSlot
set_option maxRecDepth 20000 in
theorem ggX2_lay_X2_fails : GoodIn wsX2_lay wsX2_fails := goodIn_r _ [16, 1, 37, 38, 39, 40, 41, 42, 43, 44, 45, 46] (by decide +kernel) (by decide +kernel)
set_option maxRecDepth 20000 in
theorem gX2_lay_X2_fails : GoodIn wsX2_lay (wsV RX2 52 RX2 yX2_fails wsX2_fails) := goodIn_app (goodIn_of _ (by decide +kernel)) ggX2_lay_X2_fails
set_option maxRecDepth 20000 in
theorem ggX2_lay_X2_holdsThings : GoodIn wsX2_lay wsX2_holdsThings := goodIn_r _ [19, 10, 11, 8, 12] (by decide +kernel) (by decide +kernel)
set_option maxRecDepth 20000 in
theorem gX2_lay_X2_holdsThings : GoodIn wsX2_lay (va_wsS RX2 64 yX2_holdsThings wsX2_holdsThings) := goodIn_app (goodIn_of _ (by decide +kernel)) ggX2_lay_X2_holdsThings
set_option maxRecDepth 20000 in
theorem ggX2_lay_X2_turns : GoodIn wsX2_lay wsX2_turns := goodIn_r _ [23, 24, 25, 26, 8, 27, 28, 29, 30, 13, 14, 15, 16, 1, 37, 38, 39, 40, 41, 42, 43, 44, 45, 46] (by decide +kernel) (by decide +kernel)
set_option maxRecDepth 20000 in
theorem gX2_lay_X2_turns : GoodIn wsX2_lay (wsV RX2 87 RX2 yX2_turns wsX2_turns) := goodIn_app (goodIn_of _ (by decide +kernel)) ggX2_lay_X2_turns
set_option maxRecDepth 20000 in
theorem ggX2_lay_X2_goes : GoodIn wsX2_lay wsX2_goes := goodIn_r _ [33] (by decide +kernel) (by decide +kernel)
set_option maxRecDepth 20000 in
theorem gX2_lay_X2_goes : GoodIn wsX2_lay (va_wsS RX2 38 yX2_goes wsX2_goes) := goodIn_app (goodIn_of _ (by decide +kernel)) ggX2_lay_X2_goes
set_option maxRecDepth 20000 in
theorem ggX2_lay_X2_isIn : GoodIn wsX2_lay wsX2_isIn := goodIn_r _ [12] (by decide +kernel) (by decide +kernel)
set_option maxRecDepth 20000 in
theorem gX2_lay_X2_isIn : GoodIn wsX2_lay (va_wsS RX2 34 yX2_isIn wsX2_isIn) := goodIn_app (goodIn_of _ (by decide +kernel)) ggX2_lay_X2_isIn
set_option maxRecDepth 20000 in
theorem ggX2_lay_X2_canHold : GoodIn wsX2_lay wsX2_canHold := goodIn_r _ [36] (by decide +kernel) (by decide +kernel)
set_option maxRecDepth 20000 in
theorem gX2_lay_X2_canHold : GoodIn wsX2_lay (va_wsS RX2 101 yX2_canHold wsX2_canHold) := goodIn_app (goodIn_of _ (by decide +kernel)) ggX2_lay_X2_canHold
theorem dX2_lay_0 : decode cX2_lay 0 = .ok (.aload_n 0, 1) := by decide +kernel
theorem dX2_lay_1 : decode cX2_lay 1 = .ok (.iconst 0, 1) := by decide +kernel
theorem dX2_lay_2 : decode cX2_lay 2 = .ok (.putfield 42, 3) := by decide +kernel
theorem dX2_lay_5 : decode cX2_lay 5 = .ok (.iload_n 1, 1) := by decide +kernel
theorem dX2_lay_6 : decode cX2_lay 6 = .ok (.invokestatic 57, 3) := by decide +kernel
theorem dX2_lay_9 : decode cX2_lay 9 = .ok (.ifCond .eq 10, 3) := by decide +kernel
theorem dX2_lay_12 : decode cX2_lay 12 = .ok (.iload_n 3, 1) := by decide +kernel
theorem dX2_lay_13 : decode cX2_lay 13 = .ok (.invokestatic 57, 3) := by decide +kernel
theorem dX2_lay_16 : decode cX2_lay 16 = .ok (.ifCond .ne 6, 3) := by decide +kernel
theorem dX2_lay_19 : decode cX2_lay 19 = .ok (.bipush (-2), 2) := by decide +kernel
theorem dX2_lay_21 : decode cX2_lay 21 = .ok (.ireturn, 1) := by decide +kernel
theorem dX2_lay_22 : decode cX2_lay 22 = .ok (.aload_n 0, 1) := by decide +kernel
theorem dX2_lay_23 : decode cX2_lay 23 = .ok (.getfield 24, 3) := by decide +kernel
theorem dX2_lay_26 : decode cX2_lay 26 = .ok (.iload_n 1, 1) := by decide +kernel
theorem dX2_lay_27 : decode cX2_lay 27 = .ok (.iaload, 1) := by decide +kernel
theorem dX2_lay_28 : decode cX2_lay 28 = .ok (.istore 4, 2) := by decide +kernel
theorem dX2_lay_30 : decode cX2_lay 30 = .ok (.aload_n 0, 1) := by decide +kernel
theorem dX2_lay_31 : decode cX2_lay 31 = .ok (.getfield 24, 3) := by decide +kernel
theorem dX2_lay_34 : decode cX2_lay 34 = .ok (.iload_n 3, 1) := by decide +kernel
theorem dX2_lay_35 : decode cX2_lay 35 = .ok (.iaload, 1) := by decide +kernel
theorem dX2_lay_36 : decode cX2_lay 36 = .ok (.istore 5, 2) := by decide +kernel
theorem dX2_lay_38 : decode cX2_lay 38 = .ok (.iload 4, 2) := by decide +kernel
theorem dX2_lay_40 : decode cX2_lay 40 = .ok (.iconst (-1), 1) := by decide +kernel
theorem dX2_lay_41 : decode cX2_lay 41 = .ok (.if_icmp .ne 9, 3) := by decide +kernel
theorem dX2_lay_44 : decode cX2_lay 44 = .ok (.aload_n 0, 1) := by decide +kernel
theorem dX2_lay_45 : decode cX2_lay 45 = .ok (.iconst 2, 1) := by decide +kernel
theorem dX2_lay_46 : decode cX2_lay 46 = .ok (.invokevirtual 52, 3) := by decide +kernel
theorem dX2_lay_49 : decode cX2_lay 49 = .ok (.ireturn, 1) := by decide +kernel
theorem dX2_lay_50 : decode cX2_lay 50 = .ok (.aload_n 0, 1) := by decide +kernel
theorem dX2_lay_51 : decode cX2_lay 51 = .ok (.getfield 7, 3) := by decide +kernel
theorem dX2_lay_54 : decode cX2_lay 54 = .ok (.iload 4, 2) := by decide +kernel
theorem dX2_lay_56 : decode cX2_lay 56 = .ok (.iaload, 1) := by decide +kernel
theorem dX2_lay_57 : decode cX2_lay 57 = .ok (.invokestatic 64, 3) := by decide +kernel
theorem dX2_lay_60 : decode cX2_lay 60 = .ok (.ifCond .ne 11, 3) := by decide +kernel
theorem dX2_lay_63 : decode cX2_lay 63 = .ok (.aload_n 0, 1) := by decide +kernel
theorem dX2_lay_64 : decode cX2_lay 64 = .ok (.iload_n 1, 1) := by decide +kernel
theorem dX2_lay_65 : decode cX2_lay 65 = .ok (.bipush 6, 2) := by decide +kernel
theorem dX2_lay_67 : decode cX2_lay 67 = .ok (.invokevirtual 87, 3) := by decide +kernel
theorem dX2_lay_70 : decode cX2_lay 70 = .ok (.ireturn, 1) := by decide +kernel
theorem dX2_lay_71 : decode cX2_lay 71 = .ok (.aload_n 0, 1) := by decide +kernel
theorem dX2_lay_72 : decode cX2_lay 72 = .ok (.getfield 7, 3) := by decide +kernel
theorem dX2_lay_75 : decode cX2_lay 75 = .ok (.iload 4, 2) := by decide +kernel
theorem dX2_lay_77 : decode cX2_lay 77 = .ok (.iaload, 1) := by decide +kernel
theorem dX2_lay_78 : decode cX2_lay 78 = .ok (.iconst 3, 1) := by decide +kernel
theorem dX2_lay_79 : decode cX2_lay 79 = .ok (.if_icmp .ne 7, 3) := by decide +kernel
theorem dX2_lay_82 : decode cX2_lay 82 = .ok (.iconst 0, 1) := by decide +kernel
theorem dX2_lay_83 : decode cX2_lay 83 = .ok (.goto 33, 3) := by decide +kernel
theorem dX2_lay_86 : decode cX2_lay 86 = .ok (.aload_n 0, 1) := by decide +kernel
theorem dX2_lay_87 : decode cX2_lay 87 = .ok (.getfield 7, 3) := by decide +kernel
theorem dX2_lay_90 : decode cX2_lay 90 = .ok (.iload 4, 2) := by decide +kernel
theorem dX2_lay_92 : decode cX2_lay 92 = .ok (.iaload, 1) := by decide +kernel
theorem dX2_lay_93 : decode cX2_lay 93 = .ok (.bipush 7, 2) := by decide +kernel
theorem dX2_lay_95 : decode cX2_lay 95 = .ok (.if_icmp .eq 15, 3) := by decide +kernel
theorem dX2_lay_98 : decode cX2_lay 98 = .ok (.aload_n 0, 1) := by decide +kernel
theorem dX2_lay_99 : decode cX2_lay 99 = .ok (.getfield 7, 3) := by decide +kernel
theorem dX2_lay_102 : decode cX2_lay 102 = .ok (.iload 4, 2) := by decide +kernel
theorem dX2_lay_104 : decode cX2_lay 104 = .ok (.iaload, 1) := by decide +kernel
theorem dX2_lay_105 : decode cX2_lay 105 = .ok (.bipush 8, 2) := by decide +kernel
theorem dX2_lay_107 : decode cX2_lay 107 = .ok (.if_icmp .ne 7, 3) := by decide +kernel
theorem dX2_lay_110 : decode cX2_lay 110 = .ok (.iconst 4, 1) := by decide +kernel
theorem dX2_lay_111 : decode cX2_lay 111 = .ok (.goto 5, 3) := by decide +kernel
theorem dX2_lay_114 : decode cX2_lay 114 = .ok (.bipush 12, 2) := by decide +kernel
theorem dX2_lay_116 : decode cX2_lay 116 = .ok (.istore 6, 2) := by decide +kernel
theorem dX2_lay_118 : decode cX2_lay 118 = .ok (.iload 5, 2) := by decide +kernel
theorem dX2_lay_120 : decode cX2_lay 120 = .ok (.iconst (-1), 1) := by decide +kernel
theorem dX2_lay_121 : decode cX2_lay 121 = .ok (.if_icmp .eq 26, 3) := by decide +kernel
theorem dX2_lay_124 : decode cX2_lay 124 = .ok (.aload_n 0, 1) := by decide +kernel
theorem dX2_lay_125 : decode cX2_lay 125 = .ok (.getfield 7, 3) := by decide +kernel
theorem dX2_lay_128 : decode cX2_lay 128 = .ok (.iload 5, 2) := by decide +kernel
theorem dX2_lay_130 : decode cX2_lay 130 = .ok (.iaload, 1) := by decide +kernel
theorem dX2_lay_131 : decode cX2_lay 131 = .ok (.iload 6, 2) := by decide +kernel
theorem dX2_lay_133 : decode cX2_lay 133 = .ok (.invokestatic 38, 3) := by decide +kernel
theorem dX2_lay_136 : decode cX2_lay 136 = .ok (.ifCond .ne 11, 3) := by decide +kernel
theorem dX2_lay_139 : decode cX2_lay 139 = .ok (.aload_n 0, 1) := by decide +kernel
theorem dX2_lay_140 : decode cX2_lay 140 = .ok (.iload_n 3, 1) := by decide +kernel
theorem dX2_lay_141 : decode cX2_lay 141 = .ok (.iload 6, 2) := by decide +kernel
theorem dX2_lay_143 : decode cX2_lay 143 = .ok (.invokevirtual 87, 3) := by decide +kernel
theorem dX2_lay_146 : decode cX2_lay 146 = .ok (.ireturn, 1) := by decide +kernel
theorem dX2_lay_147 : decode cX2_lay 147 = .ok (.iload_n 2, 1) := by decide +kernel
theorem dX2_lay_148 : decode cX2_lay 148 = .ok (.iconst 0, 1) := by decide +kernel
theorem dX2_lay_149 : decode cX2_lay 149 = .ok (.aload_n 0, 1) := by decide +kernel
theorem dX2_lay_150 : decode cX2_lay 150 = .ok (.getfield 13, 3) := by decide +kernel
theorem dX2_lay_153 : decode cX2_lay 153 = .ok (.iload 4, 2) := by decide +kernel
theorem dX2_lay_155 : decode cX2_lay 155 = .ok (.iaload, 1) := by decide +kernel
theorem dX2_lay_156 : decode cX2_lay 156 = .ok (.iconst 1, 1) := by decide +kernel
theorem dX2_lay_157 : decode cX2_lay 157 = .ok (.isub, 1) := by decide +kernel
theorem dX2_lay_158 : decode cX2_lay 158 = .ok (.invokestatic 34, 3) := by decide +kernel
theorem dX2_lay_161 : decode cX2_lay 161 = .ok (.ifCond .ne 9, 3) := by decide +kernel
theorem dX2_lay_164 : decode cX2_lay 164 = .ok (.aload_n 0, 1) := by decide +kernel
theorem dX2_lay_165 : decode cX2_lay 165 = .ok (.iconst 3, 1) := by decide +kernel
theorem dX2_lay_166 : decode cX2_lay 166 = .ok (.invokevirtual 52, 3) := by decide +kernel
theorem dX2_lay_169 : decode cX2_lay 169 = .ok (.ireturn, 1) := by decide +kernel
theorem dX2_lay_170 : decode cX2_lay 170 = .ok (.iload 5, 2) := by decide +kernel
theorem dX2_lay_172 : decode cX2_lay 172 = .ok (.iconst (-1), 1) := by decide +kernel
theorem dX2_lay_173 : decode cX2_lay 173 = .ok (.if_icmp .eq 29, 3) := by decide +kernel
theorem dX2_lay_176 : decode cX2_lay 176 = .ok (.aload_n 0, 1) := by decide +kernel
theorem dX2_lay_177 : decode cX2_lay 177 = .ok (.getfield 7, 3) := by decide +kernel
theorem dX2_lay_180 : decode cX2_lay 180 = .ok (.iload 4, 2) := by decide +kernel
theorem dX2_lay_182 : decode cX2_lay 182 = .ok (.iaload, 1) := by decide +kernel
theorem dX2_lay_183 : decode cX2_lay 183 = .ok (.aload_n 0, 1) := by decide +kernel
theorem dX2_lay_184 : decode cX2_lay 184 = .ok (.getfield 7, 3) := by decide +kernel
theorem dX2_lay_187 : decode cX2_lay 187 = .ok (.iload 5, 2) := by decide +kernel
theorem dX2_lay_189 : decode cX2_lay 189 = .ok (.iaload, 1) := by decide +kernel
theorem dX2_lay_190 : decode cX2_lay 190 = .ok (.invokestatic 101, 3) := by decide +kernel
theorem dX2_lay_193 : decode cX2_lay 193 = .ok (.ifCond .ne 9, 3) := by decide +kernel
theorem dX2_lay_196 : decode cX2_lay 196 = .ok (.aload_n 0, 1) := by decide +kernel
theorem dX2_lay_197 : decode cX2_lay 197 = .ok (.iconst 5, 1) := by decide +kernel
theorem dX2_lay_198 : decode cX2_lay 198 = .ok (.invokevirtual 52, 3) := by decide +kernel
theorem dX2_lay_201 : decode cX2_lay 201 = .ok (.ireturn, 1) := by decide +kernel
theorem dX2_lay_202 : decode cX2_lay 202 = .ok (.aload_n 0, 1) := by decide +kernel
theorem dX2_lay_203 : decode cX2_lay 203 = .ok (.getfield 20, 3) := by decide +kernel
theorem dX2_lay_206 : decode cX2_lay 206 = .ok (.bipush 8, 2) := by decide +kernel
theorem dX2_lay_208 : decode cX2_lay 208 = .ok (.iload 4, 2) := by decide +kernel
theorem dX2_lay_210 : decode cX2_lay 210 = .ok (.imul, 1) := by decide +kernel
theorem dX2_lay_211 : decode cX2_lay 211 = .ok (.iload_n 2, 1) := by decide +kernel
theorem dX2_lay_212 : decode cX2_lay 212 = .ok (.iadd, 1) := by decide +kernel
theorem dX2_lay_213 : decode cX2_lay 213 = .ok (.iload 5, 2) := by decide +kernel
theorem dX2_lay_215 : decode cX2_lay 215 = .ok (.i2l, 1) := by decide +kernel
theorem dX2_lay_216 : decode cX2_lay 216 = .ok (.lastore, 1) := by decide +kernel
theorem dX2_lay_217 : decode cX2_lay 217 = .ok (.iconst 1, 1) := by decide +kernel
theorem dX2_lay_218 : decode cX2_lay 218 = .ok (.ireturn, 1) := by decide +kernel
set_option maxRecDepth 20000 in
theorem ggX2_take_X2_isSlot : GoodIn wsX2_take wsX2_isSlot := goodIn_r _ [9, 10, 11, 8, 12] (by decide +kernel) (by decide +kernel)
set_option maxRecDepth 20000 in
theorem gX2_take_X2_isSlot : GoodIn wsX2_take (va_wsS RX2 57 yX2_isSlot wsX2_isSlot) := goodIn_app (goodIn_of _ (by decide +kernel)) ggX2_take_X2_isSlot
set_option maxRecDepth 20000 in
theorem ggX2_take_X2_fails : GoodIn wsX2_take wsX2_fails := goodIn_r _ [16, 1, 31, 32, 33, 34, 35, 36, 37, 38, 39, 40] (by decide +kernel) (by decide +kernel)
set_option maxRecDepth 20000 in
theorem gX2_take_X2_fails : GoodIn wsX2_take (wsV RX2 52 RX2 yX2_fails wsX2_fails) := goodIn_app (goodIn_of _ (by decide +kernel)) ggX2_take_X2_fails
set_option maxRecDepth 20000 in
theorem ggX2_take_X2_holdsThings : GoodIn wsX2_take wsX2_holdsThings := goodIn_r _ [19, 10, 11, 8, 12] (by decide +kernel) (by decide +kernel)
set_option maxRecDepth 20000 in
theorem gX2_take_X2_holdsThings : GoodIn wsX2_take (va_wsS RX2 64 yX2_holdsThings wsX2_holdsThings) := goodIn_app (goodIn_of _ (by decide +kernel)) ggX2_take_X2_holdsThings
set_option maxRecDepth 20000 in
theorem ggX2_take_X2_turns : GoodIn wsX2_take wsX2_turns := goodIn_r _ [23, 24, 25, 26, 8, 27, 28, 29, 30, 13, 14, 15, 16, 1, 31, 32, 33, 34, 35, 36, 37, 38, 39, 40] (by decide +kernel) (by decide +kernel)
set_option maxRecDepth 20000 in
theorem gX2_take_X2_turns : GoodIn wsX2_take (wsV RX2 87 RX2 yX2_turns wsX2_turns) := goodIn_app (goodIn_of _ (by decide +kernel)) ggX2_take_X2_turns
set_option maxRecDepth 20000 in
theorem ggX2_take_X2_isIn : GoodIn wsX2_take wsX2_isIn := goodIn_r _ [12] (by decide +kernel) (by decide +kernel)
set_option maxRecDepth 20000 in
theorem gX2_take_X2_isIn : GoodIn wsX2_take (va_wsS RX2 34 yX2_isIn wsX2_isIn) := goodIn_app (goodIn_of _ (by decide +kernel)) ggX2_take_X2_isIn
theorem dX2_take_0 : decode cX2_take 0 = .ok (.aload_n 0, 1) := by decide +kernel
theorem dX2_take_1 : decode cX2_take 1 = .ok (.iconst 0, 1) := by decide +kernel
theorem dX2_take_2 : decode cX2_take 2 = .ok (.putfield 42, 3) := by decide +kernel
theorem dX2_take_5 : decode cX2_take 5 = .ok (.iload_n 1, 1) := by decide +kernel
theorem dX2_take_6 : decode cX2_take 6 = .ok (.invokestatic 57, 3) := by decide +kernel
theorem dX2_take_9 : decode cX2_take 9 = .ok (.ifCond .eq 10, 3) := by decide +kernel
theorem dX2_take_12 : decode cX2_take 12 = .ok (.iload_n 3, 1) := by decide +kernel
theorem dX2_take_13 : decode cX2_take 13 = .ok (.invokestatic 57, 3) := by decide +kernel
theorem dX2_take_16 : decode cX2_take 16 = .ok (.ifCond .ne 6, 3) := by decide +kernel
theorem dX2_take_19 : decode cX2_take 19 = .ok (.bipush (-2), 2) := by decide +kernel
theorem dX2_take_21 : decode cX2_take 21 = .ok (.ireturn, 1) := by decide +kernel
theorem dX2_take_22 : decode cX2_take 22 = .ok (.aload_n 0, 1) := by decide +kernel
theorem dX2_take_23 : decode cX2_take 23 = .ok (.getfield 24, 3) := by decide +kernel
theorem dX2_take_26 : decode cX2_take 26 = .ok (.iload_n 1, 1) := by decide +kernel
theorem dX2_take_27 : decode cX2_take 27 = .ok (.iaload, 1) := by decide +kernel
theorem dX2_take_28 : decode cX2_take 28 = .ok (.istore 4, 2) := by decide +kernel
theorem dX2_take_30 : decode cX2_take 30 = .ok (.iload 4, 2) := by decide +kernel
theorem dX2_take_32 : decode cX2_take 32 = .ok (.iconst (-1), 1) := by decide +kernel
theorem dX2_take_33 : decode cX2_take 33 = .ok (.if_icmp .ne 9, 3) := by decide +kernel
theorem dX2_take_36 : decode cX2_take 36 = .ok (.aload_n 0, 1) := by decide +kernel
theorem dX2_take_37 : decode cX2_take 37 = .ok (.iconst 2, 1) := by decide +kernel
theorem dX2_take_38 : decode cX2_take 38 = .ok (.invokevirtual 52, 3) := by decide +kernel
theorem dX2_take_41 : decode cX2_take 41 = .ok (.ireturn, 1) := by decide +kernel
theorem dX2_take_42 : decode cX2_take 42 = .ok (.aload_n 0, 1) := by decide +kernel
theorem dX2_take_43 : decode cX2_take 43 = .ok (.getfield 7, 3) := by decide +kernel
theorem dX2_take_46 : decode cX2_take 46 = .ok (.iload 4, 2) := by decide +kernel
theorem dX2_take_48 : decode cX2_take 48 = .ok (.iaload, 1) := by decide +kernel
theorem dX2_take_49 : decode cX2_take 49 = .ok (.invokestatic 64, 3) := by decide +kernel
theorem dX2_take_52 : decode cX2_take 52 = .ok (.ifCond .ne 11, 3) := by decide +kernel
theorem dX2_take_55 : decode cX2_take 55 = .ok (.aload_n 0, 1) := by decide +kernel
theorem dX2_take_56 : decode cX2_take 56 = .ok (.iload_n 1, 1) := by decide +kernel
theorem dX2_take_57 : decode cX2_take 57 = .ok (.bipush 6, 2) := by decide +kernel
theorem dX2_take_59 : decode cX2_take 59 = .ok (.invokevirtual 87, 3) := by decide +kernel
theorem dX2_take_62 : decode cX2_take 62 = .ok (.ireturn, 1) := by decide +kernel
theorem dX2_take_63 : decode cX2_take 63 = .ok (.iload_n 2, 1) := by decide +kernel
theorem dX2_take_64 : decode cX2_take 64 = .ok (.iconst 0, 1) := by decide +kernel
theorem dX2_take_65 : decode cX2_take 65 = .ok (.aload_n 0, 1) := by decide +kernel
theorem dX2_take_66 : decode cX2_take 66 = .ok (.getfield 13, 3) := by decide +kernel
theorem dX2_take_69 : decode cX2_take 69 = .ok (.iload 4, 2) := by decide +kernel
theorem dX2_take_71 : decode cX2_take 71 = .ok (.iaload, 1) := by decide +kernel
theorem dX2_take_72 : decode cX2_take 72 = .ok (.iconst 1, 1) := by decide +kernel
theorem dX2_take_73 : decode cX2_take 73 = .ok (.isub, 1) := by decide +kernel
theorem dX2_take_74 : decode cX2_take 74 = .ok (.invokestatic 34, 3) := by decide +kernel
theorem dX2_take_77 : decode cX2_take 77 = .ok (.ifCond .ne 9, 3) := by decide +kernel
theorem dX2_take_80 : decode cX2_take 80 = .ok (.aload_n 0, 1) := by decide +kernel
theorem dX2_take_81 : decode cX2_take 81 = .ok (.iconst 3, 1) := by decide +kernel
theorem dX2_take_82 : decode cX2_take 82 = .ok (.invokevirtual 52, 3) := by decide +kernel
theorem dX2_take_85 : decode cX2_take 85 = .ok (.ireturn, 1) := by decide +kernel
theorem dX2_take_86 : decode cX2_take 86 = .ok (.aload_n 0, 1) := by decide +kernel
theorem dX2_take_87 : decode cX2_take 87 = .ok (.getfield 24, 3) := by decide +kernel
theorem dX2_take_90 : decode cX2_take 90 = .ok (.iload_n 3, 1) := by decide +kernel
theorem dX2_take_91 : decode cX2_take 91 = .ok (.aload_n 0, 1) := by decide +kernel
theorem dX2_take_92 : decode cX2_take 92 = .ok (.getfield 20, 3) := by decide +kernel
theorem dX2_take_95 : decode cX2_take 95 = .ok (.bipush 8, 2) := by decide +kernel
theorem dX2_take_97 : decode cX2_take 97 = .ok (.iload 4, 2) := by decide +kernel
theorem dX2_take_99 : decode cX2_take 99 = .ok (.imul, 1) := by decide +kernel
theorem dX2_take_100 : decode cX2_take 100 = .ok (.iload_n 2, 1) := by decide +kernel
theorem dX2_take_101 : decode cX2_take 101 = .ok (.iadd, 1) := by decide +kernel
theorem dX2_take_102 : decode cX2_take 102 = .ok (.laload, 1) := by decide +kernel
theorem dX2_take_103 : decode cX2_take 103 = .ok (.l2i, 1) := by decide +kernel
theorem dX2_take_104 : decode cX2_take 104 = .ok (.iastore, 1) := by decide +kernel
theorem dX2_take_105 : decode cX2_take 105 = .ok (.aload_n 0, 1) := by decide +kernel
theorem dX2_take_106 : decode cX2_take 106 = .ok (.getfield 24, 3) := by decide +kernel
theorem dX2_take_109 : decode cX2_take 109 = .ok (.iload_n 3, 1) := by decide +kernel
theorem dX2_take_110 : decode cX2_take 110 = .ok (.iaload, 1) := by decide +kernel
theorem dX2_take_111 : decode cX2_take 111 = .ok (.ireturn, 1) := by decide +kernel
set_option maxRecDepth 20000 in
theorem ggX2_share_X2_isSlot : GoodIn wsX2_share wsX2_isSlot := goodIn_r _ [6, 7, 8, 5, 9] (by decide +kernel) (by decide +kernel)
set_option maxRecDepth 20000 in
theorem gX2_share_X2_isSlot : GoodIn wsX2_share (va_wsS RX2 57 yX2_isSlot wsX2_isSlot) := goodIn_app (goodIn_of _ (by decide +kernel)) ggX2_share_X2_isSlot
theorem dX2_share_0 : decode cX2_share 0 = .ok (.aload_n 0, 1) := by decide +kernel
theorem dX2_share_1 : decode cX2_share 1 = .ok (.iconst 0, 1) := by decide +kernel
theorem dX2_share_2 : decode cX2_share 2 = .ok (.putfield 42, 3) := by decide +kernel
theorem dX2_share_5 : decode cX2_share 5 = .ok (.iload_n 1, 1) := by decide +kernel
theorem dX2_share_6 : decode cX2_share 6 = .ok (.invokestatic 57, 3) := by decide +kernel
theorem dX2_share_9 : decode cX2_share 9 = .ok (.ifCond .eq 10, 3) := by decide +kernel
theorem dX2_share_12 : decode cX2_share 12 = .ok (.iload_n 2, 1) := by decide +kernel
theorem dX2_share_13 : decode cX2_share 13 = .ok (.invokestatic 57, 3) := by decide +kernel
theorem dX2_share_16 : decode cX2_share 16 = .ok (.ifCond .ne 6, 3) := by decide +kernel
theorem dX2_share_19 : decode cX2_share 19 = .ok (.bipush (-2), 2) := by decide +kernel
theorem dX2_share_21 : decode cX2_share 21 = .ok (.ireturn, 1) := by decide +kernel
theorem dX2_share_22 : decode cX2_share 22 = .ok (.aload_n 0, 1) := by decide +kernel
theorem dX2_share_23 : decode cX2_share 23 = .ok (.getfield 24, 3) := by decide +kernel
theorem dX2_share_26 : decode cX2_share 26 = .ok (.iload_n 2, 1) := by decide +kernel
theorem dX2_share_27 : decode cX2_share 27 = .ok (.aload_n 0, 1) := by decide +kernel
theorem dX2_share_28 : decode cX2_share 28 = .ok (.getfield 24, 3) := by decide +kernel
theorem dX2_share_31 : decode cX2_share 31 = .ok (.iload_n 1, 1) := by decide +kernel
theorem dX2_share_32 : decode cX2_share 32 = .ok (.iaload, 1) := by decide +kernel
theorem dX2_share_33 : decode cX2_share 33 = .ok (.iastore, 1) := by decide +kernel
theorem dX2_share_34 : decode cX2_share 34 = .ok (.aload_n 0, 1) := by decide +kernel
theorem dX2_share_35 : decode cX2_share 35 = .ok (.getfield 24, 3) := by decide +kernel
theorem dX2_share_38 : decode cX2_share 38 = .ok (.iload_n 2, 1) := by decide +kernel
theorem dX2_share_39 : decode cX2_share 39 = .ok (.iaload, 1) := by decide +kernel
theorem dX2_share_40 : decode cX2_share 40 = .ok (.ireturn, 1) := by decide +kernel
set_option maxRecDepth 20000 in
theorem ggX2_empty_X2_isSlot : GoodIn wsX2_empty wsX2_isSlot := goodIn_r _ [6, 7, 8, 5, 9] (by decide +kernel) (by decide +kernel)
set_option maxRecDepth 20000 in
theorem gX2_empty_X2_isSlot : GoodIn wsX2_empty (va_wsS RX2 57 yX2_isSlot wsX2_isSlot) := goodIn_app (goodIn_of _ (by decide +kernel)) ggX2_empty_X2_isSlot
theorem dX2_empty_0 : decode cX2_empty 0 = .ok (.aload_n 0, 1) := by decide +kernel
theorem dX2_empty_1 : decode cX2_empty 1 = .ok (.iconst 0, 1) := by decide +kernel
theorem dX2_empty_2 : decode cX2_empty 2 = .ok (.putfield 42, 3) := by decide +kernel
theorem dX2_empty_5 : decode cX2_empty 5 = .ok (.iload_n 1, 1) := by decide +kernel
theorem dX2_empty_6 : decode cX2_empty 6 = .ok (.invokestatic 57, 3) := by decide +kernel
theorem dX2_empty_9 : decode cX2_empty 9 = .ok (.ifCond .ne 6, 3) := by decide +kernel
theorem dX2_empty_12 : decode cX2_empty 12 = .ok (.bipush (-2), 2) := by decide +kernel
theorem dX2_empty_14 : decode cX2_empty 14 = .ok (.ireturn, 1) := by decide +kernel
theorem dX2_empty_15 : decode cX2_empty 15 = .ok (.aload_n 0, 1) := by decide +kernel
theorem dX2_empty_16 : decode cX2_empty 16 = .ok (.getfield 24, 3) := by decide +kernel
theorem dX2_empty_19 : decode cX2_empty 19 = .ok (.iload_n 1, 1) := by decide +kernel
theorem dX2_empty_20 : decode cX2_empty 20 = .ok (.iaload, 1) := by decide +kernel
theorem dX2_empty_21 : decode cX2_empty 21 = .ok (.istore_n 2, 1) := by decide +kernel
theorem dX2_empty_22 : decode cX2_empty 22 = .ok (.aload_n 0, 1) := by decide +kernel
theorem dX2_empty_23 : decode cX2_empty 23 = .ok (.getfield 24, 3) := by decide +kernel
theorem dX2_empty_26 : decode cX2_empty 26 = .ok (.iload_n 1, 1) := by decide +kernel
theorem dX2_empty_27 : decode cX2_empty 27 = .ok (.iconst (-1), 1) := by decide +kernel
theorem dX2_empty_28 : decode cX2_empty 28 = .ok (.iastore, 1) := by decide +kernel
theorem dX2_empty_29 : decode cX2_empty 29 = .ok (.iload_n 2, 1) := by decide +kernel
theorem dX2_empty_30 : decode cX2_empty 30 = .ok (.ireturn, 1) := by decide +kernel
set_option maxRecDepth 20000 in
theorem ggX2_isLetThrough_X2_fails : GoodIn wsX2_isLetThrough wsX2_fails := goodIn_r _ [7, 2, 27, 28, 29, 30, 31, 32, 33, 34, 35, 36] (by decide +kernel) (by decide +kernel)
set_option maxRecDepth 20000 in
theorem gX2_isLetThrough_X2_fails : GoodIn wsX2_isLetThrough (wsV RX2 52 RX2 yX2_fails wsX2_fails) := goodIn_app (goodIn_of _ (by decide +kernel)) ggX2_isLetThrough_X2_fails
set_option maxRecDepth 20000 in
theorem ggX2_isLetThrough_X2_fitsAt : GoodIn wsX2_isLetThrough wsX2_fitsAt := goodIn_r _ [11, 1, 12, 13, 14, 6, 15, 27, 28, 29, 30, 31, 32, 33, 34, 35, 36] (by decide +kernel) (by decide +kernel)
set_option maxRecDepth 20000 in
theorem gX2_isLetThrough_X2_fitsAt : GoodIn wsX2_isLetThrough (wsV RX2 69 RX2 yX2_fitsAt wsX2_fitsAt) := goodIn_app (goodIn_of _ (by decide +kernel)) ggX2_isLetThrough_X2_fitsAt
set_option maxRecDepth 20000 in
theorem ggX2_isLetThrough_X2_turns : GoodIn wsX2_isLetThrough wsX2_turns := goodIn_r _ [19, 20, 21, 22, 6, 23, 24, 25, 26, 3, 4, 5, 7, 2, 27, 28, 29, 30, 31, 32, 33, 34, 35, 36] (by decide +kernel) (by decide +kernel)
set_option maxRecDepth 20000 in
theorem gX2_isLetThrough_X2_turns : GoodIn wsX2_isLetThrough (wsV RX2 87 RX2 yX2_turns wsX2_turns) := goodIn_app (goodIn_of _ (by decide +kernel)) ggX2_isLetThrough_X2_turns
theorem dX2_isLetThrough_0 : decode cX2_isLetThrough 0 = .ok (.aload_n 0, 1) := by decide +kernel
theorem dX2_isLetThrough_1 : decode cX2_isLetThrough 1 = .ok (.getfield 24, 3) := by decide +kernel
theorem dX2_isLetThrough_4 : decode cX2_isLetThrough 4 = .ok (.iload_n 1, 1) := by decide +kernel
theorem dX2_isLetThrough_5 : decode cX2_isLetThrough 5 = .ok (.iaload, 1) := by decide +kernel
theorem dX2_isLetThrough_6 : decode cX2_isLetThrough 6 = .ok (.iconst (-1), 1) := by decide +kernel
theorem dX2_isLetThrough_7 : decode cX2_isLetThrough 7 = .ok (.if_icmp .ne 12, 3) := by decide +kernel
theorem dX2_isLetThrough_10 : decode cX2_isLetThrough 10 = .ok (.aload_n 0, 1) := by decide +kernel
theorem dX2_isLetThrough_11 : decode cX2_isLetThrough 11 = .ok (.iconst 2, 1) := by decide +kernel
theorem dX2_isLetThrough_12 : decode cX2_isLetThrough 12 = .ok (.invokevirtual 52, 3) := by decide +kernel
theorem dX2_isLetThrough_15 : decode cX2_isLetThrough 15 = .ok (.pop, 1) := by decide +kernel
theorem dX2_isLetThrough_16 : decode cX2_isLetThrough 16 = .ok (.goto 19, 3) := by decide +kernel
theorem dX2_isLetThrough_19 : decode cX2_isLetThrough 19 = .ok (.aload_n 0, 1) := by decide +kernel
theorem dX2_isLetThrough_20 : decode cX2_isLetThrough 20 = .ok (.iload_n 1, 1) := by decide +kernel
theorem dX2_isLetThrough_21 : decode cX2_isLetThrough 21 = .ok (.iload_n 2, 1) := by decide +kernel
theorem dX2_isLetThrough_22 : decode cX2_isLetThrough 22 = .ok (.invokevirtual 69, 3) := by decide +kernel
theorem dX2_isLetThrough_25 : decode cX2_isLetThrough 25 = .ok (.ifCond .ne 10, 3) := by decide +kernel
theorem dX2_isLetThrough_28 : decode cX2_isLetThrough 28 = .ok (.aload_n 0, 1) := by decide +kernel
theorem dX2_isLetThrough_29 : decode cX2_isLetThrough 29 = .ok (.iload_n 1, 1) := by decide +kernel
theorem dX2_isLetThrough_30 : decode cX2_isLetThrough 30 = .ok (.iload_n 2, 1) := by decide +kernel
theorem dX2_isLetThrough_31 : decode cX2_isLetThrough 31 = .ok (.invokevirtual 87, 3) := by decide +kernel
theorem dX2_isLetThrough_34 : decode cX2_isLetThrough 34 = .ok (.pop, 1) := by decide +kernel
theorem dX2_isLetThrough_35 : decode cX2_isLetThrough 35 = .ok (.aload_n 0, 1) := by decide +kernel
theorem dX2_isLetThrough_36 : decode cX2_isLetThrough 36 = .ok (.getfield 42, 3) := by decide +kernel
theorem dX2_isLetThrough_39 : decode cX2_isLetThrough 39 = .ok (.ifCond .ne 7, 3) := by decide +kernel
theorem dX2_isLetThrough_42 : decode cX2_isLetThrough 42 = .ok (.iconst 1, 1) := by decide +kernel
theorem dX2_isLetThrough_43 : decode cX2_isLetThrough 43 = .ok (.goto 4, 3) := by decide +kernel
theorem dX2_isLetThrough_46 : decode cX2_isLetThrough 46 = .ok (.iconst 0, 1) := by decide +kernel
theorem dX2_isLetThrough_47 : decode cX2_isLetThrough 47 = .ok (.ireturn, 1) := by decide +kernel
set_option maxRecDepth 20000 in
theorem ggX2_lid_X2_isSlot : GoodIn wsX2_lid wsX2_isSlot := goodIn_r _ [7, 8, 9, 6, 10] (by decide +kernel) (by decide +kernel)
set_option maxRecDepth 20000 in
theorem gX2_lid_X2_isSlot : GoodIn wsX2_lid (va_wsS RX2 57 yX2_isSlot wsX2_isSlot) := goodIn_app (goodIn_of _ (by decide +kernel)) ggX2_lid_X2_isSlot
set_option maxRecDepth 20000 in
theorem ggX2_lid_X2_isLetThrough : GoodIn wsX2_lid wsX2_isLetThrough := goodIn_r _ [14, 3, 1, 15, 16, 17, 6, 18, 19, 20, 21, 22, 23, 24, 25, 26, 27, 28, 29, 30, 31, 32, 33, 34, 35, 36, 37, 38, 39, 40, 41, 42, 43, 44, 45, 46, 47] (by decide +kernel) (by decide +kernel)
set_option maxRecDepth 20000 in
theorem gX2_lid_X2_isLetThrough : GoodIn wsX2_lid (wsV RX2 104 RX2 yX2_isLetThrough wsX2_isLetThrough) := goodIn_app (goodIn_of _ (by decide +kernel)) ggX2_lid_X2_isLetThrough
theorem dX2_lid_0 : decode cX2_lid 0 = .ok (.aload_n 0, 1) := by decide +kernel
theorem dX2_lid_1 : decode cX2_lid 1 = .ok (.iconst 0, 1) := by decide +kernel
theorem dX2_lid_2 : decode cX2_lid 2 = .ok (.putfield 42, 3) := by decide +kernel
theorem dX2_lid_5 : decode cX2_lid 5 = .ok (.iload_n 1, 1) := by decide +kernel
theorem dX2_lid_6 : decode cX2_lid 6 = .ok (.invokestatic 57, 3) := by decide +kernel
theorem dX2_lid_9 : decode cX2_lid 9 = .ok (.ifCond .ne 6, 3) := by decide +kernel
theorem dX2_lid_12 : decode cX2_lid 12 = .ok (.bipush (-2), 2) := by decide +kernel
theorem dX2_lid_14 : decode cX2_lid 14 = .ok (.ireturn, 1) := by decide +kernel
theorem dX2_lid_15 : decode cX2_lid 15 = .ok (.aload_n 0, 1) := by decide +kernel
theorem dX2_lid_16 : decode cX2_lid 16 = .ok (.iload_n 1, 1) := by decide +kernel
theorem dX2_lid_17 : decode cX2_lid 17 = .ok (.bipush 10, 2) := by decide +kernel
theorem dX2_lid_19 : decode cX2_lid 19 = .ok (.invokevirtual 104, 3) := by decide +kernel
theorem dX2_lid_22 : decode cX2_lid 22 = .ok (.ifCond .ne 5, 3) := by decide +kernel
theorem dX2_lid_25 : decode cX2_lid 25 = .ok (.iconst 0, 1) := by decide +kernel
theorem dX2_lid_26 : decode cX2_lid 26 = .ok (.ireturn, 1) := by decide +kernel
theorem dX2_lid_27 : decode cX2_lid 27 = .ok (.aload_n 0, 1) := by decide +kernel
theorem dX2_lid_28 : decode cX2_lid 28 = .ok (.getfield 16, 3) := by decide +kernel
theorem dX2_lid_31 : decode cX2_lid 31 = .ok (.aload_n 0, 1) := by decide +kernel
theorem dX2_lid_32 : decode cX2_lid 32 = .ok (.getfield 24, 3) := by decide +kernel
theorem dX2_lid_35 : decode cX2_lid 35 = .ok (.iload_n 1, 1) := by decide +kernel
theorem dX2_lid_36 : decode cX2_lid 36 = .ok (.iaload, 1) := by decide +kernel
theorem dX2_lid_37 : decode cX2_lid 37 = .ok (.baload, 1) := by decide +kernel
theorem dX2_lid_38 : decode cX2_lid 38 = .ok (.ifCond .eq 7, 3) := by decide +kernel
theorem dX2_lid_41 : decode cX2_lid 41 = .ok (.iconst 1, 1) := by decide +kernel
theorem dX2_lid_42 : decode cX2_lid 42 = .ok (.goto 4, 3) := by decide +kernel
theorem dX2_lid_45 : decode cX2_lid 45 = .ok (.iconst 0, 1) := by decide +kernel
theorem dX2_lid_46 : decode cX2_lid 46 = .ok (.istore_n 3, 1) := by decide +kernel
theorem dX2_lid_47 : decode cX2_lid 47 = .ok (.aload_n 0, 1) := by decide +kernel
theorem dX2_lid_48 : decode cX2_lid 48 = .ok (.getfield 16, 3) := by decide +kernel
theorem dX2_lid_51 : decode cX2_lid 51 = .ok (.aload_n 0, 1) := by decide +kernel
theorem dX2_lid_52 : decode cX2_lid 52 = .ok (.getfield 24, 3) := by decide +kernel
theorem dX2_lid_55 : decode cX2_lid 55 = .ok (.iload_n 1, 1) := by decide +kernel
theorem dX2_lid_56 : decode cX2_lid 56 = .ok (.iaload, 1) := by decide +kernel
theorem dX2_lid_57 : decode cX2_lid 57 = .ok (.iload_n 2, 1) := by decide +kernel
theorem dX2_lid_58 : decode cX2_lid 58 = .ok (.bastore, 1) := by decide +kernel
theorem dX2_lid_59 : decode cX2_lid 59 = .ok (.iload_n 3, 1) := by decide +kernel
theorem dX2_lid_60 : decode cX2_lid 60 = .ok (.ireturn, 1) := by decide +kernel
set_option maxRecDepth 20000 in
theorem ggX2_weigh_X2_isSlot : GoodIn wsX2_weigh wsX2_isSlot := goodIn_r _ [8, 9, 10, 7, 11] (by decide +kernel) (by decide +kernel)
set_option maxRecDepth 20000 in
theorem gX2_weigh_X2_isSlot : GoodIn wsX2_weigh (va_wsS RX2 57 yX2_isSlot wsX2_isSlot) := goodIn_app (goodIn_of _ (by decide +kernel)) ggX2_weigh_X2_isSlot
set_option maxRecDepth 20000 in
theorem ggX2_weigh_X2_isIn : GoodIn wsX2_weigh wsX2_isIn := goodIn_r _ [11] (by decide +kernel) (by decide +kernel)
set_option maxRecDepth 20000 in
theorem gX2_weigh_X2_isIn : GoodIn wsX2_weigh (va_wsS RX2 34 yX2_isIn wsX2_isIn) := goodIn_app (goodIn_of _ (by decide +kernel)) ggX2_weigh_X2_isIn
set_option maxRecDepth 20000 in
theorem ggX2_weigh_X2_isLetThrough : GoodIn wsX2_weigh wsX2_isLetThrough := goodIn_r _ [15, 4, 1, 16, 17, 18, 7, 19, 20, 21, 22, 23, 24, 25, 26, 27, 28, 29, 30, 31, 32, 33, 34, 35, 36, 37, 38, 39, 40, 41, 42, 43, 44, 45, 46, 47, 48] (by decide +kernel) (by decide +kernel)
set_option maxRecDepth 20000 in
theorem gX2_weigh_X2_isLetThrough : GoodIn wsX2_weigh (wsV RX2 104 RX2 yX2_isLetThrough wsX2_isLetThrough) := goodIn_app (goodIn_of _ (by decide +kernel)) ggX2_weigh_X2_isLetThrough
theorem dX2_weigh_0 : decode cX2_weigh 0 = .ok (.aload_n 0, 1) := by decide +kernel
theorem dX2_weigh_1 : decode cX2_weigh 1 = .ok (.iconst 0, 1) := by decide +kernel
theorem dX2_weigh_2 : decode cX2_weigh 2 = .ok (.putfield 42, 3) := by decide +kernel
theorem dX2_weigh_5 : decode cX2_weigh 5 = .ok (.iload_n 1, 1) := by decide +kernel
theorem dX2_weigh_6 : decode cX2_weigh 6 = .ok (.invokestatic 57, 3) := by decide +kernel
theorem dX2_weigh_9 : decode cX2_weigh 9 = .ok (.ifCond .eq 13, 3) := by decide +kernel
theorem dX2_weigh_12 : decode cX2_weigh 12 = .ok (.iload_n 2, 1) := by decide +kernel
theorem dX2_weigh_13 : decode cX2_weigh 13 = .ok (.iconst 0, 1) := by decide +kernel
theorem dX2_weigh_14 : decode cX2_weigh 14 = .ok (.ldc 56, 2) := by decide +kernel
theorem dX2_weigh_16 : decode cX2_weigh 16 = .ok (.invokestatic 34, 3) := by decide +kernel
theorem dX2_weigh_19 : decode cX2_weigh 19 = .ok (.ifCond .ne 6, 3) := by decide +kernel
theorem dX2_weigh_22 : decode cX2_weigh 22 = .ok (.bipush (-2), 2) := by decide +kernel
theorem dX2_weigh_24 : decode cX2_weigh 24 = .ok (.ireturn, 1) := by decide +kernel
theorem dX2_weigh_25 : decode cX2_weigh 25 = .ok (.aload_n 0, 1) := by decide +kernel
theorem dX2_weigh_26 : decode cX2_weigh 26 = .ok (.iload_n 1, 1) := by decide +kernel
theorem dX2_weigh_27 : decode cX2_weigh 27 = .ok (.bipush 9, 2) := by decide +kernel
theorem dX2_weigh_29 : decode cX2_weigh 29 = .ok (.invokevirtual 104, 3) := by decide +kernel
theorem dX2_weigh_32 : decode cX2_weigh 32 = .ok (.ifCond .ne 5, 3) := by decide +kernel
theorem dX2_weigh_35 : decode cX2_weigh 35 = .ok (.iconst 0, 1) := by decide +kernel
theorem dX2_weigh_36 : decode cX2_weigh 36 = .ok (.ireturn, 1) := by decide +kernel
theorem dX2_weigh_37 : decode cX2_weigh 37 = .ok (.aload_n 0, 1) := by decide +kernel
theorem dX2_weigh_38 : decode cX2_weigh 38 = .ok (.getfield 13, 3) := by decide +kernel
theorem dX2_weigh_41 : decode cX2_weigh 41 = .ok (.aload_n 0, 1) := by decide +kernel
theorem dX2_weigh_42 : decode cX2_weigh 42 = .ok (.getfield 24, 3) := by decide +kernel
theorem dX2_weigh_45 : decode cX2_weigh 45 = .ok (.iload_n 1, 1) := by decide +kernel
theorem dX2_weigh_46 : decode cX2_weigh 46 = .ok (.iaload, 1) := by decide +kernel
theorem dX2_weigh_47 : decode cX2_weigh 47 = .ok (.iaload, 1) := by decide +kernel
theorem dX2_weigh_48 : decode cX2_weigh 48 = .ok (.istore_n 3, 1) := by decide +kernel
theorem dX2_weigh_49 : decode cX2_weigh 49 = .ok (.aload_n 0, 1) := by decide +kernel
theorem dX2_weigh_50 : decode cX2_weigh 50 = .ok (.getfield 13, 3) := by decide +kernel
theorem dX2_weigh_53 : decode cX2_weigh 53 = .ok (.aload_n 0, 1) := by decide +kernel
theorem dX2_weigh_54 : decode cX2_weigh 54 = .ok (.getfield 24, 3) := by decide +kernel
theorem dX2_weigh_57 : decode cX2_weigh 57 = .ok (.iload_n 1, 1) := by decide +kernel
theorem dX2_weigh_58 : decode cX2_weigh 58 = .ok (.iaload, 1) := by decide +kernel
theorem dX2_weigh_59 : decode cX2_weigh 59 = .ok (.iload_n 2, 1) := by decide +kernel
theorem dX2_weigh_60 : decode cX2_weigh 60 = .ok (.iastore, 1) := by decide +kernel
theorem dX2_weigh_61 : decode cX2_weigh 61 = .ok (.iload_n 3, 1) := by decide +kernel
theorem dX2_weigh_62 : decode cX2_weigh 62 = .ok (.ireturn, 1) := by decide +kernel
set_option maxRecDepth 20000 in
theorem ggX2_size_X2_isSlot : GoodIn wsX2_size wsX2_isSlot := goodIn_r _ [8, 9, 10, 7, 11] (by decide +kernel) (by decide +kernel)
set_option maxRecDepth 20000 in
theorem gX2_size_X2_isSlot : GoodIn wsX2_size (va_wsS RX2 57 yX2_isSlot wsX2_isSlot) := goodIn_app (goodIn_of _ (by decide +kernel)) ggX2_size_X2_isSlot
set_option maxRecDepth 20000 in
theorem ggX2_size_X2_fails : GoodIn wsX2_size wsX2_fails := goodIn_r _ [15, 1, 27, 28, 29, 30, 31, 32, 33, 34, 35, 36] (by decide +kernel) (by decide +kernel)
set_option maxRecDepth 20000 in
theorem gX2_size_X2_fails : GoodIn wsX2_size (wsV RX2 52 RX2 yX2_fails wsX2_fails) := goodIn_app (goodIn_of _ (by decide +kernel)) ggX2_size_X2_fails
set_option maxRecDepth 20000 in
theorem ggX2_size_X2_turns : GoodIn wsX2_size wsX2_turns := goodIn_r _ [19, 20, 21, 22, 7, 23, 24, 25, 26, 12, 13, 14, 15, 1, 27, 28, 29, 30, 31, 32, 33, 34, 35, 36] (by decide +kernel) (by decide +kernel)
set_option maxRecDepth 20000 in
theorem gX2_size_X2_turns : GoodIn wsX2_size (wsV RX2 87 RX2 yX2_turns wsX2_turns) := goodIn_app (goodIn_of _ (by decide +kernel)) ggX2_size_X2_turns
theorem dX2_size_0 : decode cX2_size 0 = .ok (.aload_n 0, 1) := by decide +kernel
theorem dX2_size_1 : decode cX2_size 1 = .ok (.iconst 0, 1) := by decide +kernel
theorem dX2_size_2 : decode cX2_size 2 = .ok (.putfield 42, 3) := by decide +kernel
theorem dX2_size_5 : decode cX2_size 5 = .ok (.iload_n 1, 1) := by decide +kernel
theorem dX2_size_6 : decode cX2_size 6 = .ok (.invokestatic 57, 3) := by decide +kernel
theorem dX2_size_9 : decode cX2_size 9 = .ok (.ifCond .ne 6, 3) := by decide +kernel
theorem dX2_size_12 : decode cX2_size 12 = .ok (.bipush (-2), 2) := by decide +kernel
theorem dX2_size_14 : decode cX2_size 14 = .ok (.ireturn, 1) := by decide +kernel
theorem dX2_size_15 : decode cX2_size 15 = .ok (.aload_n 0, 1) := by decide +kernel
theorem dX2_size_16 : decode cX2_size 16 = .ok (.getfield 24, 3) := by decide +kernel
theorem dX2_size_19 : decode cX2_size 19 = .ok (.iload_n 1, 1) := by decide +kernel
theorem dX2_size_20 : decode cX2_size 20 = .ok (.iaload, 1) := by decide +kernel
theorem dX2_size_21 : decode cX2_size 21 = .ok (.iconst (-1), 1) := by decide +kernel
theorem dX2_size_22 : decode cX2_size 22 = .ok (.if_icmp .ne 9, 3) := by decide +kernel
theorem dX2_size_25 : decode cX2_size 25 = .ok (.aload_n 0, 1) := by decide +kernel
theorem dX2_size_26 : decode cX2_size 26 = .ok (.iconst 2, 1) := by decide +kernel
theorem dX2_size_27 : decode cX2_size 27 = .ok (.invokevirtual 52, 3) := by decide +kernel
theorem dX2_size_30 : decode cX2_size 30 = .ok (.ireturn, 1) := by decide +kernel
theorem dX2_size_31 : decode cX2_size 31 = .ok (.aload_n 0, 1) := by decide +kernel
theorem dX2_size_32 : decode cX2_size 32 = .ok (.getfield 7, 3) := by decide +kernel
theorem dX2_size_35 : decode cX2_size 35 = .ok (.aload_n 0, 1) := by decide +kernel
theorem dX2_size_36 : decode cX2_size 36 = .ok (.getfield 24, 3) := by decide +kernel
theorem dX2_size_39 : decode cX2_size 39 = .ok (.iload_n 1, 1) := by decide +kernel
theorem dX2_size_40 : decode cX2_size 40 = .ok (.iaload, 1) := by decide +kernel
theorem dX2_size_41 : decode cX2_size 41 = .ok (.iaload, 1) := by decide +kernel
theorem dX2_size_42 : decode cX2_size 42 = .ok (.bipush 9, 2) := by decide +kernel
theorem dX2_size_44 : decode cX2_size 44 = .ok (.if_icmp .ge 17, 3) := by decide +kernel
theorem dX2_size_47 : decode cX2_size 47 = .ok (.aload_n 0, 1) := by decide +kernel
theorem dX2_size_48 : decode cX2_size 48 = .ok (.getfield 13, 3) := by decide +kernel
theorem dX2_size_51 : decode cX2_size 51 = .ok (.aload_n 0, 1) := by decide +kernel
theorem dX2_size_52 : decode cX2_size 52 = .ok (.getfield 24, 3) := by decide +kernel
theorem dX2_size_55 : decode cX2_size 55 = .ok (.iload_n 1, 1) := by decide +kernel
theorem dX2_size_56 : decode cX2_size 56 = .ok (.iaload, 1) := by decide +kernel
theorem dX2_size_57 : decode cX2_size 57 = .ok (.iaload, 1) := by decide +kernel
theorem dX2_size_58 : decode cX2_size 58 = .ok (.goto 10, 3) := by decide +kernel
theorem dX2_size_61 : decode cX2_size 61 = .ok (.aload_n 0, 1) := by decide +kernel
theorem dX2_size_62 : decode cX2_size 62 = .ok (.iload_n 1, 1) := by decide +kernel
theorem dX2_size_63 : decode cX2_size 63 = .ok (.bipush 8, 2) := by decide +kernel
theorem dX2_size_65 : decode cX2_size 65 = .ok (.invokevirtual 87, 3) := by decide +kernel
theorem dX2_size_68 : decode cX2_size 68 = .ok (.ireturn, 1) := by decide +kernel
set_option maxRecDepth 20000 in
theorem ggX2_at_X2_isSlot : GoodIn wsX2_at wsX2_isSlot := goodIn_r _ [5, 6, 7, 4, 8] (by decide +kernel) (by decide +kernel)
set_option maxRecDepth 20000 in
theorem gX2_at_X2_isSlot : GoodIn wsX2_at (va_wsS RX2 57 yX2_isSlot wsX2_isSlot) := goodIn_app (goodIn_of _ (by decide +kernel)) ggX2_at_X2_isSlot
theorem dX2_at_0 : decode cX2_at 0 = .ok (.iload_n 1, 1) := by decide +kernel
theorem dX2_at_1 : decode cX2_at 1 = .ok (.invokestatic 57, 3) := by decide +kernel
theorem dX2_at_4 : decode cX2_at 4 = .ok (.ifCond .eq 12, 3) := by decide +kernel
theorem dX2_at_7 : decode cX2_at 7 = .ok (.aload_n 0, 1) := by decide +kernel
theorem dX2_at_8 : decode cX2_at 8 = .ok (.getfield 24, 3) := by decide +kernel
theorem dX2_at_11 : decode cX2_at 11 = .ok (.iload_n 1, 1) := by decide +kernel
theorem dX2_at_12 : decode cX2_at 12 = .ok (.iaload, 1) := by decide +kernel
theorem dX2_at_13 : decode cX2_at 13 = .ok (.goto 5, 3) := by decide +kernel
theorem dX2_at_16 : decode cX2_at 16 = .ok (.bipush (-2), 2) := by decide +kernel
theorem dX2_at_18 : decode cX2_at 18 = .ok (.ireturn, 1) := by decide +kernel
theorem dX2_fault_0 : decode cX2_fault 0 = .ok (.aload_n 0, 1) := by decide +kernel
theorem dX2_fault_1 : decode cX2_fault 1 = .ok (.getfield 42, 3) := by decide +kernel
theorem dX2_fault_4 : decode cX2_fault 4 = .ok (.ireturn, 1) := by decide +kernel
theorem dX2_told_0 : decode cX2_told 0 = .ok (.iload_n 1, 1) := by decide +kernel
theorem dX2_told_1 : decode cX2_told 1 = .ok (.ifCond .ne 10, 3) := by decide +kernel
theorem dX2_told_4 : decode cX2_told 4 = .ok (.aload_n 0, 1) := by decide +kernel
theorem dX2_told_5 : decode cX2_told 5 = .ok (.getfield 45, 3) := by decide +kernel
theorem dX2_told_8 : decode cX2_told 8 = .ok (.goto 29, 3) := by decide +kernel
theorem dX2_told_11 : decode cX2_told 11 = .ok (.iload_n 1, 1) := by decide +kernel
theorem dX2_told_12 : decode cX2_told 12 = .ok (.iconst 1, 1) := by decide +kernel
theorem dX2_told_13 : decode cX2_told 13 = .ok (.if_icmp .ne 10, 3) := by decide +kernel
theorem dX2_told_16 : decode cX2_told 16 = .ok (.aload_n 0, 1) := by decide +kernel
theorem dX2_told_17 : decode cX2_told 17 = .ok (.getfield 27, 3) := by decide +kernel
theorem dX2_told_20 : decode cX2_told 20 = .ok (.goto 17, 3) := by decide +kernel
theorem dX2_told_23 : decode cX2_told 23 = .ok (.iload_n 1, 1) := by decide +kernel
theorem dX2_told_24 : decode cX2_told 24 = .ok (.iconst 2, 1) := by decide +kernel
theorem dX2_told_25 : decode cX2_told 25 = .ok (.if_icmp .ne 10, 3) := by decide +kernel
theorem dX2_told_28 : decode cX2_told 28 = .ok (.aload_n 0, 1) := by decide +kernel
theorem dX2_told_29 : decode cX2_told 29 = .ok (.getfield 31, 3) := by decide +kernel
theorem dX2_told_32 : decode cX2_told 32 = .ok (.goto 5, 3) := by decide +kernel
theorem dX2_told_35 : decode cX2_told 35 = .ok (.bipush (-2), 2) := by decide +kernel
theorem dX2_told_37 : decode cX2_told 37 = .ok (.ireturn, 1) := by decide +kernel
theorem dX2_count_0 : decode cX2_count 0 = .ok (.aload_n 0, 1) := by decide +kernel
theorem dX2_count_1 : decode cX2_count 1 = .ok (.getfield 61, 3) := by decide +kernel
theorem dX2_count_4 : decode cX2_count 4 = .ok (.ireturn, 1) := by decide +kernel
end
section
set_option maxRecDepth 20000 in
theorem ggL_law_X1_init : GoodIn wsL_law wsX1_init := goodIn_r _ [9, 10, 11, 12, 13, 14, 15, 16, 17, 18, 19, 342, 343, 344, 345, 346, 347] (by decide +kernel) (by decide +kernel)
set_option maxRecDepth 20000 in
theorem gL_law_X1_init : GoodIn wsL_law (wsX1_init) := ggL_law_X1_init
set_option maxRecDepth 20000 in
theorem ggL_law_X2_init : GoodIn wsL_law wsX2_init := goodIn_r _ [22, 23, 11, 12, 24, 25, 26, 27, 28, 29, 30, 31, 32, 33, 348, 349, 350, 351, 352, 353, 354, 355, 356, 357] (by decide +kernel) (by decide +kernel)
set_option maxRecDepth 20000 in
theorem gL_law_X2_init : GoodIn wsL_law (wsX2_init) := ggL_law_X2_init
set_option maxRecDepth 20000 in
theorem ggL_law_X1_make : GoodIn wsL_law wsX1_make := goodIn_r _ [37, 16, 15, 14, 13, 38, 39, 40, 41, 2, 42, 43, 44, 45, 46, 47, 48, 49, 50, 51, 52, 53, 54, 55, 56, 57, 58, 59, 11, 12, 60, 61, 29, 62, 63, 64, 65, 66, 342, 343, 344, 345, 346, 347, 358, 359, 360, 361, 362, 363] (by decide +kernel) (by decide +kernel)
set_option maxRecDepth 20000 in
theorem gL_law_X1_make : GoodIn wsL_law (wsV RL 13 RX1 yX1_make wsX1_make) := goodIn_app (goodIn_of _ (by decide +kernel)) ggL_law_X1_make
set_option maxRecDepth 20000 in
theorem ggL_law_X2_make : GoodIn wsL_law wsX2_make := goodIn_r _ [70, 71, 72, 73, 25, 26, 28, 30, 74, 31, 75, 76, 5, 77, 78, 79, 80, 81, 82, 83, 348, 349, 350, 351, 352, 353, 354, 355, 356, 357] (by decide +kernel) (by decide +kernel)
set_option maxRecDepth 20000 in
theorem gL_law_X2_make : GoodIn wsL_law (wsV RL 17 RX2 yX2_make wsX2_make) := goodIn_app (goodIn_of _ (by decide +kernel)) ggL_law_X2_make
set_option maxRecDepth 20000 in
theorem ggL_law_X1_fits : GoodIn wsL_law wsX1_fits := goodIn_r _ [87, 16, 14, 43, 44, 2, 45, 88, 89, 90, 91, 92, 93, 94, 342, 343, 344, 345, 346, 347, 358, 359, 360, 361, 362, 363] (by decide +kernel) (by decide +kernel)
set_option maxRecDepth 20000 in
theorem gL_law_X1_fits : GoodIn wsL_law (wsV RL 18 RX1 yX1_fits wsX1_fits) := goodIn_app (goodIn_of _ (by decide +kernel)) ggL_law_X1_fits
set_option maxRecDepth 20000 in
theorem ggL_law_X2_fits : GoodIn wsL_law wsX2_fits := goodIn_r _ [98, 71, 78, 79, 5, 80, 75, 76, 77, 99, 100, 101, 102, 31, 25, 103, 104, 105, 348, 349, 350, 351, 352, 353, 354, 355, 356, 357] (by decide +kernel) (by decide +kernel)
set_option maxRecDepth 20000 in
theorem gL_law_X2_fits : GoodIn wsL_law (wsV RL 22 RX2 yX2_fits wsX2_fits) := goodIn_app (goodIn_of _ (by decide +kernel)) ggL_law_X2_fits
set_option maxRecDepth 20000 in
theorem ggL_law_X1_pass : GoodIn wsL_law wsX1_pass := goodIn_r _ [109, 16, 43, 44, 2, 45, 88, 89, 90, 110, 111, 112, 113, 114, 115, 116, 117, 14, 91, 92, 93, 94, 118, 119, 120, 121, 122, 123, 124, 125, 17, 18, 19, 126, 127, 128, 129, 130, 131, 132, 133, 134, 135, 136, 137, 138, 139, 140, 141, 142, 143, 144, 145, 146, 147, 148, 149, 150, 151, 152, 153, 154, 155, 156, 342, 343, 344, 345, 346, 347, 358, 359, 360, 361, 362, 363] (by decide +kernel) (by decide +kernel)
set_option maxRecDepth 20000 in
theorem gL_law_X1_pass : GoodIn wsL_law (wsV RL 23 RX1 yX1_pass wsX1_pass) := goodIn_app (goodIn_of _ (by decide +kernel)) ggL_law_X1_pass
set_option maxRecDepth 20000 in
theorem ggL_law_X2_pass : GoodIn wsL_law wsX2_pass := goodIn_r _ [160, 71, 31, 78, 79, 5, 80, 75, 76, 77, 161, 162, 163, 164, 99, 100, 101, 102, 25, 103, 104, 105, 165, 166, 167, 168, 169, 170, 171, 172, 173, 32, 33, 174, 175, 176, 177, 26, 28, 178, 179, 180, 181, 30, 182, 183, 184, 185, 186, 187, 188, 189, 190, 191, 192, 193, 348, 349, 350, 351, 352, 353, 354, 355, 356, 357] (by decide +kernel) (by decide +kernel)
set_option maxRecDepth 20000 in
theorem gL_law_X2_pass : GoodIn wsL_law (wsV RL 27 RX2 yX2_pass wsX2_pass) := goodIn_app (goodIn_of _ (by decide +kernel)) ggL_law_X2_pass
set_option maxRecDepth 20000 in
theorem ggL_law_X1_seek : GoodIn wsL_law wsX1_seek := goodIn_r _ [197, 16, 14, 43, 44, 2, 45, 88, 89, 90, 91, 92, 93, 94, 122, 123, 124, 125, 17, 18, 19, 342, 343, 344, 345, 346, 347, 358, 359, 360, 361, 362, 363] (by decide +kernel) (by decide +kernel)
set_option maxRecDepth 20000 in
theorem gL_law_X1_seek : GoodIn wsL_law (wsV RL 28 RX1 yX1_seek wsX1_seek) := goodIn_app (goodIn_of _ (by decide +kernel)) ggL_law_X1_seek
set_option maxRecDepth 20000 in
theorem ggL_law_X2_seek : GoodIn wsL_law wsX2_seek := goodIn_r _ [201, 71, 78, 79, 5, 80, 75, 76, 77, 202, 203, 204, 205, 99, 100, 101, 102, 31, 25, 103, 104, 105, 169, 170, 171, 172, 173, 32, 33, 348, 349, 350, 351, 352, 353, 354, 355, 356, 357] (by decide +kernel) (by decide +kernel)
set_option maxRecDepth 20000 in
theorem gL_law_X2_seek : GoodIn wsL_law (wsV RL 31 RX2 yX2_seek wsX2_seek) := goodIn_app (goodIn_of _ (by decide +kernel)) ggL_law_X2_seek
set_option maxRecDepth 20000 in
theorem ggL_law_X1_put : GoodIn wsL_law wsX1_put := goodIn_r _ [209, 16, 145, 94, 43, 44, 2, 45, 210, 211, 212, 213, 14, 50, 51, 52, 114, 115, 116, 117, 110, 111, 112, 113, 91, 92, 93, 118, 119, 120, 121, 122, 123, 124, 125, 17, 18, 19, 214, 215, 216, 342, 343, 344, 345, 346, 347, 358, 359, 360, 361, 362, 363] (by decide +kernel) (by decide +kernel)
set_option maxRecDepth 20000 in
theorem gL_law_X1_put : GoodIn wsL_law (wsV RL 34 RX1 yX1_put wsX1_put) := goodIn_app (goodIn_of _ (by decide +kernel)) ggL_law_X1_put
set_option maxRecDepth 20000 in
theorem ggL_law_X2_put : GoodIn wsL_law wsX2_put := goodIn_r _ [220, 71, 25, 31, 30, 78, 79, 5, 80, 75, 76, 77, 221, 222, 223, 224, 26, 161, 162, 163, 164, 165, 166, 167, 168, 169, 170, 171, 172, 173, 32, 33, 348, 349, 350, 351, 352, 353, 354, 355, 356, 357] (by decide +kernel) (by decide +kernel)
set_option maxRecDepth 20000 in
theorem gL_law_X2_put : GoodIn wsL_law (wsV RL 38 RX2 yX2_put wsX2_put) := goodIn_app (goodIn_of _ (by decide +kernel)) ggL_law_X2_put
set_option maxRecDepth 20000 in
theorem ggL_law_X1_get : GoodIn wsL_law wsX1_get := goodIn_r _ [228, 16, 145, 43, 44, 2, 45, 110, 111, 112, 113, 210, 211, 212, 213, 14, 94, 50, 51, 52, 114, 115, 116, 117, 91, 92, 93, 118, 119, 120, 121, 122, 123, 124, 125, 17, 18, 19, 342, 343, 344, 345, 346, 347, 358, 359, 360, 361, 362, 363] (by decide +kernel) (by decide +kernel)
set_option maxRecDepth 20000 in
theorem gL_law_X1_get : GoodIn wsL_law (wsV RL 39 RX1 yX1_get wsX1_get) := goodIn_app (goodIn_of _ (by decide +kernel)) ggL_law_X1_get
set_option maxRecDepth 20000 in
theorem ggL_law_X2_get : GoodIn wsL_law wsX2_get := goodIn_r _ [232, 71, 30, 31, 78, 79, 5, 80, 75, 76, 77, 161, 162, 163, 164, 221, 222, 223, 224, 25, 26, 165, 166, 167, 168, 169, 170, 171, 172, 173, 32, 33, 348, 349, 350, 351, 352, 353, 354, 355, 356, 357] (by decide +kernel) (by decide +kernel)
set_option maxRecDepth 20000 in
theorem gL_law_X2_get : GoodIn wsL_law (wsV RL 42 RX2 yX2_get wsX2_get) := goodIn_app (goodIn_of _ (by decide +kernel)) ggL_law_X2_get
set_option maxRecDepth 20000 in
theorem ggL_law_X1_lay : GoodIn wsL_law wsX1_lay := goodIn_r _ [236, 16, 14, 94, 129, 43, 44, 2, 45, 237, 238, 239, 240, 53, 54, 55, 114, 115, 116, 117, 110, 111, 112, 113, 91, 92, 93, 118, 119, 120, 121, 122, 123, 124, 125, 17, 18, 19, 241, 242, 243, 244, 245, 246, 342, 343, 344, 345, 346, 347, 358, 359, 360, 361, 362, 363] (by decide +kernel) (by decide +kernel)
set_option maxRecDepth 20000 in
theorem gL_law_X1_lay : GoodIn wsL_law (wsV RL 43 RX1 yX1_lay wsX1_lay) := goodIn_app (goodIn_of _ (by decide +kernel)) ggL_law_X1_lay
set_option maxRecDepth 20000 in
theorem ggL_law_X2_lay : GoodIn wsL_law wsX2_lay := goodIn_r _ [250, 71, 31, 25, 26, 30, 78, 79, 5, 80, 75, 76, 77, 161, 162, 163, 164, 81, 82, 83, 165, 166, 167, 168, 169, 170, 171, 172, 173, 32, 33, 103, 104, 105, 251, 252, 253, 348, 349, 350, 351, 352, 353, 354, 355, 356, 357] (by decide +kernel) (by decide +kernel)
set_option maxRecDepth 20000 in
theorem gL_law_X2_lay : GoodIn wsL_law (wsV RL 46 RX2 yX2_lay wsX2_lay) := goodIn_app (goodIn_of _ (by decide +kernel)) ggL_law_X2_lay
set_option maxRecDepth 20000 in
theorem ggL_law_X1_take : GoodIn wsL_law wsX1_take := goodIn_r _ [257, 16, 129, 14, 43, 44, 2, 45, 237, 238, 239, 240, 94, 53, 54, 55, 114, 115, 116, 117, 110, 111, 112, 113, 91, 92, 93, 118, 119, 120, 121, 122, 123, 124, 125, 17, 18, 19, 258, 259, 260, 261, 342, 343, 344, 345, 346, 347, 358, 359, 360, 361, 362, 363] (by decide +kernel) (by decide +kernel)
set_option maxRecDepth 20000 in
theorem gL_law_X1_take : GoodIn wsL_law (wsV RL 47 RX1 yX1_take wsX1_take) := goodIn_app (goodIn_of _ (by decide +kernel)) ggL_law_X1_take
set_option maxRecDepth 20000 in
theorem ggL_law_X2_take : GoodIn wsL_law wsX2_take := goodIn_r _ [265, 71, 31, 25, 26, 30, 78, 79, 5, 80, 75, 76, 77, 161, 162, 163, 164, 81, 82, 83, 165, 166, 167, 168, 169, 170, 171, 172, 173, 32, 33, 348, 349, 350, 351, 352, 353, 354, 355, 356, 357] (by decide +kernel) (by decide +kernel)
set_option maxRecDepth 20000 in
theorem gL_law_X2_take : GoodIn wsL_law (wsV RL 50 RX2 yX2_take wsX2_take) := goodIn_app (goodIn_of _ (by decide +kernel)) ggL_law_X2_take
set_option maxRecDepth 20000 in
theorem ggL_law_X1_share : GoodIn wsL_law wsX1_share := goodIn_r _ [269, 16, 14, 43, 44, 2, 45, 258, 259, 260, 261, 342, 343, 344, 345, 346, 347, 358, 359, 360, 361, 362, 363] (by decide +kernel) (by decide +kernel)
set_option maxRecDepth 20000 in
theorem gL_law_X1_share : GoodIn wsL_law (wsV RL 51 RX1 yX1_share wsX1_share) := goodIn_app (goodIn_of _ (by decide +kernel)) ggL_law_X1_share
set_option maxRecDepth 20000 in
theorem ggL_law_X2_share : GoodIn wsL_law wsX2_share := goodIn_r _ [273, 71, 31, 78, 79, 5, 80, 75, 76, 77, 348, 349, 350, 351, 352, 353, 354, 355, 356, 357] (by decide +kernel) (by decide +kernel)
set_option maxRecDepth 20000 in
theorem gL_law_X2_share : GoodIn wsL_law (wsV RL 54 RX2 yX2_share wsX2_share) := goodIn_app (goodIn_of _ (by decide +kernel)) ggL_law_X2_share
set_option maxRecDepth 20000 in
theorem ggL_law_X1_empty : GoodIn wsL_law wsX1_empty := goodIn_r _ [277, 16, 14, 43, 44, 2, 45, 258, 259, 260, 261, 342, 343, 344, 345, 346, 347, 358, 359, 360, 361, 362, 363] (by decide +kernel) (by decide +kernel)
set_option maxRecDepth 20000 in
theorem gL_law_X1_empty : GoodIn wsL_law (wsV RL 55 RX1 yX1_empty wsX1_empty) := goodIn_app (goodIn_of _ (by decide +kernel)) ggL_law_X1_empty
set_option maxRecDepth 20000 in
theorem ggL_law_X2_empty : GoodIn wsL_law wsX2_empty := goodIn_r _ [281, 71, 31, 78, 79, 5, 80, 75, 76, 77, 348, 349, 350, 351, 352, 353, 354, 355, 356, 357] (by decide +kernel) (by decide +kernel)
set_option maxRecDepth 20000 in
theorem gL_law_X2_empty : GoodIn wsL_law (wsV RL 59 RX2 yX2_empty wsX2_empty) := goodIn_app (goodIn_of _ (by decide +kernel)) ggL_law_X2_empty
set_option maxRecDepth 20000 in
theorem ggL_law_X1_lid : GoodIn wsL_law wsX1_lid := goodIn_r _ [285, 16, 156, 43, 44, 2, 45, 114, 115, 116, 117, 14, 110, 111, 112, 113, 91, 92, 93, 94, 118, 119, 120, 121, 122, 123, 124, 125, 17, 18, 19, 153, 154, 155, 342, 343, 344, 345, 346, 347, 358, 359, 360, 361, 362, 363] (by decide +kernel) (by decide +kernel)
set_option maxRecDepth 20000 in
theorem gL_law_X1_lid : GoodIn wsL_law (wsV RL 60 RX1 yX1_lid wsX1_lid) := goodIn_app (goodIn_of _ (by decide +kernel)) ggL_law_X1_lid
set_option maxRecDepth 20000 in
theorem ggL_law_X2_lid : GoodIn wsL_law wsX2_lid := goodIn_r _ [289, 71, 28, 31, 78, 79, 5, 80, 75, 76, 77, 290, 291, 292, 293, 161, 162, 163, 164, 99, 100, 101, 102, 25, 103, 104, 105, 165, 166, 167, 168, 169, 170, 171, 172, 173, 32, 33, 348, 349, 350, 351, 352, 353, 354, 355, 356, 357] (by decide +kernel) (by decide +kernel)
set_option maxRecDepth 20000 in
theorem gL_law_X2_lid : GoodIn wsL_law (wsV RL 64 RX2 yX2_lid wsX2_lid) := goodIn_app (goodIn_of _ (by decide +kernel)) ggL_law_X2_lid
set_option maxRecDepth 20000 in
theorem ggL_law_X1_weigh : GoodIn wsL_law wsX1_weigh := goodIn_r _ [297, 16, 49, 152, 43, 44, 2, 45, 114, 115, 116, 117, 14, 110, 111, 112, 113, 91, 92, 93, 94, 118, 119, 120, 121, 122, 123, 124, 125, 17, 18, 19, 342, 343, 344, 345, 346, 347, 358, 359, 360, 361, 362, 363] (by decide +kernel) (by decide +kernel)
set_option maxRecDepth 20000 in
theorem gL_law_X1_weigh : GoodIn wsL_law (wsV RL 65 RX1 yX1_weigh wsX1_weigh) := goodIn_app (goodIn_of _ (by decide +kernel)) ggL_law_X1_weigh
set_option maxRecDepth 20000 in
theorem ggL_law_X2_weigh : GoodIn wsL_law wsX2_weigh := goodIn_r _ [301, 71, 72, 26, 31, 78, 79, 5, 80, 75, 76, 77, 290, 291, 292, 293, 161, 162, 163, 164, 99, 100, 101, 102, 25, 103, 104, 105, 165, 166, 167, 168, 169, 170, 171, 172, 173, 32, 33, 348, 349, 350, 351, 352, 353, 354, 355, 356, 357] (by decide +kernel) (by decide +kernel)
set_option maxRecDepth 20000 in
theorem gL_law_X2_weigh : GoodIn wsL_law (wsV RL 68 RX2 yX2_weigh wsX2_weigh) := goodIn_app (goodIn_of _ (by decide +kernel)) ggL_law_X2_weigh
set_option maxRecDepth 20000 in
theorem ggL_law_X1_size : GoodIn wsL_law wsX1_size := goodIn_r _ [305, 16, 14, 94, 145, 129, 43, 44, 2, 45, 110, 111, 112, 113, 50, 51, 52, 53, 54, 55, 118, 119, 120, 121, 122, 123, 124, 125, 17, 18, 19, 342, 343, 344, 345, 346, 347, 358, 359, 360, 361, 362, 363] (by decide +kernel) (by decide +kernel)
set_option maxRecDepth 20000 in
theorem gL_law_X1_size : GoodIn wsL_law (wsV RL 69 RX1 yX1_size wsX1_size) := goodIn_app (goodIn_of _ (by decide +kernel)) ggL_law_X1_size
set_option maxRecDepth 20000 in
theorem ggL_law_X2_size : GoodIn wsL_law wsX2_size := goodIn_r _ [309, 71, 31, 25, 26, 78, 79, 5, 80, 75, 76, 77, 161, 162, 163, 164, 165, 166, 167, 168, 169, 170, 171, 172, 173, 32, 33, 348, 349, 350, 351, 352, 353, 354, 355, 356, 357] (by decide +kernel) (by decide +kernel)
set_option maxRecDepth 20000 in
theorem gL_law_X2_size : GoodIn wsL_law (wsV RL 72 RX2 yX2_size wsX2_size) := goodIn_app (goodIn_of _ (by decide +kernel)) ggL_law_X2_size
set_option maxRecDepth 20000 in
theorem ggL_law_X1_at : GoodIn wsL_law wsX1_at := goodIn_r _ [313, 14, 43, 44, 2, 45, 258, 259, 260, 261, 342, 343, 344, 345, 346, 347, 358, 359, 360, 361, 362, 363] (by decide +kernel) (by decide +kernel)
set_option maxRecDepth 20000 in
theorem gL_law_X1_at : GoodIn wsL_law (wsV RL 73 RX1 yX1_at wsX1_at) := goodIn_app (goodIn_of _ (by decide +kernel)) ggL_law_X1_at
set_option maxRecDepth 20000 in
theorem ggL_law_X2_at : GoodIn wsL_law wsX2_at := goodIn_r _ [317, 31, 78, 79, 5, 80, 75, 76, 77, 348, 349, 350, 351, 352, 353, 354, 355, 356, 357] (by decide +kernel) (by decide +kernel)
set_option maxRecDepth 20000 in
theorem gL_law_X2_at : GoodIn wsL_law (wsV RL 76 RX2 yX2_at wsX2_at) := goodIn_app (goodIn_of _ (by decide +kernel)) ggL_law_X2_at
set_option maxRecDepth 20000 in
theorem ggL_law_X1_fault : GoodIn wsL_law wsX1_fault := goodIn_r _ [321, 16, 342, 343, 344, 345, 346, 347] (by decide +kernel) (by decide +kernel)
set_option maxRecDepth 20000 in
theorem gL_law_X1_fault : GoodIn wsL_law (wsV RL 77 RX1 yX1_fault wsX1_fault) := goodIn_app (goodIn_of _ (by decide +kernel)) ggL_law_X1_fault
set_option maxRecDepth 20000 in
theorem ggL_law_X2_fault : GoodIn wsL_law wsX2_fault := goodIn_r _ [325, 71, 348, 349, 350, 351, 352, 353, 354, 355, 356, 357] (by decide +kernel) (by decide +kernel)
set_option maxRecDepth 20000 in
theorem gL_law_X2_fault : GoodIn wsL_law (wsV RL 81 RX2 yX2_fault wsX2_fault) := goodIn_app (goodIn_of _ (by decide +kernel)) ggL_law_X2_fault
set_option maxRecDepth 20000 in
theorem ggL_law_X1_told : GoodIn wsL_law wsX1_told := goodIn_r _ [329, 17, 18, 19, 342, 343, 344, 345, 346, 347] (by decide +kernel) (by decide +kernel)
set_option maxRecDepth 20000 in
theorem gL_law_X1_told : GoodIn wsL_law (wsV RL 82 RX1 yX1_told wsX1_told) := goodIn_app (goodIn_of _ (by decide +kernel)) ggL_law_X1_told
set_option maxRecDepth 20000 in
theorem ggL_law_X2_told : GoodIn wsL_law wsX2_told := goodIn_r _ [333, 173, 32, 33, 348, 349, 350, 351, 352, 353, 354, 355, 356, 357] (by decide +kernel) (by decide +kernel)
set_option maxRecDepth 20000 in
theorem gL_law_X2_told : GoodIn wsL_law (wsV RL 85 RX2 yX2_told wsX2_told) := goodIn_app (goodIn_of _ (by decide +kernel)) ggL_law_X2_told
set_option maxRecDepth 20000 in
theorem ggL_law_X1_count : GoodIn wsL_law wsX1_count := goodIn_r _ [337, 15, 342, 343, 344, 345, 346, 347] (by decide +kernel) (by decide +kernel)
set_option maxRecDepth 20000 in
theorem gL_law_X1_count : GoodIn wsL_law (wsV RL 86 RX1 yX1_count wsX1_count) := goodIn_app (goodIn_of _ (by decide +kernel)) ggL_law_X1_count
set_option maxRecDepth 20000 in
theorem ggL_law_X2_count : GoodIn wsL_law wsX2_count := goodIn_r _ [341, 73, 348, 349, 350, 351, 352, 353, 354, 355, 356, 357] (by decide +kernel) (by decide +kernel)
set_option maxRecDepth 20000 in
theorem gL_law_X2_count : GoodIn wsL_law (wsV RL 89 RX2 yX2_count wsX2_count) := goodIn_app (goodIn_of _ (by decide +kernel)) ggL_law_X2_count
theorem dL_law_0 : decode cL_law 0 = .ok (.new 7, 3) := by decide +kernel
theorem dL_law_3 : decode cL_law 3 = .ok (.dup, 1) := by decide +kernel
theorem dL_law_4 : decode cL_law 4 = .ok (.invokespecial 9, 3) := by decide +kernel
theorem dL_law_7 : decode cL_law 7 = .ok (.astore_n 1, 1) := by decide +kernel
theorem dL_law_8 : decode cL_law 8 = .ok (.new 10, 3) := by decide +kernel
theorem dL_law_11 : decode cL_law 11 = .ok (.dup, 1) := by decide +kernel
theorem dL_law_12 : decode cL_law 12 = .ok (.invokespecial 12, 3) := by decide +kernel
theorem dL_law_15 : decode cL_law 15 = .ok (.astore_n 2, 1) := by decide +kernel
theorem dL_law_16 : decode cL_law 16 = .ok (.iconst 0, 1) := by decide +kernel
theorem dL_law_17 : decode cL_law 17 = .ok (.istore_n 3, 1) := by decide +kernel
theorem dL_law_18 : decode cL_law 18 = .ok (.iload_n 3, 1) := by decide +kernel
theorem dL_law_19 : decode cL_law 19 = .ok (.aload_n 0, 1) := by decide +kernel
theorem dL_law_20 : decode cL_law 20 = .ok (.arraylength, 1) := by decide +kernel
theorem dL_law_21 : decode cL_law 21 = .ok (.iconst 5, 1) := by decide +kernel
theorem dL_law_22 : decode cL_law 22 = .ok (.isub, 1) := by decide +kernel
theorem dL_law_23 : decode cL_law 23 = .ok (.if_icmp .gt 678, 3) := by decide +kernel
theorem dL_law_26 : decode cL_law 26 = .ok (.aload_n 0, 1) := by decide +kernel
theorem dL_law_27 : decode cL_law 27 = .ok (.iload_n 3, 1) := by decide +kernel
theorem dL_law_28 : decode cL_law 28 = .ok (.iaload, 1) := by decide +kernel
theorem dL_law_29 : decode cL_law 29 = .ok (.bipush 31, 2) := by decide +kernel
theorem dL_law_31 : decode cL_law 31 = .ok (.iand, 1) := by decide +kernel
theorem dL_law_32 : decode cL_law 32 = .ok (.tableswitch 663 0 16 #[84, 127, 160, 194, 237, 310, 344, 387, 430, 463, 486, 535, 568, 591, 614, 627, 650], 84) := by decide +kernel
theorem dL_law_116 : decode cL_law 116 = .ok (.aload_n 1, 1) := by decide +kernel
theorem dL_law_117 : decode cL_law 117 = .ok (.aload_n 0, 1) := by decide +kernel
theorem dL_law_118 : decode cL_law 118 = .ok (.iload_n 3, 1) := by decide +kernel
theorem dL_law_119 : decode cL_law 119 = .ok (.iconst 1, 1) := by decide +kernel
theorem dL_law_120 : decode cL_law 120 = .ok (.iadd, 1) := by decide +kernel
theorem dL_law_121 : decode cL_law 121 = .ok (.iaload, 1) := by decide +kernel
theorem dL_law_122 : decode cL_law 122 = .ok (.aload_n 0, 1) := by decide +kernel
theorem dL_law_123 : decode cL_law 123 = .ok (.iload_n 3, 1) := by decide +kernel
theorem dL_law_124 : decode cL_law 124 = .ok (.iconst 2, 1) := by decide +kernel
theorem dL_law_125 : decode cL_law 125 = .ok (.iadd, 1) := by decide +kernel
theorem dL_law_126 : decode cL_law 126 = .ok (.iaload, 1) := by decide +kernel
theorem dL_law_127 : decode cL_law 127 = .ok (.aload_n 0, 1) := by decide +kernel
theorem dL_law_128 : decode cL_law 128 = .ok (.iload_n 3, 1) := by decide +kernel
theorem dL_law_129 : decode cL_law 129 = .ok (.iconst 3, 1) := by decide +kernel
theorem dL_law_130 : decode cL_law 130 = .ok (.iadd, 1) := by decide +kernel
theorem dL_law_131 : decode cL_law 131 = .ok (.iaload, 1) := by decide +kernel
theorem dL_law_132 : decode cL_law 132 = .ok (.invokevirtual 13, 3) := by decide +kernel
theorem dL_law_135 : decode cL_law 135 = .ok (.aload_n 2, 1) := by decide +kernel
theorem dL_law_136 : decode cL_law 136 = .ok (.aload_n 0, 1) := by decide +kernel
theorem dL_law_137 : decode cL_law 137 = .ok (.iload_n 3, 1) := by decide +kernel
theorem dL_law_138 : decode cL_law 138 = .ok (.iconst 1, 1) := by decide +kernel
theorem dL_law_139 : decode cL_law 139 = .ok (.iadd, 1) := by decide +kernel
theorem dL_law_140 : decode cL_law 140 = .ok (.iaload, 1) := by decide +kernel
theorem dL_law_141 : decode cL_law 141 = .ok (.aload_n 0, 1) := by decide +kernel
theorem dL_law_142 : decode cL_law 142 = .ok (.iload_n 3, 1) := by decide +kernel
theorem dL_law_143 : decode cL_law 143 = .ok (.iconst 2, 1) := by decide +kernel
theorem dL_law_144 : decode cL_law 144 = .ok (.iadd, 1) := by decide +kernel
theorem dL_law_145 : decode cL_law 145 = .ok (.iaload, 1) := by decide +kernel
theorem dL_law_146 : decode cL_law 146 = .ok (.aload_n 0, 1) := by decide +kernel
theorem dL_law_147 : decode cL_law 147 = .ok (.iload_n 3, 1) := by decide +kernel
theorem dL_law_148 : decode cL_law 148 = .ok (.iconst 3, 1) := by decide +kernel
theorem dL_law_149 : decode cL_law 149 = .ok (.iadd, 1) := by decide +kernel
theorem dL_law_150 : decode cL_law 150 = .ok (.iaload, 1) := by decide +kernel
theorem dL_law_151 : decode cL_law 151 = .ok (.invokevirtual 17, 3) := by decide +kernel
theorem dL_law_154 : decode cL_law 154 = .ok (.if_icmp .eq 541, 3) := by decide +kernel
theorem dL_law_157 : decode cL_law 157 = .ok (.iconst 0, 1) := by decide +kernel
theorem dL_law_158 : decode cL_law 158 = .ok (.ireturn, 1) := by decide +kernel
theorem dL_law_159 : decode cL_law 159 = .ok (.aload_n 1, 1) := by decide +kernel
theorem dL_law_160 : decode cL_law 160 = .ok (.aload_n 0, 1) := by decide +kernel
theorem dL_law_161 : decode cL_law 161 = .ok (.iload_n 3, 1) := by decide +kernel
theorem dL_law_162 : decode cL_law 162 = .ok (.iconst 1, 1) := by decide +kernel
theorem dL_law_163 : decode cL_law 163 = .ok (.iadd, 1) := by decide +kernel
theorem dL_law_164 : decode cL_law 164 = .ok (.iaload, 1) := by decide +kernel
theorem dL_law_165 : decode cL_law 165 = .ok (.aload_n 0, 1) := by decide +kernel
theorem dL_law_166 : decode cL_law 166 = .ok (.iload_n 3, 1) := by decide +kernel
theorem dL_law_167 : decode cL_law 167 = .ok (.iconst 2, 1) := by decide +kernel
theorem dL_law_168 : decode cL_law 168 = .ok (.iadd, 1) := by decide +kernel
theorem dL_law_169 : decode cL_law 169 = .ok (.iaload, 1) := by decide +kernel
theorem dL_law_170 : decode cL_law 170 = .ok (.invokevirtual 18, 3) := by decide +kernel
theorem dL_law_173 : decode cL_law 173 = .ok (.aload_n 2, 1) := by decide +kernel
theorem dL_law_174 : decode cL_law 174 = .ok (.aload_n 0, 1) := by decide +kernel
theorem dL_law_175 : decode cL_law 175 = .ok (.iload_n 3, 1) := by decide +kernel
theorem dL_law_176 : decode cL_law 176 = .ok (.iconst 1, 1) := by decide +kernel
theorem dL_law_177 : decode cL_law 177 = .ok (.iadd, 1) := by decide +kernel
theorem dL_law_178 : decode cL_law 178 = .ok (.iaload, 1) := by decide +kernel
theorem dL_law_179 : decode cL_law 179 = .ok (.aload_n 0, 1) := by decide +kernel
theorem dL_law_180 : decode cL_law 180 = .ok (.iload_n 3, 1) := by decide +kernel
theorem dL_law_181 : decode cL_law 181 = .ok (.iconst 2, 1) := by decide +kernel
theorem dL_law_182 : decode cL_law 182 = .ok (.iadd, 1) := by decide +kernel
theorem dL_law_183 : decode cL_law 183 = .ok (.iaload, 1) := by decide +kernel
theorem dL_law_184 : decode cL_law 184 = .ok (.invokevirtual 22, 3) := by decide +kernel
theorem dL_law_187 : decode cL_law 187 = .ok (.if_icmp .eq 508, 3) := by decide +kernel
theorem dL_law_190 : decode cL_law 190 = .ok (.iconst 0, 1) := by decide +kernel
theorem dL_law_191 : decode cL_law 191 = .ok (.ireturn, 1) := by decide +kernel
theorem dL_law_192 : decode cL_law 192 = .ok (.aload_n 1, 1) := by decide +kernel
theorem dL_law_193 : decode cL_law 193 = .ok (.aload_n 0, 1) := by decide +kernel
theorem dL_law_194 : decode cL_law 194 = .ok (.iload_n 3, 1) := by decide +kernel
theorem dL_law_195 : decode cL_law 195 = .ok (.iconst 1, 1) := by decide +kernel
theorem dL_law_196 : decode cL_law 196 = .ok (.iadd, 1) := by decide +kernel
theorem dL_law_197 : decode cL_law 197 = .ok (.iaload, 1) := by decide +kernel
theorem dL_law_198 : decode cL_law 198 = .ok (.aload_n 0, 1) := by decide +kernel
theorem dL_law_199 : decode cL_law 199 = .ok (.iload_n 3, 1) := by decide +kernel
theorem dL_law_200 : decode cL_law 200 = .ok (.iconst 2, 1) := by decide +kernel
theorem dL_law_201 : decode cL_law 201 = .ok (.iadd, 1) := by decide +kernel
theorem dL_law_202 : decode cL_law 202 = .ok (.iaload, 1) := by decide +kernel
theorem dL_law_203 : decode cL_law 203 = .ok (.invokevirtual 23, 3) := by decide +kernel
theorem dL_law_206 : decode cL_law 206 = .ok (.aload_n 2, 1) := by decide +kernel
theorem dL_law_207 : decode cL_law 207 = .ok (.aload_n 0, 1) := by decide +kernel
theorem dL_law_208 : decode cL_law 208 = .ok (.iload_n 3, 1) := by decide +kernel
theorem dL_law_209 : decode cL_law 209 = .ok (.iconst 1, 1) := by decide +kernel
theorem dL_law_210 : decode cL_law 210 = .ok (.iadd, 1) := by decide +kernel
theorem dL_law_211 : decode cL_law 211 = .ok (.iaload, 1) := by decide +kernel
theorem dL_law_212 : decode cL_law 212 = .ok (.aload_n 0, 1) := by decide +kernel
theorem dL_law_213 : decode cL_law 213 = .ok (.iload_n 3, 1) := by decide +kernel
theorem dL_law_214 : decode cL_law 214 = .ok (.iconst 2, 1) := by decide +kernel
theorem dL_law_215 : decode cL_law 215 = .ok (.iadd, 1) := by decide +kernel
theorem dL_law_216 : decode cL_law 216 = .ok (.iaload, 1) := by decide +kernel
theorem dL_law_217 : decode cL_law 217 = .ok (.invokevirtual 27, 3) := by decide +kernel
theorem dL_law_220 : decode cL_law 220 = .ok (.lcmp, 1) := by decide +kernel
theorem dL_law_221 : decode cL_law 221 = .ok (.ifCond .eq 474, 3) := by decide +kernel
theorem dL_law_224 : decode cL_law 224 = .ok (.iconst 0, 1) := by decide +kernel
theorem dL_law_225 : decode cL_law 225 = .ok (.ireturn, 1) := by decide +kernel
theorem dL_law_226 : decode cL_law 226 = .ok (.aload_n 1, 1) := by decide +kernel
theorem dL_law_227 : decode cL_law 227 = .ok (.aload_n 0, 1) := by decide +kernel
theorem dL_law_228 : decode cL_law 228 = .ok (.iload_n 3, 1) := by decide +kernel
theorem dL_law_229 : decode cL_law 229 = .ok (.iconst 1, 1) := by decide +kernel
theorem dL_law_230 : decode cL_law 230 = .ok (.iadd, 1) := by decide +kernel
theorem dL_law_231 : decode cL_law 231 = .ok (.iaload, 1) := by decide +kernel
theorem dL_law_232 : decode cL_law 232 = .ok (.aload_n 0, 1) := by decide +kernel
theorem dL_law_233 : decode cL_law 233 = .ok (.iload_n 3, 1) := by decide +kernel
theorem dL_law_234 : decode cL_law 234 = .ok (.iconst 2, 1) := by decide +kernel
theorem dL_law_235 : decode cL_law 235 = .ok (.iadd, 1) := by decide +kernel
theorem dL_law_236 : decode cL_law 236 = .ok (.iaload, 1) := by decide +kernel
theorem dL_law_237 : decode cL_law 237 = .ok (.aload_n 0, 1) := by decide +kernel
theorem dL_law_238 : decode cL_law 238 = .ok (.iload_n 3, 1) := by decide +kernel
theorem dL_law_239 : decode cL_law 239 = .ok (.iconst 3, 1) := by decide +kernel
theorem dL_law_240 : decode cL_law 240 = .ok (.iadd, 1) := by decide +kernel
theorem dL_law_241 : decode cL_law 241 = .ok (.iaload, 1) := by decide +kernel
theorem dL_law_242 : decode cL_law 242 = .ok (.invokevirtual 28, 3) := by decide +kernel
theorem dL_law_245 : decode cL_law 245 = .ok (.aload_n 2, 1) := by decide +kernel
theorem dL_law_246 : decode cL_law 246 = .ok (.aload_n 0, 1) := by decide +kernel
theorem dL_law_247 : decode cL_law 247 = .ok (.iload_n 3, 1) := by decide +kernel
theorem dL_law_248 : decode cL_law 248 = .ok (.iconst 1, 1) := by decide +kernel
theorem dL_law_249 : decode cL_law 249 = .ok (.iadd, 1) := by decide +kernel
theorem dL_law_250 : decode cL_law 250 = .ok (.iaload, 1) := by decide +kernel
theorem dL_law_251 : decode cL_law 251 = .ok (.aload_n 0, 1) := by decide +kernel
theorem dL_law_252 : decode cL_law 252 = .ok (.iload_n 3, 1) := by decide +kernel
theorem dL_law_253 : decode cL_law 253 = .ok (.iconst 2, 1) := by decide +kernel
theorem dL_law_254 : decode cL_law 254 = .ok (.iadd, 1) := by decide +kernel
theorem dL_law_255 : decode cL_law 255 = .ok (.iaload, 1) := by decide +kernel
theorem dL_law_256 : decode cL_law 256 = .ok (.aload_n 0, 1) := by decide +kernel
theorem dL_law_257 : decode cL_law 257 = .ok (.iload_n 3, 1) := by decide +kernel
theorem dL_law_258 : decode cL_law 258 = .ok (.iconst 3, 1) := by decide +kernel
theorem dL_law_259 : decode cL_law 259 = .ok (.iadd, 1) := by decide +kernel
theorem dL_law_260 : decode cL_law 260 = .ok (.iaload, 1) := by decide +kernel
theorem dL_law_261 : decode cL_law 261 = .ok (.invokevirtual 31, 3) := by decide +kernel
theorem dL_law_264 : decode cL_law 264 = .ok (.if_icmp .eq 431, 3) := by decide +kernel
theorem dL_law_267 : decode cL_law 267 = .ok (.iconst 0, 1) := by decide +kernel
theorem dL_law_268 : decode cL_law 268 = .ok (.ireturn, 1) := by decide +kernel
theorem dL_law_269 : decode cL_law 269 = .ok (.aload_n 1, 1) := by decide +kernel
theorem dL_law_270 : decode cL_law 270 = .ok (.aload_n 0, 1) := by decide +kernel
theorem dL_law_271 : decode cL_law 271 = .ok (.iload_n 3, 1) := by decide +kernel
theorem dL_law_272 : decode cL_law 272 = .ok (.iconst 1, 1) := by decide +kernel
theorem dL_law_273 : decode cL_law 273 = .ok (.iadd, 1) := by decide +kernel
theorem dL_law_274 : decode cL_law 274 = .ok (.iaload, 1) := by decide +kernel
theorem dL_law_275 : decode cL_law 275 = .ok (.aload_n 0, 1) := by decide +kernel
theorem dL_law_276 : decode cL_law 276 = .ok (.iload_n 3, 1) := by decide +kernel
theorem dL_law_277 : decode cL_law 277 = .ok (.iconst 2, 1) := by decide +kernel
theorem dL_law_278 : decode cL_law 278 = .ok (.iadd, 1) := by decide +kernel
theorem dL_law_279 : decode cL_law 279 = .ok (.iaload, 1) := by decide +kernel
theorem dL_law_280 : decode cL_law 280 = .ok (.aload_n 0, 1) := by decide +kernel
theorem dL_law_281 : decode cL_law 281 = .ok (.iload_n 3, 1) := by decide +kernel
theorem dL_law_282 : decode cL_law 282 = .ok (.iconst 3, 1) := by decide +kernel
theorem dL_law_283 : decode cL_law 283 = .ok (.iadd, 1) := by decide +kernel
theorem dL_law_284 : decode cL_law 284 = .ok (.iaload, 1) := by decide +kernel
theorem dL_law_285 : decode cL_law 285 = .ok (.i2l, 1) := by decide +kernel
theorem dL_law_286 : decode cL_law 286 = .ok (.bipush 32, 2) := by decide +kernel
theorem dL_law_288 : decode cL_law 288 = .ok (.lshl, 1) := by decide +kernel
theorem dL_law_289 : decode cL_law 289 = .ok (.aload_n 0, 1) := by decide +kernel
theorem dL_law_290 : decode cL_law 290 = .ok (.iload_n 3, 1) := by decide +kernel
theorem dL_law_291 : decode cL_law 291 = .ok (.iconst 4, 1) := by decide +kernel
theorem dL_law_292 : decode cL_law 292 = .ok (.iadd, 1) := by decide +kernel
theorem dL_law_293 : decode cL_law 293 = .ok (.iaload, 1) := by decide +kernel
theorem dL_law_294 : decode cL_law 294 = .ok (.i2l, 1) := by decide +kernel
theorem dL_law_295 : decode cL_law 295 = .ok (.ldc2_w 32, 3) := by decide +kernel
theorem dL_law_298 : decode cL_law 298 = .ok (.land, 1) := by decide +kernel
theorem dL_law_299 : decode cL_law 299 = .ok (.lor, 1) := by decide +kernel
theorem dL_law_300 : decode cL_law 300 = .ok (.invokevirtual 34, 3) := by decide +kernel
theorem dL_law_303 : decode cL_law 303 = .ok (.aload_n 2, 1) := by decide +kernel
theorem dL_law_304 : decode cL_law 304 = .ok (.aload_n 0, 1) := by decide +kernel
theorem dL_law_305 : decode cL_law 305 = .ok (.iload_n 3, 1) := by decide +kernel
theorem dL_law_306 : decode cL_law 306 = .ok (.iconst 1, 1) := by decide +kernel
theorem dL_law_307 : decode cL_law 307 = .ok (.iadd, 1) := by decide +kernel
theorem dL_law_308 : decode cL_law 308 = .ok (.iaload, 1) := by decide +kernel
theorem dL_law_309 : decode cL_law 309 = .ok (.aload_n 0, 1) := by decide +kernel
theorem dL_law_310 : decode cL_law 310 = .ok (.iload_n 3, 1) := by decide +kernel
theorem dL_law_311 : decode cL_law 311 = .ok (.iconst 2, 1) := by decide +kernel
theorem dL_law_312 : decode cL_law 312 = .ok (.iadd, 1) := by decide +kernel
theorem dL_law_313 : decode cL_law 313 = .ok (.iaload, 1) := by decide +kernel
theorem dL_law_314 : decode cL_law 314 = .ok (.aload_n 0, 1) := by decide +kernel
theorem dL_law_315 : decode cL_law 315 = .ok (.iload_n 3, 1) := by decide +kernel
theorem dL_law_316 : decode cL_law 316 = .ok (.iconst 3, 1) := by decide +kernel
theorem dL_law_317 : decode cL_law 317 = .ok (.iadd, 1) := by decide +kernel
theorem dL_law_318 : decode cL_law 318 = .ok (.iaload, 1) := by decide +kernel
theorem dL_law_319 : decode cL_law 319 = .ok (.i2l, 1) := by decide +kernel
theorem dL_law_320 : decode cL_law 320 = .ok (.bipush 32, 2) := by decide +kernel
theorem dL_law_322 : decode cL_law 322 = .ok (.lshl, 1) := by decide +kernel
theorem dL_law_323 : decode cL_law 323 = .ok (.aload_n 0, 1) := by decide +kernel
theorem dL_law_324 : decode cL_law 324 = .ok (.iload_n 3, 1) := by decide +kernel
theorem dL_law_325 : decode cL_law 325 = .ok (.iconst 4, 1) := by decide +kernel
theorem dL_law_326 : decode cL_law 326 = .ok (.iadd, 1) := by decide +kernel
theorem dL_law_327 : decode cL_law 327 = .ok (.iaload, 1) := by decide +kernel
theorem dL_law_328 : decode cL_law 328 = .ok (.i2l, 1) := by decide +kernel
theorem dL_law_329 : decode cL_law 329 = .ok (.ldc2_w 32, 3) := by decide +kernel
theorem dL_law_332 : decode cL_law 332 = .ok (.land, 1) := by decide +kernel
theorem dL_law_333 : decode cL_law 333 = .ok (.lor, 1) := by decide +kernel
theorem dL_law_334 : decode cL_law 334 = .ok (.invokevirtual 38, 3) := by decide +kernel
theorem dL_law_337 : decode cL_law 337 = .ok (.if_icmp .eq 358, 3) := by decide +kernel
theorem dL_law_340 : decode cL_law 340 = .ok (.iconst 0, 1) := by decide +kernel
theorem dL_law_341 : decode cL_law 341 = .ok (.ireturn, 1) := by decide +kernel
theorem dL_law_342 : decode cL_law 342 = .ok (.aload_n 1, 1) := by decide +kernel
theorem dL_law_343 : decode cL_law 343 = .ok (.aload_n 0, 1) := by decide +kernel
theorem dL_law_344 : decode cL_law 344 = .ok (.iload_n 3, 1) := by decide +kernel
theorem dL_law_345 : decode cL_law 345 = .ok (.iconst 1, 1) := by decide +kernel
theorem dL_law_346 : decode cL_law 346 = .ok (.iadd, 1) := by decide +kernel
theorem dL_law_347 : decode cL_law 347 = .ok (.iaload, 1) := by decide +kernel
theorem dL_law_348 : decode cL_law 348 = .ok (.aload_n 0, 1) := by decide +kernel
theorem dL_law_349 : decode cL_law 349 = .ok (.iload_n 3, 1) := by decide +kernel
theorem dL_law_350 : decode cL_law 350 = .ok (.iconst 2, 1) := by decide +kernel
theorem dL_law_351 : decode cL_law 351 = .ok (.iadd, 1) := by decide +kernel
theorem dL_law_352 : decode cL_law 352 = .ok (.iaload, 1) := by decide +kernel
theorem dL_law_353 : decode cL_law 353 = .ok (.invokevirtual 39, 3) := by decide +kernel
theorem dL_law_356 : decode cL_law 356 = .ok (.aload_n 2, 1) := by decide +kernel
theorem dL_law_357 : decode cL_law 357 = .ok (.aload_n 0, 1) := by decide +kernel
theorem dL_law_358 : decode cL_law 358 = .ok (.iload_n 3, 1) := by decide +kernel
theorem dL_law_359 : decode cL_law 359 = .ok (.iconst 1, 1) := by decide +kernel
theorem dL_law_360 : decode cL_law 360 = .ok (.iadd, 1) := by decide +kernel
theorem dL_law_361 : decode cL_law 361 = .ok (.iaload, 1) := by decide +kernel
theorem dL_law_362 : decode cL_law 362 = .ok (.aload_n 0, 1) := by decide +kernel
theorem dL_law_363 : decode cL_law 363 = .ok (.iload_n 3, 1) := by decide +kernel
theorem dL_law_364 : decode cL_law 364 = .ok (.iconst 2, 1) := by decide +kernel
theorem dL_law_365 : decode cL_law 365 = .ok (.iadd, 1) := by decide +kernel
theorem dL_law_366 : decode cL_law 366 = .ok (.iaload, 1) := by decide +kernel
theorem dL_law_367 : decode cL_law 367 = .ok (.invokevirtual 42, 3) := by decide +kernel
theorem dL_law_370 : decode cL_law 370 = .ok (.lcmp, 1) := by decide +kernel
theorem dL_law_371 : decode cL_law 371 = .ok (.ifCond .eq 324, 3) := by decide +kernel
theorem dL_law_374 : decode cL_law 374 = .ok (.iconst 0, 1) := by decide +kernel
theorem dL_law_375 : decode cL_law 375 = .ok (.ireturn, 1) := by decide +kernel
theorem dL_law_376 : decode cL_law 376 = .ok (.aload_n 1, 1) := by decide +kernel
theorem dL_law_377 : decode cL_law 377 = .ok (.aload_n 0, 1) := by decide +kernel
theorem dL_law_378 : decode cL_law 378 = .ok (.iload_n 3, 1) := by decide +kernel
theorem dL_law_379 : decode cL_law 379 = .ok (.iconst 1, 1) := by decide +kernel
theorem dL_law_380 : decode cL_law 380 = .ok (.iadd, 1) := by decide +kernel
theorem dL_law_381 : decode cL_law 381 = .ok (.iaload, 1) := by decide +kernel
theorem dL_law_382 : decode cL_law 382 = .ok (.aload_n 0, 1) := by decide +kernel
theorem dL_law_383 : decode cL_law 383 = .ok (.iload_n 3, 1) := by decide +kernel
theorem dL_law_384 : decode cL_law 384 = .ok (.iconst 2, 1) := by decide +kernel
theorem dL_law_385 : decode cL_law 385 = .ok (.iadd, 1) := by decide +kernel
theorem dL_law_386 : decode cL_law 386 = .ok (.iaload, 1) := by decide +kernel
theorem dL_law_387 : decode cL_law 387 = .ok (.aload_n 0, 1) := by decide +kernel
theorem dL_law_388 : decode cL_law 388 = .ok (.iload_n 3, 1) := by decide +kernel
theorem dL_law_389 : decode cL_law 389 = .ok (.iconst 3, 1) := by decide +kernel
theorem dL_law_390 : decode cL_law 390 = .ok (.iadd, 1) := by decide +kernel
theorem dL_law_391 : decode cL_law 391 = .ok (.iaload, 1) := by decide +kernel
theorem dL_law_392 : decode cL_law 392 = .ok (.invokevirtual 43, 3) := by decide +kernel
theorem dL_law_395 : decode cL_law 395 = .ok (.aload_n 2, 1) := by decide +kernel
theorem dL_law_396 : decode cL_law 396 = .ok (.aload_n 0, 1) := by decide +kernel
theorem dL_law_397 : decode cL_law 397 = .ok (.iload_n 3, 1) := by decide +kernel
theorem dL_law_398 : decode cL_law 398 = .ok (.iconst 1, 1) := by decide +kernel
theorem dL_law_399 : decode cL_law 399 = .ok (.iadd, 1) := by decide +kernel
theorem dL_law_400 : decode cL_law 400 = .ok (.iaload, 1) := by decide +kernel
theorem dL_law_401 : decode cL_law 401 = .ok (.aload_n 0, 1) := by decide +kernel
theorem dL_law_402 : decode cL_law 402 = .ok (.iload_n 3, 1) := by decide +kernel
theorem dL_law_403 : decode cL_law 403 = .ok (.iconst 2, 1) := by decide +kernel
theorem dL_law_404 : decode cL_law 404 = .ok (.iadd, 1) := by decide +kernel
theorem dL_law_405 : decode cL_law 405 = .ok (.iaload, 1) := by decide +kernel
theorem dL_law_406 : decode cL_law 406 = .ok (.aload_n 0, 1) := by decide +kernel
theorem dL_law_407 : decode cL_law 407 = .ok (.iload_n 3, 1) := by decide +kernel
theorem dL_law_408 : decode cL_law 408 = .ok (.iconst 3, 1) := by decide +kernel
theorem dL_law_409 : decode cL_law 409 = .ok (.iadd, 1) := by decide +kernel
theorem dL_law_410 : decode cL_law 410 = .ok (.iaload, 1) := by decide +kernel
theorem dL_law_411 : decode cL_law 411 = .ok (.invokevirtual 46, 3) := by decide +kernel
theorem dL_law_414 : decode cL_law 414 = .ok (.if_icmp .eq 281, 3) := by decide +kernel
theorem dL_law_417 : decode cL_law 417 = .ok (.iconst 0, 1) := by decide +kernel
theorem dL_law_418 : decode cL_law 418 = .ok (.ireturn, 1) := by decide +kernel
theorem dL_law_419 : decode cL_law 419 = .ok (.aload_n 1, 1) := by decide +kernel
theorem dL_law_420 : decode cL_law 420 = .ok (.aload_n 0, 1) := by decide +kernel
theorem dL_law_421 : decode cL_law 421 = .ok (.iload_n 3, 1) := by decide +kernel
theorem dL_law_422 : decode cL_law 422 = .ok (.iconst 1, 1) := by decide +kernel
theorem dL_law_423 : decode cL_law 423 = .ok (.iadd, 1) := by decide +kernel
theorem dL_law_424 : decode cL_law 424 = .ok (.iaload, 1) := by decide +kernel
theorem dL_law_425 : decode cL_law 425 = .ok (.aload_n 0, 1) := by decide +kernel
theorem dL_law_426 : decode cL_law 426 = .ok (.iload_n 3, 1) := by decide +kernel
theorem dL_law_427 : decode cL_law 427 = .ok (.iconst 2, 1) := by decide +kernel
theorem dL_law_428 : decode cL_law 428 = .ok (.iadd, 1) := by decide +kernel
theorem dL_law_429 : decode cL_law 429 = .ok (.iaload, 1) := by decide +kernel
theorem dL_law_430 : decode cL_law 430 = .ok (.aload_n 0, 1) := by decide +kernel
theorem dL_law_431 : decode cL_law 431 = .ok (.iload_n 3, 1) := by decide +kernel
theorem dL_law_432 : decode cL_law 432 = .ok (.iconst 3, 1) := by decide +kernel
theorem dL_law_433 : decode cL_law 433 = .ok (.iadd, 1) := by decide +kernel
theorem dL_law_434 : decode cL_law 434 = .ok (.iaload, 1) := by decide +kernel
theorem dL_law_435 : decode cL_law 435 = .ok (.invokevirtual 47, 3) := by decide +kernel
theorem dL_law_438 : decode cL_law 438 = .ok (.aload_n 2, 1) := by decide +kernel
theorem dL_law_439 : decode cL_law 439 = .ok (.aload_n 0, 1) := by decide +kernel
theorem dL_law_440 : decode cL_law 440 = .ok (.iload_n 3, 1) := by decide +kernel
theorem dL_law_441 : decode cL_law 441 = .ok (.iconst 1, 1) := by decide +kernel
theorem dL_law_442 : decode cL_law 442 = .ok (.iadd, 1) := by decide +kernel
theorem dL_law_443 : decode cL_law 443 = .ok (.iaload, 1) := by decide +kernel
theorem dL_law_444 : decode cL_law 444 = .ok (.aload_n 0, 1) := by decide +kernel
theorem dL_law_445 : decode cL_law 445 = .ok (.iload_n 3, 1) := by decide +kernel
theorem dL_law_446 : decode cL_law 446 = .ok (.iconst 2, 1) := by decide +kernel
theorem dL_law_447 : decode cL_law 447 = .ok (.iadd, 1) := by decide +kernel
theorem dL_law_448 : decode cL_law 448 = .ok (.iaload, 1) := by decide +kernel
theorem dL_law_449 : decode cL_law 449 = .ok (.aload_n 0, 1) := by decide +kernel
theorem dL_law_450 : decode cL_law 450 = .ok (.iload_n 3, 1) := by decide +kernel
theorem dL_law_451 : decode cL_law 451 = .ok (.iconst 3, 1) := by decide +kernel
theorem dL_law_452 : decode cL_law 452 = .ok (.iadd, 1) := by decide +kernel
theorem dL_law_453 : decode cL_law 453 = .ok (.iaload, 1) := by decide +kernel
theorem dL_law_454 : decode cL_law 454 = .ok (.invokevirtual 50, 3) := by decide +kernel
theorem dL_law_457 : decode cL_law 457 = .ok (.if_icmp .eq 238, 3) := by decide +kernel
theorem dL_law_460 : decode cL_law 460 = .ok (.iconst 0, 1) := by decide +kernel
theorem dL_law_461 : decode cL_law 461 = .ok (.ireturn, 1) := by decide +kernel
theorem dL_law_462 : decode cL_law 462 = .ok (.aload_n 1, 1) := by decide +kernel
theorem dL_law_463 : decode cL_law 463 = .ok (.aload_n 0, 1) := by decide +kernel
theorem dL_law_464 : decode cL_law 464 = .ok (.iload_n 3, 1) := by decide +kernel
theorem dL_law_465 : decode cL_law 465 = .ok (.iconst 1, 1) := by decide +kernel
theorem dL_law_466 : decode cL_law 466 = .ok (.iadd, 1) := by decide +kernel
theorem dL_law_467 : decode cL_law 467 = .ok (.iaload, 1) := by decide +kernel
theorem dL_law_468 : decode cL_law 468 = .ok (.aload_n 0, 1) := by decide +kernel
theorem dL_law_469 : decode cL_law 469 = .ok (.iload_n 3, 1) := by decide +kernel
theorem dL_law_470 : decode cL_law 470 = .ok (.iconst 2, 1) := by decide +kernel
theorem dL_law_471 : decode cL_law 471 = .ok (.iadd, 1) := by decide +kernel
theorem dL_law_472 : decode cL_law 472 = .ok (.iaload, 1) := by decide +kernel
theorem dL_law_473 : decode cL_law 473 = .ok (.invokevirtual 51, 3) := by decide +kernel
theorem dL_law_476 : decode cL_law 476 = .ok (.aload_n 2, 1) := by decide +kernel
theorem dL_law_477 : decode cL_law 477 = .ok (.aload_n 0, 1) := by decide +kernel
theorem dL_law_478 : decode cL_law 478 = .ok (.iload_n 3, 1) := by decide +kernel
theorem dL_law_479 : decode cL_law 479 = .ok (.iconst 1, 1) := by decide +kernel
theorem dL_law_480 : decode cL_law 480 = .ok (.iadd, 1) := by decide +kernel
theorem dL_law_481 : decode cL_law 481 = .ok (.iaload, 1) := by decide +kernel
theorem dL_law_482 : decode cL_law 482 = .ok (.aload_n 0, 1) := by decide +kernel
theorem dL_law_483 : decode cL_law 483 = .ok (.iload_n 3, 1) := by decide +kernel
theorem dL_law_484 : decode cL_law 484 = .ok (.iconst 2, 1) := by decide +kernel
theorem dL_law_485 : decode cL_law 485 = .ok (.iadd, 1) := by decide +kernel
theorem dL_law_486 : decode cL_law 486 = .ok (.iaload, 1) := by decide +kernel
theorem dL_law_487 : decode cL_law 487 = .ok (.invokevirtual 54, 3) := by decide +kernel
theorem dL_law_490 : decode cL_law 490 = .ok (.if_icmp .eq 205, 3) := by decide +kernel
theorem dL_law_493 : decode cL_law 493 = .ok (.iconst 0, 1) := by decide +kernel
theorem dL_law_494 : decode cL_law 494 = .ok (.ireturn, 1) := by decide +kernel
theorem dL_law_495 : decode cL_law 495 = .ok (.aload_n 1, 1) := by decide +kernel
theorem dL_law_496 : decode cL_law 496 = .ok (.aload_n 0, 1) := by decide +kernel
theorem dL_law_497 : decode cL_law 497 = .ok (.iload_n 3, 1) := by decide +kernel
theorem dL_law_498 : decode cL_law 498 = .ok (.iconst 1, 1) := by decide +kernel
theorem dL_law_499 : decode cL_law 499 = .ok (.iadd, 1) := by decide +kernel
theorem dL_law_500 : decode cL_law 500 = .ok (.iaload, 1) := by decide +kernel
theorem dL_law_501 : decode cL_law 501 = .ok (.invokevirtual 55, 3) := by decide +kernel
theorem dL_law_504 : decode cL_law 504 = .ok (.aload_n 2, 1) := by decide +kernel
theorem dL_law_505 : decode cL_law 505 = .ok (.aload_n 0, 1) := by decide +kernel
theorem dL_law_506 : decode cL_law 506 = .ok (.iload_n 3, 1) := by decide +kernel
theorem dL_law_507 : decode cL_law 507 = .ok (.iconst 1, 1) := by decide +kernel
theorem dL_law_508 : decode cL_law 508 = .ok (.iadd, 1) := by decide +kernel
theorem dL_law_509 : decode cL_law 509 = .ok (.iaload, 1) := by decide +kernel
theorem dL_law_510 : decode cL_law 510 = .ok (.invokevirtual 59, 3) := by decide +kernel
theorem dL_law_513 : decode cL_law 513 = .ok (.if_icmp .eq 182, 3) := by decide +kernel
theorem dL_law_516 : decode cL_law 516 = .ok (.iconst 0, 1) := by decide +kernel
theorem dL_law_517 : decode cL_law 517 = .ok (.ireturn, 1) := by decide +kernel
theorem dL_law_518 : decode cL_law 518 = .ok (.aload_n 1, 1) := by decide +kernel
theorem dL_law_519 : decode cL_law 519 = .ok (.aload_n 0, 1) := by decide +kernel
theorem dL_law_520 : decode cL_law 520 = .ok (.iload_n 3, 1) := by decide +kernel
theorem dL_law_521 : decode cL_law 521 = .ok (.iconst 1, 1) := by decide +kernel
theorem dL_law_522 : decode cL_law 522 = .ok (.iadd, 1) := by decide +kernel
theorem dL_law_523 : decode cL_law 523 = .ok (.iaload, 1) := by decide +kernel
theorem dL_law_524 : decode cL_law 524 = .ok (.aload_n 0, 1) := by decide +kernel
theorem dL_law_525 : decode cL_law 525 = .ok (.iload_n 3, 1) := by decide +kernel
theorem dL_law_526 : decode cL_law 526 = .ok (.iconst 2, 1) := by decide +kernel
theorem dL_law_527 : decode cL_law 527 = .ok (.iadd, 1) := by decide +kernel
theorem dL_law_528 : decode cL_law 528 = .ok (.iaload, 1) := by decide +kernel
theorem dL_law_529 : decode cL_law 529 = .ok (.ifCond .eq 7, 3) := by decide +kernel
theorem dL_law_532 : decode cL_law 532 = .ok (.iconst 1, 1) := by decide +kernel
theorem dL_law_533 : decode cL_law 533 = .ok (.goto 4, 3) := by decide +kernel
theorem dL_law_536 : decode cL_law 536 = .ok (.iconst 0, 1) := by decide +kernel
theorem dL_law_537 : decode cL_law 537 = .ok (.invokevirtual 60, 3) := by decide +kernel
theorem dL_law_540 : decode cL_law 540 = .ok (.aload_n 2, 1) := by decide +kernel
theorem dL_law_541 : decode cL_law 541 = .ok (.aload_n 0, 1) := by decide +kernel
theorem dL_law_542 : decode cL_law 542 = .ok (.iload_n 3, 1) := by decide +kernel
theorem dL_law_543 : decode cL_law 543 = .ok (.iconst 1, 1) := by decide +kernel
theorem dL_law_544 : decode cL_law 544 = .ok (.iadd, 1) := by decide +kernel
theorem dL_law_545 : decode cL_law 545 = .ok (.iaload, 1) := by decide +kernel
theorem dL_law_546 : decode cL_law 546 = .ok (.aload_n 0, 1) := by decide +kernel
theorem dL_law_547 : decode cL_law 547 = .ok (.iload_n 3, 1) := by decide +kernel
theorem dL_law_548 : decode cL_law 548 = .ok (.iconst 2, 1) := by decide +kernel
theorem dL_law_549 : decode cL_law 549 = .ok (.iadd, 1) := by decide +kernel
theorem dL_law_550 : decode cL_law 550 = .ok (.iaload, 1) := by decide +kernel
theorem dL_law_551 : decode cL_law 551 = .ok (.ifCond .eq 7, 3) := by decide +kernel
theorem dL_law_554 : decode cL_law 554 = .ok (.iconst 1, 1) := by decide +kernel
theorem dL_law_555 : decode cL_law 555 = .ok (.goto 4, 3) := by decide +kernel
theorem dL_law_558 : decode cL_law 558 = .ok (.iconst 0, 1) := by decide +kernel
theorem dL_law_559 : decode cL_law 559 = .ok (.invokevirtual 64, 3) := by decide +kernel
theorem dL_law_562 : decode cL_law 562 = .ok (.if_icmp .eq 133, 3) := by decide +kernel
theorem dL_law_565 : decode cL_law 565 = .ok (.iconst 0, 1) := by decide +kernel
theorem dL_law_566 : decode cL_law 566 = .ok (.ireturn, 1) := by decide +kernel
theorem dL_law_567 : decode cL_law 567 = .ok (.aload_n 1, 1) := by decide +kernel
theorem dL_law_568 : decode cL_law 568 = .ok (.aload_n 0, 1) := by decide +kernel
theorem dL_law_569 : decode cL_law 569 = .ok (.iload_n 3, 1) := by decide +kernel
theorem dL_law_570 : decode cL_law 570 = .ok (.iconst 1, 1) := by decide +kernel
theorem dL_law_571 : decode cL_law 571 = .ok (.iadd, 1) := by decide +kernel
theorem dL_law_572 : decode cL_law 572 = .ok (.iaload, 1) := by decide +kernel
theorem dL_law_573 : decode cL_law 573 = .ok (.aload_n 0, 1) := by decide +kernel
theorem dL_law_574 : decode cL_law 574 = .ok (.iload_n 3, 1) := by decide +kernel
theorem dL_law_575 : decode cL_law 575 = .ok (.iconst 2, 1) := by decide +kernel
theorem dL_law_576 : decode cL_law 576 = .ok (.iadd, 1) := by decide +kernel
theorem dL_law_577 : decode cL_law 577 = .ok (.iaload, 1) := by decide +kernel
theorem dL_law_578 : decode cL_law 578 = .ok (.invokevirtual 65, 3) := by decide +kernel
theorem dL_law_581 : decode cL_law 581 = .ok (.aload_n 2, 1) := by decide +kernel
theorem dL_law_582 : decode cL_law 582 = .ok (.aload_n 0, 1) := by decide +kernel
theorem dL_law_583 : decode cL_law 583 = .ok (.iload_n 3, 1) := by decide +kernel
theorem dL_law_584 : decode cL_law 584 = .ok (.iconst 1, 1) := by decide +kernel
theorem dL_law_585 : decode cL_law 585 = .ok (.iadd, 1) := by decide +kernel
theorem dL_law_586 : decode cL_law 586 = .ok (.iaload, 1) := by decide +kernel
theorem dL_law_587 : decode cL_law 587 = .ok (.aload_n 0, 1) := by decide +kernel
theorem dL_law_588 : decode cL_law 588 = .ok (.iload_n 3, 1) := by decide +kernel
theorem dL_law_589 : decode cL_law 589 = .ok (.iconst 2, 1) := by decide +kernel
theorem dL_law_590 : decode cL_law 590 = .ok (.iadd, 1) := by decide +kernel
theorem dL_law_591 : decode cL_law 591 = .ok (.iaload, 1) := by decide +kernel
theorem dL_law_592 : decode cL_law 592 = .ok (.invokevirtual 68, 3) := by decide +kernel
theorem dL_law_595 : decode cL_law 595 = .ok (.if_icmp .eq 100, 3) := by decide +kernel
theorem dL_law_598 : decode cL_law 598 = .ok (.iconst 0, 1) := by decide +kernel
theorem dL_law_599 : decode cL_law 599 = .ok (.ireturn, 1) := by decide +kernel
theorem dL_law_600 : decode cL_law 600 = .ok (.aload_n 1, 1) := by decide +kernel
theorem dL_law_601 : decode cL_law 601 = .ok (.aload_n 0, 1) := by decide +kernel
theorem dL_law_602 : decode cL_law 602 = .ok (.iload_n 3, 1) := by decide +kernel
theorem dL_law_603 : decode cL_law 603 = .ok (.iconst 1, 1) := by decide +kernel
theorem dL_law_604 : decode cL_law 604 = .ok (.iadd, 1) := by decide +kernel
theorem dL_law_605 : decode cL_law 605 = .ok (.iaload, 1) := by decide +kernel
theorem dL_law_606 : decode cL_law 606 = .ok (.invokevirtual 69, 3) := by decide +kernel
theorem dL_law_609 : decode cL_law 609 = .ok (.aload_n 2, 1) := by decide +kernel
theorem dL_law_610 : decode cL_law 610 = .ok (.aload_n 0, 1) := by decide +kernel
theorem dL_law_611 : decode cL_law 611 = .ok (.iload_n 3, 1) := by decide +kernel
theorem dL_law_612 : decode cL_law 612 = .ok (.iconst 1, 1) := by decide +kernel
theorem dL_law_613 : decode cL_law 613 = .ok (.iadd, 1) := by decide +kernel
theorem dL_law_614 : decode cL_law 614 = .ok (.iaload, 1) := by decide +kernel
theorem dL_law_615 : decode cL_law 615 = .ok (.invokevirtual 72, 3) := by decide +kernel
theorem dL_law_618 : decode cL_law 618 = .ok (.if_icmp .eq 77, 3) := by decide +kernel
theorem dL_law_621 : decode cL_law 621 = .ok (.iconst 0, 1) := by decide +kernel
theorem dL_law_622 : decode cL_law 622 = .ok (.ireturn, 1) := by decide +kernel
theorem dL_law_623 : decode cL_law 623 = .ok (.aload_n 1, 1) := by decide +kernel
theorem dL_law_624 : decode cL_law 624 = .ok (.aload_n 0, 1) := by decide +kernel
theorem dL_law_625 : decode cL_law 625 = .ok (.iload_n 3, 1) := by decide +kernel
theorem dL_law_626 : decode cL_law 626 = .ok (.iconst 1, 1) := by decide +kernel
theorem dL_law_627 : decode cL_law 627 = .ok (.iadd, 1) := by decide +kernel
theorem dL_law_628 : decode cL_law 628 = .ok (.iaload, 1) := by decide +kernel
theorem dL_law_629 : decode cL_law 629 = .ok (.invokevirtual 73, 3) := by decide +kernel
theorem dL_law_632 : decode cL_law 632 = .ok (.aload_n 2, 1) := by decide +kernel
theorem dL_law_633 : decode cL_law 633 = .ok (.aload_n 0, 1) := by decide +kernel
theorem dL_law_634 : decode cL_law 634 = .ok (.iload_n 3, 1) := by decide +kernel
theorem dL_law_635 : decode cL_law 635 = .ok (.iconst 1, 1) := by decide +kernel
theorem dL_law_636 : decode cL_law 636 = .ok (.iadd, 1) := by decide +kernel
theorem dL_law_637 : decode cL_law 637 = .ok (.iaload, 1) := by decide +kernel
theorem dL_law_638 : decode cL_law 638 = .ok (.invokevirtual 76, 3) := by decide +kernel
theorem dL_law_641 : decode cL_law 641 = .ok (.if_icmp .eq 54, 3) := by decide +kernel
theorem dL_law_644 : decode cL_law 644 = .ok (.iconst 0, 1) := by decide +kernel
theorem dL_law_645 : decode cL_law 645 = .ok (.ireturn, 1) := by decide +kernel
theorem dL_law_646 : decode cL_law 646 = .ok (.aload_n 1, 1) := by decide +kernel
theorem dL_law_647 : decode cL_law 647 = .ok (.invokevirtual 77, 3) := by decide +kernel
theorem dL_law_650 : decode cL_law 650 = .ok (.aload_n 2, 1) := by decide +kernel
theorem dL_law_651 : decode cL_law 651 = .ok (.invokevirtual 81, 3) := by decide +kernel
theorem dL_law_654 : decode cL_law 654 = .ok (.if_icmp .eq 41, 3) := by decide +kernel
theorem dL_law_657 : decode cL_law 657 = .ok (.iconst 0, 1) := by decide +kernel
theorem dL_law_658 : decode cL_law 658 = .ok (.ireturn, 1) := by decide +kernel
theorem dL_law_659 : decode cL_law 659 = .ok (.aload_n 1, 1) := by decide +kernel
theorem dL_law_660 : decode cL_law 660 = .ok (.aload_n 0, 1) := by decide +kernel
theorem dL_law_661 : decode cL_law 661 = .ok (.iload_n 3, 1) := by decide +kernel
theorem dL_law_662 : decode cL_law 662 = .ok (.iconst 1, 1) := by decide +kernel
theorem dL_law_663 : decode cL_law 663 = .ok (.iadd, 1) := by decide +kernel
theorem dL_law_664 : decode cL_law 664 = .ok (.iaload, 1) := by decide +kernel
theorem dL_law_665 : decode cL_law 665 = .ok (.invokevirtual 82, 3) := by decide +kernel
theorem dL_law_668 : decode cL_law 668 = .ok (.aload_n 2, 1) := by decide +kernel
theorem dL_law_669 : decode cL_law 669 = .ok (.aload_n 0, 1) := by decide +kernel
theorem dL_law_670 : decode cL_law 670 = .ok (.iload_n 3, 1) := by decide +kernel
theorem dL_law_671 : decode cL_law 671 = .ok (.iconst 1, 1) := by decide +kernel
theorem dL_law_672 : decode cL_law 672 = .ok (.iadd, 1) := by decide +kernel
theorem dL_law_673 : decode cL_law 673 = .ok (.iaload, 1) := by decide +kernel
theorem dL_law_674 : decode cL_law 674 = .ok (.invokevirtual 85, 3) := by decide +kernel
theorem dL_law_677 : decode cL_law 677 = .ok (.if_icmp .eq 18, 3) := by decide +kernel
theorem dL_law_680 : decode cL_law 680 = .ok (.iconst 0, 1) := by decide +kernel
theorem dL_law_681 : decode cL_law 681 = .ok (.ireturn, 1) := by decide +kernel
theorem dL_law_682 : decode cL_law 682 = .ok (.aload_n 1, 1) := by decide +kernel
theorem dL_law_683 : decode cL_law 683 = .ok (.invokevirtual 86, 3) := by decide +kernel
theorem dL_law_686 : decode cL_law 686 = .ok (.aload_n 2, 1) := by decide +kernel
theorem dL_law_687 : decode cL_law 687 = .ok (.invokevirtual 89, 3) := by decide +kernel
theorem dL_law_690 : decode cL_law 690 = .ok (.if_icmp .eq 5, 3) := by decide +kernel
theorem dL_law_693 : decode cL_law 693 = .ok (.iconst 0, 1) := by decide +kernel
theorem dL_law_694 : decode cL_law 694 = .ok (.ireturn, 1) := by decide +kernel
theorem dL_law_695 : decode cL_law 695 = .ok (.iinc 3 5, 3) := by decide +kernel
theorem dL_law_698 : decode cL_law 698 = .ok (.goto (-680), 3) := by decide +kernel
theorem dL_law_701 : decode cL_law 701 = .ok (.iconst 1, 1) := by decide +kernel
theorem dL_law_702 : decode cL_law 702 = .ok (.ireturn, 1) := by decide +kernel
end
section
/-! ===== the pure words of the dock: one state for the class and for the reference ===== -/
/-- things; kinds; sizes (places, weight, litres); shut; numbers; parts; slots; fault; turns; turned slot; turned gate -/
abbrev q_St : Type := Nat × (Nat → Nat) × (Nat → Nat) × (Nat → Bool) × (Nat → Nat → Int64) × (Nat → Nat → Option Nat) × (Nat → Option Nat) × Int32 × Int32 × Int32 × Int32
def q_b (b : Bool) : Int32 := if b then 1 else 0
def q_am (k z : Nat) : Nat := if k < 9 then 0 else z
def q_nl (k z : Nat) : Nat := if k < 3 then z else 0
def q_pl (k z : Nat) : Nat := if 3 ≤ k ∧ k < 9 then z else 0
def q_rf (T0 : Nat) (o : Option Nat) : Option Nat := o.map (fun k => T0 + 3 * k)
def q_eI (o : Option Nat) : Int32 := match o with
  | none => -1
  | some k => nI k
def q_eL (o : Option Nat) : Int64 := match o with
  | none => -1
  | some k => lN k
def q_cv (k : Nat) (v : Int64) (o : Option Nat) : Int64 := if 3 ≤ k ∧ k < 9 then q_eL o else v
/-- what a row of kind a may hold: a thing of kind b -/
def q_ok (a b : Nat) : Prop := (a = 3 ∧ b = 0) ∨ (a = 4 ∧ (b = 9 ∨ b = 10)) ∨ (a = 5 ∧ b = 10) ∨ (a = 6 ∧ 9 ≤ b) ∨ (a = 7 ∧ (b = 4 ∨ b = 5)) ∨ (a = 8 ∧ b = 5)
/-- what holds of every state that is reached -/
def q_I (σ : q_St) : Prop := σ.1 ≤ 60 ∧ (∀ k, k < σ.1 → σ.2.1 k < 12 ∧ σ.2.2.1 k ≤ 1000000 ∧ (σ.2.1 k < 9 → σ.2.2.1 k ≤ 8) ∧ ∀ i j, σ.2.2.2.2.2.1 k i = some j → j < σ.1 ∧ q_ok (σ.2.1 k) (σ.2.1 j)) ∧ ∀ i k, σ.2.2.2.2.2.2.1 i = some k → k < σ.1
/-- the class numbers of the tables: the objects', and those of the arrays of int, long, boolean, Thing -/
abbrev q_E : Type := va_G × ClassId × ClassId × ClassId × ClassId
def q_K (E : q_E) (U : State) : Prop := va_K E.1 vwCl [(E.2.1, .int), (E.2.2.1, .long), (E.2.2.2.1, .boolean), (E.2.2.2.2, .object RX0)] U
def q_ob (E : q_E) (ci a : Nat) (fs : List Value) (H : Heap) : Prop := va_at E.1 vwCl (a, .inr (ci, fs)) H
def q_ia (E : q_E) (a n : Nat) (f : Nat → Int32) (H : Heap) : Prop := H[a]? = some (vp_cell E.2.1 (n, .inl f))
def q_ja (E : q_E) (a n : Nat) (f : Nat → Int64) (H : Heap) : Prop := H[a]? = some (vp_cell E.2.2.1 (n, .inr (.inl f)))
def q_za (E : q_E) (a n : Nat) (f : Nat → Int32) (H : Heap) : Prop := H[a]? = some (vp_cell E.2.2.2.1 (n, .inl f))
def q_ta (E : q_E) (a n : Nat) (f : Nat → Option Nat) (H : Heap) : Prop := H[a]? = some (vp_cell E.2.2.2.2 (n, .inr (.inr (.inr (.inr f)))))
/-- one thing and its two rows -/
def q_th (E : q_E) (T0 k kd sz : Nat) (sh : Bool) (nu : Nat → Int64) (pa : Nat → Option Nat) (H : Heap) : Prop :=
  q_ob E 0 (T0 + 3 * k) [.int (nI k), .int (nI kd), .ref (T0 + 3 * k + 1), .ref (T0 + 3 * k + 2), .int (nI (q_am kd sz)), .int (q_b sh)] H ∧ q_ja E (T0 + 3 * k + 1) (q_nl kd sz) nu H ∧ q_ta E (T0 + 3 * k + 2) (q_pl kd sz) (fun i => q_rf T0 (pa i)) H
/-- the class's object at x, its slots at x + 1, the things from T0 on, three cells each, and nothing behind them -/
def q_X (E : q_E) (x T0 : Nat) (σ : q_St) (H : Heap) : Prop :=
  q_ob E 1 x [.ref (x + 1), .int (nI σ.1), .int σ.2.2.2.2.2.2.2.1, .int σ.2.2.2.2.2.2.2.2.1, .int σ.2.2.2.2.2.2.2.2.2.1, .int σ.2.2.2.2.2.2.2.2.2.2] H ∧
  q_ta E (x + 1) 12 (fun j => q_rf T0 (σ.2.2.2.2.2.2.1 j)) H ∧
  (∀ k, k < σ.1 → q_th E T0 k (σ.2.1 k) (σ.2.2.1 k) (σ.2.2.2.1 k) (σ.2.2.2.2.1 k) (σ.2.2.2.2.2.1 k) H) ∧ H.size = T0 + 3 * σ.1 ∧ x + 1 < T0
/-- the reference's object at m, its five rows behind it -/
def q_M (E : q_E) (m S : Nat) (σ : q_St) (H : Heap) : Prop :=
  q_ob E 2 m [.int (nI σ.1), .ref (m + 1), .ref (m + 2), .ref (m + 3), .ref (m + 4), .ref (m + 5), .int σ.2.2.2.2.2.2.2.1, .int σ.2.2.2.2.2.2.2.2.1, .int σ.2.2.2.2.2.2.2.2.2.1, .int σ.2.2.2.2.2.2.2.2.2.2] H ∧
  q_ia E (m + 1) 60 (fun k => nI (σ.2.1 k)) H ∧ q_ia E (m + 2) 60 (fun k => nI (σ.2.2.1 k)) H ∧ q_za E (m + 3) 60 (fun k => q_b (σ.2.2.2.1 k)) H ∧
  q_ja E (m + 4) 480 (fun q => q_cv (σ.2.1 (q / 8)) (σ.2.2.2.2.1 (q / 8) (q % 8)) (σ.2.2.2.2.2.1 (q / 8) (q % 8))) H ∧
  q_ia E (m + 5) 12 (fun j => q_eI (σ.2.2.2.2.2.2.1 j)) H ∧ H.size = S
/-- which cells a method of the class, of the reference may write -/
def q_Ax (x T0 : Nat) : Nat → Prop := fun q => q = x ∨ q = x + 1 ∨ T0 ≤ q
def q_Am (m : Nat) : Nat → Prop := fun q => m ≤ q ∧ q ≤ m + 5
/-! ===== numbers ===== -/
theorem q_c {a b : Nat} (h : a = b) : nI a = nI b := by rw [h]
theorem q_nm1 {k : Nat} (h : k < 2 ^ 31) : ¬ nI k = (-1) := by
  intro e
  have h1 := congrArg Int32.toInt e
  rw [nI_toInt h] at h1
  have h2 : (-1 : Int32).toInt = -1 := by decide
  omega
theorem q_eIn {o : Option Nat} (ho : ∀ k, o = some k → k < 2 ^ 31) : q_eI o = (-1) ↔ o = none := by
  cases o with
  | none => simp [q_eI]
  | some k => simp [q_eI, q_nm1 (ho k rfl)]
theorem q_b01 (b : Bool) : q_b b = 0 ∨ q_b b = 1 := by cases b <;> simp [q_b]
/-- an int as a place below n -/
def q_ix (x : Int32) (n : Nat) : Option Nat := if x < 0 ∨ n ≤ x.toNatClampNeg then none else some x.toNatClampNeg
theorem q_ix_in {j n : Nat} (h : j < n) (hn : n ≤ 2 ^ 31) : q_ix (nI j) n = some j := by
  have h1 : (nI j).toNatClampNeg = j := nI_clamp (by omega)
  have h2 : ¬ nI j < 0 := nI_pos (by omega)
  unfold q_ix
  rw [h1, if_neg (by intro q; rcases q with q | q; exact h2 q; omega)]
theorem q_ix_neg {x : Int32} {n : Nat} (h : x < 0) : q_ix x n = none := by unfold q_ix; rw [if_pos (Or.inl h)]
theorem q_ix_big {x : Int32} {n : Nat} (hn : n < 2 ^ 31) (h : nI n ≤ x) : q_ix x n = none := by
  unfold q_ix
  by_cases h0 : x < 0
  · rw [if_pos (Or.inl h0)]
  · obtain ⟨j, hj, rfl⟩ := nI_of h0
    rw [if_pos (Or.inr (by rw [nI_clamp hj]; exact (nI_leI hn hj).mp h))]
theorem q_ix_of {x : Int32} {n : Nat} (hn : n < 2 ^ 31) (h0 : ¬ x < 0) (h1 : ¬ nI n ≤ x) : ∃ j : Nat, j < n ∧ x = nI j := by
  rcases pk_ix x hn with h | h | h
  · exact absurd h h0
  · exact absurd h h1
  · exact h
theorem q_ix_none {j n : Nat} (h : n ≤ j) (hj : j < 2 ^ 31) : q_ix (nI j) n = none := q_ix_big (by omega) (nI_le h hj)
/-- every int: below n, or out -/
theorem q_ix_or (x : Int32) {n : Nat} (hn : n < 2 ^ 31) : (∃ j, j < n ∧ x = nI j) ∨ q_ix x n = none := by
  rcases pk_ix x hn with h | h | h
  · exact Or.inr (q_ix_neg h)
  · exact Or.inr (q_ix_big hn h)
  · exact Or.inl h
theorem q_pl0 {n : Nat} : n - 0 = n := rfl
/-! ===== the heap's pictures: kept where their cell is ===== -/
theorem q_P1 {E : q_E} {ci a : Nat} {fs : List Value} {H : Heap} (h : q_ob E ci a fs H) : va_P E.1 vwCl [(a, .inr (ci, fs))] H := fun k q hq => by
  have hz : k < 1 := (List.getElem?_eq_some_iff.mp hq).1
  rw [show k = 0 by omega] at hq
  cases hq
  exact h
theorem q_P2 {D : va_G} {cA : ClassId} {a : Nat} {y : vp_A} {H : Heap} (h : H[a]? = some (vp_cell cA y)) : va_P D vwCl [(a, .inl (cA, y))] H := fun k q hq => by
  have hz : k < 1 := (List.getElem?_eq_some_iff.mp hq).1
  rw [show k = 0 by omega] at hq
  cases hq
  exact h
theorem q_ob.kept {E : q_E} {ci a : Nat} {fs : List Value} {H H1 : Heap} (h : q_ob E ci a fs H) (hq : H1[a]? = H[a]?) : q_ob E ci a fs H1 := va_at.kept h hq
theorem q_ja_congr {E : q_E} {a n : Nat} {f g : Nat → Int64} {H : Heap} (h : q_ja E a n f H) (e : ∀ j, j < n → f j = g j) : q_ja E a n g H := by
  unfold q_ja at h ⊢
  rw [h, vp_cell_l, vp_cell_l]
  congr 1
  simp only [arrV]
  congr 2
  funext j
  rw [e j.val j.isLt]
theorem q_ta_congr {E : q_E} {a n : Nat} {f g : Nat → Option Nat} {H : Heap} (h : q_ta E a n f H) (e : ∀ j, j < n → f j = g j) : q_ta E a n g H := by
  unfold q_ta at h ⊢
  rw [h, vp_cell_q, vp_cell_q]
  congr 1
  simp only [arrV]
  congr 2
  funext j
  rw [e j.val j.isLt]
theorem q_ia_congr {E : q_E} {a n : Nat} {f g : Nat → Int32} {H : Heap} (h : q_ia E a n f H) (e : ∀ j, j < n → f j = g j) : q_ia E a n g H := by
  unfold q_ia at h ⊢
  rw [h, vp_cell_i, vp_cell_i]
  congr 1
  simp only [arrV]
  congr 2
  funext j
  rw [e j.val j.isLt]
theorem q_za_congr {E : q_E} {a n : Nat} {f g : Nat → Int32} {H : Heap} (h : q_za E a n f H) (e : ∀ j, j < n → f j = g j) : q_za E a n g H := by
  unfold q_za at h ⊢
  rw [h, vp_cell_i, vp_cell_i]
  congr 1
  simp only [arrV]
  congr 2
  funext j
  rw [e j.val j.isLt]
theorem q_th.kept {E : q_E} {T0 k kd sz : Nat} {sh : Bool} {nu : Nat → Int64} {pa : Nat → Option Nat} {H H1 : Heap} (h : q_th E T0 k kd sz sh nu pa H) (hq : ∀ q, T0 + 3 * k ≤ q → q ≤ T0 + 3 * k + 2 → H1[q]? = H[q]?) : q_th E T0 k kd sz sh nu pa H1 :=
  ⟨h.1.kept (hq _ (by omega) (by omega)), (hq _ (by omega) (by omega)).trans h.2.1, (hq _ (by omega) (by omega)).trans h.2.2⟩
theorem q_lt {α : Type} {xs : Array α} {i : Nat} {v : α} (h : xs[i]? = some v) : i < xs.size := (Array.getElem?_eq_some_iff.mp h).1
theorem q_ob.lt {E : q_E} {ci a : Nat} {fs : List Value} {H : Heap} (h : q_ob E ci a fs H) : a < H.size := va_at.lt h
theorem q_M.kept {E : q_E} {m S S1 : Nat} {σ : q_St} {H H1 : Heap} (h : q_M E m S σ H) (hz : H1.size = S1) (hq : ∀ q, q_Am m q → H1[q]? = H[q]?) : q_M E m S1 σ H1 :=
  ⟨h.1.kept (hq _ ⟨by omega, by omega⟩), (hq _ ⟨by omega, by omega⟩).trans h.2.1, (hq _ ⟨by omega, by omega⟩).trans h.2.2.1, (hq _ ⟨by omega, by omega⟩).trans h.2.2.2.1, (hq _ ⟨by omega, by omega⟩).trans h.2.2.2.2.1, (hq _ ⟨by omega, by omega⟩).trans h.2.2.2.2.2.1, hz⟩
theorem q_X.kept {E : q_E} {x T0 : Nat} {σ : q_St} {H H1 : Heap} (h : q_X E x T0 σ H) (hz : H1.size = H.size) (hq : ∀ q, q_Ax x T0 q → H1[q]? = H[q]?) : q_X E x T0 σ H1 :=
  ⟨h.1.kept (hq _ (Or.inl rfl)), (hq _ (Or.inr (Or.inl rfl))).trans h.2.1, fun k hk => (h.2.2.1 k hk).kept (fun q h1 _ => hq q (Or.inr (Or.inr (by omega)))), hz.trans h.2.2.2.1, h.2.2.2.2⟩
/-- the class's own fields change -/
theorem q_X.obj {E : q_E} {x T0 n : Nat} {kd sz : Nat → Nat} {sh : Nat → Bool} {nu : Nat → Nat → Int64} {pa : Nat → Nat → Option Nat} {sl : Nat → Option Nat} {ft tn ts tg ft' tn' ts' tg' : Int32} {H H1 : Heap} (h : q_X E x T0 (n, kd, sz, sh, nu, pa, sl, ft, tn, ts, tg) H) (ho : q_ob E 1 x [.ref (x + 1), .int (nI n), .int ft', .int tn', .int ts', .int tg'] H1) (hz : H1.size = H.size) (hq : ∀ q, q ≠ x → H1[q]? = H[q]?) : q_X E x T0 (n, kd, sz, sh, nu, pa, sl, ft', tn', ts', tg') H1 := by
  have hx := h.2.2.2.2
  exact ⟨ho, (hq _ (by omega)).trans h.2.1, fun k hk => (h.2.2.1 k hk).kept (fun q h1 _ => hq q (by omega)), hz.trans h.2.2.2.1, hx⟩
/-- the reference's own fields change -/
theorem q_M.obj {E : q_E} {m S n : Nat} {kd sz : Nat → Nat} {sh : Nat → Bool} {nu : Nat → Nat → Int64} {pa : Nat → Nat → Option Nat} {sl : Nat → Option Nat} {ft tn ts tg ft' tn' ts' tg' : Int32} {H H1 : Heap} (h : q_M E m S (n, kd, sz, sh, nu, pa, sl, ft, tn, ts, tg) H) (ho : q_ob E 2 m [.int (nI n), .ref (m + 1), .ref (m + 2), .ref (m + 3), .ref (m + 4), .ref (m + 5), .int ft', .int tn', .int ts', .int tg'] H1) (hz : H1.size = H.size) (hq : ∀ q, q ≠ m → H1[q]? = H[q]?) : q_M E m S (n, kd, sz, sh, nu, pa, sl, ft', tn', ts', tg') H1 :=
  ⟨ho, (hq _ (by omega)).trans h.2.1, (hq _ (by omega)).trans h.2.2.1, (hq _ (by omega)).trans h.2.2.2.1, (hq _ (by omega)).trans h.2.2.2.2.1, (hq _ (by omega)).trans h.2.2.2.2.2.1, hz.trans h.2.2.2.2.2.2⟩
/-! ===== rows: an instruction over these pictures ===== -/
section QW
variable {p : Program} {l : Launch} {e : Env} {R : Room} {s : State} {m : MethodId} {args : Array Value} {below : List Frame} {meth : Method} {c : Code} {H : Heap} {locs : List Loc} {cells slots : Nat} {Q : State → Prop}
variable {cc : ByteArray} {pc : Nat} {ls : Array Slot} {rest : List Value} {E : q_E} {A : Nat → Prop} {a : Nat} {H0 : Heap}
theorem qw_get (hexec : p.tables.exec = Jvm.exec) (hb : c.code = cc) {own ref C : String} {T : u_T} {N ci index : Nat} {Ts : List Cond} (hts : ∀ w ∈ Ts, w.before args s = true) (hin : ∀ w ∈ u_ws C T N, w ∈ Ts) (hown : s.vm.findClass own = some m.cls) (hK : q_K E s) {fs : List Value} (ho : q_ob E ci a fs H) (hc : vwCl[ci]? = some (C, T, N)) (k : Nat) (hk : k < N) (hlink : (Cond.fieldLink own index ref (T k).2.1 (T k).2.2.1).before args s = true) (hsame : (T k).1 = ref) {v : Value} (hv : fs[k]? = some v) (hdg : decode cc pc = .ok (.getfield index, 3))
    (kk : W p l e R s m args below meth c H locs cells slots Q (F0 m (pc + 3) ls (v :: rest))) : W p l e R s m args below meth c H locs cells slots Q (F0 m pc ls (.ref a :: rest)) :=
  va_get hexec hb hts hin hown hK (q_P1 ho) 0 rfl hc k hk hlink (fun x hx => by rw [← hsame]; exact hx) hv hdg kk
theorem qw_put (hexec : p.tables.exec = Jvm.exec) (hb : c.code = cc) {own ref C : String} {T : u_T} {N ci index : Nat} {Ts : List Cond} (hts : ∀ w ∈ Ts, w.before args s = true) (hin : ∀ w ∈ u_ws C T N, w ∈ Ts) (ty0 : Nat → FieldType) (hty : ∀ k, k < N → parseFieldDescriptor (T k).2.2.1 = some (ty0 k)) (hnm : ∀ a, a < N → ∀ b, b < N → a ≠ b → (T a).2.1 ≠ (T b).2.1) (hown : s.vm.findClass own = some m.cls) (hK : q_K E s) {fs : List Value} (ho : q_ob E ci a fs H) (hS0 : va_S A H0 H locs) (hAa : A a) (hc : vwCl[ci]? = some (C, T, N)) (k : Nat) (hk : k < N) (hlink : (Cond.fieldLink own index ref (T k).2.1 (T k).2.2.1).before args s = true) (hsame : (T k).1 = ref) (hfin : (T k).2.2.2 = false) {v : Value} (hn : narrow (ty0 k) v = v) (hfit : fits (ty0 k) v = true) (hl : k < fs.length)
    (hdg : decode cc pc = .ok (.putfield index, 3)) (kk : ∀ (H1 : Heap) (locs1 : List Loc), q_ob E ci a (fs.set k v) H1 → H1.size = H.size → (∀ q, q ≠ a → H1[q]? = H[q]?) → va_S A H0 H1 locs1 → W p l e R s m args below meth c H1 locs1 cells slots Q (F0 m (pc + 3) ls rest)) : W p l e R s m args below meth c H locs cells slots Q (F0 m pc ls (v :: .ref a :: rest)) := by
  have hap := va_apart (own := own) hts hin ty0 hty hnm hK hc
  obtain ⟨r, h1, cell, q1, q2, q3, q4⟩ := ho
  have hr : r = (C, T, N) := Option.some.inj (h1.symm.trans hc)
  subst hr
  obtain ⟨hS, hfc, kC, hkC, hkind⟩ := hK.1 ci _ hc
  obtain ⟨cf, kf, fi, f, hi, hsl⟩ := hS k hk
  have hlay := hts _ (hin _ (u_in_lay hk))
  unfold u_lay at hlay
  rw [if_neg (by rw [hfin]; decide)] at hlay
  have hst := (u_facts hfc hkC (u_lays hts hin hk) hi).1
  have h6 := u_store hfc hkC hkind hlay hi (hty k hk) hn hfit
  refine W.putK hexec hb (f := f) ⟨hown, hlink, ⟨_, _, _, by rw [← hsame]; exact hi⟩, hst⟩ (by rw [q2]; exact h6) q1 q3 (by rw [hsl]; exact k2_hasslot (q4 k hk)) rfl rfl hdg fun H' e1 e2 e3 => ?_
  rw [hsl] at e1 ⊢
  exact kk H' _ ⟨_, hc, t_OB.to (V := updV (vp_V fs) k v) ⟨_, e1, q2, q3, t_set q4 hap hk v⟩ (fun j _ => vp_updV_set hl v j)⟩ e2 e3 (hS0.put e2 e3 hAa)
theorem qw_putF (hexec : p.tables.exec = Jvm.exec) (hb : c.code = cc) {own ref C : String} {T : u_T} {N ci index : Nat} {Ts : List Cond} (hts : ∀ w ∈ Ts, w.before args s = true) (hin : ∀ w ∈ u_ws C T N, w ∈ Ts) (ty0 : Nat → FieldType) (hty : ∀ k, k < N → parseFieldDescriptor (T k).2.2.1 = some (ty0 k)) (hnm : ∀ a, a < N → ∀ b, b < N → a ≠ b → (T a).2.1 ≠ (T b).2.1) (hown : s.vm.findClass own = some m.cls) (hK : q_K E s) {fs : List Value} (ho : q_ob E ci a fs H) (hS0 : va_S A H0 H locs) (hAa : A a) (hc : vwCl[ci]? = some (C, T, N)) (k : Nat) (hk : k < N) (hlink : (Cond.fieldLink own index ref (T k).2.1 (T k).2.2.1).before args s = true) (hsame : (T k).1 = ref) (hfin : (T k).2.2.2 = true) (hin2 : meth.name = "<init>") (hdecl : (T k).1 = own) {v : Value} (hn : narrow (ty0 k) v = v) (hfit : fits (ty0 k) v = true) (hl : k < fs.length)
    (hdg : decode cc pc = .ok (.putfield index, 3)) (kk : ∀ (H1 : Heap) (locs1 : List Loc), q_ob E ci a (fs.set k v) H1 → H1.size = H.size → (∀ q, q ≠ a → H1[q]? = H[q]?) → va_S A H0 H1 locs1 → W p l e R s m args below meth c H1 locs1 cells slots Q (F0 m (pc + 3) ls rest)) : W p l e R s m args below meth c H locs cells slots Q (F0 m pc ls (v :: .ref a :: rest)) := by
  have hap := va_apart (own := own) hts hin ty0 hty hnm hK hc
  obtain ⟨r, h1, cell, q1, q2, q3, q4⟩ := ho
  have hr : r = (C, T, N) := Option.some.inj (h1.symm.trans hc)
  subst hr
  obtain ⟨hS, hfc, kC, hkC, hkind⟩ := hK.1 ci _ hc
  obtain ⟨cf, kf, fi, f, hi, hsl⟩ := hS k hk
  have hlay := hts _ (hin _ (u_in_lay hk))
  unfold u_lay at hlay
  rw [if_pos hfin] at hlay
  have hst := (u_facts hfc hkC (u_lays hts hin hk) hi).1
  have hcf : m.cls = cf := by
    obtain ⟨_, _, c', _, _, _, -, -, hf', -, -, -, hown2, -⟩ := Cond.laysFinal_spec hlay
    have e1 : c' = cf := by have := hi.symm.trans hf'; simp at this; exact this.1.symm
    rw [hdecl] at hown2
    rw [← e1]; exact Option.some.inj (hown.symm.trans hown2)
  have h6 := u_fits hfc hkC hkind (Or.inr hlay) hi (hty k hk) hn hfit
  refine W.putFinK hexec hb hown hlink (by rw [← hsame]; exact hi) hst hcf hin2 (by rw [q2]; exact h6) q1 q3 (by rw [hsl]; exact k2_hasslot (q4 k hk)) rfl rfl hdg fun H' e1 e2 e3 => ?_
  rw [hsl] at e1 ⊢
  exact kk H' _ ⟨_, hc, t_OB.to (V := updV (vp_V fs) k v) ⟨_, e1, q2, q3, t_set q4 hap hk v⟩ (fun j _ => vp_updV_set hl v j)⟩ e2 e3 (hS0.put e2 e3 hAa)
theorem qw_iald (hexec : p.tables.exec = Jvm.exec) (hb : c.code = cc) (hK : q_K E s) {n i : Nat} {f : Nat → Int32} (hc : q_ia E a n f H) (hi : i < n) (hn : n < 2 ^ 31) (hdg : decode cc pc = .ok (.iaload, 1))
    (kk : W p l e R s m args below meth c H locs cells slots Q (F0 m (pc + 1) ls (.int (f i) :: rest))) : W p l e R s m args below meth c H locs cells slots Q (F0 m pc ls (.int (nI i) :: .ref a :: rest)) :=
  va_iald hexec hb hK (q_P2 hc) 0 0 rfl rfl (vp_in_nI hi hn) hdg (by rw [nI_clamp (by omega)]; exact kk)
theorem qw_zald (hexec : p.tables.exec = Jvm.exec) (hb : c.code = cc) (hK : q_K E s) {n i : Nat} {f : Nat → Int32} (hc : q_za E a n f H) (hi : i < n) (hn : n < 2 ^ 31) (hdg : decode cc pc = .ok (.baload, 1))
    (kk : W p l e R s m args below meth c H locs cells slots Q (F0 m (pc + 1) ls (.int (f i) :: rest))) : W p l e R s m args below meth c H locs cells slots Q (F0 m pc ls (.int (nI i) :: .ref a :: rest)) :=
  va_zald hexec hb hK (q_P2 hc) 0 2 rfl rfl (vp_in_nI hi hn) hdg (by rw [nI_clamp (by omega)]; exact kk)
theorem qw_lald (hexec : p.tables.exec = Jvm.exec) (hb : c.code = cc) (hK : q_K E s) {n i : Nat} {f : Nat → Int64} (hc : q_ja E a n f H) (hi : i < n) (hn : n < 2 ^ 31) (hdg : decode cc pc = .ok (.laload, 1))
    (kk : W p l e R s m args below meth c H locs cells slots Q (F0 m (pc + 1) ls (.long (f i) :: rest))) : W p l e R s m args below meth c H locs cells slots Q (F0 m pc ls (.int (nI i) :: .ref a :: rest)) :=
  va_lald hexec hb hK (q_P2 hc) 0 1 rfl rfl (vp_in_nI hi hn) hdg (by rw [nI_clamp (by omega)]; exact kk)
theorem qw_aald (hexec : p.tables.exec = Jvm.exec) (hb : c.code = cc) (hK : q_K E s) {n i : Nat} {f : Nat → Option Nat} (hc : q_ta E a n f H) (hi : i < n) (hn : n < 2 ^ 31) (hdg : decode cc pc = .ok (.aaload, 1))
    (kk : W p l e R s m args below meth c H locs cells slots Q (F0 m (pc + 1) ls (va_rf (f i) :: rest))) : W p l e R s m args below meth c H locs cells slots Q (F0 m pc ls (.int (nI i) :: .ref a :: rest)) :=
  va_aldq hexec hb hK (q_P2 hc) 0 3 rfl rfl (vp_in_nI hi hn) hdg (by rw [nI_clamp (by omega)]; exact kk)
theorem qw_jlen (hexec : p.tables.exec = Jvm.exec) (hb : c.code = cc) (hK : q_K E s) {n : Nat} {f : Nat → Int64} (hc : q_ja E a n f H) (hdg : decode cc pc = .ok (.arraylength, 1))
    (kk : W p l e R s m args below meth c H locs cells slots Q (F0 m (pc + 1) ls (.int (nI n) :: rest))) : W p l e R s m args below meth c H locs cells slots Q (F0 m pc ls (.ref a :: rest)) :=
  va_alen hexec hb hK (q_P2 hc) 0 1 rfl rfl rfl hdg kk
theorem qw_tlen (hexec : p.tables.exec = Jvm.exec) (hb : c.code = cc) (hK : q_K E s) {n : Nat} {f : Nat → Option Nat} (hc : q_ta E a n f H) (hdg : decode cc pc = .ok (.arraylength, 1))
    (kk : W p l e R s m args below meth c H locs cells slots Q (F0 m (pc + 1) ls (.int (nI n) :: rest))) : W p l e R s m args below meth c H locs cells slots Q (F0 m pc ls (.ref a :: rest)) :=
  va_alen hexec hb hK (q_P2 hc) 0 3 rfl rfl rfl hdg kk
theorem qw_iast (hexec : p.tables.exec = Jvm.exec) (hb : c.code = cc) (hK : q_K E s) {n i : Nat} {f : Nat → Int32} {x : Int32} (hc : q_ia E a n f H) (hS : va_S A H0 H locs) (hAa : A a) (hi : i < n) (hn : n < 2 ^ 31) (hdg : decode cc pc = .ok (.iastore, 1))
    (kk : ∀ (H1 : Heap) (locs1 : List Loc), q_ia E a n (va_up f i x) H1 → H1.size = H.size → (∀ q, q ≠ a → H1[q]? = H[q]?) → va_S A H0 H1 locs1 → W p l e R s m args below meth c H1 locs1 cells slots Q (F0 m (pc + 1) ls rest)) : W p l e R s m args below meth c H locs cells slots Q (F0 m pc ls (.int x :: .int (nI i) :: .ref a :: rest)) := by
  have hcl : (nI i).toNatClampNeg = i := nI_clamp (by omega)
  refine W.iast hexec hb hc ((hK.2 0 _ rfl).1 n (fun j => .int (f j))) (fun q => by cases q) (by show ¬ (_ ∨ (arrV _ _ _).slots.size ≤ _); rw [arrV_size]; exact vp_in_nI hi hn) rfl rfl hdg fun H1 e z oq => ?_
  refine kk H1 _ ?_ z oq (hS.put z oq hAa)
  unfold q_ia
  rw [e, hcl, vp_cell_i, vp_cell_i, arrV_store]
  congr 2
  funext q
  by_cases hq : q = i <;> simp [updV, va_up, hq]
theorem qw_zast (hexec : p.tables.exec = Jvm.exec) (hb : c.code = cc) (hK : q_K E s) {n i : Nat} {f : Nat → Int32} {x : Bool} (hc : q_za E a n f H) (hS : va_S A H0 H locs) (hAa : A a) (hi : i < n) (hn : n < 2 ^ 31) (hdg : decode cc pc = .ok (.bastore, 1))
    (kk : ∀ (H1 : Heap) (locs1 : List Loc), q_za E a n (va_up f i (q_b x)) H1 → H1.size = H.size → (∀ q, q ≠ a → H1[q]? = H[q]?) → va_S A H0 H1 locs1 → W p l e R s m args below meth c H1 locs1 cells slots Q (F0 m (pc + 1) ls rest)) : W p l e R s m args below meth c H locs cells slots Q (F0 m pc ls (.int (q_b x) :: .int (nI i) :: .ref a :: rest)) := by
  have hcl : (nI i).toNatClampNeg = i := nI_clamp (by omega)
  refine W.zast hexec hb hc ((hK.2 2 _ rfl).1 n (fun j => .int (f j))) (fun q => by cases q) (by show ¬ (_ ∨ (arrV _ _ _).slots.size ≤ _); rw [arrV_size]; exact vp_in_nI hi hn) rfl rfl hdg fun H1 e z oq => ?_
  refine kk H1 _ ?_ z oq (hS.put z oq hAa)
  unfold q_za
  rw [e, hcl, vp_cell_i, vp_cell_i, arrV_store]
  congr 2
  funext q
  by_cases hq : q = i
  · cases x <;> simp [updV, va_up, hq, q_b] <;> rfl
  · simp [updV, va_up, hq]
theorem qw_last (hexec : p.tables.exec = Jvm.exec) (hb : c.code = cc) (hK : q_K E s) {n i : Nat} {f : Nat → Int64} {x : Int64} (hc : q_ja E a n f H) (hS : va_S A H0 H locs) (hAa : A a) (hi : i < n) (hn : n < 2 ^ 31) (hdg : decode cc pc = .ok (.lastore, 1))
    (kk : ∀ (H1 : Heap) (locs1 : List Loc), q_ja E a n (va_up f i x) H1 → H1.size = H.size → (∀ q, q ≠ a → H1[q]? = H[q]?) → va_S A H0 H1 locs1 → W p l e R s m args below meth c H1 locs1 cells slots Q (F0 m (pc + 1) ls rest)) : W p l e R s m args below meth c H locs cells slots Q (F0 m pc ls (.long x :: .int (nI i) :: .ref a :: rest)) := by
  have hcl : (nI i).toNatClampNeg = i := nI_clamp (by omega)
  refine W.last hexec hb hc ((hK.2 1 _ rfl).1 n (fun j => .long (f j))) (fun q => by cases q) (by show ¬ (_ ∨ (arrV _ _ _).slots.size ≤ _); rw [arrV_size]; exact vp_in_nI hi hn) rfl rfl hdg fun H1 e z oq => ?_
  refine kk H1 _ ?_ z oq (hS.put z oq hAa)
  unfold q_ja
  rw [e, hcl, vp_cell_l, vp_cell_l, arrV_store]
  congr 2
  funext q
  by_cases hq : q = i <;> simp [updV, va_up, hq]
theorem qw_aast (hexec : p.tables.exec = Jvm.exec) (hb : c.code = cc) (hK : q_K E s) {n i v : Nat} {f : Nat → Option Nat} {vs : List Value} (hc : q_ta E a n f H) (hv : q_ob E 0 v vs H) (hS : va_S A H0 H locs) (hAa : A a) (hi : i < n) (hn : n < 2 ^ 31) (hdg : decode cc pc = .ok (.aastore, 1))
    (kk : ∀ (H1 : Heap) (locs1 : List Loc), q_ta E a n (va_up f i (some v)) H1 → H1.size = H.size → (∀ q, q ≠ a → H1[q]? = H[q]?) → va_S A H0 H1 locs1 → W p l e R s m args below meth c H1 locs1 cells slots Q (F0 m (pc + 1) ls rest)) : W p l e R s m args below meth c H locs cells slots Q (F0 m pc ls (.ref v :: .int (nI i) :: .ref a :: rest)) := by
  have hcl : (nI i).toNatClampNeg = i := nI_clamp (by omega)
  obtain ⟨r', hr', cellV, g1, g2, g3, -⟩ := hv
  have hcls := (hK.1 0 (RX0, TX0, 6) rfl).2
  obtain ⟨kA, comp, k1, k2, k3, -⟩ := (hK.2 3 _ rfl).2
  have hcomp : comp = E.1.1 0 := Option.some.inj (k3.symm.trans hcls.1)
  subst hcomp
  obtain ⟨kC, hkC, -⟩ := hcls.2
  refine W.aast hexec hb hc (fun q h => by cases h) (fun h => by cases h) k1 k2 rfl hkC ⟨nI_pos (by omega), by show _ < (arrV _ _ _).slots.size; rw [arrV_size, hcl]; exact hi⟩ g1 (fun q h => by rw [g3] at h; cases h) (by rw [g2]; exact hkC) (by rw [g2]; exact va_assign hcls) rfl rfl hdg fun H1 e z oq => ?_
  refine kk H1 _ ?_ z oq (hS.put z oq hAa)
  unfold q_ta
  rw [e, hcl, vp_cell_q, vp_cell_q, arrV_store]
  congr 2
  funext q
  by_cases hq : q = i <;> simp [updV, va_up, hq, va_rf]
theorem qw_aastN (hexec : p.tables.exec = Jvm.exec) (hb : c.code = cc) (hK : q_K E s) {n i : Nat} {f : Nat → Option Nat} (hc : q_ta E a n f H) (hS : va_S A H0 H locs) (hAa : A a) (hi : i < n) (hn : n < 2 ^ 31) (hdg : decode cc pc = .ok (.aastore, 1))
    (kk : ∀ (H1 : Heap) (locs1 : List Loc), q_ta E a n (va_up f i none) H1 → H1.size = H.size → (∀ q, q ≠ a → H1[q]? = H[q]?) → va_S A H0 H1 locs1 → W p l e R s m args below meth c H1 locs1 cells slots Q (F0 m (pc + 1) ls rest)) : W p l e R s m args below meth c H locs cells slots Q (F0 m pc ls (.null :: .int (nI i) :: .ref a :: rest)) := by
  have hcl : (nI i).toNatClampNeg = i := nI_clamp (by omega)
  refine va_WaastN (C := RX0) hexec hb hc ((hK.2 3 _ rfl).1 n (fun j => va_rf (f j))) (fun h => by cases h) (by show ¬ (_ ∨ (arrV _ _ _).slots.size ≤ _); rw [arrV_size]; exact vp_in_nI hi hn) rfl rfl hdg fun H1 e z oq => ?_
  refine kk H1 _ ?_ z oq (hS.put z oq hAa)
  unfold q_ta
  rw [e, hcl, vp_cell_q, vp_cell_q, arrV_store]
  congr 2
  funext q
  by_cases hq : q = i <;> simp [updV, va_up, hq, va_rf]
/-! numbers that are no greater than an int holds, as natural numbers -/
theorem ln_add (hexec : p.tables.exec = Jvm.exec) (hb : c.code = cc) {a b : Nat} (hdg : decode cc pc = .ok (.iadd, 1)) (k : W p l e R s m args below meth c H locs cells slots Q (F0 m (pc + 1) ls (.int (nI (a + b)) :: rest))) : W p l e R s m args below meth c H locs cells slots Q (F0 m pc ls (.int (nI b) :: .int (nI a) :: rest)) := lv_iadd hexec hb hdg (by rw [nI_add]; exact k)
theorem ln_mul (hexec : p.tables.exec = Jvm.exec) (hb : c.code = cc) {a b : Nat} (hdg : decode cc pc = .ok (.imul, 1)) (k : W p l e R s m args below meth c H locs cells slots Q (F0 m (pc + 1) ls (.int (nI (a * b)) :: rest))) : W p l e R s m args below meth c H locs cells slots Q (F0 m pc ls (.int (nI b) :: .int (nI a) :: rest)) := lv_imul hexec hb hdg (by rw [pk_mul]; exact k)
theorem ln_sub (hexec : p.tables.exec = Jvm.exec) (hb : c.code = cc) {a b : Nat} (h : b ≤ a) (hdg : decode cc pc = .ok (.isub, 1)) (k : W p l e R s m args below meth c H locs cells slots Q (F0 m (pc + 1) ls (.int (nI (a - b)) :: rest))) : W p l e R s m args below meth c H locs cells slots Q (F0 m pc ls (.int (nI b) :: .int (nI a) :: rest)) := lv_isub hexec hb hdg (by rw [pk_sub h]; exact k)
theorem ln_cmp_eq (hexec : p.tables.exec = Jvm.exec) (hb : c.code = cc) {a b : Nat} {off : Int} {tgt : Nat} (ha : a < 2 ^ 31) (hb2 : b < 2 ^ 31) (hdg : decode cc pc = .ok (.if_icmp .eq off, 3)) (ht : (pc : Int) + off = (tgt : Int)) (kt : a = b → W p l e R s m args below meth c H locs cells slots Q (F0 m tgt ls rest)) (kf : ¬ a = b → W p l e R s m args below meth c H locs cells slots Q (F0 m (pc + 3) ls rest)) : W p l e R s m args below meth c H locs cells slots Q (F0 m pc ls (.int (nI b) :: .int (nI a) :: rest)) :=
  lv_icmp_eq hexec hb hdg ht (fun h => kt ((nI_eq ha hb2).mp h)) (fun h => kf (fun q => h ((nI_eq ha hb2).mpr q)))
theorem ln_cmp_ne (hexec : p.tables.exec = Jvm.exec) (hb : c.code = cc) {a b : Nat} {off : Int} {tgt : Nat} (ha : a < 2 ^ 31) (hb2 : b < 2 ^ 31) (hdg : decode cc pc = .ok (.if_icmp .ne off, 3)) (ht : (pc : Int) + off = (tgt : Int)) (kt : ¬ a = b → W p l e R s m args below meth c H locs cells slots Q (F0 m tgt ls rest)) (kf : a = b → W p l e R s m args below meth c H locs cells slots Q (F0 m (pc + 3) ls rest)) : W p l e R s m args below meth c H locs cells slots Q (F0 m pc ls (.int (nI b) :: .int (nI a) :: rest)) :=
  lv_icmp_ne hexec hb hdg ht (fun h => kt (fun q => h ((nI_eq ha hb2).mpr q))) (fun h => kf ((nI_eq ha hb2).mp h))
theorem ln_cmp_lt (hexec : p.tables.exec = Jvm.exec) (hb : c.code = cc) {a b : Nat} {off : Int} {tgt : Nat} (ha : a < 2 ^ 31) (hb2 : b < 2 ^ 31) (hdg : decode cc pc = .ok (.if_icmp .lt off, 3)) (ht : (pc : Int) + off = (tgt : Int)) (kt : a < b → W p l e R s m args below meth c H locs cells slots Q (F0 m tgt ls rest)) (kf : b ≤ a → W p l e R s m args below meth c H locs cells slots Q (F0 m (pc + 3) ls rest)) : W p l e R s m args below meth c H locs cells slots Q (F0 m pc ls (.int (nI b) :: .int (nI a) :: rest)) :=
  lv_icmp_lt hexec hb hdg ht (fun h => kt ((nI_ltI ha hb2).mp h)) (fun h => kf (Nat.not_lt.mp (fun q => h ((nI_ltI ha hb2).mpr q))))
theorem ln_cmp_ge (hexec : p.tables.exec = Jvm.exec) (hb : c.code = cc) {a b : Nat} {off : Int} {tgt : Nat} (ha : a < 2 ^ 31) (hb2 : b < 2 ^ 31) (hdg : decode cc pc = .ok (.if_icmp .ge off, 3)) (ht : (pc : Int) + off = (tgt : Int)) (kt : b ≤ a → W p l e R s m args below meth c H locs cells slots Q (F0 m tgt ls rest)) (kf : a < b → W p l e R s m args below meth c H locs cells slots Q (F0 m (pc + 3) ls rest)) : W p l e R s m args below meth c H locs cells slots Q (F0 m pc ls (.int (nI b) :: .int (nI a) :: rest)) :=
  lv_icmp_ge hexec hb hdg ht (fun h => kt ((nI_leI hb2 ha).mp h)) (fun h => kf (Nat.not_le.mp (fun q => h ((nI_leI hb2 ha).mpr q))))
theorem ln_cmp_gt (hexec : p.tables.exec = Jvm.exec) (hb : c.code = cc) {a b : Nat} {off : Int} {tgt : Nat} (ha : a < 2 ^ 31) (hb2 : b < 2 ^ 31) (hdg : decode cc pc = .ok (.if_icmp .gt off, 3)) (ht : (pc : Int) + off = (tgt : Int)) (kt : b < a → W p l e R s m args below meth c H locs cells slots Q (F0 m tgt ls rest)) (kf : a ≤ b → W p l e R s m args below meth c H locs cells slots Q (F0 m (pc + 3) ls rest)) : W p l e R s m args below meth c H locs cells slots Q (F0 m pc ls (.int (nI b) :: .int (nI a) :: rest)) :=
  lv_icmp_gt hexec hb hdg ht (fun h => kt ((nI_ltI hb2 ha).mp h)) (fun h => kf (Nat.not_lt.mp (fun q => h ((nI_ltI hb2 ha).mpr q))))
theorem ln_cmp_le (hexec : p.tables.exec = Jvm.exec) (hb : c.code = cc) {a b : Nat} {off : Int} {tgt : Nat} (ha : a < 2 ^ 31) (hb2 : b < 2 ^ 31) (hdg : decode cc pc = .ok (.if_icmp .le off, 3)) (ht : (pc : Int) + off = (tgt : Int)) (kt : a ≤ b → W p l e R s m args below meth c H locs cells slots Q (F0 m tgt ls rest)) (kf : b < a → W p l e R s m args below meth c H locs cells slots Q (F0 m (pc + 3) ls rest)) : W p l e R s m args below meth c H locs cells slots Q (F0 m pc ls (.int (nI b) :: .int (nI a) :: rest)) :=
  lv_icmp_le hexec hb hdg ht (fun h => kt ((nI_leI ha hb2).mp h)) (fun h => kf (Nat.not_le.mp (fun q => h ((nI_leI ha hb2).mpr q))))
theorem ln_if_eq (hexec : p.tables.exec = Jvm.exec) (hb : c.code = cc) {a : Nat} {off : Int} {tgt : Nat} (ha : a < 2 ^ 31) (hdg : decode cc pc = .ok (.ifCond .eq off, 3)) (ht : (pc : Int) + off = (tgt : Int)) (kt : a = 0 → W p l e R s m args below meth c H locs cells slots Q (F0 m tgt ls rest)) (kf : ¬ a = 0 → W p l e R s m args below meth c H locs cells slots Q (F0 m (pc + 3) ls rest)) : W p l e R s m args below meth c H locs cells slots Q (F0 m pc ls (.int (nI a) :: rest)) :=
  lv_if_eq hexec hb hdg ht (fun h => kt ((nI_eq ha (by decide)).mp (h.trans nI_0.symm))) (fun h => kf (fun q => h (by rw [q]; exact nI_0)))
theorem ln_if_ne (hexec : p.tables.exec = Jvm.exec) (hb : c.code = cc) {a : Nat} {off : Int} {tgt : Nat} (ha : a < 2 ^ 31) (hdg : decode cc pc = .ok (.ifCond .ne off, 3)) (ht : (pc : Int) + off = (tgt : Int)) (kt : ¬ a = 0 → W p l e R s m args below meth c H locs cells slots Q (F0 m tgt ls rest)) (kf : a = 0 → W p l e R s m args below meth c H locs cells slots Q (F0 m (pc + 3) ls rest)) : W p l e R s m args below meth c H locs cells slots Q (F0 m pc ls (.int (nI a) :: rest)) :=
  lv_if_ne hexec hb hdg ht (fun h => kt (fun q => h (by rw [q]; exact nI_0))) (fun h => kf ((nI_eq ha (by decide)).mp (h.trans nI_0.symm)))
theorem ln_if_ge (hexec : p.tables.exec = Jvm.exec) (hb : c.code = cc) {a : Nat} {off : Int} {tgt : Nat} (ha : a < 2 ^ 31) (hdg : decode cc pc = .ok (.ifCond .ge off, 3)) (ht : (pc : Int) + off = (tgt : Int)) (k : W p l e R s m args below meth c H locs cells slots Q (F0 m tgt ls rest)) : W p l e R s m args below meth c H locs cells slots Q (F0 m pc ls (.int (nI a) :: rest)) :=
  lv_if_ge hexec hb hdg ht (fun _ => k) (fun h => absurd (nI_pos' ha) h)
theorem ln_if_lt (hexec : p.tables.exec = Jvm.exec) (hb : c.code = cc) {a : Nat} {off : Int} {tgt : Nat} (ha : a < 2 ^ 31) (hdg : decode cc pc = .ok (.ifCond .lt off, 3)) (ht : (pc : Int) + off = (tgt : Int)) (k : W p l e R s m args below meth c H locs cells slots Q (F0 m (pc + 3) ls rest)) : W p l e R s m args below meth c H locs cells slots Q (F0 m pc ls (.int (nI a) :: rest)) :=
  lv_if_lt hexec hb hdg ht (fun h => absurd h (nI_pos ha)) (fun _ => k)
/-- a shift of a branch to a known truth -/
theorem ln_b_eq (hexec : p.tables.exec = Jvm.exec) (hb : c.code = cc) {x : Bool} {off : Int} {tgt : Nat} (hdg : decode cc pc = .ok (.ifCond .eq off, 3)) (ht : (pc : Int) + off = (tgt : Int)) (kt : x = false → W p l e R s m args below meth c H locs cells slots Q (F0 m tgt ls rest)) (kf : x = true → W p l e R s m args below meth c H locs cells slots Q (F0 m (pc + 3) ls rest)) : W p l e R s m args below meth c H locs cells slots Q (F0 m pc ls (.int (q_b x) :: rest)) := by
  cases x with
  | false => exact lv_if_eq hexec hb hdg ht (fun _ => kt rfl) (fun h => absurd rfl h)
  | true => exact lv_if_eq hexec hb hdg ht (fun h => absurd h (by decide)) (fun _ => kf rfl)
theorem ln_b_ne (hexec : p.tables.exec = Jvm.exec) (hb : c.code = cc) {x : Bool} {off : Int} {tgt : Nat} (hdg : decode cc pc = .ok (.ifCond .ne off, 3)) (ht : (pc : Int) + off = (tgt : Int)) (kt : x = true → W p l e R s m args below meth c H locs cells slots Q (F0 m tgt ls rest)) (kf : x = false → W p l e R s m args below meth c H locs cells slots Q (F0 m (pc + 3) ls rest)) : W p l e R s m args below meth c H locs cells slots Q (F0 m pc ls (.int (q_b x) :: rest)) := by
  cases x with
  | false => exact lv_if_ne hexec hb hdg ht (fun h => absurd rfl h) (fun _ => kf rfl)
  | true => exact lv_if_ne hexec hb hdg ht (fun _ => kt rfl) (fun h => absurd h (by decide))
end QW
end
section
/-! ===== contracts' starts and ends, and what a call goes on with ===== -/
/-- a method's start: its arguments, the tables' classes, a picture of the heap -/
def q_P (E : q_E) (B : Heap → Prop) (As : List Value) : Array Value → State → Prop := fun v U => v = As.toArray ∧ q_K E U ∧ B U.heap
theorem q_blind {E : q_E} {B : Heap → Prop} {As : List Value} : FrameBlind (q_P E B As) := fun a U g mk h => ⟨h.1, va_K.moved (u := U) (U := U.calling g mk a) (Vm.Alike.refl U.vm) h.2.1, h.2.2⟩
theorem q_pre {E : q_E} {B : Heap → Prop} {As : List Value} {s : State} {H : Heap} (hK : q_K E s) (hB : B H) : PreS s H (q_P E B As) As := ⟨q_blind, fun U hU hW => ⟨rfl, va_K.moved hW.alike hK, by rw [hU]; exact hB⟩⟩
theorem q_preV {E : q_E} {B : Heap → Prop} {As : List Value} {s : State} {H : Heap} {ci b : Nat} {fs : List Value} {q : vw_C} (hK : q_K E s) (hB : B H) (ho : q_ob E ci b fs H) (hc : vwCl[ci]? = some q) : PreV s H q.1 b (q_P E B (.ref b :: As)) As := ⟨q_blind, va_recv (q0 := 0) hK (q_P1 ho) hc rfl, fun U hU hW => ⟨rfl, va_K.moved hW.alike hK, by rw [hU]; exact hB⟩⟩
/-- a writer's end: its answer and its state are these, what isn't in A stays -/
def q_Wi (XB : q_St → Heap → Prop) (A : Nat → Prop) (r0 : Int32) (σ0 : q_St) : Array Value → State → Outcome → State → Prop := va_Qi (fun (r : Int32) (u : q_St) => r = r0 ∧ u = σ0) (fun u t => XB u t.heap) A
def q_Wl (XB : q_St → Heap → Prop) (A : Nat → Prop) (r0 : Int64) (σ0 : q_St) : Array Value → State → Outcome → State → Prop := va_Ql (fun (r : Int64) (u : q_St) => r = r0 ∧ u = σ0) (fun u t => XB u t.heap) A
def q_Wv (XB : q_St → Heap → Prop) (A : Nat → Prop) (σ0 : q_St) : Array Value → State → Outcome → State → Prop := va_Qv (fun (u : q_St) => u = σ0) (fun u t => XB u t.heap) A
def q_Wq (XB : q_St → Heap → Prop) (A : Nat → Prop) (r0 : Option Nat) (σ0 : q_St) : Array Value → State → Outcome → State → Prop := va_Qq (fun (r : Option Nat) (u : q_St) => r = r0 ∧ u = σ0) (fun u t => XB u t.heap) A
section QC
variable {p : Program} {l : Launch} {e : Env} {R : Room} {s : State} {m : MethodId} {args : Array Value} {below : List Frame} {meth : Method} {c : Code} {H : Heap} {locs : List Loc} {cells slots : Nat} {Q : State → Prop}
variable {pc : Nat} {ls : Array Slot} {rest st0 : List Value} {a : Array Value} {A : Nat → Prop} {H0 : Heap} {mc ms : Nat} {XB : q_St → Heap → Prop} {σ0 σ1 : q_St}
theorem qc_i {r0 r1 : Int32} (hr : va_Run p l e R s m args below meth c H locs cells slots mc ms (F0 m pc ls st0) rest (q_Wi XB A r0 σ0 a) A) (hS : va_S A H0 H locs) (he : r0 = r1) (hs : σ0 = σ1)
    (kk : ∀ (H1 : Heap) (locs1 : List Loc), XB σ1 H1 → va_S A H0 H1 locs1 → W p l e R s m args below meth c H1 locs1 (cells + mc) (slots + ms) Q (F0 m (pc + 3) ls (.int r1 :: rest))) : W p l e R s m args below meth c H locs cells slots Q (F0 m pc ls st0) := by
  subst he; subst hs
  refine va_calli hr hS (fun q _ h => h) (fun q h => h) (fun r u t H1 locs1 ht hvm hw hB hz hk hS1 => ?_)
  obtain ⟨rfl, rfl⟩ := hw
  rw [ht] at hB
  exact kk H1 locs1 hB hS1
theorem qc_l {r0 r1 : Int64} (hr : va_Run p l e R s m args below meth c H locs cells slots mc ms (F0 m pc ls st0) rest (q_Wl XB A r0 σ0 a) A) (hS : va_S A H0 H locs) (he : r0 = r1) (hs : σ0 = σ1)
    (kk : ∀ (H1 : Heap) (locs1 : List Loc), XB σ1 H1 → va_S A H0 H1 locs1 → W p l e R s m args below meth c H1 locs1 (cells + mc) (slots + ms) Q (F0 m (pc + 3) ls (.long r1 :: rest))) : W p l e R s m args below meth c H locs cells slots Q (F0 m pc ls st0) := by
  subst he; subst hs
  refine va_calll hr hS (fun q _ h => h) (fun q h => h) (fun r u t H1 locs1 ht hvm hw hB hz hk hS1 => ?_)
  obtain ⟨rfl, rfl⟩ := hw
  rw [ht] at hB
  exact kk H1 locs1 hB hS1
theorem qc_v (hr : va_Run p l e R s m args below meth c H locs cells slots mc ms (F0 m pc ls st0) rest (q_Wv XB A σ0 a) A) (hS : va_S A H0 H locs) (hs : σ0 = σ1)
    (kk : ∀ (H1 : Heap) (locs1 : List Loc), XB σ1 H1 → va_S A H0 H1 locs1 → W p l e R s m args below meth c H1 locs1 (cells + mc) (slots + ms) Q (F0 m (pc + 3) ls rest)) : W p l e R s m args below meth c H locs cells slots Q (F0 m pc ls st0) := by
  subst hs
  refine va_callv hr hS (fun q _ h => h) (fun q h => h) (fun u t H1 locs1 ht hvm hw hB hz hk hS1 => ?_)
  subst hw
  rw [ht] at hB
  exact kk H1 locs1 hB hS1
theorem qc_q {r0 r1 : Option Nat} (hr : va_Run p l e R s m args below meth c H locs cells slots mc ms (F0 m pc ls st0) rest (q_Wq XB A r0 σ0 a) A) (hS : va_S A H0 H locs) (he : r0 = r1) (hs : σ0 = σ1)
    (kk : ∀ (H1 : Heap) (locs1 : List Loc), XB σ1 H1 → va_S A H0 H1 locs1 → W p l e R s m args below meth c H1 locs1 (cells + mc) (slots + ms) Q (F0 m (pc + 3) ls (va_rf r1 :: rest))) : W p l e R s m args below meth c H locs cells slots Q (F0 m pc ls st0) := by
  subst he; subst hs
  refine va_callq hr hS (fun q _ h => h) (fun q h => h) (fun r u t H1 locs1 ht hvm hw hB hz hk hS1 => ?_)
  obtain ⟨rfl, rfl⟩ := hw
  rw [ht] at hB
  exact kk H1 locs1 hB hS1
theorem qc_ri {r0 r1 : Int32} (hr : CallRun p l e R s m args below meth c H locs cells slots 0 0 (F0 m pc ls st0) rest (vp_Si (fun r => r = r0) a) (fun _ => False)) (he : r0 = r1) (kk : W p l e R s m args below meth c H locs cells slots Q (F0 m (pc + 3) ls (.int r1 :: rest))) : W p l e R s m args below meth c H locs cells slots Q (F0 m pc ls st0) :=
  vp_callSi hr (fun r h => by subst h; subst he; exact kk)
theorem qc_rl {r0 r1 : Int64} (hr : CallRun p l e R s m args below meth c H locs cells slots 0 0 (F0 m pc ls st0) rest (vp_Sl (fun r => r = r0) a) (fun _ => False)) (he : r0 = r1) (kk : W p l e R s m args below meth c H locs cells slots Q (F0 m (pc + 3) ls (.long r1 :: rest))) : W p l e R s m args below meth c H locs cells slots Q (F0 m pc ls st0) :=
  vp_callSl hr (fun r h => by subst h; subst he; exact kk)
end QC
/-! ===== what a slot, a part holds: nothing, or a thing that there is ===== -/
section QS
variable {p : Program} {l : Launch} {e : Env} {R : Room} {s : State} {m : MethodId} {args : Array Value} {below : List Frame} {meth : Method} {c : Code} {H : Heap} {locs : List Loc} {cells slots : Nat} {Q : State → Prop}
variable {cc : ByteArray} {pc : Nat} {ls : Array Slot} {rest : List Value} {E : q_E} {x T0 mm S : Nat} {σ : q_St}
theorem qx_slot (hexec : p.tables.exec = Jvm.exec) (hb : c.code = cc) (hK : q_K E s) (hX : q_X E x T0 σ H) (hI : q_I σ) {j : Nat} (hj : j < 12) (hdg : decode cc pc = .ok (.aaload, 1))
    (kN : σ.2.2.2.2.2.2.1 j = none → W p l e R s m args below meth c H locs cells slots Q (F0 m (pc + 1) ls (.null :: rest)))
    (kS : ∀ k, k < σ.1 → σ.2.2.2.2.2.2.1 j = some k → W p l e R s m args below meth c H locs cells slots Q (F0 m (pc + 1) ls (.ref (T0 + 3 * k) :: rest))) : W p l e R s m args below meth c H locs cells slots Q (F0 m pc ls (.int (nI j) :: .ref (x + 1) :: rest)) := by
  refine qw_aald hexec hb hK hX.2.1 hj (by decide) hdg ?_
  cases ho : σ.2.2.2.2.2.2.1 j with
  | none => simp only [ho, q_rf]; exact kN ho
  | some k => simp only [ho, q_rf]; exact kS k (hI.2.2 j k ho) ho
theorem qx_part (hexec : p.tables.exec = Jvm.exec) (hb : c.code = cc) (hK : q_K E s) (hX : q_X E x T0 σ H) (hI : q_I σ) {k i : Nat} (hk : k < σ.1) (hi : i < q_pl (σ.2.1 k) (σ.2.2.1 k)) (hdg : decode cc pc = .ok (.aaload, 1))
    (kN : σ.2.2.2.2.2.1 k i = none → W p l e R s m args below meth c H locs cells slots Q (F0 m (pc + 1) ls (.null :: rest)))
    (kS : ∀ j, j < σ.1 → q_ok (σ.2.1 k) (σ.2.1 j) → σ.2.2.2.2.2.1 k i = some j → W p l e R s m args below meth c H locs cells slots Q (F0 m (pc + 1) ls (.ref (T0 + 3 * j) :: rest))) : W p l e R s m args below meth c H locs cells slots Q (F0 m pc ls (.int (nI i) :: .ref (T0 + 3 * k + 2) :: rest)) := by
  have hb1 : q_pl (σ.2.1 k) (σ.2.2.1 k) < 2 ^ 31 := by
    have := (hI.2.1 k hk).2.1
    unfold q_pl
    split <;> omega
  refine qw_aald hexec hb hK (hX.2.2.1 k hk).2.2 hi hb1 hdg ?_
  cases ho : σ.2.2.2.2.2.1 k i with
  | none => simp only [ho, q_rf]; exact kN ho
  | some j => simp only [ho, q_rf]; exact kS j ((hI.2.1 k hk).2.2.2 i j ho).1 ((hI.2.1 k hk).2.2.2 i j ho).2 ho
theorem qm_slot (hexec : p.tables.exec = Jvm.exec) (hb : c.code = cc) (hK : q_K E s) (hM : q_M E mm S σ H) (hI : q_I σ) {j : Nat} (hj : j < 12) (hdg : decode cc pc = .ok (.iaload, 1))
    (kN : σ.2.2.2.2.2.2.1 j = none → W p l e R s m args below meth c H locs cells slots Q (F0 m (pc + 1) ls (.int (-1) :: rest)))
    (kS : ∀ k, k < σ.1 → σ.2.2.2.2.2.2.1 j = some k → W p l e R s m args below meth c H locs cells slots Q (F0 m (pc + 1) ls (.int (nI k) :: rest))) : W p l e R s m args below meth c H locs cells slots Q (F0 m pc ls (.int (nI j) :: .ref (mm + 5) :: rest)) := by
  refine qw_iald hexec hb hK hM.2.2.2.2.2.1 hj (by decide) hdg ?_
  cases ho : σ.2.2.2.2.2.2.1 j with
  | none => simp only [ho, q_eI]; exact kN ho
  | some k => simp only [ho, q_eI]; exact kS k (hI.2.2 j k ho) ho
theorem qm_num (hexec : p.tables.exec = Jvm.exec) (hb : c.code = cc) (hK : q_K E s) (hM : q_M E mm S σ H) {k i : Nat} (hk : k < 60) (hi : i < 8) (hd : ¬ (3 ≤ σ.2.1 k ∧ σ.2.1 k < 9)) (hdg : decode cc pc = .ok (.laload, 1))
    (kk : W p l e R s m args below meth c H locs cells slots Q (F0 m (pc + 1) ls (.long (σ.2.2.2.2.1 k i) :: rest))) : W p l e R s m args below meth c H locs cells slots Q (F0 m pc ls (.int (nI (8 * k + i)) :: .ref (mm + 4) :: rest)) := by
  have e1 : (8 * k + i) / 8 = k := by omega
  have e2 : (8 * k + i) % 8 = i := by omega
  refine qw_lald hexec hb hK hM.2.2.2.2.1 (by omega) (by decide) hdg ?_
  rw [e1, e2, q_cv, if_neg hd]
  exact kk
theorem qm_part (hexec : p.tables.exec = Jvm.exec) (hb : c.code = cc) (hK : q_K E s) (hM : q_M E mm S σ H) (hI : q_I σ) {k i : Nat} (hk : k < σ.1) (hi : i < 8) (hd : 3 ≤ σ.2.1 k ∧ σ.2.1 k < 9) (hdg : decode cc pc = .ok (.laload, 1))
    (kN : σ.2.2.2.2.2.1 k i = none → W p l e R s m args below meth c H locs cells slots Q (F0 m (pc + 1) ls (.long (-1) :: rest)))
    (kS : ∀ j, j < σ.1 → q_ok (σ.2.1 k) (σ.2.1 j) → σ.2.2.2.2.2.1 k i = some j → W p l e R s m args below meth c H locs cells slots Q (F0 m (pc + 1) ls (.long (lN j) :: rest))) : W p l e R s m args below meth c H locs cells slots Q (F0 m pc ls (.int (nI (8 * k + i)) :: .ref (mm + 4) :: rest)) := by
  have h60 := hI.1
  have e1 : (8 * k + i) / 8 = k := by omega
  have e2 : (8 * k + i) % 8 = i := by omega
  refine qw_lald hexec hb hK hM.2.2.2.2.1 (by omega) (by decide) hdg ?_
  rw [e1, e2, q_cv, if_pos hd]
  cases ho : σ.2.2.2.2.2.1 k i with
  | none => simp only [q_eL]; exact kN ho
  | some j => simp only [q_eL]; exact kS j ((hI.2.1 k hk).2.2.2 i j ho).1 ((hI.2.1 k hk).2.2.2 i j ho).2 ho
end QS
end
section
/-! ===== switches, ranges ===== -/
theorem q_is {x : Int32} {n : Nat} (hn : n < 2 ^ 31) (h : (q_ix x n).isSome = true) : ∃ j, j < n ∧ x = nI j := by
  rcases q_ix_or x hn with h1 | h1
  · exact h1
  · rw [h1] at h; cases h
theorem q_isn {x : Int32} {n : Nat} (h : (q_ix x n).isSome = false) : q_ix x n = none := by
  cases h1 : q_ix x n with
  | none => rfl
  | some j => rw [h1] at h; cases h
section QT
variable {p : Program} {l : Launch} {e : Env} {R : Room} {s : State} {m : MethodId} {args : Array Value} {below : List Frame} {meth : Method} {c : Code} {H : Heap} {locs : List Loc} {cells slots : Nat} {Q : State → Prop}
variable {cc : ByteArray} {pc : Nat} {ls : Array Slot} {rest : List Value}
theorem q_tIn (hexec : p.tables.exec = Jvm.exec) (hb : c.code = cc) {dflt lo hi : Int} {offs : Array Int} {len a v : Nat} {off : Int} {tgt : Nat} (he : a = v) (hdg : decode cc pc = .ok (.tableswitch dflt lo hi offs, len)) (h1 : ¬ (nI v).toInt < lo) (h2 : ¬ hi < (nI v).toInt) (ho : offs[((nI v).toInt - lo).toNat]? = some off) (ht : (pc : Int) + off = (tgt : Int))
    (k : W p l e R s m args below meth c H locs cells slots Q (F0 m tgt ls rest)) : W p l e R s m args below meth c H locs cells slots Q (F0 m pc ls (.int (nI a) :: rest)) := by
  subst he; exact lv_tableIn hexec hb hdg h1 h2 ho ht k
theorem q_tOut (hexec : p.tables.exec = Jvm.exec) (hb : c.code = cc) {dflt lo hi : Int} {offs : Array Int} {len a : Nat} {tgt : Nat} (ha : a < 2 ^ 31) (hdg : decode cc pc = .ok (.tableswitch dflt lo hi offs, len)) (h : (a : Int) < lo ∨ hi < (a : Int)) (ht : (pc : Int) + dflt = (tgt : Int))
    (k : W p l e R s m args below meth c H locs cells slots Q (F0 m tgt ls rest)) : W p l e R s m args below meth c H locs cells slots Q (F0 m pc ls (.int (nI a) :: rest)) :=
  lv_tableOut hexec hb hdg (by rw [nI_toInt ha]; exact h) ht k
theorem q_lk (hexec : p.tables.exec = Jvm.exec) (hb : c.code = cc) {dflt : Int} {ps : Array (Int × Int)} {len a v : Nat} {off : Int} {tgt : Nat} (he : a = v) (hdg : decode cc pc = .ok (.lookupswitch dflt ps, len)) (hp : (ps.toList.zip (ps.toList.drop 1)).all (fun (a, next) => a.1 < next.1) = true) (ho : Op.lookupswitch.offset ps.toList dflt (nI v).toInt = off) (ht : (pc : Int) + off = (tgt : Int))
    (k : W p l e R s m args below meth c H locs cells slots Q (F0 m tgt ls rest)) : W p l e R s m args below meth c H locs cells slots Q (F0 m pc ls (.int (nI a) :: rest)) := by
  subst he; exact lv_lookup hexec hb hdg hp ho ht k
theorem q_lkd (hexec : p.tables.exec = Jvm.exec) (hb : c.code = cc) {dflt : Int} {ps : Array (Int × Int)} {len a : Nat} {tgt : Nat} (ha : a < 2 ^ 31) (hdg : decode cc pc = .ok (.lookupswitch dflt ps, len)) (hp : (ps.toList.zip (ps.toList.drop 1)).all (fun (a, next) => a.1 < next.1) = true) (ho : Op.lookupswitch.offset ps.toList dflt (a : Int) = dflt) (ht : (pc : Int) + dflt = (tgt : Int))
    (k : W p l e R s m args below meth c H locs cells slots Q (F0 m tgt ls rest)) : W p l e R s m args below meth c H locs cells slots Q (F0 m pc ls (.int (nI a) :: rest)) :=
  lv_lookup hexec hb hdg hp (by rw [nI_toInt ha]; exact ho) ht k
end QT
/-! ===== what the dock does, in pure words ===== -/
/-- a thing of kind k fits gate g -/
def q_go (k g : Nat) : Bool := decide (g = k ∨ (k = 10 ∧ (g = 9 ∨ g = 12)) ∨ ((k = 9 ∨ k = 11) ∧ g = 12) ∨ (k = 5 ∧ (g = 4 ∨ g = 6)) ∨ (k = 4 ∧ g = 6) ∨ (k = 8 ∧ g = 7))
/-- the gate of laying at a row of kind k; the gate of its places; what a row of kind r can hold -/
def q_gl (k : Nat) : Nat := if k = 3 then 0 else if k = 7 ∨ k = 8 then 4 else 12
def q_gp (k : Nat) : Nat := if k = 4 then 9 else if k = 5 then 10 else if k = 8 then 5 else q_gl k
def q_ch (r k : Nat) : Bool := if r = 4 then decide (¬ k = 11) else if r = 5 then decide (k = 10) else if r = 8 then decide (k = 5) else true
theorem q_gpch : ∀ r, r < 12 → ∀ k, k < 12 → 3 ≤ r → r < 9 → q_go k (q_gl r) = true → q_go k (q_gp r) = q_ch r k := by decide
theorem q_lays0 : ∀ r, r < 12 → ∀ k, k < 12 → (!(decide (3 ≤ r)) || !(decide (r < 9)) || !(q_go k (q_gl r)) || !(q_ch r k) || decide ((r = 3 ∧ k = 0) ∨ (r = 4 ∧ (k = 9 ∨ k = 10)) ∨ (r = 5 ∧ k = 10) ∨ (r = 6 ∧ 9 ≤ k) ∨ (r = 7 ∧ (k = 4 ∨ k = 5)) ∨ (r = 8 ∧ k = 5))) = true := by decide
theorem q_lays (r : Nat) (hr : r < 12) (k : Nat) (hk : k < 12) (h3 : 3 ≤ r) (h9 : r < 9) (hg : q_go k (q_gl r) = true) (hc : q_ch r k = true) : q_ok r k := by
  have h := q_lays0 r hr k hk
  simp only [h3, h9, hg, hc, decide_true, Bool.not_true, Bool.false_or, decide_eq_true_eq] at h
  exact h
/-- what a row of kind k keeps of a number -/
def q_nr (k : Nat) (v : Int64) : Int64 := if k = 0 then v.toInt32.toInt64 else if k = 1 then v.toInt32.toInt8.toInt32.toInt64 else v
def q_sm (f : Nat → Int64) : Nat → Int64
  | 0 => 0
  | i + 1 => q_sm f i + f i
def q_w (kd sz : Nat → Nat) (sh : Nat → Bool) (t : Nat) : Nat := if kd t = 11 then 2 * sz t else sz t + (if sh t then 1 else 0)
def q_ld (kd sz : Nat → Nat) (sh : Nat → Bool) (lids : Bool) (t : Nat) : Nat := if lids then (if sh t then 1 else 0) else q_w kd sz sh t
def q_su (f : Nat → Nat) (p : Nat → Option Nat) : Nat → Nat
  | 0 => 0
  | i + 1 => q_su f p i + (match p i with
    | none => 0
    | some j => f j)
def q_gs (f : Nat → Int32) (p : Nat → Option Nat) : Nat → Int32
  | 0 => 0
  | i + 1 => q_gs f p i + (match p i with
    | none => 0
    | some j => f j)
def q_h1 (p : Nat → Option Nat) : Nat → Bool
  | 0 => false
  | i + 1 => q_h1 p i || (p i).isNone
def q_h2 (h : Nat → Bool) (p : Nat → Option Nat) : Nat → Bool
  | 0 => false
  | i + 1 => q_h2 h p i || (match p i with
    | none => true
    | some j => h j)
/-- the loads of a row together; the loads of the rows of a stack; the numbers of the rows of a grid; a hole in a row, in a row or its rows -/
def q_ins (kd sz : Nat → Nat) (sh : Nat → Bool) (pa : Nat → Nat → Option Nat) (lids : Bool) (t : Nat) : Nat := q_su (q_ld kd sz sh lids) (pa t) (q_pl (kd t) (sz t))
def q_rws (kd sz : Nat → Nat) (sh : Nat → Bool) (pa : Nat → Nat → Option Nat) (lids : Bool) (t : Nat) : Nat := q_su (q_ins kd sz sh pa lids) (pa t) (q_pl (kd t) (sz t))
def q_num (kd sz : Nat → Nat) (nu : Nat → Nat → Int64) (t : Nat) : Int64 := q_sm (nu t) (q_nl (kd t) (sz t))
def q_grd (kd sz : Nat → Nat) (nu : Nat → Nat → Int64) (pa : Nat → Nat → Option Nat) (t : Nat) : Int32 := q_gs (fun j => (q_num kd sz nu j).toInt32) (pa t) (q_pl (kd t) (sz t))
def q_ho1 (kd sz : Nat → Nat) (pa : Nat → Nat → Option Nat) (t : Nat) : Bool := q_h1 (pa t) (q_pl (kd t) (sz t))
def q_ho2 (kd sz : Nat → Nat) (pa : Nat → Nat → Option Nat) (t : Nat) : Bool := q_h2 (q_ho1 kd sz pa) (pa t) (q_pl (kd t) (sz t))
/-- what a thing t tells at a gate g -/
def q_val (kd sz : Nat → Nat) (sh : Nat → Bool) (nu : Nat → Nat → Int64) (pa : Nat → Nat → Option Nat) (t g : Nat) : Int64 :=
  if g = 0 ∨ g = 1 then (q_num kd sz nu t).toInt32.toInt64 else if g = 2 then q_num kd sz nu t else if g = 3 then (q_grd kd sz nu pa t).toInt64
  else if g = 4 ∨ g = 6 then lN (q_ins kd sz sh pa false t) else if g = 5 then lN (q_ins kd sz sh pa true t) else if g = 7 then lN (q_rws kd sz sh pa false t)
  else if g = 8 then lN (q_rws kd sz sh pa true t) else if g = 9 ∨ g = 11 then lN (sz t) else if g = 10 then lN (if sh t then 1 else 0) else lN (q_w kd sz sh t)
def q_sf : q_St → Int32 → q_St
  | (n, kd, sz, sh, nu, pa, sl, _, tn, ts, tg), v => (n, kd, sz, sh, nu, pa, sl, v, tn, ts, tg)
def q_tu : q_St → Int32 → Int32 → Int32 → q_St
  | (n, kd, sz, sh, nu, pa, sl, _, tn, _, _), f, a, g => (n, kd, sz, sh, nu, pa, sl, f, tn + 1, a, g)
def f_make : q_St → Int32 → Int32 → Int32 → Int32 × q_St
  | (n, kd, sz, sh, nu, pa, sl, _, tn, ts, tg), kind, m, slot => match q_ix kind 12 with
    | none => (-2, (n, kd, sz, sh, nu, pa, sl, 0, tn, ts, tg))
    | some k => match q_ix slot 12 with
      | none => (-2, (n, kd, sz, sh, nu, pa, sl, 0, tn, ts, tg))
      | some j => match q_ix m (if k < 9 then 9 else 1000001) with
        | none => (-2, (n, kd, sz, sh, nu, pa, sl, 0, tn, ts, tg))
        | some z => if n = 60 then (-3, (n, kd, sz, sh, nu, pa, sl, 0, tn, ts, tg)) else (nI n, (n + 1, va_up kd n k, va_up sz n z, va_up sh n false, va_up nu n (fun _ => 0), va_up pa n (fun _ => none), va_up sl j (some n), 0, tn, ts, tg))
def f_fits : q_St → Int32 → Int32 → Int32 × q_St
  | (n, kd, sz, sh, nu, pa, sl, _, tn, ts, tg), slot, gate => match q_ix slot 12 with
    | none => (-2, (n, kd, sz, sh, nu, pa, sl, 0, tn, ts, tg))
    | some j => match q_ix gate 13 with
      | none => (-2, (n, kd, sz, sh, nu, pa, sl, 0, tn, ts, tg))
      | some g => match sl j with
        | none => (0, (n, kd, sz, sh, nu, pa, sl, 0, tn, ts, tg))
        | some k => (q_b (q_go (kd k) g), (n, kd, sz, sh, nu, pa, sl, 0, tn, ts, tg))
def f_pass : q_St → Int32 → Int32 → Int64 × q_St
  | (n, kd, sz, sh, nu, pa, sl, _, tn, ts, tg), slot, gate => match q_ix slot 12 with
    | none => (0, (n, kd, sz, sh, nu, pa, sl, -2, tn, ts, tg))
    | some j => match q_ix gate 13 with
      | none => (0, (n, kd, sz, sh, nu, pa, sl, -2, tn, ts, tg))
      | some g => match sl j with
        | none => (0, (n, kd, sz, sh, nu, pa, sl, 2, tn, ts, tg))
        | some k => if q_go (kd k) g = true then (if q_ho2 kd sz pa k = true then (0, (n, kd, sz, sh, nu, pa, sl, 4, tn, ts, tg)) else (q_val kd sz sh nu pa k g, (n, kd, sz, sh, nu, pa, sl, 0, tn, ts, tg))) else (0, (n, kd, sz, sh, nu, pa, sl, 1, tn + 1, slot, gate))
/-- the search of a gate: how many are left, the next one, the turns so far -/
def q_sk (fit : Nat → Bool) (slot : Int32) : Nat → Nat → Int32 × Int32 × Int32 → Int32 × Int32 × Int32 × Int32
  | 0, _, u => (-1, u)
  | d + 1, g, (tn, ts, tg) => if fit g = true then (nI g, (tn, ts, tg)) else q_sk fit slot d (g + 1) (tn + 1, slot, nI g)
def q_fit (kd : Nat → Nat) (o : Option Nat) (g : Nat) : Bool := match o with
  | none => false
  | some k => q_go (kd k) g
def f_seek : q_St → Int32 → Int32 → Int32 → Int32 × q_St
  | (n, kd, sz, sh, nu, pa, sl, _, tn, ts, tg), slot, first, last => match q_ix slot 12 with
    | none => (-2, (n, kd, sz, sh, nu, pa, sl, 0, tn, ts, tg))
    | some j => match q_ix first 13 with
      | none => (-2, (n, kd, sz, sh, nu, pa, sl, 0, tn, ts, tg))
      | some a => match q_ix last 13 with
        | none => (-2, (n, kd, sz, sh, nu, pa, sl, 0, tn, ts, tg))
        | some b => if b < a then (-2, (n, kd, sz, sh, nu, pa, sl, 0, tn, ts, tg)) else ((q_sk (q_fit kd (sl j)) slot (b + 1 - a) a (tn, ts, tg)).1, (n, kd, sz, sh, nu, pa, sl, 0, (q_sk (q_fit kd (sl j)) slot (b + 1 - a) a (tn, ts, tg)).2))
def f_put : q_St → Int32 → Int32 → Int64 → Int32 × q_St
  | (n, kd, sz, sh, nu, pa, sl, _, tn, ts, tg), slot, i, v => match q_ix slot 12 with
    | none => (-2, (n, kd, sz, sh, nu, pa, sl, 0, tn, ts, tg))
    | some j => match sl j with
      | none => (0, (n, kd, sz, sh, nu, pa, sl, 2, tn, ts, tg))
      | some k => if kd k < 3 then (match q_ix i (sz k) with
          | none => (0, (n, kd, sz, sh, nu, pa, sl, 3, tn, ts, tg))
          | some z => (1, (n, kd, sz, sh, va_up nu k (va_up (nu k) z (q_nr (kd k) v)), pa, sl, 0, tn, ts, tg))) else (0, (n, kd, sz, sh, nu, pa, sl, 1, tn + 1, slot, nI 2))
def f_get : q_St → Int32 → Int32 → Int64 × q_St
  | (n, kd, sz, sh, nu, pa, sl, _, tn, ts, tg), slot, i => match q_ix slot 12 with
    | none => (0, (n, kd, sz, sh, nu, pa, sl, -2, tn, ts, tg))
    | some j => match sl j with
      | none => (0, (n, kd, sz, sh, nu, pa, sl, 2, tn, ts, tg))
      | some k => if kd k < 3 then (match q_ix i (sz k) with
          | none => (0, (n, kd, sz, sh, nu, pa, sl, 3, tn, ts, tg))
          | some z => (nu k z, (n, kd, sz, sh, nu, pa, sl, 0, tn, ts, tg))) else (0, (n, kd, sz, sh, nu, pa, sl, 1, tn + 1, slot, nI 2))
def f_lay : q_St → Int32 → Int32 → Int32 → Int32 × q_St
  | (n, kd, sz, sh, nu, pa, sl, _, tn, ts, tg), to, i, fr => match q_ix to 12 with
    | none => (-2, (n, kd, sz, sh, nu, pa, sl, 0, tn, ts, tg))
    | some j => match q_ix fr 12 with
      | none => (-2, (n, kd, sz, sh, nu, pa, sl, 0, tn, ts, tg))
      | some f => match sl j with
        | none => (0, (n, kd, sz, sh, nu, pa, sl, 2, tn, ts, tg))
        | some k => if 3 ≤ kd k ∧ kd k < 9 then (match sl f with
            | none => (match q_ix i (sz k) with
              | none => (0, (n, kd, sz, sh, nu, pa, sl, 3, tn, ts, tg))
              | some z => (1, (n, kd, sz, sh, nu, va_up pa k (va_up (pa k) z none), sl, 0, tn, ts, tg)))
            | some y => if q_go (kd y) (q_gl (kd k)) = true then (match q_ix i (sz k) with
                | none => (0, (n, kd, sz, sh, nu, pa, sl, 3, tn, ts, tg))
                | some z => if q_ch (kd k) (kd y) = true then (1, (n, kd, sz, sh, nu, va_up pa k (va_up (pa k) z (some y)), sl, 0, tn, ts, tg)) else (0, (n, kd, sz, sh, nu, pa, sl, 5, tn, ts, tg)))
              else (0, (n, kd, sz, sh, nu, pa, sl, 1, tn + 1, fr, nI (q_gl (kd k))))) else (0, (n, kd, sz, sh, nu, pa, sl, 1, tn + 1, to, nI 6))
def f_take : q_St → Int32 → Int32 → Int32 → Int32 × q_St
  | (n, kd, sz, sh, nu, pa, sl, _, tn, ts, tg), fr, i, to => match q_ix fr 12 with
    | none => (-2, (n, kd, sz, sh, nu, pa, sl, 0, tn, ts, tg))
    | some j => match q_ix to 12 with
      | none => (-2, (n, kd, sz, sh, nu, pa, sl, 0, tn, ts, tg))
      | some t => match sl j with
        | none => (0, (n, kd, sz, sh, nu, pa, sl, 2, tn, ts, tg))
        | some k => if 3 ≤ kd k ∧ kd k < 9 then (match q_ix i (sz k) with
              | none => (0, (n, kd, sz, sh, nu, pa, sl, 3, tn, ts, tg))
              | some z => (q_eI (pa k z), (n, kd, sz, sh, nu, pa, va_up sl t (pa k z), 0, tn, ts, tg))) else (0, (n, kd, sz, sh, nu, pa, sl, 1, tn + 1, fr, nI 6))
def f_share : q_St → Int32 → Int32 → Int32 × q_St
  | (n, kd, sz, sh, nu, pa, sl, _, tn, ts, tg), fr, to => match q_ix fr 12 with
    | none => (-2, (n, kd, sz, sh, nu, pa, sl, 0, tn, ts, tg))
    | some j => match q_ix to 12 with
      | none => (-2, (n, kd, sz, sh, nu, pa, sl, 0, tn, ts, tg))
      | some t => (q_eI (sl j), (n, kd, sz, sh, nu, pa, va_up sl t (sl j), 0, tn, ts, tg))
def f_empty : q_St → Int32 → Int32 × q_St
  | (n, kd, sz, sh, nu, pa, sl, _, tn, ts, tg), slot => match q_ix slot 12 with
    | none => (-2, (n, kd, sz, sh, nu, pa, sl, 0, tn, ts, tg))
    | some j => (q_eI (sl j), (n, kd, sz, sh, nu, pa, va_up sl j none, 0, tn, ts, tg))
def f_lid : q_St → Int32 → Bool → Int32 × q_St
  | (n, kd, sz, sh, nu, pa, sl, _, tn, ts, tg), slot, b => match q_ix slot 12 with
    | none => (-2, (n, kd, sz, sh, nu, pa, sl, 0, tn, ts, tg))
    | some j => match sl j with
      | none => (0, (n, kd, sz, sh, nu, pa, sl, 2, tn, ts, tg))
      | some k => if q_go (kd k) 10 = true then (q_b (sh k), (n, kd, sz, va_up sh k b, nu, pa, sl, 0, tn, ts, tg)) else (0, (n, kd, sz, sh, nu, pa, sl, 1, tn + 1, slot, nI 10))
def f_weigh : q_St → Int32 → Int32 → Int32 × q_St
  | (n, kd, sz, sh, nu, pa, sl, _, tn, ts, tg), slot, w => match q_ix slot 12 with
    | none => (-2, (n, kd, sz, sh, nu, pa, sl, 0, tn, ts, tg))
    | some j => match q_ix w 1000001 with
      | none => (-2, (n, kd, sz, sh, nu, pa, sl, 0, tn, ts, tg))
      | some z => match sl j with
        | none => (0, (n, kd, sz, sh, nu, pa, sl, 2, tn, ts, tg))
        | some k => if q_go (kd k) 9 = true then (nI (sz k), (n, kd, va_up sz k z, sh, nu, pa, sl, 0, tn, ts, tg)) else (0, (n, kd, sz, sh, nu, pa, sl, 1, tn + 1, slot, nI 9))
def f_size : q_St → Int32 → Int32 × q_St
  | (n, kd, sz, sh, nu, pa, sl, _, tn, ts, tg), slot => match q_ix slot 12 with
    | none => (-2, (n, kd, sz, sh, nu, pa, sl, 0, tn, ts, tg))
    | some j => match sl j with
      | none => (0, (n, kd, sz, sh, nu, pa, sl, 2, tn, ts, tg))
      | some k => if kd k < 9 then (nI (sz k), (n, kd, sz, sh, nu, pa, sl, 0, tn, ts, tg)) else (0, (n, kd, sz, sh, nu, pa, sl, 1, tn + 1, slot, nI 8))
def f_at : q_St → Int32 → Int32
  | (_, _, _, _, _, _, sl, _, _, _, _), slot => match q_ix slot 12 with
    | none => -2
    | some j => q_eI (sl j)
def f_told : q_St → Int32 → Int32
  | (_, _, _, _, _, _, _, _, tn, ts, tg), w => match q_ix w 3 with
    | none => -2
    | some j => if j = 0 then tn else if j = 1 then ts else tg
end
section
/-! ===== more rows and words for the walks ===== -/
section QR
variable {p : Program} {l : Launch} {e : Env} {R : Room} {s : State} {m : MethodId} {args : Array Value} {below : List Frame} {meth : Method} {c : Code} {H : Heap} {locs : List Loc} {cells slots : Nat} {Q : State → Prop}
variable {cc : ByteArray} {pc : Nat} {ls : Array Slot} {rest : List Value} {E : q_E} {x T0 mm S : Nat} {σ : q_St}
theorem ln_ladd (hexec : p.tables.exec = Jvm.exec) (hb : c.code = cc) {a b : Nat} (hdg : decode cc pc = .ok (.ladd, 1)) (k : W p l e R s m args below meth c H locs cells slots Q (F0 m (pc + 1) ls (.long (lN (a + b)) :: rest))) : W p l e R s m args below meth c H locs cells slots Q (F0 m pc ls (.long (lN b) :: .long (lN a) :: rest)) := lv_ladd hexec hb hdg (by rw [lN_add]; exact k)
theorem qx_slotN (hexec : p.tables.exec = Jvm.exec) (hb : c.code = cc) (hK : q_K E s) (hX : q_X E x T0 σ H) {j : Nat} (h : σ.2.2.2.2.2.2.1 j = none) (hj : j < 12) (hdg : decode cc pc = .ok (.aaload, 1))
    (kk : W p l e R s m args below meth c H locs cells slots Q (F0 m (pc + 1) ls (.null :: rest))) : W p l e R s m args below meth c H locs cells slots Q (F0 m pc ls (.int (nI j) :: .ref (x + 1) :: rest)) := by
  refine qw_aald hexec hb hK hX.2.1 hj (by decide) hdg ?_
  simp only [h, q_rf]; exact kk
theorem qx_slotS (hexec : p.tables.exec = Jvm.exec) (hb : c.code = cc) (hK : q_K E s) (hX : q_X E x T0 σ H) {j k : Nat} (h : σ.2.2.2.2.2.2.1 j = some k) (hj : j < 12) (hdg : decode cc pc = .ok (.aaload, 1))
    (kk : W p l e R s m args below meth c H locs cells slots Q (F0 m (pc + 1) ls (.ref (T0 + 3 * k) :: rest))) : W p l e R s m args below meth c H locs cells slots Q (F0 m pc ls (.int (nI j) :: .ref (x + 1) :: rest)) := by
  refine qw_aald hexec hb hK hX.2.1 hj (by decide) hdg ?_
  simp only [h, q_rf]; exact kk
theorem qm_slotN (hexec : p.tables.exec = Jvm.exec) (hb : c.code = cc) (hK : q_K E s) (hM : q_M E mm S σ H) {j : Nat} (h : σ.2.2.2.2.2.2.1 j = none) (hj : j < 12) (hdg : decode cc pc = .ok (.iaload, 1))
    (kk : W p l e R s m args below meth c H locs cells slots Q (F0 m (pc + 1) ls (.int (-1) :: rest))) : W p l e R s m args below meth c H locs cells slots Q (F0 m pc ls (.int (nI j) :: .ref (mm + 5) :: rest)) := by
  refine qw_iald hexec hb hK hM.2.2.2.2.2.1 hj (by decide) hdg ?_
  simp only [h, q_eI]; exact kk
theorem qm_slotS (hexec : p.tables.exec = Jvm.exec) (hb : c.code = cc) (hK : q_K E s) (hM : q_M E mm S σ H) {j k : Nat} (h : σ.2.2.2.2.2.2.1 j = some k) (hj : j < 12) (hdg : decode cc pc = .ok (.iaload, 1))
    (kk : W p l e R s m args below meth c H locs cells slots Q (F0 m (pc + 1) ls (.int (nI k) :: rest))) : W p l e R s m args below meth c H locs cells slots Q (F0 m pc ls (.int (nI j) :: .ref (mm + 5) :: rest)) := by
  refine qw_iald hexec hb hK hM.2.2.2.2.2.1 hj (by decide) hdg ?_
  simp only [h, q_eI]; exact kk
end QR
theorem q_nl_le (a b : Nat) : q_nl a b ≤ b := by unfold q_nl; split <;> omega
theorem q_pl_le (a b : Nat) : q_pl a b ≤ b := by unfold q_pl; split <;> omega
theorem q_am_le (a b : Nat) : q_am a b ≤ b := by unfold q_am; split <;> omega
theorem q_am9 {a b : Nat} (h : 9 ≤ a) : q_am a b = b := by unfold q_am; rw [if_neg (by omega)]
theorem q_nl3 {a b : Nat} (h : a < 3) : q_nl a b = b := by unfold q_nl; rw [if_pos h]
theorem q_pl39 {a b : Nat} (h : 3 ≤ a) (h2 : a < 9) : q_pl a b = b := by unfold q_pl; rw [if_pos ⟨h, h2⟩]
theorem q_pl0' {a b : Nat} (h : ¬ (3 ≤ a ∧ a < 9)) : q_pl a b = 0 := by unfold q_pl; rw [if_neg h]
theorem q_w_le {kd sz : Nat → Nat} {sh : Nat → Bool} {t : Nat} (h : sz t ≤ 1000000) : q_w kd sz sh t ≤ 2000000 := by unfold q_w; split; omega; split <;> omega
theorem q_ld_le {kd sz : Nat → Nat} {sh : Nat → Bool} {b : Bool} {t : Nat} (h : sz t ≤ 1000000) : q_ld kd sz sh b t ≤ 2000000 := by
  unfold q_ld
  split
  · split <;> omega
  · exact q_w_le h
theorem q_su_n {f : Nat → Nat} {p : Nat → Option Nat} {i : Nat} (h : p i = none) : q_su f p (i + 1) = q_su f p i := by simp [q_su, h]
theorem q_su_s {f : Nat → Nat} {p : Nat → Option Nat} {i j : Nat} (h : p i = some j) : q_su f p (i + 1) = q_su f p i + f j := by simp [q_su, h]
theorem q_su_le {f : Nat → Nat} {p : Nat → Option Nat} {B : Nat} (h : ∀ i j, p i = some j → f j ≤ B) : ∀ m, q_su f p m ≤ B * m := by
  intro m
  induction m with
  | zero => simp [q_su]
  | succ m ih =>
    rw [Nat.mul_succ]
    cases hp : p m with
    | none => rw [q_su_n hp]; omega
    | some j => rw [q_su_s hp]; have := h m j hp; omega
theorem q_gs_n {f : Nat → Int32} {p : Nat → Option Nat} {i : Nat} (h : p i = none) : q_gs f p (i + 1) = q_gs f p i := by simp [q_gs, h]
theorem q_gs_s {f : Nat → Int32} {p : Nat → Option Nat} {i j : Nat} (h : p i = some j) : q_gs f p (i + 1) = q_gs f p i + f j := by simp [q_gs, h]
def q_g6 (f : Nat → Int64) (p : Nat → Option Nat) : Nat → Int64
  | 0 => 0
  | i + 1 => q_g6 f p i + (match p i with
    | none => 0
    | some j => f j)
theorem q_g6_n {f : Nat → Int64} {p : Nat → Option Nat} {i : Nat} (h : p i = none) : q_g6 f p (i + 1) = q_g6 f p i := by simp [q_g6, h]
theorem q_g6_s {f : Nat → Int64} {p : Nat → Option Nat} {i j : Nat} (h : p i = some j) : q_g6 f p (i + 1) = q_g6 f p i + f j := by simp [q_g6, h]
theorem q_g6_32 (f : Nat → Int32) (p : Nat → Option Nat) : ∀ m, (q_g6 (fun j => (f j).toInt64) p m).toInt32 = q_gs f p m := by
  intro m
  induction m with
  | zero => rfl
  | succ m ih =>
    cases hp : p m with
    | none => rw [q_g6_n hp, q_gs_n hp, ih]
    | some j => rw [q_g6_s hp, q_gs_s hp, Int64.toInt32_add, ih]; simp
theorem q_h1_t {p : Nat → Option Nat} {i : Nat} (h : p i = none) : ∀ {m}, i < m → q_h1 p m = true := by
  intro m
  induction m with
  | zero => intro q; omega
  | succ m ih =>
    intro q
    by_cases e : i = m
    · subst e; simp [q_h1, h]
    · simp [q_h1, ih (by omega)]
theorem q_h2_t {g : Nat → Bool} {p : Nat → Option Nat} {i : Nat} (h : p i = none ∨ ∃ j, p i = some j ∧ g j = true) : ∀ {m}, i < m → q_h2 g p m = true := by
  intro m
  induction m with
  | zero => intro q; omega
  | succ m ih =>
    intro q
    by_cases e : i = m
    · subst e
      rcases h with h | ⟨j, h, h2⟩
      · simp [q_h2, h]
      · simp [q_h2, h, h2]
    · simp [q_h2, ih (by omega)]
theorem q_gofacts {k g : Nat} (h : q_go k g = true) : g = k ∨ (k = 10 ∧ (g = 9 ∨ g = 12)) ∨ ((k = 9 ∨ k = 11) ∧ g = 12) ∨ (k = 5 ∧ (g = 4 ∨ g = 6)) ∨ (k = 4 ∧ g = 6) ∨ (k = 8 ∧ g = 7) := by
  unfold q_go at h
  exact of_decide_eq_true h
theorem q_gofalse {k g : Nat} (h : q_go k g = false) : ¬ (g = k ∨ (k = 10 ∧ (g = 9 ∨ g = 12)) ∨ ((k = 9 ∨ k = 11) ∧ g = 12) ∨ (k = 5 ∧ (g = 4 ∨ g = 6)) ∨ (k = 4 ∧ g = 6) ∨ (k = 8 ∧ g = 7)) := by
  unfold q_go at h
  exact of_decide_eq_false h
theorem q_goF {k g : Nat} (h : ¬ (g = k ∨ (k = 10 ∧ (g = 9 ∨ g = 12)) ∨ ((k = 9 ∨ k = 11) ∧ g = 12) ∨ (k = 5 ∧ (g = 4 ∨ g = 6)) ∨ (k = 4 ∧ g = 6) ∨ (k = 8 ∧ g = 7))) : q_go k g = false := by
  unfold q_go
  exact decide_eq_false h
def q_row (kd sz : Nat → Nat) (sh : Nat → Bool) (nu : Nat → Nat → Int64) (pa : Nat → Nat → Option Nat) (t g : Nat) : Int64 :=
  if g = 0 ∨ g = 1 then (q_num kd sz nu t).toInt32.toInt64 else if g = 2 then q_num kd sz nu t else if g = 5 then lN (q_ins kd sz sh pa true t) else lN (q_ins kd sz sh pa false t)
/-- a heap and what was written so far get names -/
theorem qw_name {p : Program} {l : Launch} {e : Env} {R : Room} {s : State} {m : MethodId} {args : Array Value} {below : List Frame} {meth : Method} {c : Code} {H : Heap} {locs : List Loc} {cells slots : Nat} {Q : State → Prop} {g : JFrame} {P : Heap → List Loc → Prop} (h : P H locs) (k : ∀ (H : Heap) (locs : List Loc), P H locs → W p l e R s m args below meth c H locs cells slots Q g) : W p l e R s m args below meth c H locs cells slots Q g := k H locs h
end
section
/-! ===== the pictures behind a store ===== -/
theorem q_ix_of2 {x : Int32} {n : Nat} (hn : n < 2 ^ 31) (h0 : ¬ x < 0) (h1 : x < nI n) : ∃ j : Nat, j < n ∧ x = nI j := q_ix_of hn h0 (Int32.not_le.mpr h1)
theorem q_ix_nlt {x : Int32} {n : Nat} (hn : n < 2 ^ 31) (h1 : ¬ x < nI n) : q_ix x n = none := q_ix_big hn (Int32.not_lt.mp h1)
theorem q_ix_of3 {x : Int32} {n : Nat} (hn : n + 1 < 2 ^ 31) (h0 : ¬ x < 0) (h1 : x ≤ nI n) : ∃ j : Nat, j < n + 1 ∧ x = nI j := by
  obtain ⟨j, hj, rfl⟩ := nI_of h0
  exact ⟨j, by have := (nI_leI hj (by omega)).mp h1; omega, rfl⟩
theorem q_ix_nle {x : Int32} {n : Nat} (hn : n + 1 < 2 ^ 31) (h1 : ¬ x ≤ nI n) : q_ix x (n + 1) = none := by
  rcases q_ix_or x hn with ⟨j, hj, rfl⟩ | h
  · exact absurd (nI_le (by omega) (by omega)) h1
  · exact h
theorem q_ix_out {x : Int32} {n : Nat} (hn : n < 2 ^ 31) (h : q_ix x n = none) : x.toInt < 0 ∨ (n : Int) - 1 < x.toInt := by
  by_cases h0 : x < 0
  · exact Or.inl (by have := Int32.lt_iff_toInt_lt.mp h0; simpa using this)
  · obtain ⟨j, hj, rfl⟩ := nI_of h0
    rw [nI_toInt hj]
    by_cases hl : j < n
    · rw [q_ix_in hl (by omega)] at h; cases h
    · exact Or.inr (by omega)
theorem q_gl_lt (k : Nat) : q_gl k < 13 := by unfold q_gl; split; omega; split <;> omega
theorem q_gp_lt (k : Nat) : q_gp k < 13 := by
  have := q_gl_lt k
  unfold q_gp; split; omega; split; omega; split <;> omega
theorem q_X.slot {E : q_E} {x T0 n : Nat} {kd sz : Nat → Nat} {sh : Nat → Bool} {nu : Nat → Nat → Int64} {pa : Nat → Nat → Option Nat} {sl : Nat → Option Nat} {ft tn ts tg : Int32} {H H1 : Heap} (h : q_X E x T0 (n, kd, sz, sh, nu, pa, sl, ft, tn, ts, tg) H) {j : Nat} (o : Option Nat) (hc : q_ta E (x + 1) 12 (va_up (fun j => q_rf T0 (sl j)) j (q_rf T0 o)) H1) (hz : H1.size = H.size) (hq : ∀ q, q ≠ x + 1 → H1[q]? = H[q]?) : q_X E x T0 (n, kd, sz, sh, nu, pa, va_up sl j o, ft, tn, ts, tg) H1 := by
  have hx := h.2.2.2.2
  refine ⟨h.1.kept (hq _ (by omega)), q_ta_congr hc (fun q _ => ?_), fun k hk => (h.2.2.1 k hk).kept (fun q h1 _ => hq q (by omega)), hz.trans h.2.2.2.1, hx⟩
  by_cases e : q = j <;> simp [va_up, e]
theorem q_X.num {E : q_E} {x T0 n : Nat} {kd sz : Nat → Nat} {sh : Nat → Bool} {nu : Nat → Nat → Int64} {pa : Nat → Nat → Option Nat} {sl : Nat → Option Nat} {ft tn ts tg : Int32} {H H1 : Heap} (h : q_X E x T0 (n, kd, sz, sh, nu, pa, sl, ft, tn, ts, tg) H) {k i : Nat} (hk : k < n) (v : Int64) (hc : q_ja E (T0 + 3 * k + 1) (q_nl (kd k) (sz k)) (va_up (nu k) i v) H1) (hz : H1.size = H.size) (hq : ∀ q, q ≠ T0 + 3 * k + 1 → H1[q]? = H[q]?) : q_X E x T0 (n, kd, sz, sh, va_up nu k (va_up (nu k) i v), pa, sl, ft, tn, ts, tg) H1 := by
  have hx := h.2.2.2.2
  refine ⟨h.1.kept (hq _ (by omega)), (hq _ (by omega)).trans h.2.1, fun t ht => ?_, hz.trans h.2.2.2.1, hx⟩
  by_cases e : t = k
  · subst e
    obtain ⟨h1, h2, h3⟩ := h.2.2.1 t ht
    refine ⟨h1.kept (hq _ (by omega)), ?_, (hq _ (by omega)).trans h3⟩
    show q_ja E _ _ (va_up nu t (va_up (nu t) i v) t) H1
    rw [va_up_self]; exact hc
  · have h1 := (h.2.2.1 t ht).kept (H1 := H1) (fun q h1 h2 => hq q (by omega))
    show q_th E T0 t _ _ _ (va_up nu k (va_up (nu k) i v) t) _ H1
    rw [va_up_ne _ _ e]; exact h1
theorem q_X.par {E : q_E} {x T0 n : Nat} {kd sz : Nat → Nat} {sh : Nat → Bool} {nu : Nat → Nat → Int64} {pa : Nat → Nat → Option Nat} {sl : Nat → Option Nat} {ft tn ts tg : Int32} {H H1 : Heap} (h : q_X E x T0 (n, kd, sz, sh, nu, pa, sl, ft, tn, ts, tg) H) {k i : Nat} (hk : k < n) (o : Option Nat) (hc : q_ta E (T0 + 3 * k + 2) (q_pl (kd k) (sz k)) (va_up (fun i => q_rf T0 (pa k i)) i (q_rf T0 o)) H1) (hz : H1.size = H.size) (hq : ∀ q, q ≠ T0 + 3 * k + 2 → H1[q]? = H[q]?) : q_X E x T0 (n, kd, sz, sh, nu, va_up pa k (va_up (pa k) i o), sl, ft, tn, ts, tg) H1 := by
  have hx := h.2.2.2.2
  refine ⟨h.1.kept (hq _ (by omega)), (hq _ (by omega)).trans h.2.1, fun t ht => ?_, hz.trans h.2.2.2.1, hx⟩
  by_cases e : t = k
  · subst e
    obtain ⟨h1, h2, h3⟩ := h.2.2.1 t ht
    refine ⟨h1.kept (hq _ (by omega)), (hq _ (by omega)).trans h2, ?_⟩
    show q_ta E _ _ (fun i_1 => q_rf T0 (va_up pa t (va_up (pa t) i o) t i_1)) H1
    rw [va_up_self]
    refine q_ta_congr hc (fun q _ => ?_)
    by_cases e : q = i <;> simp [va_up, e]
  · have h1 := (h.2.2.1 t ht).kept (H1 := H1) (fun q h1 h2 => hq q (by omega))
    show q_th E T0 t _ _ _ _ (va_up pa k (va_up (pa k) i o) t) H1
    rw [va_up_ne _ _ e]; exact h1
theorem q_X.lid {E : q_E} {x T0 n : Nat} {kd sz : Nat → Nat} {sh : Nat → Bool} {nu : Nat → Nat → Int64} {pa : Nat → Nat → Option Nat} {sl : Nat → Option Nat} {ft tn ts tg : Int32} {H H1 : Heap} (h : q_X E x T0 (n, kd, sz, sh, nu, pa, sl, ft, tn, ts, tg) H) {k : Nat} (hk : k < n) (b : Bool) (hc : q_ob E 0 (T0 + 3 * k) [.int (nI k), .int (nI (kd k)), .ref (T0 + 3 * k + 1), .ref (T0 + 3 * k + 2), .int (nI (q_am (kd k) (sz k))), .int (q_b b)] H1) (hz : H1.size = H.size) (hq : ∀ q, q ≠ T0 + 3 * k → H1[q]? = H[q]?) : q_X E x T0 (n, kd, sz, va_up sh k b, nu, pa, sl, ft, tn, ts, tg) H1 := by
  have hx := h.2.2.2.2
  refine ⟨h.1.kept (hq _ (by omega)), (hq _ (by omega)).trans h.2.1, fun t ht => ?_, hz.trans h.2.2.2.1, hx⟩
  by_cases e : t = k
  · subst e
    obtain ⟨h1, h2, h3⟩ := h.2.2.1 t ht
    show q_th E T0 t _ _ (va_up sh t b t) _ _ H1
    rw [va_up_self]
    exact ⟨hc, (hq _ (by omega)).trans h2, (hq _ (by omega)).trans h3⟩
  · have h1 := (h.2.2.1 t ht).kept (H1 := H1) (fun q h1 h2 => hq q (by omega))
    show q_th E T0 t _ _ (va_up sh k b t) _ _ H1
    rw [va_up_ne _ _ e]; exact h1
theorem q_X.amt {E : q_E} {x T0 n : Nat} {kd sz : Nat → Nat} {sh : Nat → Bool} {nu : Nat → Nat → Int64} {pa : Nat → Nat → Option Nat} {sl : Nat → Option Nat} {ft tn ts tg : Int32} {H H1 : Heap} (h : q_X E x T0 (n, kd, sz, sh, nu, pa, sl, ft, tn, ts, tg) H) {k : Nat} (hk : k < n) (h9 : 9 ≤ kd k) (z : Nat) (hc : q_ob E 0 (T0 + 3 * k) [.int (nI k), .int (nI (kd k)), .ref (T0 + 3 * k + 1), .ref (T0 + 3 * k + 2), .int (nI z), .int (q_b (sh k))] H1) (hz : H1.size = H.size) (hq : ∀ q, q ≠ T0 + 3 * k → H1[q]? = H[q]?) : q_X E x T0 (n, kd, va_up sz k z, sh, nu, pa, sl, ft, tn, ts, tg) H1 := by
  have hx := h.2.2.2.2
  refine ⟨h.1.kept (hq _ (by omega)), (hq _ (by omega)).trans h.2.1, fun t ht => ?_, hz.trans h.2.2.2.1, hx⟩
  by_cases e : t = k
  · subst e
    obtain ⟨h1, h2, h3⟩ := h.2.2.1 t ht
    show q_th E T0 t _ (va_up sz t z t) _ _ _ H1
    rw [va_up_self]
    have en : q_nl (kd t) z = q_nl (kd t) (sz t) := by unfold q_nl; rw [if_neg (by omega), if_neg (by omega)]
    have ep : q_pl (kd t) z = q_pl (kd t) (sz t) := by rw [q_pl0' (by omega), q_pl0' (by omega)]
    refine ⟨?_, ?_, ?_⟩
    · rw [q_am9 h9]; exact hc
    · rw [en]; exact (hq _ (by omega)).trans h2
    · rw [ep]; exact (hq _ (by omega)).trans h3
  · have h1 := (h.2.2.1 t ht).kept (H1 := H1) (fun q h1 h2 => hq q (by omega))
    show q_th E T0 t _ (va_up sz k z t) _ _ _ H1
    rw [va_up_ne _ _ e]; exact h1
/-! the same for the reference -/
theorem q_M.slot {E : q_E} {m S n : Nat} {kd sz : Nat → Nat} {sh : Nat → Bool} {nu : Nat → Nat → Int64} {pa : Nat → Nat → Option Nat} {sl : Nat → Option Nat} {ft tn ts tg : Int32} {H H1 : Heap} (h : q_M E m S (n, kd, sz, sh, nu, pa, sl, ft, tn, ts, tg) H) {j : Nat} (o : Option Nat) (hc : q_ia E (m + 5) 12 (va_up (fun j => q_eI (sl j)) j (q_eI o)) H1) (hz : H1.size = H.size) (hq : ∀ q, q ≠ m + 5 → H1[q]? = H[q]?) : q_M E m S (n, kd, sz, sh, nu, pa, va_up sl j o, ft, tn, ts, tg) H1 := by
  refine ⟨h.1.kept (hq _ (by omega)), (hq _ (by omega)).trans h.2.1, (hq _ (by omega)).trans h.2.2.1, (hq _ (by omega)).trans h.2.2.2.1, (hq _ (by omega)).trans h.2.2.2.2.1, q_ia_congr hc (fun q _ => ?_), hz.trans h.2.2.2.2.2.2⟩
  by_cases e : q = j <;> simp [va_up, e]
theorem q_M.num {E : q_E} {m S n : Nat} {kd sz : Nat → Nat} {sh : Nat → Bool} {nu : Nat → Nat → Int64} {pa : Nat → Nat → Option Nat} {sl : Nat → Option Nat} {ft tn ts tg : Int32} {H H1 : Heap} (h : q_M E m S (n, kd, sz, sh, nu, pa, sl, ft, tn, ts, tg) H) {k i : Nat} (hi : i < 8) (hd : ¬ (3 ≤ kd k ∧ kd k < 9)) (v : Int64) (hc : q_ja E (m + 4) 480 (va_up (fun q => q_cv (kd (q / 8)) (nu (q / 8) (q % 8)) (pa (q / 8) (q % 8))) (8 * k + i) v) H1) (hz : H1.size = H.size) (hq : ∀ q, q ≠ m + 4 → H1[q]? = H[q]?) : q_M E m S (n, kd, sz, sh, va_up nu k (va_up (nu k) i v), pa, sl, ft, tn, ts, tg) H1 := by
  refine ⟨h.1.kept (hq _ (by omega)), (hq _ (by omega)).trans h.2.1, (hq _ (by omega)).trans h.2.2.1, (hq _ (by omega)).trans h.2.2.2.1, q_ja_congr hc (fun q _ => ?_), (hq _ (by omega)).trans h.2.2.2.2.2.1, hz.trans h.2.2.2.2.2.2⟩
  show _ = q_cv (kd (q / 8)) (va_up nu k (va_up (nu k) i v) (q / 8) (q % 8)) (pa (q / 8) (q % 8))
  by_cases e : q = 8 * k + i
  · rw [e, show (8 * k + i) / 8 = k by omega, show (8 * k + i) % 8 = i by omega, va_up_self, va_up_self, va_up_self, q_cv, if_neg hd]
  · rw [va_up_ne _ _ e]
    by_cases e1 : q / 8 = k
    · rw [e1, va_up_self, va_up_ne _ _ (by omega)]
    · rw [va_up_ne _ _ e1]
theorem q_M.par {E : q_E} {m S n : Nat} {kd sz : Nat → Nat} {sh : Nat → Bool} {nu : Nat → Nat → Int64} {pa : Nat → Nat → Option Nat} {sl : Nat → Option Nat} {ft tn ts tg : Int32} {H H1 : Heap} (h : q_M E m S (n, kd, sz, sh, nu, pa, sl, ft, tn, ts, tg) H) {k i : Nat} (hi : i < 8) (hd : 3 ≤ kd k ∧ kd k < 9) (o : Option Nat) (hc : q_ja E (m + 4) 480 (va_up (fun q => q_cv (kd (q / 8)) (nu (q / 8) (q % 8)) (pa (q / 8) (q % 8))) (8 * k + i) (q_eL o)) H1) (hz : H1.size = H.size) (hq : ∀ q, q ≠ m + 4 → H1[q]? = H[q]?) : q_M E m S (n, kd, sz, sh, nu, va_up pa k (va_up (pa k) i o), sl, ft, tn, ts, tg) H1 := by
  refine ⟨h.1.kept (hq _ (by omega)), (hq _ (by omega)).trans h.2.1, (hq _ (by omega)).trans h.2.2.1, (hq _ (by omega)).trans h.2.2.2.1, q_ja_congr hc (fun q _ => ?_), (hq _ (by omega)).trans h.2.2.2.2.2.1, hz.trans h.2.2.2.2.2.2⟩
  show _ = q_cv (kd (q / 8)) (nu (q / 8) (q % 8)) (va_up pa k (va_up (pa k) i o) (q / 8) (q % 8))
  by_cases e : q = 8 * k + i
  · rw [e, show (8 * k + i) / 8 = k by omega, show (8 * k + i) % 8 = i by omega, va_up_self, va_up_self, va_up_self, q_cv, if_pos hd]
  · rw [va_up_ne _ _ e]
    by_cases e1 : q / 8 = k
    · rw [e1, va_up_self, va_up_ne _ _ (by omega)]
    · rw [va_up_ne _ _ e1]
theorem q_M.lid {E : q_E} {m S n : Nat} {kd sz : Nat → Nat} {sh : Nat → Bool} {nu : Nat → Nat → Int64} {pa : Nat → Nat → Option Nat} {sl : Nat → Option Nat} {ft tn ts tg : Int32} {H H1 : Heap} (h : q_M E m S (n, kd, sz, sh, nu, pa, sl, ft, tn, ts, tg) H) {k : Nat} (b : Bool) (hc : q_za E (m + 3) 60 (va_up (fun k => q_b (sh k)) k (q_b b)) H1) (hz : H1.size = H.size) (hq : ∀ q, q ≠ m + 3 → H1[q]? = H[q]?) : q_M E m S (n, kd, sz, va_up sh k b, nu, pa, sl, ft, tn, ts, tg) H1 := by
  refine ⟨h.1.kept (hq _ (by omega)), (hq _ (by omega)).trans h.2.1, (hq _ (by omega)).trans h.2.2.1, q_za_congr hc (fun q _ => ?_), (hq _ (by omega)).trans h.2.2.2.2.1, (hq _ (by omega)).trans h.2.2.2.2.2.1, hz.trans h.2.2.2.2.2.2⟩
  by_cases e : q = k <;> simp [va_up, e]
theorem q_M.amt {E : q_E} {m S n : Nat} {kd sz : Nat → Nat} {sh : Nat → Bool} {nu : Nat → Nat → Int64} {pa : Nat → Nat → Option Nat} {sl : Nat → Option Nat} {ft tn ts tg : Int32} {H H1 : Heap} (h : q_M E m S (n, kd, sz, sh, nu, pa, sl, ft, tn, ts, tg) H) {k : Nat} (z : Nat) (hc : q_ia E (m + 2) 60 (va_up (fun k => nI (sz k)) k (nI z)) H1) (hz : H1.size = H.size) (hq : ∀ q, q ≠ m + 2 → H1[q]? = H[q]?) : q_M E m S (n, kd, va_up sz k z, sh, nu, pa, sl, ft, tn, ts, tg) H1 := by
  refine ⟨h.1.kept (hq _ (by omega)), (hq _ (by omega)).trans h.2.1, q_ia_congr hc (fun q _ => ?_), (hq _ (by omega)).trans h.2.2.2.1, (hq _ (by omega)).trans h.2.2.2.2.1, (hq _ (by omega)).trans h.2.2.2.2.2.1, hz.trans h.2.2.2.2.2.2⟩
  by_cases e : q = k <;> simp [va_up, e]
theorem q_bn (b : Bool) : nI (if b = true then 1 else 0) = q_b b := by cases b <;> rfl
theorem q_I.slot {n : Nat} {kd sz : Nat → Nat} {sh : Nat → Bool} {nu : Nat → Nat → Int64} {pa : Nat → Nat → Option Nat} {sl : Nat → Option Nat} {ft tn ts tg ft' tn' ts' tg' : Int32} (h : q_I (n, kd, sz, sh, nu, pa, sl, ft, tn, ts, tg)) (j : Nat) {o : Option Nat} (ho : ∀ k, o = some k → k < n) : q_I (n, kd, sz, sh, nu, pa, va_up sl j o, ft', tn', ts', tg') := by
  refine ⟨h.1, h.2.1, fun i k hk => ?_⟩
  have hk : va_up sl j o i = some k := hk
  by_cases e : i = j
  · subst e
    rw [show va_up sl i o i = o from va_up_self _ _ _] at hk
    exact ho k hk
  · rw [show va_up sl j o i = sl i from va_up_ne _ _ e] at hk
    exact h.2.2 i k hk
end
section
/-! ===== words for the reference's walks ===== -/
def q_fh (b : Bool) (ft : Int32) : Int32 := if b then nI 4 else ft
def q_so (kd sz : Nat → Nat) (nu : Nat → Nat → Int64) (t : Nat) : Int64 := if kd t = 2 then q_num kd sz nu t else Int32.toInt64 (Int64.toInt32 (q_num kd sz nu t))
theorem q_fh_n {p : Nat → Option Nat} {i : Nat} {ft : Int32} (h : p i = none) : q_fh (q_h1 p (i + 1)) ft = nI 4 := by simp [q_fh, q_h1, h]
theorem q_fh_s {p : Nat → Option Nat} {i j : Nat} (h : p i = some j) : q_h1 p (i + 1) = q_h1 p i := by simp [q_h1, h]
theorem q_fh2_n {g : Nat → Bool} {p : Nat → Option Nat} {i : Nat} {ft : Int32} (h : p i = none) : q_fh (q_h2 g p (i + 1)) ft = nI 4 := by simp [q_fh, q_h2, h]
theorem q_fh2_s {g : Nat → Bool} {p : Nat → Option Nat} {i j : Nat} {ft : Int32} (h : p i = some j) : q_fh (q_h2 g p (i + 1)) ft = q_fh (g j) (q_fh (q_h2 g p i) ft) := by
  simp only [q_h2, h]
  cases g j <;> cases q_h2 g p i <;> rfl
theorem q_ho1_0 {kd sz : Nat → Nat} {pa : Nat → Nat → Option Nat} {t : Nat} (h : ¬ (3 ≤ kd t ∧ kd t < 9)) : q_ho1 kd sz pa t = false := by unfold q_ho1; rw [q_pl0' h]; rfl
theorem q_ho2_0 {kd sz : Nat → Nat} {pa : Nat → Nat → Option Nat} {t : Nat} (h : ¬ (3 ≤ kd t ∧ kd t < 9)) : q_ho2 kd sz pa t = false := by unfold q_ho2; rw [q_pl0' h]; rfl
theorem q_h12 {g : Nat → Bool} {p : Nat → Option Nat} (h : ∀ i j, p i = some j → g j = false) : ∀ m, q_h2 g p m = q_h1 p m := by
  intro m
  induction m with
  | zero => rfl
  | succ m ih =>
    simp only [q_h2, q_h1, ih]
    cases hp : p m with
    | none => rfl
    | some j => simp [h m j hp]
theorem q_ho12 {n : Nat} {kd sz : Nat → Nat} {sh : Nat → Bool} {nu : Nat → Nat → Int64} {pa : Nat → Nat → Option Nat} {sl : Nat → Option Nat} {ft tn ts tg : Int32} (hI : q_I (n, kd, sz, sh, nu, pa, sl, ft, tn, ts, tg)) {t : Nat} (ht : t < n) (h : 4 ≤ kd t ∧ kd t ≤ 6) : q_ho2 kd sz pa t = q_ho1 kd sz pa t := by
  unfold q_ho2 q_ho1
  refine q_h12 (fun i j hj => ?_) _
  have ho := ((hI.2.1 t ht).2.2.2 i j hj).2
  dsimp only at ho
  unfold q_ok at ho
  exact q_ho1_0 (by omega)
theorem q_ins_le {n : Nat} {kd sz : Nat → Nat} {sh : Nat → Bool} {nu : Nat → Nat → Int64} {pa : Nat → Nat → Option Nat} {sl : Nat → Option Nat} {ft tn ts tg : Int32} (hI : q_I (n, kd, sz, sh, nu, pa, sl, ft, tn, ts, tg)) (b : Bool) {t : Nat} (ht : t < n) : q_ins kd sz sh pa b t ≤ 16000000 := by
  have h0 := q_su_le (f := q_ld kd sz sh b) (p := pa t) (B := 2000000) (fun i j hj => q_ld_le (hI.2.1 j ((hI.2.1 t ht).2.2.2 i j hj).1).2.1) (q_pl (kd t) (sz t))
  have h1 : q_pl (kd t) (sz t) ≤ 8 := by
    unfold q_pl
    split
    · exact (hI.2.1 t ht).2.2.1 (by dsimp only; omega)
    · omega
  unfold q_ins
  omega
theorem q_rws_le {n : Nat} {kd sz : Nat → Nat} {sh : Nat → Bool} {nu : Nat → Nat → Int64} {pa : Nat → Nat → Option Nat} {sl : Nat → Option Nat} {ft tn ts tg : Int32} (hI : q_I (n, kd, sz, sh, nu, pa, sl, ft, tn, ts, tg)) (b : Bool) {t : Nat} (ht : t < n) : q_rws kd sz sh pa b t ≤ 128000000 := by
  have h0 := q_su_le (f := q_ins kd sz sh pa b) (p := pa t) (B := 16000000) (fun i j hj => q_ins_le hI b ((hI.2.1 t ht).2.2.2 i j hj).1) (q_pl (kd t) (sz t))
  have h1 : q_pl (kd t) (sz t) ≤ 8 := by
    unfold q_pl
    split
    · exact (hI.2.1 t ht).2.2.1 (by dsimp only; omega)
    · omega
  unfold q_rws
  omega
theorem q_l2i (x : Int32) : (Int32.toInt64 x).toInt32 = x := by simp
end
section
/-! ===== the static methods that touch no heap (written by program) ===== -/
theorem q_bt {P : Prop} [Decidable P] (h : P) : nI 1 = q_b (decide P) := by simp only [q_b, decide_eq_true h, if_true]; decide
theorem q_bf {P : Prop} [Decidable P] (h : ¬ P) : nI 0 = q_b (decide P) := by simp only [q_b, decide_eq_false h]; decide
theorem q_b1 {b : Bool} (h : b = true) : nI 1 = q_b b := by subst h; decide
theorem q_b0 {b : Bool} (h : b = false) : nI 0 = q_b b := by subst h; decide
theorem q_nbb (b : Bool) : narrow .boolean (.int (q_b b)) = .int (q_b b) := by cases b <;> rfl
theorem q_fbb (b : Bool) : fits .boolean (.int (q_b b)) = true := by cases b <;> rfl
theorem q_in0 (x : Int32) {n : Nat} (hn : n + 1 < 2 ^ 31) : decide (nI 0 ≤ x ∧ x ≤ nI n) = (q_ix x (n + 1)).isSome := by
  rcases q_ix_or x hn with ⟨j, hj, rfl⟩ | h
  · rw [q_ix_in hj (by omega)]
    simp only [Option.isSome_some, decide_eq_true_eq]
    exact ⟨nI_le (by omega) (by omega), nI_le (by omega) (by omega)⟩
  · rw [h]
    simp only [Option.isSome_none, decide_eq_false_iff_not]
    intro q
    rcases pk_ix x hn with h1 | h1 | ⟨j, hj, rfl⟩
    · exact absurd q.1 (by rw [nI_0]; exact Int32.not_le.mpr h1)
    · exact absurd (Int32.le_trans h1 q.2) (fun z => by have := (nI_leI hn (by omega)).mp z; omega)
    · rw [q_ix_in hj (by omega)] at h; cases h
theorem q_in1 (x : Int32) {z : Nat} (hz : z < 2 ^ 31) : decide (nI 0 ≤ x ∧ x ≤ nI z - nI 1) = (q_ix x z).isSome := by
  cases z with
  | zero =>
    have e : (q_ix x 0).isSome = false := by unfold q_ix; rw [if_pos (Or.inr (Nat.zero_le _))]; rfl
    rw [e]
    simp only [decide_eq_false_iff_not]
    intro q
    exact absurd (Int32.le_trans q.1 q.2) (by decide)
  | succ n => rw [pk_sub (by omega), show n + 1 - 1 = n by omega]; exact q_in0 x hz
set_option maxHeartbeats 4000000 in
set_option maxRecDepth 100000 in
theorem kX1_isSlot (l : Launch) (a : Int32)  : Met l yX1_isSlot wsX1_isSlot ({ frames := 0, cells := 0, slots := 0, locals := 0 }) (fun vv _ => vv = [.int a].toArray) (vp_Si (fun rr => rr = q_b (q_ix a 12).isSome)) 0 0 (fun _ => False) := by
  refine Met.ofW (cc := cX1_isSlot) (maxL := 1) (ret := (some .boolean)) (by decide) rfl ?_
  intro p e s m args below meth c s₁ B hml hv
  have hv : args = [.int a].toArray := hv
  subst hv
  have hx := B.exec
  have hb := B.bytes
  have hr := B.returns
  have hts := atoms_spec (ws := wsX1_isSlot) B.pre
  have hown : s.vm.findClass RX1 = some m.cls := findClass_of_methodNamed B.named
  have hlocks := B.notSynchronized
  have hl := lv_entry ([.int a]) (n := 1) (Nat.le_of_ble_eq_true rfl)
  rw [lg_entry_eq]
  generalize (lg_sl ([.int a]) ++ List.replicate (1 - (lg_sl ([.int a])).length) Slot.unset).toArray = ls at hl ⊢
  have hl : lv_has ls 1 [(0, .int a)] := hl
  refine lv_iload_n hx hb dX1_isSlot_0 rfl (lv_at hl 0 rfl) ?_
  refine lv_if_lt (tgt := 14) hx hb dX1_isSlot_1 (by decide) (fun c_1 => ?_) (fun c_1 => ?_)
  · refine lv_iconst (v := nI 0) hx hb dX1_isSlot_14 (by decide) ?_
    exact W.zret (v := nI 0) hx hb hr rfl (fun t ht hW => ⟨_, rfl, (by rw [q_ix_neg c_1]; decide), ht⟩) (fun _ h => absurd h List.not_mem_nil) dX1_isSlot_15
  · refine lv_iload_n hx hb dX1_isSlot_4 rfl (lv_at hl 0 rfl) ?_
    refine lv_bipush (v := nI 12) hx hb dX1_isSlot_5 (by decide) ?_
    refine lv_icmp_ge (tgt := 14) hx hb dX1_isSlot_7 (by decide) (fun c_2 => ?_) (fun c_2 => ?_)
    · refine lv_iconst (v := nI 0) hx hb dX1_isSlot_14 (by decide) ?_
      exact W.zret (v := nI 0) hx hb hr rfl (fun t ht hW => ⟨_, rfl, (by first | (rw [q_ix_big (by decide) c_2]; decide) | (obtain ⟨j, hj, rfl⟩ := q_ix_of (by decide) c_1 c_2; rw [q_ix_in hj (by decide)]; rfl)), ht⟩) (fun _ h => absurd h List.not_mem_nil) dX1_isSlot_15
    · refine lv_iconst (v := nI 1) hx hb dX1_isSlot_10 (by decide) ?_
      refine lv_goto (tgt := 15) hx hb dX1_isSlot_11 (by decide) ?_
      exact W.zret (v := nI 1) hx hb hr rfl (fun t ht hW => ⟨_, rfl, (by first | (rw [q_ix_big (by decide) c_2]; decide) | (obtain ⟨j, hj, rfl⟩ := q_ix_of (by decide) c_1 c_2; rw [q_ix_in hj (by decide)]; rfl)), ht⟩) (fun _ h => absurd h List.not_mem_nil) dX1_isSlot_15
set_option maxHeartbeats 4000000 in
set_option maxRecDepth 100000 in
theorem kX1_isGate (l : Launch) (a : Int32)  : Met l yX1_isGate wsX1_isGate ({ frames := 0, cells := 0, slots := 0, locals := 0 }) (fun vv _ => vv = [.int a].toArray) (vp_Si (fun rr => rr = q_b (q_ix a 13).isSome)) 0 0 (fun _ => False) := by
  refine Met.ofW (cc := cX1_isGate) (maxL := 1) (ret := (some .boolean)) (by decide) rfl ?_
  intro p e s m args below meth c s₁ B hml hv
  have hv : args = [.int a].toArray := hv
  subst hv
  have hx := B.exec
  have hb := B.bytes
  have hr := B.returns
  have hts := atoms_spec (ws := wsX1_isGate) B.pre
  have hown : s.vm.findClass RX1 = some m.cls := findClass_of_methodNamed B.named
  have hlocks := B.notSynchronized
  have hl := lv_entry ([.int a]) (n := 1) (Nat.le_of_ble_eq_true rfl)
  rw [lg_entry_eq]
  generalize (lg_sl ([.int a]) ++ List.replicate (1 - (lg_sl ([.int a])).length) Slot.unset).toArray = ls at hl ⊢
  have hl : lv_has ls 1 [(0, .int a)] := hl
  refine lv_iload_n hx hb dX1_isGate_0 rfl (lv_at hl 0 rfl) ?_
  refine lv_if_lt (tgt := 14) hx hb dX1_isGate_1 (by decide) (fun c_1 => ?_) (fun c_1 => ?_)
  · refine lv_iconst (v := nI 0) hx hb dX1_isGate_14 (by decide) ?_
    exact W.zret (v := nI 0) hx hb hr rfl (fun t ht hW => ⟨_, rfl, (by rw [q_ix_neg c_1]; decide), ht⟩) (fun _ h => absurd h List.not_mem_nil) dX1_isGate_15
  · refine lv_iload_n hx hb dX1_isGate_4 rfl (lv_at hl 0 rfl) ?_
    refine lv_bipush (v := nI 13) hx hb dX1_isGate_5 (by decide) ?_
    refine lv_icmp_ge (tgt := 14) hx hb dX1_isGate_7 (by decide) (fun c_2 => ?_) (fun c_2 => ?_)
    · refine lv_iconst (v := nI 0) hx hb dX1_isGate_14 (by decide) ?_
      exact W.zret (v := nI 0) hx hb hr rfl (fun t ht hW => ⟨_, rfl, (by first | (rw [q_ix_big (by decide) c_2]; decide) | (obtain ⟨j, hj, rfl⟩ := q_ix_of (by decide) c_1 c_2; rw [q_ix_in hj (by decide)]; rfl)), ht⟩) (fun _ h => absurd h List.not_mem_nil) dX1_isGate_15
    · refine lv_iconst (v := nI 1) hx hb dX1_isGate_10 (by decide) ?_
      refine lv_goto (tgt := 15) hx hb dX1_isGate_11 (by decide) ?_
      exact W.zret (v := nI 1) hx hb hr rfl (fun t ht hW => ⟨_, rfl, (by first | (rw [q_ix_big (by decide) c_2]; decide) | (obtain ⟨j, hj, rfl⟩ := q_ix_of (by decide) c_1 c_2; rw [q_ix_in hj (by decide)]; rfl)), ht⟩) (fun _ h => absurd h List.not_mem_nil) dX1_isGate_15
set_option maxHeartbeats 4000000 in
set_option maxRecDepth 100000 in
theorem kX1_isKind (l : Launch) (a : Int32)  : Met l yX1_isKind wsX1_isKind ({ frames := 0, cells := 0, slots := 0, locals := 0 }) (fun vv _ => vv = [.int a].toArray) (vp_Si (fun rr => rr = q_b (q_ix a 12).isSome)) 0 0 (fun _ => False) := by
  refine Met.ofW (cc := cX1_isKind) (maxL := 1) (ret := (some .boolean)) (by decide) rfl ?_
  intro p e s m args below meth c s₁ B hml hv
  have hv : args = [.int a].toArray := hv
  subst hv
  have hx := B.exec
  have hb := B.bytes
  have hr := B.returns
  have hts := atoms_spec (ws := wsX1_isKind) B.pre
  have hown : s.vm.findClass RX1 = some m.cls := findClass_of_methodNamed B.named
  have hlocks := B.notSynchronized
  have hl := lv_entry ([.int a]) (n := 1) (Nat.le_of_ble_eq_true rfl)
  rw [lg_entry_eq]
  generalize (lg_sl ([.int a]) ++ List.replicate (1 - (lg_sl ([.int a])).length) Slot.unset).toArray = ls at hl ⊢
  have hl : lv_has ls 1 [(0, .int a)] := hl
  refine lv_iload_n hx hb dX1_isKind_0 rfl (lv_at hl 0 rfl) ?_
  refine lv_if_lt (tgt := 14) hx hb dX1_isKind_1 (by decide) (fun c_1 => ?_) (fun c_1 => ?_)
  · refine lv_iconst (v := nI 0) hx hb dX1_isKind_14 (by decide) ?_
    exact W.zret (v := nI 0) hx hb hr rfl (fun t ht hW => ⟨_, rfl, (by rw [q_ix_neg c_1]; decide), ht⟩) (fun _ h => absurd h List.not_mem_nil) dX1_isKind_15
  · refine lv_iload_n hx hb dX1_isKind_4 rfl (lv_at hl 0 rfl) ?_
    refine lv_bipush (v := nI 12) hx hb dX1_isKind_5 (by decide) ?_
    refine lv_icmp_ge (tgt := 14) hx hb dX1_isKind_7 (by decide) (fun c_2 => ?_) (fun c_2 => ?_)
    · refine lv_iconst (v := nI 0) hx hb dX1_isKind_14 (by decide) ?_
      exact W.zret (v := nI 0) hx hb hr rfl (fun t ht hW => ⟨_, rfl, (by first | (rw [q_ix_big (by decide) c_2]; decide) | (obtain ⟨j, hj, rfl⟩ := q_ix_of (by decide) c_1 c_2; rw [q_ix_in hj (by decide)]; rfl)), ht⟩) (fun _ h => absurd h List.not_mem_nil) dX1_isKind_15
    · refine lv_iconst (v := nI 1) hx hb dX1_isKind_10 (by decide) ?_
      refine lv_goto (tgt := 15) hx hb dX1_isKind_11 (by decide) ?_
      exact W.zret (v := nI 1) hx hb hr rfl (fun t ht hW => ⟨_, rfl, (by first | (rw [q_ix_big (by decide) c_2]; decide) | (obtain ⟨j, hj, rfl⟩ := q_ix_of (by decide) c_1 c_2; rw [q_ix_in hj (by decide)]; rfl)), ht⟩) (fun _ h => absurd h List.not_mem_nil) dX1_isKind_15
set_option maxHeartbeats 4000000 in
set_option maxRecDepth 100000 in
theorem kX1_holdsNumbers (l : Launch) (k : Nat) (hk : k < 2 ^ 31) : Met l yX1_holdsNumbers wsX1_holdsNumbers ({ frames := 0, cells := 0, slots := 0, locals := 0 }) (fun vv _ => vv = [.int (nI k)].toArray) (vp_Si (fun rr => rr = q_b (decide (k < 3)))) 0 0 (fun _ => False) := by
  refine Met.ofW (cc := cX1_holdsNumbers) (maxL := 1) (ret := (some .boolean)) (by decide) rfl ?_
  intro p e s m args below meth c s₁ B hml hv
  have hv : args = [.int (nI k)].toArray := hv
  subst hv
  have hx := B.exec
  have hb := B.bytes
  have hr := B.returns
  have hts := atoms_spec (ws := wsX1_holdsNumbers) B.pre
  have hown : s.vm.findClass RX1 = some m.cls := findClass_of_methodNamed B.named
  have hlocks := B.notSynchronized
  have hl := lv_entry ([.int (nI k)]) (n := 1) (Nat.le_of_ble_eq_true rfl)
  rw [lg_entry_eq]
  generalize (lg_sl ([.int (nI k)]) ++ List.replicate (1 - (lg_sl ([.int (nI k)])).length) Slot.unset).toArray = ls at hl ⊢
  have hl : lv_has ls 1 [(0, .int (nI k))] := hl
  refine lv_iload_n hx hb dX1_holdsNumbers_0 rfl (lv_at hl 0 rfl) ?_
  refine ln_if_lt (tgt := 13) hx hb (by omega) dX1_holdsNumbers_1 (by decide) ?_
  refine lv_iload_n hx hb dX1_holdsNumbers_4 rfl (lv_at hl 0 rfl) ?_
  refine lv_iconst (v := nI 2) hx hb dX1_holdsNumbers_5 (by decide) ?_
  refine ln_cmp_gt (tgt := 13) hx hb (by omega) (by omega) dX1_holdsNumbers_6 (by decide) (fun c_2 => ?_) (fun c_2 => ?_)
  · refine lv_iconst (v := nI 0) hx hb dX1_holdsNumbers_13 (by decide) ?_
    exact W.zret (v := nI 0) hx hb hr rfl (fun t ht hW => ⟨_, rfl, (q_bf (by omega)), ht⟩) (fun _ h => absurd h List.not_mem_nil) dX1_holdsNumbers_14
  · refine lv_iconst (v := nI 1) hx hb dX1_holdsNumbers_9 (by decide) ?_
    refine lv_goto (tgt := 14) hx hb dX1_holdsNumbers_10 (by decide) ?_
    exact W.zret (v := nI 1) hx hb hr rfl (fun t ht hW => ⟨_, rfl, (q_bt (by omega)), ht⟩) (fun _ h => absurd h List.not_mem_nil) dX1_holdsNumbers_14
set_option maxHeartbeats 4000000 in
set_option maxRecDepth 100000 in
theorem kX1_holdsThings (l : Launch) (k : Nat) (hk : k < 2 ^ 31) : Met l yX1_holdsThings wsX1_holdsThings ({ frames := 0, cells := 0, slots := 0, locals := 0 }) (fun vv _ => vv = [.int (nI k)].toArray) (vp_Si (fun rr => rr = q_b (decide (3 ≤ k ∧ k < 9)))) 0 0 (fun _ => False) := by
  refine Met.ofW (cc := cX1_holdsThings) (maxL := 1) (ret := (some .boolean)) (by decide) rfl ?_
  intro p e s m args below meth c s₁ B hml hv
  have hv : args = [.int (nI k)].toArray := hv
  subst hv
  have hx := B.exec
  have hb := B.bytes
  have hr := B.returns
  have hts := atoms_spec (ws := wsX1_holdsThings) B.pre
  have hown : s.vm.findClass RX1 = some m.cls := findClass_of_methodNamed B.named
  have hlocks := B.notSynchronized
  have hl := lv_entry ([.int (nI k)]) (n := 1) (Nat.le_of_ble_eq_true rfl)
  rw [lg_entry_eq]
  generalize (lg_sl ([.int (nI k)]) ++ List.replicate (1 - (lg_sl ([.int (nI k)])).length) Slot.unset).toArray = ls at hl ⊢
  have hl : lv_has ls 1 [(0, .int (nI k))] := hl
  refine lv_iload_n hx hb dX1_holdsThings_0 rfl (lv_at hl 0 rfl) ?_
  refine lv_iconst (v := nI 3) hx hb dX1_holdsThings_1 (by decide) ?_
  refine ln_cmp_lt (tgt := 15) hx hb (by omega) (by omega) dX1_holdsThings_2 (by decide) (fun c_1 => ?_) (fun c_1 => ?_)
  · refine lv_iconst (v := nI 0) hx hb dX1_holdsThings_15 (by decide) ?_
    exact W.zret (v := nI 0) hx hb hr rfl (fun t ht hW => ⟨_, rfl, (q_bf (by omega)), ht⟩) (fun _ h => absurd h List.not_mem_nil) dX1_holdsThings_16
  · refine lv_iload_n hx hb dX1_holdsThings_5 rfl (lv_at hl 0 rfl) ?_
    refine lv_bipush (v := nI 8) hx hb dX1_holdsThings_6 (by decide) ?_
    refine ln_cmp_gt (tgt := 15) hx hb (by omega) (by omega) dX1_holdsThings_8 (by decide) (fun c_2 => ?_) (fun c_2 => ?_)
    · refine lv_iconst (v := nI 0) hx hb dX1_holdsThings_15 (by decide) ?_
      exact W.zret (v := nI 0) hx hb hr rfl (fun t ht hW => ⟨_, rfl, (q_bf (by omega)), ht⟩) (fun _ h => absurd h List.not_mem_nil) dX1_holdsThings_16
    · refine lv_iconst (v := nI 1) hx hb dX1_holdsThings_11 (by decide) ?_
      refine lv_goto (tgt := 16) hx hb dX1_holdsThings_12 (by decide) ?_
      exact W.zret (v := nI 1) hx hb hr rfl (fun t ht hW => ⟨_, rfl, (q_bt (by omega)), ht⟩) (fun _ h => absurd h List.not_mem_nil) dX1_holdsThings_16
set_option maxHeartbeats 4000000 in
set_option maxRecDepth 100000 in
theorem kX1_mostOf (l : Launch) (k : Nat) (hk : k < 12) : Met l yX1_mostOf wsX1_mostOf ({ frames := 1, cells := 0, slots := 0, locals := 20 }) (fun vv _ => vv = [.int (nI k)].toArray) (vp_Si (fun rr => rr = nI (if k < 9 then 8 else 1000000))) 0 0 (fun _ => False) := by
  refine Met.ofW (cc := cX1_mostOf) (maxL := 1) (ret := (some .int)) (by decide) rfl ?_
  intro p e s m args below meth c s₁ B hml hv
  have hv : args = [.int (nI k)].toArray := hv
  subst hv
  have hx := B.exec
  have hb := B.bytes
  have hr := B.returns
  have hts := atoms_spec (ws := wsX1_mostOf) B.pre
  have hown : s.vm.findClass RX1 = some m.cls := findClass_of_methodNamed B.named
  have hlocks := B.notSynchronized
  have hl := lv_entry ([.int (nI k)]) (n := 1) (Nat.le_of_ble_eq_true rfl)
  rw [lg_entry_eq]
  generalize (lg_sl ([.int (nI k)]) ++ List.replicate (1 - (lg_sl ([.int (nI k)])).length) Slot.unset).toArray = ls at hl ⊢
  have hl : lv_has ls 1 [(0, .int (nI k))] := hl
  refine lv_iload_n hx hb dX1_mostOf_0 rfl (lv_at hl 0 rfl) ?_
  refine qc_ri (r1 := q_b (decide (k < 3))) (W.runS (As := [.int (nI k)]) (rest := []) ⟨hx, hb, hml, hown, hts⟩ (kX1_holdsNumbers l k (by omega)) (va_cwS 1 hts gX1_mostOf_X1_holdsNumbers rfl rfl rfl (by decide +kernel) ⟨Nat.le_of_ble_eq_true rfl, Nat.le_of_ble_eq_true rfl⟩) preEq rfl rfl hl.1 rfl (lv_room (Nat.le_of_ble_eq_true rfl)) dX1_mostOf_1 ⟨Nat.le_of_ble_eq_true rfl, Nat.le_of_ble_eq_true rfl⟩) rfl ?_
  refine ln_b_ne (tgt := 14) hx hb dX1_mostOf_4 (by decide) (fun c_1 => ?_) (fun c_1 => ?_)
  · have c_1 := of_decide_eq_true c_1
    refine lv_bipush (v := nI 8) hx hb dX1_mostOf_14 (by decide) ?_
    refine lv_goto (tgt := 21) hx hb dX1_mostOf_16 (by decide) ?_
    exact W.iret (v := nI 8) hx hb hr (fun t ht hW => ⟨_, rfl, (q_c (by split <;> omega)), ht⟩) (fun _ h => absurd h List.not_mem_nil) dX1_mostOf_21
  · have c_1 := of_decide_eq_false c_1
    refine lv_iload_n hx hb dX1_mostOf_7 rfl (lv_at hl 0 rfl) ?_
    refine qc_ri (r1 := q_b (decide (3 ≤ k ∧ k < 9))) (W.runS (As := [.int (nI k)]) (rest := []) ⟨hx, hb, hml, hown, hts⟩ (kX1_holdsThings l k (by omega)) (va_cwS 1 hts gX1_mostOf_X1_holdsThings rfl rfl rfl (by decide +kernel) ⟨Nat.le_of_ble_eq_true rfl, Nat.le_of_ble_eq_true rfl⟩) preEq rfl rfl hl.1 rfl (lv_room (Nat.le_of_ble_eq_true rfl)) dX1_mostOf_8 ⟨Nat.le_of_ble_eq_true rfl, Nat.le_of_ble_eq_true rfl⟩) rfl ?_
    refine ln_b_eq (tgt := 19) hx hb dX1_mostOf_11 (by decide) (fun c_2 => ?_) (fun c_2 => ?_)
    · have c_2 := of_decide_eq_false c_2
      refine lv_ldc (v := 1000000) hx hb hown (hts (.constant RX1 113 (1000000)) (by decide +kernel)) dX1_mostOf_19 ?_
      rw [show (1000000 : Int32) = nI 1000000 by decide]
      exact W.iret (v := nI 1000000) hx hb hr (fun t ht hW => ⟨_, rfl, (q_c (by split <;> omega)), ht⟩) (fun _ h => absurd h List.not_mem_nil) dX1_mostOf_21
    · have c_2 := of_decide_eq_true c_2
      refine lv_bipush (v := nI 8) hx hb dX1_mostOf_14 (by decide) ?_
      refine lv_goto (tgt := 21) hx hb dX1_mostOf_16 (by decide) ?_
      exact W.iret (v := nI 8) hx hb hr (fun t ht hW => ⟨_, rfl, (q_c (by split <;> omega)), ht⟩) (fun _ h => absurd h List.not_mem_nil) dX1_mostOf_21
set_option maxHeartbeats 4000000 in
set_option maxRecDepth 100000 in
theorem kX1_gateOfLaying (l : Launch) (k : Nat) (hk : k < 12) : Met l yX1_gateOfLaying wsX1_gateOfLaying ({ frames := 0, cells := 0, slots := 0, locals := 0 }) (fun vv _ => vv = [.int (nI k)].toArray) (vp_Si (fun rr => rr = nI (q_gl k))) 0 0 (fun _ => False) := by
  refine Met.ofW (cc := cX1_gateOfLaying) (maxL := 1) (ret := (some .int)) (by decide) rfl ?_
  intro p e s m args below meth c s₁ B hml hv
  have hv : args = [.int (nI k)].toArray := hv
  subst hv
  have hx := B.exec
  have hb := B.bytes
  have hr := B.returns
  have hts := atoms_spec (ws := wsX1_gateOfLaying) B.pre
  have hown : s.vm.findClass RX1 = some m.cls := findClass_of_methodNamed B.named
  have hlocks := B.notSynchronized
  have hl := lv_entry ([.int (nI k)]) (n := 1) (Nat.le_of_ble_eq_true rfl)
  rw [lg_entry_eq]
  generalize (lg_sl ([.int (nI k)]) ++ List.replicate (1 - (lg_sl ([.int (nI k)])).length) Slot.unset).toArray = ls at hl ⊢
  have hl : lv_has ls 1 [(0, .int (nI k))] := hl
  refine lv_iload_n hx hb dX1_gateOfLaying_0 rfl (lv_at hl 0 rfl) ?_
  have c_1 : k = 3 ∨ k = 7 ∨ k = 8 ∨ (¬ k = 3 ∧ ¬ k = 7 ∧ ¬ k = 8) := by omega
  rcases c_1 with c_1 | c_1 | c_1 | c_1
  · refine q_lk (v := 3) (tgt := 36) (off := 35) hx hb c_1 dX1_gateOfLaying_1 (by decide) (by decide) (by decide) ?_
    refine lv_iconst (v := nI 0) hx hb dX1_gateOfLaying_36 (by decide) ?_
    exact W.iret (v := nI 0) hx hb hr (fun t ht hW => ⟨_, rfl, (q_c (by simp [q_gl, c_1])), ht⟩) (fun _ h => absurd h List.not_mem_nil) dX1_gateOfLaying_37
  · refine q_lk (v := 7) (tgt := 38) (off := 37) hx hb c_1 dX1_gateOfLaying_1 (by decide) (by decide) (by decide) ?_
    refine lv_iconst (v := nI 4) hx hb dX1_gateOfLaying_38 (by decide) ?_
    exact W.iret (v := nI 4) hx hb hr (fun t ht hW => ⟨_, rfl, (q_c (by simp [q_gl, c_1])), ht⟩) (fun _ h => absurd h List.not_mem_nil) dX1_gateOfLaying_39
  · refine q_lk (v := 8) (tgt := 38) (off := 37) hx hb c_1 dX1_gateOfLaying_1 (by decide) (by decide) (by decide) ?_
    refine lv_iconst (v := nI 4) hx hb dX1_gateOfLaying_38 (by decide) ?_
    exact W.iret (v := nI 4) hx hb hr (fun t ht hW => ⟨_, rfl, (q_c (by simp [q_gl, c_1])), ht⟩) (fun _ h => absurd h List.not_mem_nil) dX1_gateOfLaying_39
  · obtain ⟨c_1_3, c_1_7, c_1_8⟩ := c_1
    refine q_lkd (tgt := 40) hx hb (by omega) dX1_gateOfLaying_1 (by decide) (by simp [Op.lookupswitch.offset_cons, Op.lookupswitch.offset, show ¬ (3 : Int) = (k : Nat) by omega, show ¬ (7 : Int) = (k : Nat) by omega, show ¬ (8 : Int) = (k : Nat) by omega]) (by decide) ?_
    refine lv_bipush (v := nI 12) hx hb dX1_gateOfLaying_40 (by decide) ?_
    exact W.iret (v := nI 12) hx hb hr (fun t ht hW => ⟨_, rfl, (q_c (by simp [q_gl, c_1_3, c_1_7, c_1_8])), ht⟩) (fun _ h => absurd h List.not_mem_nil) dX1_gateOfLaying_42
set_option maxHeartbeats 4000000 in
set_option maxRecDepth 100000 in
theorem kX1_gateOfPlaces (l : Launch) (k : Nat) (hk : k < 12) : Met l yX1_gateOfPlaces wsX1_gateOfPlaces ({ frames := 1, cells := 0, slots := 0, locals := 20 }) (fun vv _ => vv = [.int (nI k)].toArray) (vp_Si (fun rr => rr = nI (q_gp k))) 0 0 (fun _ => False) := by
  refine Met.ofW (cc := cX1_gateOfPlaces) (maxL := 1) (ret := (some .int)) (by decide) rfl ?_
  intro p e s m args below meth c s₁ B hml hv
  have hv : args = [.int (nI k)].toArray := hv
  subst hv
  have hx := B.exec
  have hb := B.bytes
  have hr := B.returns
  have hts := atoms_spec (ws := wsX1_gateOfPlaces) B.pre
  have hown : s.vm.findClass RX1 = some m.cls := findClass_of_methodNamed B.named
  have hlocks := B.notSynchronized
  have hl := lv_entry ([.int (nI k)]) (n := 1) (Nat.le_of_ble_eq_true rfl)
  rw [lg_entry_eq]
  generalize (lg_sl ([.int (nI k)]) ++ List.replicate (1 - (lg_sl ([.int (nI k)])).length) Slot.unset).toArray = ls at hl ⊢
  have hl : lv_has ls 1 [(0, .int (nI k))] := hl
  refine lv_iload_n hx hb dX1_gateOfPlaces_0 rfl (lv_at hl 0 rfl) ?_
  have c_1 : k = 4 ∨ k = 5 ∨ k = 8 ∨ (¬ k = 4 ∧ ¬ k = 5 ∧ ¬ k = 8) := by omega
  rcases c_1 with c_1 | c_1 | c_1 | c_1
  · refine q_tIn (v := 4) (tgt := 36) (off := 35) hx hb c_1 dX1_gateOfPlaces_1 (by decide) (by decide) (by decide) (by decide) ?_
    refine lv_bipush (v := nI 9) hx hb dX1_gateOfPlaces_36 (by decide) ?_
    exact W.iret (v := nI 9) hx hb hr (fun t ht hW => ⟨_, rfl, (q_c (by simp [q_gp, c_1])), ht⟩) (fun _ h => absurd h List.not_mem_nil) dX1_gateOfPlaces_38
  · refine q_tIn (v := 5) (tgt := 39) (off := 38) hx hb c_1 dX1_gateOfPlaces_1 (by decide) (by decide) (by decide) (by decide) ?_
    refine lv_bipush (v := nI 10) hx hb dX1_gateOfPlaces_39 (by decide) ?_
    exact W.iret (v := nI 10) hx hb hr (fun t ht hW => ⟨_, rfl, (q_c (by simp [q_gp, c_1])), ht⟩) (fun _ h => absurd h List.not_mem_nil) dX1_gateOfPlaces_41
  · refine q_tIn (v := 8) (tgt := 42) (off := 41) hx hb c_1 dX1_gateOfPlaces_1 (by decide) (by decide) (by decide) (by decide) ?_
    refine lv_iconst (v := nI 5) hx hb dX1_gateOfPlaces_42 (by decide) ?_
    exact W.iret (v := nI 5) hx hb hr (fun t ht hW => ⟨_, rfl, (q_c (by simp [q_gp, c_1])), ht⟩) (fun _ h => absurd h List.not_mem_nil) dX1_gateOfPlaces_43
  · obtain ⟨c_1_4, c_1_5, c_1_8⟩ := c_1
    have c_2 : k = 6 ∨ k = 7 ∨ ((k : Int) < 4 ∨ 8 < (k : Int)) := by omega
    rcases c_2 with c_2 | c_2 | c_2
    · refine q_tIn (v := 6) (tgt := 44) (off := 43) hx hb c_2 dX1_gateOfPlaces_1 (by decide) (by decide) (by decide) (by decide) ?_
      refine lv_iload_n hx hb dX1_gateOfPlaces_44 rfl (lv_at hl 0 rfl) ?_
      refine qc_ri (r1 := nI (q_gl k)) (W.runS (As := [.int (nI k)]) (rest := []) ⟨hx, hb, hml, hown, hts⟩ (kX1_gateOfLaying l k (by omega)) (va_cwS 1 hts gX1_gateOfPlaces_X1_gateOfLaying rfl rfl rfl (by decide +kernel) ⟨Nat.le_of_ble_eq_true rfl, Nat.le_of_ble_eq_true rfl⟩) preEq rfl rfl hl.1 rfl (lv_room (Nat.le_of_ble_eq_true rfl)) dX1_gateOfPlaces_45 ⟨Nat.le_of_ble_eq_true rfl, Nat.le_of_ble_eq_true rfl⟩) rfl ?_
      have hgl := q_gl_lt k
      exact W.iret (v := nI (q_gl k)) hx hb hr (fun t ht hW => ⟨_, rfl, (q_c (by simp only [q_gp]; rw [if_neg (by omega), if_neg (by omega), if_neg (by omega)])), ht⟩) (fun _ h => absurd h List.not_mem_nil) dX1_gateOfPlaces_48
    · refine q_tIn (v := 7) (tgt := 44) (off := 43) hx hb c_2 dX1_gateOfPlaces_1 (by decide) (by decide) (by decide) (by decide) ?_
      refine lv_iload_n hx hb dX1_gateOfPlaces_44 rfl (lv_at hl 0 rfl) ?_
      refine qc_ri (r1 := nI (q_gl k)) (W.runS (As := [.int (nI k)]) (rest := []) ⟨hx, hb, hml, hown, hts⟩ (kX1_gateOfLaying l k (by omega)) (va_cwS 1 hts gX1_gateOfPlaces_X1_gateOfLaying rfl rfl rfl (by decide +kernel) ⟨Nat.le_of_ble_eq_true rfl, Nat.le_of_ble_eq_true rfl⟩) preEq rfl rfl hl.1 rfl (lv_room (Nat.le_of_ble_eq_true rfl)) dX1_gateOfPlaces_45 ⟨Nat.le_of_ble_eq_true rfl, Nat.le_of_ble_eq_true rfl⟩) rfl ?_
      have hgl := q_gl_lt k
      exact W.iret (v := nI (q_gl k)) hx hb hr (fun t ht hW => ⟨_, rfl, (q_c (by simp only [q_gp]; rw [if_neg (by omega), if_neg (by omega), if_neg (by omega)])), ht⟩) (fun _ h => absurd h List.not_mem_nil) dX1_gateOfPlaces_48
    · refine q_tOut (tgt := 44) hx hb (by omega) dX1_gateOfPlaces_1 c_2 (by decide) ?_
      refine lv_iload_n hx hb dX1_gateOfPlaces_44 rfl (lv_at hl 0 rfl) ?_
      refine qc_ri (r1 := nI (q_gl k)) (W.runS (As := [.int (nI k)]) (rest := []) ⟨hx, hb, hml, hown, hts⟩ (kX1_gateOfLaying l k (by omega)) (va_cwS 1 hts gX1_gateOfPlaces_X1_gateOfLaying rfl rfl rfl (by decide +kernel) ⟨Nat.le_of_ble_eq_true rfl, Nat.le_of_ble_eq_true rfl⟩) preEq rfl rfl hl.1 rfl (lv_room (Nat.le_of_ble_eq_true rfl)) dX1_gateOfPlaces_45 ⟨Nat.le_of_ble_eq_true rfl, Nat.le_of_ble_eq_true rfl⟩) rfl ?_
      have hgl := q_gl_lt k
      exact W.iret (v := nI (q_gl k)) hx hb hr (fun t ht hW => ⟨_, rfl, (q_c (by simp only [q_gp]; rw [if_neg (by omega), if_neg (by omega), if_neg (by omega)])), ht⟩) (fun _ h => absurd h List.not_mem_nil) dX1_gateOfPlaces_48
set_option maxHeartbeats 4000000 in
set_option maxRecDepth 100000 in
theorem kX1_narrowed (l : Launch) (k : Nat) (v : Int64) (hk : k < 12) : Met l yX1_narrowed wsX1_narrowed ({ frames := 0, cells := 0, slots := 0, locals := 0 }) (fun vv _ => vv = [.int (nI k), .long v].toArray) (vp_Sl (fun rr => rr = q_nr k v)) 0 0 (fun _ => False) := by
  refine Met.ofW (cc := cX1_narrowed) (maxL := 3) (ret := (some .long)) (by decide) rfl ?_
  intro p e s m args below meth c s₁ B hml hv
  have hv : args = [.int (nI k), .long v].toArray := hv
  subst hv
  have hx := B.exec
  have hb := B.bytes
  have hr := B.returns
  have hts := atoms_spec (ws := wsX1_narrowed) B.pre
  have hown : s.vm.findClass RX1 = some m.cls := findClass_of_methodNamed B.named
  have hlocks := B.notSynchronized
  have hl := lv_entry ([.int (nI k), .long v]) (n := 3) (Nat.le_of_ble_eq_true rfl)
  rw [lg_entry_eq]
  generalize (lg_sl ([.int (nI k), .long v]) ++ List.replicate (3 - (lg_sl ([.int (nI k), .long v])).length) Slot.unset).toArray = ls at hl ⊢
  have hl : lv_has ls 3 [(0, .int (nI k)), (1, .long v)] := hl
  refine lv_iload_n hx hb dX1_narrowed_0 rfl (lv_at hl 0 rfl) ?_
  have c_1 : k = 0 ∨ k = 1 ∨ (¬ k = 0 ∧ ¬ k = 1) := by omega
  rcases c_1 with c_1 | c_1 | c_1
  · refine q_lk (v := 0) (tgt := 28) (off := 27) hx hb c_1 dX1_narrowed_1 (by decide) (by decide) (by decide) ?_
    refine lv_lload_n hx hb dX1_narrowed_28 rfl (lv_at hl 1 rfl) ?_
    refine lv_l2i hx hb dX1_narrowed_29 rfl ?_
    refine lv_i2l hx hb dX1_narrowed_30 rfl ?_
    exact W.lret (v := Int32.toInt64 ((Int64.toInt32 v))) hx hb hr (fun t ht hW => ⟨_, rfl, (by simp [q_nr, c_1]), ht⟩) (fun _ h => absurd h List.not_mem_nil) dX1_narrowed_31
  · refine q_lk (v := 1) (tgt := 32) (off := 31) hx hb c_1 dX1_narrowed_1 (by decide) (by decide) (by decide) ?_
    refine lv_lload_n hx hb dX1_narrowed_32 rfl (lv_at hl 1 rfl) ?_
    refine lv_l2i hx hb dX1_narrowed_33 rfl ?_
    refine lv_i2b hx hb dX1_narrowed_34 rfl ?_
    refine lv_i2l hx hb dX1_narrowed_35 rfl ?_
    exact W.lret (v := Int32.toInt64 ((Int8.toInt32 (Int32.toInt8 ((Int64.toInt32 v)))))) hx hb hr (fun t ht hW => ⟨_, rfl, (by simp [q_nr, c_1]), ht⟩) (fun _ h => absurd h List.not_mem_nil) dX1_narrowed_36
  · obtain ⟨c_1_0, c_1_1⟩ := c_1
    refine q_lkd (tgt := 37) hx hb (by omega) dX1_narrowed_1 (by decide) (by simp [Op.lookupswitch.offset_cons, Op.lookupswitch.offset, show ¬ (0 : Int) = (k : Nat) by omega, show ¬ (1 : Int) = (k : Nat) by omega]) (by decide) ?_
    refine lv_lload_n hx hb dX1_narrowed_37 rfl (lv_at hl 1 rfl) ?_
    exact W.lret (v := v) hx hb hr (fun t ht hW => ⟨_, rfl, (by simp [q_nr, c_1_0, c_1_1]), ht⟩) (fun _ h => absurd h List.not_mem_nil) dX1_narrowed_38
set_option maxHeartbeats 4000000 in
set_option maxRecDepth 100000 in
theorem kX2_isIn (l : Launch) (a lo hi : Int32)  : Met l yX2_isIn wsX2_isIn ({ frames := 0, cells := 0, slots := 0, locals := 0 }) (fun vv _ => vv = [.int a, .int lo, .int hi].toArray) (vp_Si (fun rr => rr = q_b (decide (lo ≤ a ∧ a ≤ hi)))) 0 0 (fun _ => False) := by
  refine Met.ofW (cc := cX2_isIn) (maxL := 3) (ret := (some .boolean)) (by decide) rfl ?_
  intro p e s m args below meth c s₁ B hml hv
  have hv : args = [.int a, .int lo, .int hi].toArray := hv
  subst hv
  have hx := B.exec
  have hb := B.bytes
  have hr := B.returns
  have hts := atoms_spec (ws := wsX2_isIn) B.pre
  have hown : s.vm.findClass RX2 = some m.cls := findClass_of_methodNamed B.named
  have hlocks := B.notSynchronized
  have hl := lv_entry ([.int a, .int lo, .int hi]) (n := 3) (Nat.le_of_ble_eq_true rfl)
  rw [lg_entry_eq]
  generalize (lg_sl ([.int a, .int lo, .int hi]) ++ List.replicate (3 - (lg_sl ([.int a, .int lo, .int hi])).length) Slot.unset).toArray = ls at hl ⊢
  have hl : lv_has ls 3 [(0, .int a), (1, .int lo), (2, .int hi)] := hl
  refine lv_iload_n hx hb dX2_isIn_0 rfl (lv_at hl 0 rfl) ?_
  refine lv_iload_n hx hb dX2_isIn_1 rfl (lv_at hl 1 rfl) ?_
  refine lv_icmp_lt (tgt := 14) hx hb dX2_isIn_2 (by decide) (fun c_1 => ?_) (fun c_1 => ?_)
  · refine lv_iconst (v := nI 0) hx hb dX2_isIn_14 (by decide) ?_
    exact W.zret (v := nI 0) hx hb hr rfl (fun t ht hW => ⟨_, rfl, (q_bf (fun h => absurd c_1 (Int32.not_lt.mpr h.1))), ht⟩) (fun _ h => absurd h List.not_mem_nil) dX2_isIn_15
  · refine lv_iload_n hx hb dX2_isIn_5 rfl (lv_at hl 0 rfl) ?_
    refine lv_iload_n hx hb dX2_isIn_6 rfl (lv_at hl 2 rfl) ?_
    refine lv_icmp_gt (tgt := 14) hx hb dX2_isIn_7 (by decide) (fun c_2 => ?_) (fun c_2 => ?_)
    · refine lv_iconst (v := nI 0) hx hb dX2_isIn_14 (by decide) ?_
      exact W.zret (v := nI 0) hx hb hr rfl (fun t ht hW => ⟨_, rfl, (q_bf (fun h => absurd c_2 (Int32.not_lt.mpr h.2))), ht⟩) (fun _ h => absurd h List.not_mem_nil) dX2_isIn_15
    · refine lv_iconst (v := nI 1) hx hb dX2_isIn_10 (by decide) ?_
      refine lv_goto (tgt := 15) hx hb dX2_isIn_11 (by decide) ?_
      exact W.zret (v := nI 1) hx hb hr rfl (fun t ht hW => ⟨_, rfl, (q_bt ⟨Int32.not_lt.mp c_1, Int32.not_lt.mp c_2⟩), ht⟩) (fun _ h => absurd h List.not_mem_nil) dX2_isIn_15
theorem q_inN {a lo hi : Nat} (h1 : a < 2 ^ 31) (h2 : lo < 2 ^ 31) (h3 : hi < 2 ^ 31) : decide (nI lo ≤ nI a ∧ nI a ≤ nI hi) = decide (lo ≤ a ∧ a ≤ hi) := by
  simp only [nI_leI h2 h1, nI_leI h1 h3]
set_option maxHeartbeats 4000000 in
set_option maxRecDepth 100000 in
theorem kX2_isSlot (l : Launch) (a : Int32)  : Met l yX2_isSlot wsX2_isSlot ({ frames := 1, cells := 0, slots := 0, locals := 22 }) (fun vv _ => vv = [.int a].toArray) (vp_Si (fun rr => rr = q_b (q_ix a 12).isSome)) 0 0 (fun _ => False) := by
  refine Met.ofW (cc := cX2_isSlot) (maxL := 1) (ret := (some .boolean)) (by decide) rfl ?_
  intro p e s m args below meth c s₁ B hml hv
  have hv : args = [.int a].toArray := hv
  subst hv
  have hx := B.exec
  have hb := B.bytes
  have hr := B.returns
  have hts := atoms_spec (ws := wsX2_isSlot) B.pre
  have hown : s.vm.findClass RX2 = some m.cls := findClass_of_methodNamed B.named
  have hlocks := B.notSynchronized
  have hl := lv_entry ([.int a]) (n := 1) (Nat.le_of_ble_eq_true rfl)
  rw [lg_entry_eq]
  generalize (lg_sl ([.int a]) ++ List.replicate (1 - (lg_sl ([.int a])).length) Slot.unset).toArray = ls at hl ⊢
  have hl : lv_has ls 1 [(0, .int a)] := hl
  refine lv_iload_n hx hb dX2_isSlot_0 rfl (lv_at hl 0 rfl) ?_
  refine lv_iconst (v := nI 0) hx hb dX2_isSlot_1 (by decide) ?_
  refine lv_bipush (v := nI 11) hx hb dX2_isSlot_2 (by decide) ?_
  refine qc_ri (r1 := q_b ((q_ix a 12).isSome)) (W.runS (As := [.int a, .int (nI 0), .int (nI 11)]) (rest := []) ⟨hx, hb, hml, hown, hts⟩ (kX2_isIn l a (nI 0) (nI 11)) (va_cwS 3 hts gX2_isSlot_X2_isIn rfl rfl rfl (by decide +kernel) ⟨Nat.le_of_ble_eq_true rfl, Nat.le_of_ble_eq_true rfl⟩) preEq rfl rfl hl.1 rfl (lv_room (Nat.le_of_ble_eq_true rfl)) dX2_isSlot_4 ⟨Nat.le_of_ble_eq_true rfl, Nat.le_of_ble_eq_true rfl⟩) (congrArg q_b (q_in0 _ (by decide))) ?_
  exact W.zret (v := q_b ((q_ix a 12).isSome)) hx hb hr (q_nbb _) (fun t ht hW => ⟨_, rfl, rfl, ht⟩) (fun _ h => absurd h List.not_mem_nil) dX2_isSlot_7
set_option maxHeartbeats 4000000 in
set_option maxRecDepth 100000 in
theorem kX2_holdsThings (l : Launch) (k : Nat) (hk : k < 12) : Met l yX2_holdsThings wsX2_holdsThings ({ frames := 1, cells := 0, slots := 0, locals := 22 }) (fun vv _ => vv = [.int (nI k)].toArray) (vp_Si (fun rr => rr = q_b (decide (3 ≤ k ∧ k < 9)))) 0 0 (fun _ => False) := by
  refine Met.ofW (cc := cX2_holdsThings) (maxL := 1) (ret := (some .boolean)) (by decide) rfl ?_
  intro p e s m args below meth c s₁ B hml hv
  have hv : args = [.int (nI k)].toArray := hv
  subst hv
  have hx := B.exec
  have hb := B.bytes
  have hr := B.returns
  have hts := atoms_spec (ws := wsX2_holdsThings) B.pre
  have hown : s.vm.findClass RX2 = some m.cls := findClass_of_methodNamed B.named
  have hlocks := B.notSynchronized
  have hl := lv_entry ([.int (nI k)]) (n := 1) (Nat.le_of_ble_eq_true rfl)
  rw [lg_entry_eq]
  generalize (lg_sl ([.int (nI k)]) ++ List.replicate (1 - (lg_sl ([.int (nI k)])).length) Slot.unset).toArray = ls at hl ⊢
  have hl : lv_has ls 1 [(0, .int (nI k))] := hl
  refine lv_iload_n hx hb dX2_holdsThings_0 rfl (lv_at hl 0 rfl) ?_
  refine lv_iconst (v := nI 3) hx hb dX2_holdsThings_1 (by decide) ?_
  refine lv_bipush (v := nI 8) hx hb dX2_holdsThings_2 (by decide) ?_
  refine qc_ri (r1 := q_b (decide (3 ≤ k ∧ k ≤ 8))) (W.runS (As := [.int (nI k), .int (nI 3), .int (nI 8)]) (rest := []) ⟨hx, hb, hml, hown, hts⟩ (kX2_isIn l (nI k) (nI 3) (nI 8)) (va_cwS 3 hts gX2_holdsThings_X2_isIn rfl rfl rfl (by decide +kernel) ⟨Nat.le_of_ble_eq_true rfl, Nat.le_of_ble_eq_true rfl⟩) preEq rfl rfl hl.1 rfl (lv_room (Nat.le_of_ble_eq_true rfl)) dX2_holdsThings_4 ⟨Nat.le_of_ble_eq_true rfl, Nat.le_of_ble_eq_true rfl⟩) (by rw [q_inN (by omega) (by omega) (by omega)]) ?_
  exact W.zret (v := q_b (decide (3 ≤ k ∧ k ≤ 8))) hx hb hr (q_nbb _) (fun t ht hW => ⟨_, rfl, (by congr 2; exact propext ⟨fun h => ⟨h.1, by omega⟩, fun h => ⟨h.1, by omega⟩⟩), ht⟩) (fun _ h => absurd h List.not_mem_nil) dX2_holdsThings_7
set_option maxHeartbeats 4000000 in
set_option maxRecDepth 100000 in
theorem kX2_goes (l : Launch) (k g : Nat) (hk : k < 12) (hg : g < 13) : Met l yX2_goes wsX2_goes ({ frames := 0, cells := 0, slots := 0, locals := 0 }) (fun vv _ => vv = [.int (nI k), .int (nI g)].toArray) (vp_Si (fun rr => rr = q_b (q_go k g))) 0 0 (fun _ => False) := by
  refine Met.ofW (cc := cX2_goes) (maxL := 2) (ret := (some .boolean)) (by decide) rfl ?_
  intro p e s m args below meth c s₁ B hml hv
  have hv : args = [.int (nI k), .int (nI g)].toArray := hv
  subst hv
  have hx := B.exec
  have hb := B.bytes
  have hr := B.returns
  have hts := atoms_spec (ws := wsX2_goes) B.pre
  have hown : s.vm.findClass RX2 = some m.cls := findClass_of_methodNamed B.named
  have hlocks := B.notSynchronized
  have hl := lv_entry ([.int (nI k), .int (nI g)]) (n := 2) (Nat.le_of_ble_eq_true rfl)
  rw [lg_entry_eq]
  generalize (lg_sl ([.int (nI k), .int (nI g)]) ++ List.replicate (2 - (lg_sl ([.int (nI k), .int (nI g)])).length) Slot.unset).toArray = ls at hl ⊢
  have hl : lv_has ls 2 [(0, .int (nI k)), (1, .int (nI g))] := hl
  refine lv_iload_n hx hb dX2_goes_0 rfl (lv_at hl 1 rfl) ?_
  refine lv_iload_n hx hb dX2_goes_1 rfl (lv_at hl 0 rfl) ?_
  refine ln_cmp_ne (tgt := 7) hx hb (by omega) (by omega) dX2_goes_2 (by decide) (fun c_1 => ?_) (fun c_1 => ?_)
  · refine lv_iload_n hx hb dX2_goes_7 rfl (lv_at hl 0 rfl) ?_
    have c_2 : k = 4 ∨ k = 5 ∨ k = 8 ∨ k = 9 ∨ k = 10 ∨ k = 11 ∨ (¬ k = 4 ∧ ¬ k = 5 ∧ ¬ k = 8 ∧ ¬ k = 9 ∧ ¬ k = 10 ∧ ¬ k = 11) := by omega
    rcases c_2 with c_2 | c_2 | c_2 | c_2 | c_2 | c_2 | c_2
    · refine q_tIn (v := 4) (tgt := 103) (off := 95) hx hb c_2 dX2_goes_8 (by decide) (by decide) (by decide) (by decide) ?_
      refine lv_iload_n hx hb dX2_goes_103 rfl (lv_at hl 1 rfl) ?_
      refine lv_bipush (v := nI 6) hx hb dX2_goes_104 (by decide) ?_
      refine ln_cmp_ne (tgt := 113) hx hb (by omega) (by omega) dX2_goes_106 (by decide) (fun c_3 => ?_) (fun c_3 => ?_)
      · refine lv_iconst (v := nI 0) hx hb dX2_goes_113 (by decide) ?_
        exact W.zret (v := nI 0) hx hb hr rfl (fun t ht hW => ⟨_, rfl, (q_b0 (by unfold q_go; simp only [decide_eq_false_iff_not]; omega)), ht⟩) (fun _ h => absurd h List.not_mem_nil) dX2_goes_114
      · refine lv_iconst (v := nI 1) hx hb dX2_goes_109 (by decide) ?_
        refine lv_goto (tgt := 114) hx hb dX2_goes_110 (by decide) ?_
        exact W.zret (v := nI 1) hx hb hr rfl (fun t ht hW => ⟨_, rfl, (q_b1 (by unfold q_go; simp only [decide_eq_true_eq]; omega)), ht⟩) (fun _ h => absurd h List.not_mem_nil) dX2_goes_114
    · refine q_tIn (v := 5) (tgt := 86) (off := 78) hx hb c_2 dX2_goes_8 (by decide) (by decide) (by decide) (by decide) ?_
      refine lv_iload_n hx hb dX2_goes_86 rfl (lv_at hl 1 rfl) ?_
      refine lv_iconst (v := nI 4) hx hb dX2_goes_87 (by decide) ?_
      refine ln_cmp_eq (tgt := 97) hx hb (by omega) (by omega) dX2_goes_88 (by decide) (fun c_4 => ?_) (fun c_4 => ?_)
      · refine lv_iconst (v := nI 1) hx hb dX2_goes_97 (by decide) ?_
        refine lv_goto (tgt := 102) hx hb dX2_goes_98 (by decide) ?_
        exact W.zret (v := nI 1) hx hb hr rfl (fun t ht hW => ⟨_, rfl, (q_b1 (by unfold q_go; simp only [decide_eq_true_eq]; omega)), ht⟩) (fun _ h => absurd h List.not_mem_nil) dX2_goes_102
      · refine lv_iload_n hx hb dX2_goes_91 rfl (lv_at hl 1 rfl) ?_
        refine lv_bipush (v := nI 6) hx hb dX2_goes_92 (by decide) ?_
        refine ln_cmp_ne (tgt := 101) hx hb (by omega) (by omega) dX2_goes_94 (by decide) (fun c_5 => ?_) (fun c_5 => ?_)
        · refine lv_iconst (v := nI 0) hx hb dX2_goes_101 (by decide) ?_
          exact W.zret (v := nI 0) hx hb hr rfl (fun t ht hW => ⟨_, rfl, (q_b0 (by unfold q_go; simp only [decide_eq_false_iff_not]; omega)), ht⟩) (fun _ h => absurd h List.not_mem_nil) dX2_goes_102
        · refine lv_iconst (v := nI 1) hx hb dX2_goes_97 (by decide) ?_
          refine lv_goto (tgt := 102) hx hb dX2_goes_98 (by decide) ?_
          exact W.zret (v := nI 1) hx hb hr rfl (fun t ht hW => ⟨_, rfl, (q_b1 (by unfold q_go; simp only [decide_eq_true_eq]; omega)), ht⟩) (fun _ h => absurd h List.not_mem_nil) dX2_goes_102
    · refine q_tIn (v := 8) (tgt := 115) (off := 107) hx hb c_2 dX2_goes_8 (by decide) (by decide) (by decide) (by decide) ?_
      refine lv_iload_n hx hb dX2_goes_115 rfl (lv_at hl 1 rfl) ?_
      refine lv_bipush (v := nI 7) hx hb dX2_goes_116 (by decide) ?_
      refine ln_cmp_ne (tgt := 125) hx hb (by omega) (by omega) dX2_goes_118 (by decide) (fun c_6 => ?_) (fun c_6 => ?_)
      · refine lv_iconst (v := nI 0) hx hb dX2_goes_125 (by decide) ?_
        exact W.zret (v := nI 0) hx hb hr rfl (fun t ht hW => ⟨_, rfl, (q_b0 (by unfold q_go; simp only [decide_eq_false_iff_not]; omega)), ht⟩) (fun _ h => absurd h List.not_mem_nil) dX2_goes_126
      · refine lv_iconst (v := nI 1) hx hb dX2_goes_121 (by decide) ?_
        refine lv_goto (tgt := 126) hx hb dX2_goes_122 (by decide) ?_
        exact W.zret (v := nI 1) hx hb hr rfl (fun t ht hW => ⟨_, rfl, (q_b1 (by unfold q_go; simp only [decide_eq_true_eq]; omega)), ht⟩) (fun _ h => absurd h List.not_mem_nil) dX2_goes_126
    · refine q_tIn (v := 9) (tgt := 74) (off := 66) hx hb c_2 dX2_goes_8 (by decide) (by decide) (by decide) (by decide) ?_
      refine lv_iload_n hx hb dX2_goes_74 rfl (lv_at hl 1 rfl) ?_
      refine lv_bipush (v := nI 12) hx hb dX2_goes_75 (by decide) ?_
      refine ln_cmp_ne (tgt := 84) hx hb (by omega) (by omega) dX2_goes_77 (by decide) (fun c_7 => ?_) (fun c_7 => ?_)
      · refine lv_iconst (v := nI 0) hx hb dX2_goes_84 (by decide) ?_
        exact W.zret (v := nI 0) hx hb hr rfl (fun t ht hW => ⟨_, rfl, (q_b0 (by unfold q_go; simp only [decide_eq_false_iff_not]; omega)), ht⟩) (fun _ h => absurd h List.not_mem_nil) dX2_goes_85
      · refine lv_iconst (v := nI 1) hx hb dX2_goes_80 (by decide) ?_
        refine lv_goto (tgt := 85) hx hb dX2_goes_81 (by decide) ?_
        exact W.zret (v := nI 1) hx hb hr rfl (fun t ht hW => ⟨_, rfl, (q_b1 (by unfold q_go; simp only [decide_eq_true_eq]; omega)), ht⟩) (fun _ h => absurd h List.not_mem_nil) dX2_goes_85
    · refine q_tIn (v := 10) (tgt := 56) (off := 48) hx hb c_2 dX2_goes_8 (by decide) (by decide) (by decide) (by decide) ?_
      refine lv_iload_n hx hb dX2_goes_56 rfl (lv_at hl 1 rfl) ?_
      refine lv_bipush (v := nI 9) hx hb dX2_goes_57 (by decide) ?_
      refine ln_cmp_eq (tgt := 68) hx hb (by omega) (by omega) dX2_goes_59 (by decide) (fun c_8 => ?_) (fun c_8 => ?_)
      · refine lv_iconst (v := nI 1) hx hb dX2_goes_68 (by decide) ?_
        refine lv_goto (tgt := 73) hx hb dX2_goes_69 (by decide) ?_
        exact W.zret (v := nI 1) hx hb hr rfl (fun t ht hW => ⟨_, rfl, (q_b1 (by unfold q_go; simp only [decide_eq_true_eq]; omega)), ht⟩) (fun _ h => absurd h List.not_mem_nil) dX2_goes_73
      · refine lv_iload_n hx hb dX2_goes_62 rfl (lv_at hl 1 rfl) ?_
        refine lv_bipush (v := nI 12) hx hb dX2_goes_63 (by decide) ?_
        refine ln_cmp_ne (tgt := 72) hx hb (by omega) (by omega) dX2_goes_65 (by decide) (fun c_9 => ?_) (fun c_9 => ?_)
        · refine lv_iconst (v := nI 0) hx hb dX2_goes_72 (by decide) ?_
          exact W.zret (v := nI 0) hx hb hr rfl (fun t ht hW => ⟨_, rfl, (q_b0 (by unfold q_go; simp only [decide_eq_false_iff_not]; omega)), ht⟩) (fun _ h => absurd h List.not_mem_nil) dX2_goes_73
        · refine lv_iconst (v := nI 1) hx hb dX2_goes_68 (by decide) ?_
          refine lv_goto (tgt := 73) hx hb dX2_goes_69 (by decide) ?_
          exact W.zret (v := nI 1) hx hb hr rfl (fun t ht hW => ⟨_, rfl, (q_b1 (by unfold q_go; simp only [decide_eq_true_eq]; omega)), ht⟩) (fun _ h => absurd h List.not_mem_nil) dX2_goes_73
    · refine q_tIn (v := 11) (tgt := 74) (off := 66) hx hb c_2 dX2_goes_8 (by decide) (by decide) (by decide) (by decide) ?_
      refine lv_iload_n hx hb dX2_goes_74 rfl (lv_at hl 1 rfl) ?_
      refine lv_bipush (v := nI 12) hx hb dX2_goes_75 (by decide) ?_
      refine ln_cmp_ne (tgt := 84) hx hb (by omega) (by omega) dX2_goes_77 (by decide) (fun c_10 => ?_) (fun c_10 => ?_)
      · refine lv_iconst (v := nI 0) hx hb dX2_goes_84 (by decide) ?_
        exact W.zret (v := nI 0) hx hb hr rfl (fun t ht hW => ⟨_, rfl, (q_b0 (by unfold q_go; simp only [decide_eq_false_iff_not]; omega)), ht⟩) (fun _ h => absurd h List.not_mem_nil) dX2_goes_85
      · refine lv_iconst (v := nI 1) hx hb dX2_goes_80 (by decide) ?_
        refine lv_goto (tgt := 85) hx hb dX2_goes_81 (by decide) ?_
        exact W.zret (v := nI 1) hx hb hr rfl (fun t ht hW => ⟨_, rfl, (q_b1 (by unfold q_go; simp only [decide_eq_true_eq]; omega)), ht⟩) (fun _ h => absurd h List.not_mem_nil) dX2_goes_85
    · obtain ⟨c_2_4, c_2_5, c_2_8, c_2_9, c_2_10, c_2_11⟩ := c_2
      have c_11 : k = 6 ∨ k = 7 ∨ ((k : Int) < 4 ∨ 11 < (k : Int)) := by omega
      rcases c_11 with c_11 | c_11 | c_11
      · refine q_tIn (v := 6) (tgt := 127) (off := 119) hx hb c_11 dX2_goes_8 (by decide) (by decide) (by decide) (by decide) ?_
        refine lv_iconst (v := nI 0) hx hb dX2_goes_127 (by decide) ?_
        exact W.zret (v := nI 0) hx hb hr rfl (fun t ht hW => ⟨_, rfl, (q_b0 (by unfold q_go; simp only [decide_eq_false_iff_not]; omega)), ht⟩) (fun _ h => absurd h List.not_mem_nil) dX2_goes_128
      · refine q_tIn (v := 7) (tgt := 127) (off := 119) hx hb c_11 dX2_goes_8 (by decide) (by decide) (by decide) (by decide) ?_
        refine lv_iconst (v := nI 0) hx hb dX2_goes_127 (by decide) ?_
        exact W.zret (v := nI 0) hx hb hr rfl (fun t ht hW => ⟨_, rfl, (q_b0 (by unfold q_go; simp only [decide_eq_false_iff_not]; omega)), ht⟩) (fun _ h => absurd h List.not_mem_nil) dX2_goes_128
      · refine q_tOut (tgt := 127) hx hb (by omega) dX2_goes_8 c_11 (by decide) ?_
        refine lv_iconst (v := nI 0) hx hb dX2_goes_127 (by decide) ?_
        exact W.zret (v := nI 0) hx hb hr rfl (fun t ht hW => ⟨_, rfl, (q_b0 (by unfold q_go; simp only [decide_eq_false_iff_not]; omega)), ht⟩) (fun _ h => absurd h List.not_mem_nil) dX2_goes_128
  · refine lv_iconst (v := nI 1) hx hb dX2_goes_5 (by decide) ?_
    exact W.zret (v := nI 1) hx hb hr rfl (fun t ht hW => ⟨_, rfl, (q_b1 (by unfold q_go; simp only [decide_eq_true_eq]; omega)), ht⟩) (fun _ h => absurd h List.not_mem_nil) dX2_goes_6
set_option maxHeartbeats 4000000 in
set_option maxRecDepth 100000 in
theorem kX2_canHold (l : Launch) (r k : Nat) (hr2 : r < 12) (hk : k < 12) : Met l yX2_canHold wsX2_canHold ({ frames := 0, cells := 0, slots := 0, locals := 0 }) (fun vv _ => vv = [.int (nI r), .int (nI k)].toArray) (vp_Si (fun rr => rr = q_b (q_ch r k))) 0 0 (fun _ => False) := by
  refine Met.ofW (cc := cX2_canHold) (maxL := 2) (ret := (some .boolean)) (by decide) rfl ?_
  intro p e s m args below meth c s₁ B hml hv
  have hv : args = [.int (nI r), .int (nI k)].toArray := hv
  subst hv
  have hx := B.exec
  have hb := B.bytes
  have hr := B.returns
  have hts := atoms_spec (ws := wsX2_canHold) B.pre
  have hown : s.vm.findClass RX2 = some m.cls := findClass_of_methodNamed B.named
  have hlocks := B.notSynchronized
  have hl := lv_entry ([.int (nI r), .int (nI k)]) (n := 2) (Nat.le_of_ble_eq_true rfl)
  rw [lg_entry_eq]
  generalize (lg_sl ([.int (nI r), .int (nI k)]) ++ List.replicate (2 - (lg_sl ([.int (nI r), .int (nI k)])).length) Slot.unset).toArray = ls at hl ⊢
  have hl : lv_has ls 2 [(0, .int (nI r)), (1, .int (nI k))] := hl
  refine lv_iload_n hx hb dX2_canHold_0 rfl (lv_at hl 0 rfl) ?_
  have c_1 : r = 4 ∨ r = 5 ∨ r = 8 ∨ (¬ r = 4 ∧ ¬ r = 5 ∧ ¬ r = 8) := by omega
  rcases c_1 with c_1 | c_1 | c_1 | c_1
  · refine q_tIn (v := 4) (tgt := 36) (off := 35) hx hb c_1 dX2_canHold_1 (by decide) (by decide) (by decide) (by decide) ?_
    refine lv_iload_n hx hb dX2_canHold_36 rfl (lv_at hl 1 rfl) ?_
    refine lv_bipush (v := nI 11) hx hb dX2_canHold_37 (by decide) ?_
    refine ln_cmp_eq (tgt := 46) hx hb (by omega) (by omega) dX2_canHold_39 (by decide) (fun c_2 => ?_) (fun c_2 => ?_)
    · refine lv_iconst (v := nI 0) hx hb dX2_canHold_46 (by decide) ?_
      exact W.zret (v := nI 0) hx hb hr rfl (fun t ht hW => ⟨_, rfl, (q_b0 (by simp [q_ch, c_1, c_2])), ht⟩) (fun _ h => absurd h List.not_mem_nil) dX2_canHold_47
    · refine lv_iconst (v := nI 1) hx hb dX2_canHold_42 (by decide) ?_
      refine lv_goto (tgt := 47) hx hb dX2_canHold_43 (by decide) ?_
      exact W.zret (v := nI 1) hx hb hr rfl (fun t ht hW => ⟨_, rfl, (q_b1 (by simp [q_ch, c_1, c_2])), ht⟩) (fun _ h => absurd h List.not_mem_nil) dX2_canHold_47
  · refine q_tIn (v := 5) (tgt := 48) (off := 47) hx hb c_1 dX2_canHold_1 (by decide) (by decide) (by decide) (by decide) ?_
    refine lv_iload_n hx hb dX2_canHold_48 rfl (lv_at hl 1 rfl) ?_
    refine lv_bipush (v := nI 10) hx hb dX2_canHold_49 (by decide) ?_
    refine ln_cmp_ne (tgt := 58) hx hb (by omega) (by omega) dX2_canHold_51 (by decide) (fun c_3 => ?_) (fun c_3 => ?_)
    · refine lv_iconst (v := nI 0) hx hb dX2_canHold_58 (by decide) ?_
      exact W.zret (v := nI 0) hx hb hr rfl (fun t ht hW => ⟨_, rfl, (q_b0 (by simp [q_ch, c_1, c_3])), ht⟩) (fun _ h => absurd h List.not_mem_nil) dX2_canHold_59
    · refine lv_iconst (v := nI 1) hx hb dX2_canHold_54 (by decide) ?_
      refine lv_goto (tgt := 59) hx hb dX2_canHold_55 (by decide) ?_
      exact W.zret (v := nI 1) hx hb hr rfl (fun t ht hW => ⟨_, rfl, (q_b1 (by simp [q_ch, c_1, c_3])), ht⟩) (fun _ h => absurd h List.not_mem_nil) dX2_canHold_59
  · refine q_tIn (v := 8) (tgt := 60) (off := 59) hx hb c_1 dX2_canHold_1 (by decide) (by decide) (by decide) (by decide) ?_
    refine lv_iload_n hx hb dX2_canHold_60 rfl (lv_at hl 1 rfl) ?_
    refine lv_iconst (v := nI 5) hx hb dX2_canHold_61 (by decide) ?_
    refine ln_cmp_ne (tgt := 69) hx hb (by omega) (by omega) dX2_canHold_62 (by decide) (fun c_4 => ?_) (fun c_4 => ?_)
    · refine lv_iconst (v := nI 0) hx hb dX2_canHold_69 (by decide) ?_
      exact W.zret (v := nI 0) hx hb hr rfl (fun t ht hW => ⟨_, rfl, (q_b0 (by simp [q_ch, c_1, c_4])), ht⟩) (fun _ h => absurd h List.not_mem_nil) dX2_canHold_70
    · refine lv_iconst (v := nI 1) hx hb dX2_canHold_65 (by decide) ?_
      refine lv_goto (tgt := 70) hx hb dX2_canHold_66 (by decide) ?_
      exact W.zret (v := nI 1) hx hb hr rfl (fun t ht hW => ⟨_, rfl, (q_b1 (by simp [q_ch, c_1, c_4])), ht⟩) (fun _ h => absurd h List.not_mem_nil) dX2_canHold_70
  · obtain ⟨c_1_4, c_1_5, c_1_8⟩ := c_1
    have c_5 : r = 6 ∨ r = 7 ∨ ((r : Int) < 4 ∨ 8 < (r : Int)) := by omega
    rcases c_5 with c_5 | c_5 | c_5
    · refine q_tIn (v := 6) (tgt := 71) (off := 70) hx hb c_5 dX2_canHold_1 (by decide) (by decide) (by decide) (by decide) ?_
      refine lv_iconst (v := nI 1) hx hb dX2_canHold_71 (by decide) ?_
      exact W.zret (v := nI 1) hx hb hr rfl (fun t ht hW => ⟨_, rfl, (q_b1 (by simp [q_ch, c_1_4, c_1_5, c_1_8, c_5])), ht⟩) (fun _ h => absurd h List.not_mem_nil) dX2_canHold_72
    · refine q_tIn (v := 7) (tgt := 71) (off := 70) hx hb c_5 dX2_canHold_1 (by decide) (by decide) (by decide) (by decide) ?_
      refine lv_iconst (v := nI 1) hx hb dX2_canHold_71 (by decide) ?_
      exact W.zret (v := nI 1) hx hb hr rfl (fun t ht hW => ⟨_, rfl, (q_b1 (by simp [q_ch, c_1_4, c_1_5, c_1_8, c_5])), ht⟩) (fun _ h => absurd h List.not_mem_nil) dX2_canHold_72
    · refine q_tOut (tgt := 71) hx hb (by omega) dX2_canHold_1 c_5 (by decide) ?_
      refine lv_iconst (v := nI 1) hx hb dX2_canHold_71 (by decide) ?_
      exact W.zret (v := nI 1) hx hb hr rfl (fun t ht hW => ⟨_, rfl, (q_b1 (by simp [q_ch, c_1_4, c_1_5, c_1_8])), ht⟩) (fun _ h => absurd h List.not_mem_nil) dX2_canHold_72
end
section
/-! ===== the class: methods that only read (written by program) ===== -/
set_option maxRecDepth 20000 in
theorem nX1_numberOf_0 : ∀ w ∈ u_ws RX0 TX0 6, w ∈ wsX1_numberOf := by decide +kernel
set_option maxHeartbeats 4000000 in
set_option maxRecDepth 100000 in
theorem kX1_numberOf_N (l : Launch) (E : q_E) (x T0 : Nat) (n : Nat) (kd sz : Nat → Nat) (sh : Nat → Bool) (nu : Nat → Nat → Int64) (pa : Nat → Nat → Option Nat) (sl : Nat → Option Nat) (ft tn ts tg : Int32) (hI : q_I (n, kd, sz, sh, nu, pa, sl, ft, tn, ts, tg))   : Met l yX1_numberOf wsX1_numberOf ({ frames := 0, cells := 0, slots := 0, locals := 0 }) (q_P E (q_X E x T0 (n, kd, sz, sh, nu, pa, sl, ft, tn, ts, tg)) [.null]) (vp_Si (fun rr => rr = (-1))) 0 0 (fun _ => False) := by
  refine Met.ofW (cc := cX1_numberOf) (maxL := 1) (ret := (some .int)) (by decide) rfl ?_
  intro p e s m args below meth c s₁ B hml hv
  obtain ⟨rfl, hK, hX⟩ := hv
  have hx := B.exec
  have hb := B.bytes
  have hr := B.returns
  have hts := atoms_spec (ws := wsX1_numberOf) B.pre
  have hown : s.vm.findClass RX1 = some m.cls := findClass_of_methodNamed B.named
  have hlocks := B.notSynchronized
  have hl := lv_entry ([.null]) (n := 1) (Nat.le_of_ble_eq_true rfl)
  rw [lg_entry_eq]
  generalize (lg_sl ([.null]) ++ List.replicate (1 - (lg_sl ([.null])).length) Slot.unset).toArray = ls at hl ⊢
  have hl : lv_has ls 1 [(0, .null)] := hl
  refine lv_aload_nN hx hb dX1_numberOf_0 rfl (lv_at hl 0 rfl) ?_
  refine lv_ifnonnullN hx hb dX1_numberOf_1 ?_
  refine lv_iconst (v := (-1)) hx hb dX1_numberOf_4 (by decide) ?_
  refine lv_goto (tgt := 12) hx hb dX1_numberOf_5 (by decide) ?_
  exact W.iret (v := ((-1))) hx hb hr (fun t ht hW => ⟨_, rfl, rfl, ht⟩) (fun _ h => absurd h List.not_mem_nil) dX1_numberOf_12
set_option maxHeartbeats 4000000 in
set_option maxRecDepth 100000 in
theorem kX1_numberOf_S (l : Launch) (E : q_E) (x T0 : Nat) (n : Nat) (kd sz : Nat → Nat) (sh : Nat → Bool) (nu : Nat → Nat → Int64) (pa : Nat → Nat → Option Nat) (sl : Nat → Option Nat) (ft tn ts tg : Int32) (hI : q_I (n, kd, sz, sh, nu, pa, sl, ft, tn, ts, tg)) (k : Nat) (hk : k < n)  : Met l yX1_numberOf wsX1_numberOf ({ frames := 0, cells := 0, slots := 0, locals := 0 }) (q_P E (q_X E x T0 (n, kd, sz, sh, nu, pa, sl, ft, tn, ts, tg)) [.ref (T0 + 3 * k)]) (vp_Si (fun rr => rr = nI k)) 0 0 (fun _ => False) := by
  refine Met.ofW (cc := cX1_numberOf) (maxL := 1) (ret := (some .int)) (by decide) rfl ?_
  intro p e s m args below meth c s₁ B hml hv
  obtain ⟨rfl, hK, hX⟩ := hv
  have hx := B.exec
  have hb := B.bytes
  have hr := B.returns
  have hts := atoms_spec (ws := wsX1_numberOf) B.pre
  have hown : s.vm.findClass RX1 = some m.cls := findClass_of_methodNamed B.named
  have hlocks := B.notSynchronized
  have hl := lv_entry ([.ref (T0 + 3 * k)]) (n := 1) (Nat.le_of_ble_eq_true rfl)
  rw [lg_entry_eq]
  generalize (lg_sl ([.ref (T0 + 3 * k)]) ++ List.replicate (1 - (lg_sl ([.ref (T0 + 3 * k)])).length) Slot.unset).toArray = ls at hl ⊢
  have hl : lv_has ls 1 [(0, .ref (T0 + 3 * k))] := hl
  obtain ⟨ak, bk, dk, wk⟩ := hI.2.1 k hk
  have n60 := hI.1
  try dsimp only at ak bk dk wk n60
  refine lv_aload_n hx hb dX1_numberOf_0 rfl (lv_at hl 0 rfl) ?_
  refine lv_ifnonnull (tgt := 8) hx hb dX1_numberOf_1 (by decide) ?_
  refine lv_aload_n hx hb dX1_numberOf_8 rfl (lv_at hl 0 rfl) ?_
  refine qw_get (v := .int (nI k)) (ci := 0) (C := RX0) (T := TX0) (N := 6) hx hb hts nX1_numberOf_0 hown hK (hX.2.2.1 k hk).1 rfl 0 (by decide) (hts (.fieldLink RX1 123 "DockGates$Thing" "number" "I") (by decide +kernel)) rfl rfl dX1_numberOf_9 ?_
  exact W.iret (v := nI k) hx hb hr (fun t ht hW => ⟨_, rfl, rfl, ht⟩) (fun _ h => absurd h List.not_mem_nil) dX1_numberOf_12
set_option maxRecDepth 20000 in
theorem nX1_letsThrough_0 : ∀ w ∈ u_ws RX0 TX0 6, w ∈ wsX1_letsThrough := by decide +kernel
set_option maxHeartbeats 4000000 in
set_option maxRecDepth 100000 in
theorem kX1_letsThrough_N (l : Launch) (E : q_E) (x T0 : Nat) (n : Nat) (kd sz : Nat → Nat) (sh : Nat → Bool) (nu : Nat → Nat → Int64) (pa : Nat → Nat → Option Nat) (sl : Nat → Option Nat) (ft tn ts tg : Int32) (hI : q_I (n, kd, sz, sh, nu, pa, sl, ft, tn, ts, tg)) (g : Nat)  : Met l yX1_letsThrough wsX1_letsThrough ({ frames := 0, cells := 0, slots := 0, locals := 0 }) (q_P E (q_X E x T0 (n, kd, sz, sh, nu, pa, sl, ft, tn, ts, tg)) [.int (nI g), .null]) (vp_Si (fun rr => rr = q_b false)) 0 0 (fun _ => False) := by
  refine Met.ofW (cc := cX1_letsThrough) (maxL := 3) (ret := (some .boolean)) (by decide) rfl ?_
  intro p e s m args below meth c s₁ B hml hv
  obtain ⟨rfl, hK, hX⟩ := hv
  have hx := B.exec
  have hb := B.bytes
  have hr := B.returns
  have hts := atoms_spec (ws := wsX1_letsThrough) B.pre
  have hown : s.vm.findClass RX1 = some m.cls := findClass_of_methodNamed B.named
  have hlocks := B.notSynchronized
  have hl := lv_entry ([.int (nI g), .null]) (n := 3) (Nat.le_of_ble_eq_true rfl)
  rw [lg_entry_eq]
  generalize (lg_sl ([.int (nI g), .null]) ++ List.replicate (3 - (lg_sl ([.int (nI g), .null])).length) Slot.unset).toArray = ls at hl ⊢
  have hl : lv_has ls 3 [(0, .int (nI g)), (1, .null)] := hl
  refine lv_aload_nN hx hb dX1_letsThrough_0 rfl (lv_at hl 1 rfl) ?_
  refine lv_ifnonnullN hx hb dX1_letsThrough_1 ?_
  refine lv_iconst (v := nI 0) hx hb dX1_letsThrough_4 (by decide) ?_
  exact W.zret (v := nI 0) hx hb hr rfl (fun t ht hW => ⟨_, rfl, rfl, ht⟩) (fun _ h => absurd h List.not_mem_nil) dX1_letsThrough_5
set_option maxHeartbeats 4000000 in
set_option maxRecDepth 100000 in
theorem kX1_letsThrough_S (l : Launch) (E : q_E) (x T0 : Nat) (n : Nat) (kd sz : Nat → Nat) (sh : Nat → Bool) (nu : Nat → Nat → Int64) (pa : Nat → Nat → Option Nat) (sl : Nat → Option Nat) (ft tn ts tg : Int32) (hI : q_I (n, kd, sz, sh, nu, pa, sl, ft, tn, ts, tg)) (g : Nat) (hg : g < 13) (k : Nat) (hk : k < n)  : Met l yX1_letsThrough wsX1_letsThrough ({ frames := 0, cells := 0, slots := 0, locals := 0 }) (q_P E (q_X E x T0 (n, kd, sz, sh, nu, pa, sl, ft, tn, ts, tg)) [.int (nI g), .ref (T0 + 3 * k)]) (vp_Si (fun rr => rr = q_b (q_go (kd k) g))) 0 0 (fun _ => False) := by
  refine Met.ofW (cc := cX1_letsThrough) (maxL := 3) (ret := (some .boolean)) (by decide) rfl ?_
  intro p e s m args below meth c s₁ B hml hv
  obtain ⟨rfl, hK, hX⟩ := hv
  have hx := B.exec
  have hb := B.bytes
  have hr := B.returns
  have hts := atoms_spec (ws := wsX1_letsThrough) B.pre
  have hown : s.vm.findClass RX1 = some m.cls := findClass_of_methodNamed B.named
  have hlocks := B.notSynchronized
  have hl := lv_entry ([.int (nI g), .ref (T0 + 3 * k)]) (n := 3) (Nat.le_of_ble_eq_true rfl)
  rw [lg_entry_eq]
  generalize (lg_sl ([.int (nI g), .ref (T0 + 3 * k)]) ++ List.replicate (3 - (lg_sl ([.int (nI g), .ref (T0 + 3 * k)])).length) Slot.unset).toArray = ls at hl ⊢
  have hl : lv_has ls 3 [(0, .int (nI g)), (1, .ref (T0 + 3 * k))] := hl
  obtain ⟨ak, bk, dk, wk⟩ := hI.2.1 k hk
  have n60 := hI.1
  try dsimp only at ak bk dk wk n60
  refine lv_aload_n hx hb dX1_letsThrough_0 rfl (lv_at hl 1 rfl) ?_
  refine lv_ifnonnull (tgt := 6) hx hb dX1_letsThrough_1 (by decide) ?_
  refine lv_aload_n hx hb dX1_letsThrough_6 rfl (lv_at hl 1 rfl) ?_
  refine qw_get (v := .int (nI (kd k))) (ci := 0) (C := RX0) (T := TX0) (N := 6) hx hb hts nX1_letsThrough_0 hown hK (hX.2.2.1 k hk).1 rfl 1 (by decide) (hts (.fieldLink RX1 79 "DockGates$Thing" "kind" "I") (by decide +kernel)) rfl rfl dX1_letsThrough_7 ?_
  refine lv_istore_n (lv' := [(2, .int (nI (kd k))), (0, .int (nI g)), (1, .ref (T0 + 3 * k))]) hx hb dX1_letsThrough_10 rfl hl (by decide) rfl (fun ls hl => ?_)
  refine lv_iload_n hx hb dX1_letsThrough_11 rfl (lv_at hl 0 rfl) ?_
  refine lv_iload_n hx hb dX1_letsThrough_12 rfl (lv_at hl 1 rfl) ?_
  refine ln_cmp_ne (tgt := 18) hx hb (by omega) (by omega) dX1_letsThrough_13 (by decide) (fun c_1 => ?_) (fun c_1 => ?_)
  · refine lv_iload_n hx hb dX1_letsThrough_18 rfl (lv_at hl 1 rfl) ?_
    have c_2 : g = 4 ∨ g = 6 ∨ g = 7 ∨ g = 9 ∨ g = 12 ∨ (¬ g = 4 ∧ ¬ g = 6 ∧ ¬ g = 7 ∧ ¬ g = 9 ∧ ¬ g = 12) := by omega
    rcases c_2 with c_2 | c_2 | c_2 | c_2 | c_2 | c_2
    · refine q_tIn (v := 4) (tgt := 68) (off := 49) hx hb c_2 dX1_letsThrough_19 (by decide) (by decide) (by decide) (by decide) ?_
      refine lv_iload_n hx hb dX1_letsThrough_68 rfl (lv_at hl 0 rfl) ?_
      refine lv_iconst (v := nI 5) hx hb dX1_letsThrough_69 (by decide) ?_
      refine ln_cmp_ne (tgt := 77) hx hb (by omega) (by omega) dX1_letsThrough_70 (by decide) (fun c_3 => ?_) (fun c_3 => ?_)
      · refine lv_iconst (v := nI 0) hx hb dX1_letsThrough_77 (by decide) ?_
        exact W.zret (v := nI 0) hx hb hr rfl (fun t ht hW => ⟨_, rfl, (q_b0 (by unfold q_go; simp only [decide_eq_false_iff_not]; omega)), ht⟩) (fun _ h => absurd h List.not_mem_nil) dX1_letsThrough_78
      · refine lv_iconst (v := nI 1) hx hb dX1_letsThrough_73 (by decide) ?_
        refine lv_goto (tgt := 78) hx hb dX1_letsThrough_74 (by decide) ?_
        exact W.zret (v := nI 1) hx hb hr rfl (fun t ht hW => ⟨_, rfl, (q_b1 (by unfold q_go; simp only [decide_eq_true_eq]; omega)), ht⟩) (fun _ h => absurd h List.not_mem_nil) dX1_letsThrough_78
    · refine q_tIn (v := 6) (tgt := 79) (off := 60) hx hb c_2 dX1_letsThrough_19 (by decide) (by decide) (by decide) (by decide) ?_
      refine lv_iload_n hx hb dX1_letsThrough_79 rfl (lv_at hl 0 rfl) ?_
      refine lv_iconst (v := nI 5) hx hb dX1_letsThrough_80 (by decide) ?_
      refine ln_cmp_eq (tgt := 89) hx hb (by omega) (by omega) dX1_letsThrough_81 (by decide) (fun c_4 => ?_) (fun c_4 => ?_)
      · refine lv_iconst (v := nI 1) hx hb dX1_letsThrough_89 (by decide) ?_
        refine lv_goto (tgt := 94) hx hb dX1_letsThrough_90 (by decide) ?_
        exact W.zret (v := nI 1) hx hb hr rfl (fun t ht hW => ⟨_, rfl, (q_b1 (by unfold q_go; simp only [decide_eq_true_eq]; omega)), ht⟩) (fun _ h => absurd h List.not_mem_nil) dX1_letsThrough_94
      · refine lv_iload_n hx hb dX1_letsThrough_84 rfl (lv_at hl 0 rfl) ?_
        refine lv_iconst (v := nI 4) hx hb dX1_letsThrough_85 (by decide) ?_
        refine ln_cmp_ne (tgt := 93) hx hb (by omega) (by omega) dX1_letsThrough_86 (by decide) (fun c_5 => ?_) (fun c_5 => ?_)
        · refine lv_iconst (v := nI 0) hx hb dX1_letsThrough_93 (by decide) ?_
          exact W.zret (v := nI 0) hx hb hr rfl (fun t ht hW => ⟨_, rfl, (q_b0 (by unfold q_go; simp only [decide_eq_false_iff_not]; omega)), ht⟩) (fun _ h => absurd h List.not_mem_nil) dX1_letsThrough_94
        · refine lv_iconst (v := nI 1) hx hb dX1_letsThrough_89 (by decide) ?_
          refine lv_goto (tgt := 94) hx hb dX1_letsThrough_90 (by decide) ?_
          exact W.zret (v := nI 1) hx hb hr rfl (fun t ht hW => ⟨_, rfl, (q_b1 (by unfold q_go; simp only [decide_eq_true_eq]; omega)), ht⟩) (fun _ h => absurd h List.not_mem_nil) dX1_letsThrough_94
    · refine q_tIn (v := 7) (tgt := 95) (off := 76) hx hb c_2 dX1_letsThrough_19 (by decide) (by decide) (by decide) (by decide) ?_
      refine lv_iload_n hx hb dX1_letsThrough_95 rfl (lv_at hl 0 rfl) ?_
      refine lv_bipush (v := nI 8) hx hb dX1_letsThrough_96 (by decide) ?_
      refine ln_cmp_ne (tgt := 105) hx hb (by omega) (by omega) dX1_letsThrough_98 (by decide) (fun c_6 => ?_) (fun c_6 => ?_)
      · refine lv_iconst (v := nI 0) hx hb dX1_letsThrough_105 (by decide) ?_
        exact W.zret (v := nI 0) hx hb hr rfl (fun t ht hW => ⟨_, rfl, (q_b0 (by unfold q_go; simp only [decide_eq_false_iff_not]; omega)), ht⟩) (fun _ h => absurd h List.not_mem_nil) dX1_letsThrough_106
      · refine lv_iconst (v := nI 1) hx hb dX1_letsThrough_101 (by decide) ?_
        refine lv_goto (tgt := 106) hx hb dX1_letsThrough_102 (by decide) ?_
        exact W.zret (v := nI 1) hx hb hr rfl (fun t ht hW => ⟨_, rfl, (q_b1 (by unfold q_go; simp only [decide_eq_true_eq]; omega)), ht⟩) (fun _ h => absurd h List.not_mem_nil) dX1_letsThrough_106
    · refine q_tIn (v := 9) (tgt := 107) (off := 88) hx hb c_2 dX1_letsThrough_19 (by decide) (by decide) (by decide) (by decide) ?_
      refine lv_iload_n hx hb dX1_letsThrough_107 rfl (lv_at hl 0 rfl) ?_
      refine lv_bipush (v := nI 10) hx hb dX1_letsThrough_108 (by decide) ?_
      refine ln_cmp_ne (tgt := 117) hx hb (by omega) (by omega) dX1_letsThrough_110 (by decide) (fun c_7 => ?_) (fun c_7 => ?_)
      · refine lv_iconst (v := nI 0) hx hb dX1_letsThrough_117 (by decide) ?_
        exact W.zret (v := nI 0) hx hb hr rfl (fun t ht hW => ⟨_, rfl, (q_b0 (by unfold q_go; simp only [decide_eq_false_iff_not]; omega)), ht⟩) (fun _ h => absurd h List.not_mem_nil) dX1_letsThrough_118
      · refine lv_iconst (v := nI 1) hx hb dX1_letsThrough_113 (by decide) ?_
        refine lv_goto (tgt := 118) hx hb dX1_letsThrough_114 (by decide) ?_
        exact W.zret (v := nI 1) hx hb hr rfl (fun t ht hW => ⟨_, rfl, (q_b1 (by unfold q_go; simp only [decide_eq_true_eq]; omega)), ht⟩) (fun _ h => absurd h List.not_mem_nil) dX1_letsThrough_118
    · refine q_tIn (v := 12) (tgt := 119) (off := 100) hx hb c_2 dX1_letsThrough_19 (by decide) (by decide) (by decide) (by decide) ?_
      refine lv_iload_n hx hb dX1_letsThrough_119 rfl (lv_at hl 0 rfl) ?_
      refine lv_bipush (v := nI 9) hx hb dX1_letsThrough_120 (by decide) ?_
      refine ln_cmp_eq (tgt := 137) hx hb (by omega) (by omega) dX1_letsThrough_122 (by decide) (fun c_8 => ?_) (fun c_8 => ?_)
      · refine lv_iconst (v := nI 1) hx hb dX1_letsThrough_137 (by decide) ?_
        refine lv_goto (tgt := 142) hx hb dX1_letsThrough_138 (by decide) ?_
        exact W.zret (v := nI 1) hx hb hr rfl (fun t ht hW => ⟨_, rfl, (q_b1 (by unfold q_go; simp only [decide_eq_true_eq]; omega)), ht⟩) (fun _ h => absurd h List.not_mem_nil) dX1_letsThrough_142
      · refine lv_iload_n hx hb dX1_letsThrough_125 rfl (lv_at hl 0 rfl) ?_
        refine lv_bipush (v := nI 10) hx hb dX1_letsThrough_126 (by decide) ?_
        refine ln_cmp_eq (tgt := 137) hx hb (by omega) (by omega) dX1_letsThrough_128 (by decide) (fun c_9 => ?_) (fun c_9 => ?_)
        · refine lv_iconst (v := nI 1) hx hb dX1_letsThrough_137 (by decide) ?_
          refine lv_goto (tgt := 142) hx hb dX1_letsThrough_138 (by decide) ?_
          exact W.zret (v := nI 1) hx hb hr rfl (fun t ht hW => ⟨_, rfl, (q_b1 (by unfold q_go; simp only [decide_eq_true_eq]; omega)), ht⟩) (fun _ h => absurd h List.not_mem_nil) dX1_letsThrough_142
        · refine lv_iload_n hx hb dX1_letsThrough_131 rfl (lv_at hl 0 rfl) ?_
          refine lv_bipush (v := nI 11) hx hb dX1_letsThrough_132 (by decide) ?_
          refine ln_cmp_ne (tgt := 141) hx hb (by omega) (by omega) dX1_letsThrough_134 (by decide) (fun c_10 => ?_) (fun c_10 => ?_)
          · refine lv_iconst (v := nI 0) hx hb dX1_letsThrough_141 (by decide) ?_
            exact W.zret (v := nI 0) hx hb hr rfl (fun t ht hW => ⟨_, rfl, (q_b0 (by unfold q_go; simp only [decide_eq_false_iff_not]; omega)), ht⟩) (fun _ h => absurd h List.not_mem_nil) dX1_letsThrough_142
          · refine lv_iconst (v := nI 1) hx hb dX1_letsThrough_137 (by decide) ?_
            refine lv_goto (tgt := 142) hx hb dX1_letsThrough_138 (by decide) ?_
            exact W.zret (v := nI 1) hx hb hr rfl (fun t ht hW => ⟨_, rfl, (q_b1 (by unfold q_go; simp only [decide_eq_true_eq]; omega)), ht⟩) (fun _ h => absurd h List.not_mem_nil) dX1_letsThrough_142
    · obtain ⟨c_2_4, c_2_6, c_2_7, c_2_9, c_2_12⟩ := c_2
      have c_11 : g = 5 ∨ g = 8 ∨ g = 10 ∨ g = 11 ∨ ((g : Int) < 4 ∨ 12 < (g : Int)) := by omega
      rcases c_11 with c_11 | c_11 | c_11 | c_11 | c_11
      · refine q_tIn (v := 5) (tgt := 143) (off := 124) hx hb c_11 dX1_letsThrough_19 (by decide) (by decide) (by decide) (by decide) ?_
        refine lv_iconst (v := nI 0) hx hb dX1_letsThrough_143 (by decide) ?_
        exact W.zret (v := nI 0) hx hb hr rfl (fun t ht hW => ⟨_, rfl, (q_b0 (by unfold q_go; simp only [decide_eq_false_iff_not]; omega)), ht⟩) (fun _ h => absurd h List.not_mem_nil) dX1_letsThrough_144
      · refine q_tIn (v := 8) (tgt := 143) (off := 124) hx hb c_11 dX1_letsThrough_19 (by decide) (by decide) (by decide) (by decide) ?_
        refine lv_iconst (v := nI 0) hx hb dX1_letsThrough_143 (by decide) ?_
        exact W.zret (v := nI 0) hx hb hr rfl (fun t ht hW => ⟨_, rfl, (q_b0 (by unfold q_go; simp only [decide_eq_false_iff_not]; omega)), ht⟩) (fun _ h => absurd h List.not_mem_nil) dX1_letsThrough_144
      · refine q_tIn (v := 10) (tgt := 143) (off := 124) hx hb c_11 dX1_letsThrough_19 (by decide) (by decide) (by decide) (by decide) ?_
        refine lv_iconst (v := nI 0) hx hb dX1_letsThrough_143 (by decide) ?_
        exact W.zret (v := nI 0) hx hb hr rfl (fun t ht hW => ⟨_, rfl, (q_b0 (by unfold q_go; simp only [decide_eq_false_iff_not]; omega)), ht⟩) (fun _ h => absurd h List.not_mem_nil) dX1_letsThrough_144
      · refine q_tIn (v := 11) (tgt := 143) (off := 124) hx hb c_11 dX1_letsThrough_19 (by decide) (by decide) (by decide) (by decide) ?_
        refine lv_iconst (v := nI 0) hx hb dX1_letsThrough_143 (by decide) ?_
        exact W.zret (v := nI 0) hx hb hr rfl (fun t ht hW => ⟨_, rfl, (q_b0 (by unfold q_go; simp only [decide_eq_false_iff_not]; omega)), ht⟩) (fun _ h => absurd h List.not_mem_nil) dX1_letsThrough_144
      · refine q_tOut (tgt := 143) hx hb (by omega) dX1_letsThrough_19 c_11 (by decide) ?_
        refine lv_iconst (v := nI 0) hx hb dX1_letsThrough_143 (by decide) ?_
        exact W.zret (v := nI 0) hx hb hr rfl (fun t ht hW => ⟨_, rfl, (q_b0 (by unfold q_go; simp only [decide_eq_false_iff_not]; omega)), ht⟩) (fun _ h => absurd h List.not_mem_nil) dX1_letsThrough_144
  · refine lv_iconst (v := nI 1) hx hb dX1_letsThrough_16 (by decide) ?_
    exact W.zret (v := nI 1) hx hb hr rfl (fun t ht hW => ⟨_, rfl, (q_b1 (by unfold q_go; simp only [decide_eq_true_eq]; omega)), ht⟩) (fun _ h => absurd h List.not_mem_nil) dX1_letsThrough_17
set_option maxRecDepth 20000 in
theorem nX1_lidOf_0 : ∀ w ∈ u_ws RX0 TX0 6, w ∈ wsX1_lidOf := by decide +kernel
set_option maxHeartbeats 4000000 in
set_option maxRecDepth 100000 in
theorem kX1_lidOf (l : Launch) (E : q_E) (x T0 : Nat) (n : Nat) (kd sz : Nat → Nat) (sh : Nat → Bool) (nu : Nat → Nat → Int64) (pa : Nat → Nat → Option Nat) (sl : Nat → Option Nat) (ft tn ts tg : Int32) (hI : q_I (n, kd, sz, sh, nu, pa, sl, ft, tn, ts, tg)) (k : Nat) (hk : k < n)  : Met l yX1_lidOf wsX1_lidOf ({ frames := 0, cells := 0, slots := 0, locals := 0 }) (q_P E (q_X E x T0 (n, kd, sz, sh, nu, pa, sl, ft, tn, ts, tg)) [.ref (T0 + 3 * k)]) (vp_Si (fun rr => rr = nI (if sh k then 1 else 0))) 0 0 (fun _ => False) := by
  refine Met.ofW (cc := cX1_lidOf) (maxL := 1) (ret := (some .int)) (by decide) rfl ?_
  intro p e s m args below meth c s₁ B hml hv
  obtain ⟨rfl, hK, hX⟩ := hv
  have hx := B.exec
  have hb := B.bytes
  have hr := B.returns
  have hts := atoms_spec (ws := wsX1_lidOf) B.pre
  have hown : s.vm.findClass RX1 = some m.cls := findClass_of_methodNamed B.named
  have hlocks := B.notSynchronized
  have hl := lv_entry ([.ref (T0 + 3 * k)]) (n := 1) (Nat.le_of_ble_eq_true rfl)
  rw [lg_entry_eq]
  generalize (lg_sl ([.ref (T0 + 3 * k)]) ++ List.replicate (1 - (lg_sl ([.ref (T0 + 3 * k)])).length) Slot.unset).toArray = ls at hl ⊢
  have hl : lv_has ls 1 [(0, .ref (T0 + 3 * k))] := hl
  obtain ⟨ak, bk, dk, wk⟩ := hI.2.1 k hk
  have n60 := hI.1
  try dsimp only at ak bk dk wk n60
  refine lv_aload_n hx hb dX1_lidOf_0 rfl (lv_at hl 0 rfl) ?_
  refine qw_get (v := .int (q_b (sh k))) (ci := 0) (C := RX0) (T := TX0) (N := 6) hx hb hts nX1_lidOf_0 hown hK (hX.2.2.1 k hk).1 rfl 5 (by decide) (hts (.fieldLink RX1 109 "DockGates$Thing" "shut" "Z") (by decide +kernel)) rfl rfl dX1_lidOf_1 ?_
  refine ln_b_eq (tgt := 11) hx hb dX1_lidOf_4 (by decide) (fun c_1 => ?_) (fun c_1 => ?_)
  · refine lv_iconst (v := nI 0) hx hb dX1_lidOf_11 (by decide) ?_
    exact W.iret (v := nI 0) hx hb hr (fun t ht hW => ⟨_, rfl, (q_c (by simp [c_1])), ht⟩) (fun _ h => absurd h List.not_mem_nil) dX1_lidOf_12
  · refine lv_iconst (v := nI 1) hx hb dX1_lidOf_7 (by decide) ?_
    refine lv_goto (tgt := 12) hx hb dX1_lidOf_8 (by decide) ?_
    exact W.iret (v := nI 1) hx hb hr (fun t ht hW => ⟨_, rfl, (q_c (by simp [c_1])), ht⟩) (fun _ h => absurd h List.not_mem_nil) dX1_lidOf_12
set_option maxRecDepth 20000 in
theorem nX1_toldByLoad_0 : ∀ w ∈ u_ws RX0 TX0 6, w ∈ wsX1_toldByLoad := by decide +kernel
set_option maxHeartbeats 4000000 in
set_option maxRecDepth 100000 in
theorem kX1_toldByLoad_T (l : Launch) (E : q_E) (x T0 : Nat) (n : Nat) (kd sz : Nat → Nat) (sh : Nat → Bool) (nu : Nat → Nat → Int64) (pa : Nat → Nat → Option Nat) (sl : Nat → Option Nat) (ft tn ts tg : Int32) (hI : q_I (n, kd, sz, sh, nu, pa, sl, ft, tn, ts, tg)) (k : Nat) (hk : k < n)  : Met l yX1_toldByLoad wsX1_toldByLoad ({ frames := 1, cells := 0, slots := 0, locals := 20 }) (q_P E (q_X E x T0 (n, kd, sz, sh, nu, pa, sl, ft, tn, ts, tg)) [.ref (T0 + 3 * k), .int (nI 10)]) (vp_Si (fun rr => rr = nI (if sh k then 1 else 0))) 0 0 (fun _ => False) := by
  refine Met.ofW (cc := cX1_toldByLoad) (maxL := 2) (ret := (some .int)) (by decide) rfl ?_
  intro p e s m args below meth c s₁ B hml hv
  obtain ⟨rfl, hK, hX⟩ := hv
  have hx := B.exec
  have hb := B.bytes
  have hr := B.returns
  have hts := atoms_spec (ws := wsX1_toldByLoad) B.pre
  have hown : s.vm.findClass RX1 = some m.cls := findClass_of_methodNamed B.named
  have hlocks := B.notSynchronized
  have hl := lv_entry ([.ref (T0 + 3 * k), .int (nI 10)]) (n := 2) (Nat.le_of_ble_eq_true rfl)
  rw [lg_entry_eq]
  generalize (lg_sl ([.ref (T0 + 3 * k), .int (nI 10)]) ++ List.replicate (2 - (lg_sl ([.ref (T0 + 3 * k), .int (nI 10)])).length) Slot.unset).toArray = ls at hl ⊢
  have hl : lv_has ls 2 [(0, .ref (T0 + 3 * k)), (1, .int (nI 10))] := hl
  obtain ⟨ak, bk, dk, wk⟩ := hI.2.1 k hk
  have n60 := hI.1
  try dsimp only at ak bk dk wk n60
  refine lv_iload_n hx hb dX1_toldByLoad_0 rfl (lv_at hl 1 rfl) ?_
  refine q_lk (v := 10) (tgt := 28) (off := 27) hx hb rfl dX1_toldByLoad_1 (by decide) (by decide) (by decide) ?_
  refine lv_aload_n hx hb dX1_toldByLoad_28 rfl (lv_at hl 0 rfl) ?_
  refine qc_ri (r1 := nI (if sh k then 1 else 0)) (W.runS (As := [.ref (T0 + 3 * k)]) (rest := []) ⟨hx, hb, hml, hown, hts⟩ (kX1_lidOf l E x T0 n kd sz sh nu pa sl ft tn ts tg hI k hk) (va_cwS 1 hts gX1_toldByLoad_X1_lidOf rfl rfl rfl (by decide +kernel) ⟨Nat.le_of_ble_eq_true rfl, Nat.le_of_ble_eq_true rfl⟩) (q_pre hK hX) rfl rfl hl.1 rfl (lv_room (Nat.le_of_ble_eq_true rfl)) dX1_toldByLoad_29 ⟨Nat.le_of_ble_eq_true rfl, Nat.le_of_ble_eq_true rfl⟩) rfl ?_
  exact W.iret (v := nI (if sh k then 1 else 0)) hx hb hr (fun t ht hW => ⟨_, rfl, rfl, ht⟩) (fun _ h => absurd h List.not_mem_nil) dX1_toldByLoad_32
set_option maxHeartbeats 4000000 in
set_option maxRecDepth 100000 in
theorem kX1_toldByLoad_W (l : Launch) (E : q_E) (x T0 : Nat) (n : Nat) (kd sz : Nat → Nat) (sh : Nat → Bool) (nu : Nat → Nat → Int64) (pa : Nat → Nat → Option Nat) (sl : Nat → Option Nat) (ft tn ts tg : Int32) (hI : q_I (n, kd, sz, sh, nu, pa, sl, ft, tn, ts, tg)) (k : Nat) (hk : k < n) (h9 : 9 ≤ kd k)  : Met l yX1_toldByLoad wsX1_toldByLoad ({ frames := 1, cells := 0, slots := 0, locals := 20 }) (q_P E (q_X E x T0 (n, kd, sz, sh, nu, pa, sl, ft, tn, ts, tg)) [.ref (T0 + 3 * k), .int (nI 12)]) (vp_Si (fun rr => rr = nI (q_w kd sz sh k))) 0 0 (fun _ => False) := by
  refine Met.ofW (cc := cX1_toldByLoad) (maxL := 2) (ret := (some .int)) (by decide) rfl ?_
  intro p e s m args below meth c s₁ B hml hv
  obtain ⟨rfl, hK, hX⟩ := hv
  have hx := B.exec
  have hb := B.bytes
  have hr := B.returns
  have hts := atoms_spec (ws := wsX1_toldByLoad) B.pre
  have hown : s.vm.findClass RX1 = some m.cls := findClass_of_methodNamed B.named
  have hlocks := B.notSynchronized
  have hl := lv_entry ([.ref (T0 + 3 * k), .int (nI 12)]) (n := 2) (Nat.le_of_ble_eq_true rfl)
  rw [lg_entry_eq]
  generalize (lg_sl ([.ref (T0 + 3 * k), .int (nI 12)]) ++ List.replicate (2 - (lg_sl ([.ref (T0 + 3 * k), .int (nI 12)])).length) Slot.unset).toArray = ls at hl ⊢
  have hl : lv_has ls 2 [(0, .ref (T0 + 3 * k)), (1, .int (nI 12))] := hl
  obtain ⟨ak, bk, dk, wk⟩ := hI.2.1 k hk
  have n60 := hI.1
  try dsimp only at ak bk dk wk n60
  refine lv_iload_n hx hb dX1_toldByLoad_0 rfl (lv_at hl 1 rfl) ?_
  refine q_lk (v := 12) (tgt := 33) (off := 32) hx hb rfl dX1_toldByLoad_1 (by decide) (by decide) (by decide) ?_
  refine lv_aload_n hx hb dX1_toldByLoad_33 rfl (lv_at hl 0 rfl) ?_
  refine qw_get (v := .int (nI (kd k))) (ci := 0) (C := RX0) (T := TX0) (N := 6) hx hb hts nX1_toldByLoad_0 hown hK (hX.2.2.1 k hk).1 rfl 1 (by decide) (hts (.fieldLink RX1 79 "DockGates$Thing" "kind" "I") (by decide +kernel)) rfl rfl dX1_toldByLoad_34 ?_
  refine lv_bipush (v := nI 11) hx hb dX1_toldByLoad_37 (by decide) ?_
  refine ln_cmp_ne (tgt := 51) hx hb (by omega) (by omega) dX1_toldByLoad_39 (by decide) (fun c_1 => ?_) (fun c_1 => ?_)
  · refine lv_aload_n hx hb dX1_toldByLoad_51 rfl (lv_at hl 0 rfl) ?_
    refine qw_get (v := .int (nI (q_am (kd k) (sz k)))) (ci := 0) (C := RX0) (T := TX0) (N := 6) hx hb hts nX1_toldByLoad_0 hown hK (hX.2.2.1 k hk).1 rfl 4 (by decide) (hts (.fieldLink RX1 114 "DockGates$Thing" "amount" "I") (by decide +kernel)) rfl rfl dX1_toldByLoad_52 ?_
    refine lv_aload_n hx hb dX1_toldByLoad_55 rfl (lv_at hl 0 rfl) ?_
    refine qc_ri (r1 := nI (if sh k then 1 else 0)) (W.runS (As := [.ref (T0 + 3 * k)]) (rest := [.int (nI (q_am (kd k) (sz k)))]) ⟨hx, hb, hml, hown, hts⟩ (kX1_lidOf l E x T0 n kd sz sh nu pa sl ft tn ts tg hI k hk) (va_cwS 1 hts gX1_toldByLoad_X1_lidOf rfl rfl rfl (by decide +kernel) ⟨Nat.le_of_ble_eq_true rfl, Nat.le_of_ble_eq_true rfl⟩) (q_pre hK hX) rfl rfl hl.1 rfl (lv_room (Nat.le_of_ble_eq_true rfl)) dX1_toldByLoad_56 ⟨Nat.le_of_ble_eq_true rfl, Nat.le_of_ble_eq_true rfl⟩) rfl ?_
    refine ln_add hx hb dX1_toldByLoad_59 ?_
    exact W.iret (v := nI ((q_am (kd k) (sz k)) + (if sh k then 1 else 0))) hx hb hr (fun t ht hW => ⟨_, rfl, (q_c (by simp only [q_am9 h9]; unfold q_w; simp [c_1])), ht⟩) (fun _ h => absurd h List.not_mem_nil) dX1_toldByLoad_60
  · refine lv_iconst (v := nI 2) hx hb dX1_toldByLoad_42 (by decide) ?_
    refine lv_aload_n hx hb dX1_toldByLoad_43 rfl (lv_at hl 0 rfl) ?_
    refine qw_get (v := .int (nI (q_am (kd k) (sz k)))) (ci := 0) (C := RX0) (T := TX0) (N := 6) hx hb hts nX1_toldByLoad_0 hown hK (hX.2.2.1 k hk).1 rfl 4 (by decide) (hts (.fieldLink RX1 114 "DockGates$Thing" "amount" "I") (by decide +kernel)) rfl rfl dX1_toldByLoad_44 ?_
    refine ln_mul hx hb dX1_toldByLoad_47 ?_
    refine lv_goto (tgt := 60) hx hb dX1_toldByLoad_48 (by decide) ?_
    exact W.iret (v := nI (2 * (q_am (kd k) (sz k)))) hx hb hr (fun t ht hW => ⟨_, rfl, (q_c (by simp only [q_am9 h9]; unfold q_w; simp [c_1])), ht⟩) (fun _ h => absurd h List.not_mem_nil) dX1_toldByLoad_60
set_option maxHeartbeats 4000000 in
set_option maxRecDepth 100000 in
theorem kX1_toldByLoad_A (l : Launch) (E : q_E) (x T0 : Nat) (n : Nat) (kd sz : Nat → Nat) (sh : Nat → Bool) (nu : Nat → Nat → Int64) (pa : Nat → Nat → Option Nat) (sl : Nat → Option Nat) (ft tn ts tg : Int32) (hI : q_I (n, kd, sz, sh, nu, pa, sl, ft, tn, ts, tg)) (k g : Nat) (hk : k < n) (h9 : 9 ≤ kd k) (hg : g = 9 ∨ g = 11)  : Met l yX1_toldByLoad wsX1_toldByLoad ({ frames := 1, cells := 0, slots := 0, locals := 20 }) (q_P E (q_X E x T0 (n, kd, sz, sh, nu, pa, sl, ft, tn, ts, tg)) [.ref (T0 + 3 * k), .int (nI g)]) (vp_Si (fun rr => rr = nI (sz k))) 0 0 (fun _ => False) := by
  refine Met.ofW (cc := cX1_toldByLoad) (maxL := 2) (ret := (some .int)) (by decide) rfl ?_
  intro p e s m args below meth c s₁ B hml hv
  obtain ⟨rfl, hK, hX⟩ := hv
  have hx := B.exec
  have hb := B.bytes
  have hr := B.returns
  have hts := atoms_spec (ws := wsX1_toldByLoad) B.pre
  have hown : s.vm.findClass RX1 = some m.cls := findClass_of_methodNamed B.named
  have hlocks := B.notSynchronized
  have hl := lv_entry ([.ref (T0 + 3 * k), .int (nI g)]) (n := 2) (Nat.le_of_ble_eq_true rfl)
  rw [lg_entry_eq]
  generalize (lg_sl ([.ref (T0 + 3 * k), .int (nI g)]) ++ List.replicate (2 - (lg_sl ([.ref (T0 + 3 * k), .int (nI g)])).length) Slot.unset).toArray = ls at hl ⊢
  have hl : lv_has ls 2 [(0, .ref (T0 + 3 * k)), (1, .int (nI g))] := hl
  obtain ⟨ak, bk, dk, wk⟩ := hI.2.1 k hk
  have n60 := hI.1
  try dsimp only at ak bk dk wk n60
  refine lv_iload_n hx hb dX1_toldByLoad_0 rfl (lv_at hl 1 rfl) ?_
  have c_1 : g = 10 ∨ g = 12 ∨ (¬ g = 10 ∧ ¬ g = 12) := by omega
  rcases c_1 with c_1 | c_1 | c_1
  · refine q_lk (v := 10) (tgt := 28) (off := 27) hx hb c_1 dX1_toldByLoad_1 (by decide) (by decide) (by decide) ?_
    refine lv_aload_n hx hb dX1_toldByLoad_28 rfl (lv_at hl 0 rfl) ?_
    refine qc_ri (r1 := nI (if sh k then 1 else 0)) (W.runS (As := [.ref (T0 + 3 * k)]) (rest := []) ⟨hx, hb, hml, hown, hts⟩ (kX1_lidOf l E x T0 n kd sz sh nu pa sl ft tn ts tg hI k hk) (va_cwS 1 hts gX1_toldByLoad_X1_lidOf rfl rfl rfl (by decide +kernel) ⟨Nat.le_of_ble_eq_true rfl, Nat.le_of_ble_eq_true rfl⟩) (q_pre hK hX) rfl rfl hl.1 rfl (lv_room (Nat.le_of_ble_eq_true rfl)) dX1_toldByLoad_29 ⟨Nat.le_of_ble_eq_true rfl, Nat.le_of_ble_eq_true rfl⟩) rfl ?_
    exact W.iret (v := nI (if sh k then 1 else 0)) hx hb hr (fun t ht hW => ⟨_, rfl, (by omega), ht⟩) (fun _ h => absurd h List.not_mem_nil) dX1_toldByLoad_32
  · refine q_lk (v := 12) (tgt := 33) (off := 32) hx hb c_1 dX1_toldByLoad_1 (by decide) (by decide) (by decide) ?_
    refine lv_aload_n hx hb dX1_toldByLoad_33 rfl (lv_at hl 0 rfl) ?_
    refine qw_get (v := .int (nI (kd k))) (ci := 0) (C := RX0) (T := TX0) (N := 6) hx hb hts nX1_toldByLoad_0 hown hK (hX.2.2.1 k hk).1 rfl 1 (by decide) (hts (.fieldLink RX1 79 "DockGates$Thing" "kind" "I") (by decide +kernel)) rfl rfl dX1_toldByLoad_34 ?_
    refine lv_bipush (v := nI 11) hx hb dX1_toldByLoad_37 (by decide) ?_
    refine ln_cmp_ne (tgt := 51) hx hb (by omega) (by omega) dX1_toldByLoad_39 (by decide) (fun c_2 => ?_) (fun c_2 => ?_)
    · refine lv_aload_n hx hb dX1_toldByLoad_51 rfl (lv_at hl 0 rfl) ?_
      refine qw_get (v := .int (nI (q_am (kd k) (sz k)))) (ci := 0) (C := RX0) (T := TX0) (N := 6) hx hb hts nX1_toldByLoad_0 hown hK (hX.2.2.1 k hk).1 rfl 4 (by decide) (hts (.fieldLink RX1 114 "DockGates$Thing" "amount" "I") (by decide +kernel)) rfl rfl dX1_toldByLoad_52 ?_
      refine lv_aload_n hx hb dX1_toldByLoad_55 rfl (lv_at hl 0 rfl) ?_
      refine qc_ri (r1 := nI (if sh k then 1 else 0)) (W.runS (As := [.ref (T0 + 3 * k)]) (rest := [.int (nI (q_am (kd k) (sz k)))]) ⟨hx, hb, hml, hown, hts⟩ (kX1_lidOf l E x T0 n kd sz sh nu pa sl ft tn ts tg hI k hk) (va_cwS 1 hts gX1_toldByLoad_X1_lidOf rfl rfl rfl (by decide +kernel) ⟨Nat.le_of_ble_eq_true rfl, Nat.le_of_ble_eq_true rfl⟩) (q_pre hK hX) rfl rfl hl.1 rfl (lv_room (Nat.le_of_ble_eq_true rfl)) dX1_toldByLoad_56 ⟨Nat.le_of_ble_eq_true rfl, Nat.le_of_ble_eq_true rfl⟩) rfl ?_
      refine ln_add hx hb dX1_toldByLoad_59 ?_
      exact W.iret (v := nI ((q_am (kd k) (sz k)) + (if sh k then 1 else 0))) hx hb hr (fun t ht hW => ⟨_, rfl, (by omega), ht⟩) (fun _ h => absurd h List.not_mem_nil) dX1_toldByLoad_60
    · refine lv_iconst (v := nI 2) hx hb dX1_toldByLoad_42 (by decide) ?_
      refine lv_aload_n hx hb dX1_toldByLoad_43 rfl (lv_at hl 0 rfl) ?_
      refine qw_get (v := .int (nI (q_am (kd k) (sz k)))) (ci := 0) (C := RX0) (T := TX0) (N := 6) hx hb hts nX1_toldByLoad_0 hown hK (hX.2.2.1 k hk).1 rfl 4 (by decide) (hts (.fieldLink RX1 114 "DockGates$Thing" "amount" "I") (by decide +kernel)) rfl rfl dX1_toldByLoad_44 ?_
      refine ln_mul hx hb dX1_toldByLoad_47 ?_
      refine lv_goto (tgt := 60) hx hb dX1_toldByLoad_48 (by decide) ?_
      exact W.iret (v := nI (2 * (q_am (kd k) (sz k)))) hx hb hr (fun t ht hW => ⟨_, rfl, (by omega), ht⟩) (fun _ h => absurd h List.not_mem_nil) dX1_toldByLoad_60
  · obtain ⟨c_1_10, c_1_12⟩ := c_1
    refine q_lkd (tgt := 61) hx hb (by omega) dX1_toldByLoad_1 (by decide) (by simp [Op.lookupswitch.offset_cons, Op.lookupswitch.offset, show ¬ (10 : Int) = (g : Nat) by omega, show ¬ (12 : Int) = (g : Nat) by omega]) (by decide) ?_
    refine lv_aload_n hx hb dX1_toldByLoad_61 rfl (lv_at hl 0 rfl) ?_
    refine qw_get (v := .int (nI (q_am (kd k) (sz k)))) (ci := 0) (C := RX0) (T := TX0) (N := 6) hx hb hts nX1_toldByLoad_0 hown hK (hX.2.2.1 k hk).1 rfl 4 (by decide) (hts (.fieldLink RX1 114 "DockGates$Thing" "amount" "I") (by decide +kernel)) rfl rfl dX1_toldByLoad_62 ?_
    exact W.iret (v := nI (q_am (kd k) (sz k))) hx hb hr (fun t ht hW => ⟨_, rfl, (q_c (q_am9 h9)), ht⟩) (fun _ h => absurd h List.not_mem_nil) dX1_toldByLoad_65
set_option maxRecDepth 20000 in
theorem nX1_lacksPart_0 : ∀ w ∈ u_ws RX0 TX0 6, w ∈ wsX1_lacksPart := by decide +kernel
set_option maxHeartbeats 4000000 in
set_option maxRecDepth 100000 in
theorem kX1_lacksPart (l : Launch) (E : q_E) (x T0 : Nat) (n : Nat) (kd sz : Nat → Nat) (sh : Nat → Bool) (nu : Nat → Nat → Int64) (pa : Nat → Nat → Option Nat) (sl : Nat → Option Nat) (ft tn ts tg : Int32) (hI : q_I (n, kd, sz, sh, nu, pa, sl, ft, tn, ts, tg)) (k : Nat) (hk : k < n)  : Met l yX1_lacksPart wsX1_lacksPart ({ frames := 0, cells := 0, slots := 0, locals := 0 }) (q_P E (q_X E x T0 (n, kd, sz, sh, nu, pa, sl, ft, tn, ts, tg)) [.ref (T0 + 3 * k)]) (vp_Si (fun rr => rr = q_b (q_ho1 kd sz pa k))) 0 0 (fun _ => False) := by
  refine Met.ofW (cc := cX1_lacksPart) (maxL := 5) (ret := (some .boolean)) (by decide) rfl ?_
  intro p e s m args below meth c s₁ B hml hv
  obtain ⟨rfl, hK, hX⟩ := hv
  have hx := B.exec
  have hb := B.bytes
  have hr := B.returns
  have hts := atoms_spec (ws := wsX1_lacksPart) B.pre
  have hown : s.vm.findClass RX1 = some m.cls := findClass_of_methodNamed B.named
  have hlocks := B.notSynchronized
  have hl := lv_entry ([.ref (T0 + 3 * k)]) (n := 5) (Nat.le_of_ble_eq_true rfl)
  rw [lg_entry_eq]
  generalize (lg_sl ([.ref (T0 + 3 * k)]) ++ List.replicate (5 - (lg_sl ([.ref (T0 + 3 * k)])).length) Slot.unset).toArray = ls at hl ⊢
  have hl : lv_has ls 5 [(0, .ref (T0 + 3 * k))] := hl
  obtain ⟨ak, bk, dk, wk⟩ := hI.2.1 k hk
  have n60 := hI.1
  try dsimp only at ak bk dk wk n60
  have hpl := q_pl_le (kd k) (sz k)
  refine lv_aload_n hx hb dX1_lacksPart_0 rfl (lv_at hl 0 rfl) ?_
  refine qw_get (v := .ref (T0 + 3 * k + 2)) (ci := 0) (C := RX0) (T := TX0) (N := 6) hx hb hts nX1_lacksPart_0 hown hK (hX.2.2.1 k hk).1 rfl 3 (by decide) (hts (.fieldLink RX1 96 "DockGates$Thing" "parts" "[LDockGates$Thing;") (by decide +kernel)) rfl rfl dX1_lacksPart_1 ?_
  refine lv_astore_n (lv' := [(1, .ref (T0 + 3 * k + 2)), (0, .ref (T0 + 3 * k))]) hx hb dX1_lacksPart_4 rfl hl (by decide) rfl (fun ls hl => ?_)
  refine lv_aload_n hx hb dX1_lacksPart_5 rfl (lv_at hl 0 rfl) ?_
  refine qw_tlen (n := q_pl (kd k) (sz k)) hx hb hK (hX.2.2.1 k hk).2.2 dX1_lacksPart_6 ?_
  refine lv_istore_n (lv' := [(2, .int (nI (q_pl (kd k) (sz k)))), (1, .ref (T0 + 3 * k + 2)), (0, .ref (T0 + 3 * k))]) hx hb dX1_lacksPart_7 rfl hl (by decide) rfl (fun ls hl => ?_)
  refine lv_iconst (v := nI 0) hx hb dX1_lacksPart_8 (by decide) ?_
  refine lv_istore_n (lv' := [(3, .int (nI 0)), (2, .int (nI (q_pl (kd k) (sz k)))), (1, .ref (T0 + 3 * k + 2)), (0, .ref (T0 + 3 * k))]) hx hb dX1_lacksPart_9 rfl hl (by decide) rfl (fun ls hl => ?_)
  obtain ⟨i, ei⟩ : ∃ i : Nat, i = 0 := ⟨_, rfl⟩
  have hl : lv_has ls 5 [(0, .ref (T0 + 3 * k)), (1, .ref (T0 + 3 * k + 2)), (2, .int (nI (q_pl (kd k) (sz k)))), (3, .int (nI i))] := by subst ei; exact lv_sub hl [3, 2, 1, 0] rfl
  generalize els : ls = lz at hl ⊢
  clear els
  have hin : q_h1 (pa k) i = false := by subst ei; exact rfl
  obtain ⟨d, hd⟩ : ∃ d, i + d = q_pl (kd k) (sz k) := ⟨q_pl (kd k) (sz k) - i, by omega⟩
  clear ei
  induction d generalizing i lz with
  | zero =>
    refine lv_iload_n hx hb dX1_lacksPart_10 rfl (lv_at hl 3 rfl) ?_
    refine lv_iload_n hx hb dX1_lacksPart_11 rfl (lv_at hl 2 rfl) ?_
    refine ln_cmp_ge (tgt := 33) hx hb (by omega) (by omega) dX1_lacksPart_12 (by decide) (fun _ => ?_) (fun c_1 => absurd c_1 (by omega))
    refine lv_iconst (v := nI 0) hx hb dX1_lacksPart_33 (by decide) ?_
    exact W.zret (v := nI 0) hx hb hr rfl (fun t ht hW => ⟨_, rfl, (q_b0 (by unfold q_ho1; rw [← hd]; exact hin)), ht⟩) (fun _ h => absurd h List.not_mem_nil) dX1_lacksPart_34
  | succ d ih =>
    refine lv_iload_n hx hb dX1_lacksPart_10 rfl (lv_at hl 3 rfl) ?_
    refine lv_iload_n hx hb dX1_lacksPart_11 rfl (lv_at hl 2 rfl) ?_
    refine ln_cmp_ge (tgt := 33) hx hb (by omega) (by omega) dX1_lacksPart_12 (by decide) (fun c_2 => absurd c_2 (by omega)) (fun _ => ?_)
    refine lv_aload_n hx hb dX1_lacksPart_15 rfl (lv_at hl 1 rfl) ?_
    refine lv_iload_n hx hb dX1_lacksPart_16 rfl (lv_at hl 3 rfl) ?_
    refine qx_part hx hb hK hX hI hk (show i < q_pl (kd k) (sz k) by omega) dX1_lacksPart_17 (fun s_3 => ?_) (fun j_3 hj_3 oj_3 s_3 => ?_)
    · try dsimp only at s_3
      refine lv_astoreN (lv' := [(4, .null), (0, .ref (T0 + 3 * k)), (1, .ref (T0 + 3 * k + 2)), (2, .int (nI (q_pl (kd k) (sz k)))), (3, .int (nI i))]) hx hb dX1_lacksPart_18 hl (by decide) rfl (fun ls hl => ?_)
      refine lv_aloadN hx hb dX1_lacksPart_20 (lv_at hl 0 rfl) ?_
      refine lv_ifnonnullN hx hb dX1_lacksPart_22 ?_
      refine lv_iconst (v := nI 1) hx hb dX1_lacksPart_25 (by decide) ?_
      exact W.zret (v := nI 1) hx hb hr rfl (fun t ht hW => ⟨_, rfl, (q_b1 (q_h1_t s_3 (by omega))), ht⟩) (fun _ h => absurd h List.not_mem_nil) dX1_lacksPart_26
    · try dsimp only at s_3 hj_3 oj_3
      unfold q_ok at oj_3
      obtain ⟨aj_3, bj_3, dj_3, wj_3⟩ := hI.2.1 j_3 hj_3
      have n60 := hI.1
      try dsimp only at aj_3 bj_3 dj_3 wj_3 n60
      refine lv_astore (lv' := [(4, .ref (T0 + 3 * j_3)), (0, .ref (T0 + 3 * k)), (1, .ref (T0 + 3 * k + 2)), (2, .int (nI (q_pl (kd k) (sz k)))), (3, .int (nI i))]) hx hb dX1_lacksPart_18 hl (by decide) rfl (fun ls hl => ?_)
      refine lv_aload hx hb dX1_lacksPart_20 (lv_at hl 0 rfl) ?_
      refine lv_ifnonnull (tgt := 27) hx hb dX1_lacksPart_22 (by decide) ?_
      refine lv_iinc (v := nI (i + 1)) (lv' := [(3, .int (nI (i + 1))), (4, .ref (T0 + 3 * j_3)), (0, .ref (T0 + 3 * k)), (1, .ref (T0 + 3 * k + 2)), (2, .int (nI (q_pl (kd k) (sz k))))]) hx hb dX1_lacksPart_27 hl (k := 4) rfl (nI_1 _) (by decide) rfl (fun ls hl => ?_)
      refine lv_goto (tgt := 10) hx hb dX1_lacksPart_30 (by decide) ?_
      exact ih (i + 1) ls (lv_sub hl [2, 3, 4, 0] rfl) (by simp [q_h1, hin, s_3]) (by omega) 
set_option maxRecDepth 20000 in
theorem nX1_hasHole_0 : ∀ w ∈ u_ws RX0 TX0 6, w ∈ wsX1_hasHole := by decide +kernel
set_option maxHeartbeats 4000000 in
set_option maxRecDepth 100000 in
theorem kX1_hasHole (l : Launch) (E : q_E) (x T0 : Nat) (n : Nat) (kd sz : Nat → Nat) (sh : Nat → Bool) (nu : Nat → Nat → Int64) (pa : Nat → Nat → Option Nat) (sl : Nat → Option Nat) (ft tn ts tg : Int32) (hI : q_I (n, kd, sz, sh, nu, pa, sl, ft, tn, ts, tg)) (k : Nat) (hk : k < n)  : Met l yX1_hasHole wsX1_hasHole ({ frames := 1, cells := 0, slots := 0, locals := 24 }) (q_P E (q_X E x T0 (n, kd, sz, sh, nu, pa, sl, ft, tn, ts, tg)) [.ref (T0 + 3 * k)]) (vp_Si (fun rr => rr = q_b (q_ho2 kd sz pa k))) 0 0 (fun _ => False) := by
  refine Met.ofW (cc := cX1_hasHole) (maxL := 5) (ret := (some .boolean)) (by decide) rfl ?_
  intro p e s m args below meth c s₁ B hml hv
  obtain ⟨rfl, hK, hX⟩ := hv
  have hx := B.exec
  have hb := B.bytes
  have hr := B.returns
  have hts := atoms_spec (ws := wsX1_hasHole) B.pre
  have hown : s.vm.findClass RX1 = some m.cls := findClass_of_methodNamed B.named
  have hlocks := B.notSynchronized
  have hl := lv_entry ([.ref (T0 + 3 * k)]) (n := 5) (Nat.le_of_ble_eq_true rfl)
  rw [lg_entry_eq]
  generalize (lg_sl ([.ref (T0 + 3 * k)]) ++ List.replicate (5 - (lg_sl ([.ref (T0 + 3 * k)])).length) Slot.unset).toArray = ls at hl ⊢
  have hl : lv_has ls 5 [(0, .ref (T0 + 3 * k))] := hl
  obtain ⟨ak, bk, dk, wk⟩ := hI.2.1 k hk
  have n60 := hI.1
  try dsimp only at ak bk dk wk n60
  have hpl := q_pl_le (kd k) (sz k)
  refine lv_aload_n hx hb dX1_hasHole_0 rfl (lv_at hl 0 rfl) ?_
  refine qw_get (v := .ref (T0 + 3 * k + 2)) (ci := 0) (C := RX0) (T := TX0) (N := 6) hx hb hts nX1_hasHole_0 hown hK (hX.2.2.1 k hk).1 rfl 3 (by decide) (hts (.fieldLink RX1 96 "DockGates$Thing" "parts" "[LDockGates$Thing;") (by decide +kernel)) rfl rfl dX1_hasHole_1 ?_
  refine lv_astore_n (lv' := [(1, .ref (T0 + 3 * k + 2)), (0, .ref (T0 + 3 * k))]) hx hb dX1_hasHole_4 rfl hl (by decide) rfl (fun ls hl => ?_)
  refine lv_aload_n hx hb dX1_hasHole_5 rfl (lv_at hl 0 rfl) ?_
  refine qw_tlen (n := q_pl (kd k) (sz k)) hx hb hK (hX.2.2.1 k hk).2.2 dX1_hasHole_6 ?_
  refine lv_istore_n (lv' := [(2, .int (nI (q_pl (kd k) (sz k)))), (1, .ref (T0 + 3 * k + 2)), (0, .ref (T0 + 3 * k))]) hx hb dX1_hasHole_7 rfl hl (by decide) rfl (fun ls hl => ?_)
  refine lv_iconst (v := nI 0) hx hb dX1_hasHole_8 (by decide) ?_
  refine lv_istore_n (lv' := [(3, .int (nI 0)), (2, .int (nI (q_pl (kd k) (sz k)))), (1, .ref (T0 + 3 * k + 2)), (0, .ref (T0 + 3 * k))]) hx hb dX1_hasHole_9 rfl hl (by decide) rfl (fun ls hl => ?_)
  obtain ⟨i, ei⟩ : ∃ i : Nat, i = 0 := ⟨_, rfl⟩
  have hl : lv_has ls 5 [(0, .ref (T0 + 3 * k)), (1, .ref (T0 + 3 * k + 2)), (2, .int (nI (q_pl (kd k) (sz k)))), (3, .int (nI i))] := by subst ei; exact lv_sub hl [3, 2, 1, 0] rfl
  generalize els : ls = lz at hl ⊢
  clear els
  have hin : q_h2 (q_ho1 kd sz pa) (pa k) i = false := by subst ei; exact rfl
  obtain ⟨d, hd⟩ : ∃ d, i + d = q_pl (kd k) (sz k) := ⟨q_pl (kd k) (sz k) - i, by omega⟩
  clear ei
  induction d generalizing i lz with
  | zero =>
    refine lv_iload_n hx hb dX1_hasHole_10 rfl (lv_at hl 3 rfl) ?_
    refine lv_iload_n hx hb dX1_hasHole_11 rfl (lv_at hl 2 rfl) ?_
    refine ln_cmp_ge (tgt := 41) hx hb (by omega) (by omega) dX1_hasHole_12 (by decide) (fun _ => ?_) (fun c_1 => absurd c_1 (by omega))
    refine lv_iconst (v := nI 0) hx hb dX1_hasHole_41 (by decide) ?_
    exact W.zret (v := nI 0) hx hb hr rfl (fun t ht hW => ⟨_, rfl, (q_b0 (by unfold q_ho2; rw [← hd]; exact hin)), ht⟩) (fun _ h => absurd h List.not_mem_nil) dX1_hasHole_42
  | succ d ih =>
    refine lv_iload_n hx hb dX1_hasHole_10 rfl (lv_at hl 3 rfl) ?_
    refine lv_iload_n hx hb dX1_hasHole_11 rfl (lv_at hl 2 rfl) ?_
    refine ln_cmp_ge (tgt := 41) hx hb (by omega) (by omega) dX1_hasHole_12 (by decide) (fun c_2 => absurd c_2 (by omega)) (fun _ => ?_)
    refine lv_aload_n hx hb dX1_hasHole_15 rfl (lv_at hl 1 rfl) ?_
    refine lv_iload_n hx hb dX1_hasHole_16 rfl (lv_at hl 3 rfl) ?_
    refine qx_part hx hb hK hX hI hk (show i < q_pl (kd k) (sz k) by omega) dX1_hasHole_17 (fun s_3 => ?_) (fun j_3 hj_3 oj_3 s_3 => ?_)
    · try dsimp only at s_3
      refine lv_astoreN (lv' := [(4, .null), (0, .ref (T0 + 3 * k)), (1, .ref (T0 + 3 * k + 2)), (2, .int (nI (q_pl (kd k) (sz k)))), (3, .int (nI i))]) hx hb dX1_hasHole_18 hl (by decide) rfl (fun ls hl => ?_)
      refine lv_aloadN hx hb dX1_hasHole_20 (lv_at hl 0 rfl) ?_
      refine lv_ifnullN (tgt := 33) hx hb dX1_hasHole_22 (by decide) ?_
      refine lv_iconst (v := nI 1) hx hb dX1_hasHole_33 (by decide) ?_
      exact W.zret (v := nI 1) hx hb hr rfl (fun t ht hW => ⟨_, rfl, (q_b1 (q_h2_t (Or.inl s_3) (by omega))), ht⟩) (fun _ h => absurd h List.not_mem_nil) dX1_hasHole_34
    · try dsimp only at s_3 hj_3 oj_3
      unfold q_ok at oj_3
      obtain ⟨aj_3, bj_3, dj_3, wj_3⟩ := hI.2.1 j_3 hj_3
      have n60 := hI.1
      try dsimp only at aj_3 bj_3 dj_3 wj_3 n60
      refine lv_astore (lv' := [(4, .ref (T0 + 3 * j_3)), (0, .ref (T0 + 3 * k)), (1, .ref (T0 + 3 * k + 2)), (2, .int (nI (q_pl (kd k) (sz k)))), (3, .int (nI i))]) hx hb dX1_hasHole_18 hl (by decide) rfl (fun ls hl => ?_)
      refine lv_aload hx hb dX1_hasHole_20 (lv_at hl 0 rfl) ?_
      refine lv_ifnull hx hb dX1_hasHole_22 ?_
      refine lv_aload hx hb dX1_hasHole_25 (lv_at hl 0 rfl) ?_
      refine qc_ri (r1 := q_b (q_ho1 kd sz pa j_3)) (W.runS (As := [.ref (T0 + 3 * j_3)]) (rest := []) ⟨hx, hb, hml, hown, hts⟩ (kX1_lacksPart l E x T0 n kd sz sh nu pa sl ft tn ts tg hI j_3 hj_3) (va_cwS 1 hts gX1_hasHole_X1_lacksPart rfl rfl rfl (by decide +kernel) ⟨Nat.le_of_ble_eq_true rfl, Nat.le_of_ble_eq_true rfl⟩) (q_pre hK hX) rfl rfl hl.1 rfl (lv_room (Nat.le_of_ble_eq_true rfl)) dX1_hasHole_27 ⟨Nat.le_of_ble_eq_true rfl, Nat.le_of_ble_eq_true rfl⟩) rfl ?_
      refine ln_b_eq (tgt := 35) hx hb dX1_hasHole_30 (by decide) (fun c_4 => ?_) (fun c_4 => ?_)
      · refine lv_iinc (v := nI (i + 1)) (lv' := [(3, .int (nI (i + 1))), (4, .ref (T0 + 3 * j_3)), (0, .ref (T0 + 3 * k)), (1, .ref (T0 + 3 * k + 2)), (2, .int (nI (q_pl (kd k) (sz k))))]) hx hb dX1_hasHole_35 hl (k := 4) rfl (nI_1 _) (by decide) rfl (fun ls hl => ?_)
        refine lv_goto (tgt := 10) hx hb dX1_hasHole_38 (by decide) ?_
        exact ih (i + 1) ls (lv_sub hl [2, 3, 4, 0] rfl) (by simp [q_h2, hin, s_3, c_4]) (by omega) 
      · refine lv_iconst (v := nI 1) hx hb dX1_hasHole_33 (by decide) ?_
        exact W.zret (v := nI 1) hx hb hr rfl (fun t ht hW => ⟨_, rfl, (q_b1 (q_h2_t (Or.inr ⟨j_3, s_3, c_4⟩) (by omega))), ht⟩) (fun _ h => absurd h List.not_mem_nil) dX1_hasHole_34
set_option maxRecDepth 20000 in
theorem nX1_sumOfNumbers_0 : ∀ w ∈ u_ws RX0 TX0 6, w ∈ wsX1_sumOfNumbers := by decide +kernel
set_option maxHeartbeats 4000000 in
set_option maxRecDepth 100000 in
theorem kX1_sumOfNumbers (l : Launch) (E : q_E) (x T0 : Nat) (n : Nat) (kd sz : Nat → Nat) (sh : Nat → Bool) (nu : Nat → Nat → Int64) (pa : Nat → Nat → Option Nat) (sl : Nat → Option Nat) (ft tn ts tg : Int32) (hI : q_I (n, kd, sz, sh, nu, pa, sl, ft, tn, ts, tg)) (k : Nat) (hk : k < n)  : Met l yX1_sumOfNumbers wsX1_sumOfNumbers ({ frames := 0, cells := 0, slots := 0, locals := 0 }) (q_P E (q_X E x T0 (n, kd, sz, sh, nu, pa, sl, ft, tn, ts, tg)) [.ref (T0 + 3 * k)]) (vp_Sl (fun rr => rr = q_num kd sz nu k)) 0 0 (fun _ => False) := by
  refine Met.ofW (cc := cX1_sumOfNumbers) (maxL := 8) (ret := (some .long)) (by decide) rfl ?_
  intro p e s m args below meth c s₁ B hml hv
  obtain ⟨rfl, hK, hX⟩ := hv
  have hx := B.exec
  have hb := B.bytes
  have hr := B.returns
  have hts := atoms_spec (ws := wsX1_sumOfNumbers) B.pre
  have hown : s.vm.findClass RX1 = some m.cls := findClass_of_methodNamed B.named
  have hlocks := B.notSynchronized
  have hl := lv_entry ([.ref (T0 + 3 * k)]) (n := 8) (Nat.le_of_ble_eq_true rfl)
  rw [lg_entry_eq]
  generalize (lg_sl ([.ref (T0 + 3 * k)]) ++ List.replicate (8 - (lg_sl ([.ref (T0 + 3 * k)])).length) Slot.unset).toArray = ls at hl ⊢
  have hl : lv_has ls 8 [(0, .ref (T0 + 3 * k))] := hl
  obtain ⟨ak, bk, dk, wk⟩ := hI.2.1 k hk
  have n60 := hI.1
  try dsimp only at ak bk dk wk n60
  have hnl := q_nl_le (kd k) (sz k)
  refine lv_lconst (v := 0) hx hb dX1_sumOfNumbers_0 (by decide) ?_
  refine lv_lstore_n (lv' := [(1, .long 0), (0, .ref (T0 + 3 * k))]) hx hb dX1_sumOfNumbers_1 rfl hl (by decide) rfl (fun ls hl => ?_)
  refine lv_aload_n hx hb dX1_sumOfNumbers_2 rfl (lv_at hl 1 rfl) ?_
  refine qw_get (v := .ref (T0 + 3 * k + 1)) (ci := 0) (C := RX0) (T := TX0) (N := 6) hx hb hts nX1_sumOfNumbers_0 hown hK (hX.2.2.1 k hk).1 rfl 2 (by decide) (hts (.fieldLink RX1 75 "DockGates$Thing" "numbers" "[J") (by decide +kernel)) rfl rfl dX1_sumOfNumbers_3 ?_
  refine lv_astore_n (lv' := [(3, .ref (T0 + 3 * k + 1)), (1, .long 0), (0, .ref (T0 + 3 * k))]) hx hb dX1_sumOfNumbers_6 rfl hl (by decide) rfl (fun ls hl => ?_)
  refine lv_aload_n hx hb dX1_sumOfNumbers_7 rfl (lv_at hl 0 rfl) ?_
  refine qw_jlen (n := q_nl (kd k) (sz k)) hx hb hK (hX.2.2.1 k hk).2.1 dX1_sumOfNumbers_8 ?_
  refine lv_istore (lv' := [(4, .int (nI (q_nl (kd k) (sz k)))), (3, .ref (T0 + 3 * k + 1)), (1, .long 0), (0, .ref (T0 + 3 * k))]) hx hb dX1_sumOfNumbers_9 hl (by decide) rfl (fun ls hl => ?_)
  refine lv_iconst (v := nI 0) hx hb dX1_sumOfNumbers_11 (by decide) ?_
  refine lv_istore (lv' := [(5, .int (nI 0)), (4, .int (nI (q_nl (kd k) (sz k)))), (3, .ref (T0 + 3 * k + 1)), (1, .long 0), (0, .ref (T0 + 3 * k))]) hx hb dX1_sumOfNumbers_12 hl (by decide) rfl (fun ls hl => ?_)
  obtain ⟨i, ei⟩ : ∃ i : Nat, i = 0 := ⟨_, rfl⟩
  have hl : lv_has ls 8 [(0, .ref (T0 + 3 * k)), (1, .long (q_sm (nu k) i)), (3, .ref (T0 + 3 * k + 1)), (4, .int (nI (q_nl (kd k) (sz k)))), (5, .int (nI i))] := by subst ei; exact lv_sub hl [4, 3, 2, 1, 0] rfl
  generalize els : ls = lz at hl ⊢
  clear els
  obtain ⟨d, hd⟩ : ∃ d, i + d = q_nl (kd k) (sz k) := ⟨q_nl (kd k) (sz k) - i, by omega⟩
  clear ei
  induction d generalizing i lz with
  | zero =>
    refine lv_iload hx hb dX1_sumOfNumbers_14 (lv_at hl 4 rfl) ?_
    refine lv_iload hx hb dX1_sumOfNumbers_16 (lv_at hl 3 rfl) ?_
    refine ln_cmp_ge (tgt := 38) hx hb (by omega) (by omega) dX1_sumOfNumbers_18 (by decide) (fun _ => ?_) (fun c_1 => absurd c_1 (by omega))
    refine lv_lload_n hx hb dX1_sumOfNumbers_38 rfl (lv_at hl 1 rfl) ?_
    exact W.lret (v := q_sm (nu k) i) hx hb hr (fun t ht hW => ⟨_, rfl, (by unfold q_num; rw [← hd]; rfl), ht⟩) (fun _ h => absurd h List.not_mem_nil) dX1_sumOfNumbers_39
  | succ d ih =>
    refine lv_iload hx hb dX1_sumOfNumbers_14 (lv_at hl 4 rfl) ?_
    refine lv_iload hx hb dX1_sumOfNumbers_16 (lv_at hl 3 rfl) ?_
    refine ln_cmp_ge (tgt := 38) hx hb (by omega) (by omega) dX1_sumOfNumbers_18 (by decide) (fun c_2 => absurd c_2 (by omega)) (fun _ => ?_)
    refine lv_aload_n hx hb dX1_sumOfNumbers_21 rfl (lv_at hl 2 rfl) ?_
    refine lv_iload hx hb dX1_sumOfNumbers_22 (lv_at hl 4 rfl) ?_
    refine qw_lald (n := q_nl (kd k) (sz k)) (f := nu k) hx hb hK (hX.2.2.1 k hk).2.1 (by omega) (by omega) dX1_sumOfNumbers_24 ?_
    refine lv_lstore (lv' := [(6, .long (nu k i)), (0, .ref (T0 + 3 * k)), (1, .long (q_sm (nu k) i)), (3, .ref (T0 + 3 * k + 1)), (4, .int (nI (q_nl (kd k) (sz k)))), (5, .int (nI i))]) hx hb dX1_sumOfNumbers_25 hl (by decide) rfl (fun ls hl => ?_)
    refine lv_lload_n hx hb dX1_sumOfNumbers_27 rfl (lv_at hl 2 rfl) ?_
    refine lv_lload hx hb dX1_sumOfNumbers_28 (lv_at hl 0 rfl) ?_
    refine lv_ladd hx hb dX1_sumOfNumbers_30 ?_
    refine lv_lstore_n (lv' := [(1, .long ((q_sm (nu k) i) + (nu k i))), (6, .long (nu k i)), (0, .ref (T0 + 3 * k)), (3, .ref (T0 + 3 * k + 1)), (4, .int (nI (q_nl (kd k) (sz k)))), (5, .int (nI i))]) hx hb dX1_sumOfNumbers_31 rfl hl (by decide) rfl (fun ls hl => ?_)
    refine lv_iinc (v := nI (i + 1)) (lv' := [(5, .int (nI (i + 1))), (1, .long ((q_sm (nu k) i) + (nu k i))), (6, .long (nu k i)), (0, .ref (T0 + 3 * k)), (3, .ref (T0 + 3 * k + 1)), (4, .int (nI (q_nl (kd k) (sz k))))]) hx hb dX1_sumOfNumbers_32 hl (k := 5) rfl (nI_1 _) (by decide) rfl (fun ls hl => ?_)
    refine lv_goto (tgt := 14) hx hb dX1_sumOfNumbers_35 (by decide) ?_
    exact ih (i + 1) ls (lv_sub hl [3, 1, 4, 5, 0] rfl)  (by omega) 
set_option maxRecDepth 20000 in
theorem nX1_toldByLoads_0 : ∀ w ∈ u_ws RX0 TX0 6, w ∈ wsX1_toldByLoads := by decide +kernel
set_option maxHeartbeats 4000000 in
set_option maxRecDepth 100000 in
theorem kX1_toldByLoads_t (l : Launch) (E : q_E) (x T0 : Nat) (n : Nat) (kd sz : Nat → Nat) (sh : Nat → Bool) (nu : Nat → Nat → Int64) (pa : Nat → Nat → Option Nat) (sl : Nat → Option Nat) (ft tn ts tg : Int32) (hI : q_I (n, kd, sz, sh, nu, pa, sl, ft, tn, ts, tg)) (k : Nat) (hk : k < n) (hkk : 4 ≤ kd k ∧ kd k ≤ 6)  : Met l yX1_toldByLoads wsX1_toldByLoads ({ frames := 2, cells := 0, slots := 0, locals := 41 }) (q_P E (q_X E x T0 (n, kd, sz, sh, nu, pa, sl, ft, tn, ts, tg)) [.ref (T0 + 3 * k), .int (nI 10)]) (vp_Sl (fun rr => rr = lN (q_ins kd sz sh pa true k))) 0 0 (fun _ => False) := by
  refine Met.ofW (cc := cX1_toldByLoads) (maxL := 8) (ret := (some .long)) (by decide) rfl ?_
  intro p e s m args below meth c s₁ B hml hv
  obtain ⟨rfl, hK, hX⟩ := hv
  have hx := B.exec
  have hb := B.bytes
  have hr := B.returns
  have hts := atoms_spec (ws := wsX1_toldByLoads) B.pre
  have hown : s.vm.findClass RX1 = some m.cls := findClass_of_methodNamed B.named
  have hlocks := B.notSynchronized
  have hl := lv_entry ([.ref (T0 + 3 * k), .int (nI 10)]) (n := 8) (Nat.le_of_ble_eq_true rfl)
  rw [lg_entry_eq]
  generalize (lg_sl ([.ref (T0 + 3 * k), .int (nI 10)]) ++ List.replicate (8 - (lg_sl ([.ref (T0 + 3 * k), .int (nI 10)])).length) Slot.unset).toArray = ls at hl ⊢
  have hl : lv_has ls 8 [(0, .ref (T0 + 3 * k)), (1, .int (nI 10))] := hl
  obtain ⟨ak, bk, dk, wk⟩ := hI.2.1 k hk
  have n60 := hI.1
  try dsimp only at ak bk dk wk n60
  have hpl := q_pl_le (kd k) (sz k)
  refine lv_lconst (v := 0) hx hb dX1_toldByLoads_0 (by decide) ?_
  refine lv_lstore_n (lv' := [(2, .long 0), (0, .ref (T0 + 3 * k)), (1, .int (nI 10))]) hx hb dX1_toldByLoads_1 rfl hl (by decide) rfl (fun ls hl => ?_)
  refine lv_aload_n hx hb dX1_toldByLoads_2 rfl (lv_at hl 1 rfl) ?_
  refine qw_get (v := .ref (T0 + 3 * k + 2)) (ci := 0) (C := RX0) (T := TX0) (N := 6) hx hb hts nX1_toldByLoads_0 hown hK (hX.2.2.1 k hk).1 rfl 3 (by decide) (hts (.fieldLink RX1 96 "DockGates$Thing" "parts" "[LDockGates$Thing;") (by decide +kernel)) rfl rfl dX1_toldByLoads_3 ?_
  refine lv_astore (lv' := [(4, .ref (T0 + 3 * k + 2)), (2, .long 0), (0, .ref (T0 + 3 * k)), (1, .int (nI 10))]) hx hb dX1_toldByLoads_6 hl (by decide) rfl (fun ls hl => ?_)
  refine lv_aload hx hb dX1_toldByLoads_8 (lv_at hl 0 rfl) ?_
  refine qw_tlen (n := q_pl (kd k) (sz k)) hx hb hK (hX.2.2.1 k hk).2.2 dX1_toldByLoads_10 ?_
  refine lv_istore (lv' := [(5, .int (nI (q_pl (kd k) (sz k)))), (4, .ref (T0 + 3 * k + 2)), (2, .long 0), (0, .ref (T0 + 3 * k)), (1, .int (nI 10))]) hx hb dX1_toldByLoads_11 hl (by decide) rfl (fun ls hl => ?_)
  refine lv_iconst (v := nI 0) hx hb dX1_toldByLoads_13 (by decide) ?_
  refine lv_istore (lv' := [(6, .int (nI 0)), (5, .int (nI (q_pl (kd k) (sz k)))), (4, .ref (T0 + 3 * k + 2)), (2, .long 0), (0, .ref (T0 + 3 * k)), (1, .int (nI 10))]) hx hb dX1_toldByLoads_14 hl (by decide) rfl (fun ls hl => ?_)
  obtain ⟨i, ei⟩ : ∃ i : Nat, i = 0 := ⟨_, rfl⟩
  have hl : lv_has ls 8 [(0, .ref (T0 + 3 * k)), (1, .int (nI 10)), (2, .long (lN (q_su (q_ld kd sz sh true) (pa k) i))), (4, .ref (T0 + 3 * k + 2)), (5, .int (nI (q_pl (kd k) (sz k)))), (6, .int (nI i))] := by subst ei; exact lv_sub hl [4, 5, 3, 2, 1, 0] rfl
  generalize els : ls = lz at hl ⊢
  clear els
  obtain ⟨d, hd⟩ : ∃ d, i + d = q_pl (kd k) (sz k) := ⟨q_pl (kd k) (sz k) - i, by omega⟩
  clear ei
  induction d generalizing i lz with
  | zero =>
    refine lv_iload hx hb dX1_toldByLoads_16 (lv_at hl 5 rfl) ?_
    refine lv_iload hx hb dX1_toldByLoads_18 (lv_at hl 4 rfl) ?_
    refine ln_cmp_ge (tgt := 51) hx hb (by omega) (by omega) dX1_toldByLoads_20 (by decide) (fun _ => ?_) (fun c_1 => absurd c_1 (by omega))
    refine lv_lload_n hx hb dX1_toldByLoads_51 rfl (lv_at hl 2 rfl) ?_
    exact W.lret (v := lN (q_su (q_ld kd sz sh true) (pa k) i)) hx hb hr (fun t ht hW => ⟨_, rfl, (by unfold q_ins; rw [← hd]; rfl), ht⟩) (fun _ h => absurd h List.not_mem_nil) dX1_toldByLoads_52
  | succ d ih =>
    refine lv_iload hx hb dX1_toldByLoads_16 (lv_at hl 5 rfl) ?_
    refine lv_iload hx hb dX1_toldByLoads_18 (lv_at hl 4 rfl) ?_
    refine ln_cmp_ge (tgt := 51) hx hb (by omega) (by omega) dX1_toldByLoads_20 (by decide) (fun c_2 => absurd c_2 (by omega)) (fun _ => ?_)
    refine lv_aload hx hb dX1_toldByLoads_23 (lv_at hl 3 rfl) ?_
    refine lv_iload hx hb dX1_toldByLoads_25 (lv_at hl 5 rfl) ?_
    refine qx_part hx hb hK hX hI hk (show i < q_pl (kd k) (sz k) by omega) dX1_toldByLoads_27 (fun s_3 => ?_) (fun j_3 hj_3 oj_3 s_3 => ?_)
    · try dsimp only at s_3
      refine lv_astoreN (lv' := [(7, .null), (0, .ref (T0 + 3 * k)), (1, .int (nI 10)), (2, .long (lN (q_su (q_ld kd sz sh true) (pa k) i))), (4, .ref (T0 + 3 * k + 2)), (5, .int (nI (q_pl (kd k) (sz k)))), (6, .int (nI i))]) hx hb dX1_toldByLoads_28 hl (by decide) rfl (fun ls hl => ?_)
      refine lv_aloadN hx hb dX1_toldByLoads_30 (lv_at hl 0 rfl) ?_
      refine lv_ifnullN (tgt := 45) hx hb dX1_toldByLoads_32 (by decide) ?_
      refine lv_iinc (v := nI (i + 1)) (lv' := [(6, .int (nI (i + 1))), (7, .null), (0, .ref (T0 + 3 * k)), (1, .int (nI 10)), (2, .long (lN (q_su (q_ld kd sz sh true) (pa k) i))), (4, .ref (T0 + 3 * k + 2)), (5, .int (nI (q_pl (kd k) (sz k))))]) hx hb dX1_toldByLoads_45 hl (k := 6) rfl (nI_1 _) (by decide) rfl (fun ls hl => ?_)
      refine lv_goto (tgt := 16) hx hb dX1_toldByLoads_48 (by decide) ?_
      exact ih (i + 1) ls (by rw [q_su_n s_3]; exact lv_sub hl [2, 3, 4, 5, 6, 0] rfl)  (by omega) 
    · try dsimp only at s_3 hj_3 oj_3
      unfold q_ok at oj_3
      obtain ⟨aj_3, bj_3, dj_3, wj_3⟩ := hI.2.1 j_3 hj_3
      have n60 := hI.1
      try dsimp only at aj_3 bj_3 dj_3 wj_3 n60
      refine lv_astore (lv' := [(7, .ref (T0 + 3 * j_3)), (0, .ref (T0 + 3 * k)), (1, .int (nI 10)), (2, .long (lN (q_su (q_ld kd sz sh true) (pa k) i))), (4, .ref (T0 + 3 * k + 2)), (5, .int (nI (q_pl (kd k) (sz k)))), (6, .int (nI i))]) hx hb dX1_toldByLoads_28 hl (by decide) rfl (fun ls hl => ?_)
      refine lv_aload hx hb dX1_toldByLoads_30 (lv_at hl 0 rfl) ?_
      refine lv_ifnull hx hb dX1_toldByLoads_32 ?_
      refine lv_lload_n hx hb dX1_toldByLoads_35 rfl (lv_at hl 3 rfl) ?_
      refine lv_aload hx hb dX1_toldByLoads_36 (lv_at hl 0 rfl) ?_
      refine lv_iload_n hx hb dX1_toldByLoads_38 rfl (lv_at hl 2 rfl) ?_
      refine qc_ri (r1 := nI (if sh j_3 then 1 else 0)) (W.runS (As := [.ref (T0 + 3 * j_3), .int (nI 10)]) (rest := [.long (lN (q_su (q_ld kd sz sh true) (pa k) i))]) ⟨hx, hb, hml, hown, hts⟩ (kX1_toldByLoad_T l E x T0 n kd sz sh nu pa sl ft tn ts tg hI j_3 hj_3) (va_cwS 2 hts gX1_toldByLoads_X1_toldByLoad rfl rfl rfl (by decide +kernel) ⟨Nat.le_of_ble_eq_true rfl, Nat.le_of_ble_eq_true rfl⟩) (q_pre hK hX) rfl rfl hl.1 rfl (lv_room (Nat.le_of_ble_eq_true rfl)) dX1_toldByLoads_39 ⟨Nat.le_of_ble_eq_true rfl, Nat.le_of_ble_eq_true rfl⟩) rfl ?_
      have ij_3 : (if sh j_3 then 1 else 0) ≤ 1 := by split <;> omega
      refine lv_i2l (v := lN (if sh j_3 then 1 else 0)) hx hb dX1_toldByLoads_42 (nI_l (by first | omega | (simp; omega))) ?_
      refine ln_ladd hx hb dX1_toldByLoads_43 ?_
      refine lv_lstore_n (lv' := [(2, .long (lN ((q_su (q_ld kd sz sh true) (pa k) i) + (if sh j_3 then 1 else 0)))), (7, .ref (T0 + 3 * j_3)), (0, .ref (T0 + 3 * k)), (1, .int (nI 10)), (4, .ref (T0 + 3 * k + 2)), (5, .int (nI (q_pl (kd k) (sz k)))), (6, .int (nI i))]) hx hb dX1_toldByLoads_44 rfl hl (by decide) rfl (fun ls hl => ?_)
      refine lv_iinc (v := nI (i + 1)) (lv' := [(6, .int (nI (i + 1))), (2, .long (lN ((q_su (q_ld kd sz sh true) (pa k) i) + (if sh j_3 then 1 else 0)))), (7, .ref (T0 + 3 * j_3)), (0, .ref (T0 + 3 * k)), (1, .int (nI 10)), (4, .ref (T0 + 3 * k + 2)), (5, .int (nI (q_pl (kd k) (sz k))))]) hx hb dX1_toldByLoads_45 hl (k := 6) rfl (nI_1 _) (by decide) rfl (fun ls hl => ?_)
      refine lv_goto (tgt := 16) hx hb dX1_toldByLoads_48 (by decide) ?_
      exact ih (i + 1) ls (by rw [q_su_s s_3]; exact lv_sub hl [3, 4, 1, 5, 6, 0] rfl)  (by omega) 
set_option maxHeartbeats 4000000 in
set_option maxRecDepth 100000 in
theorem kX1_toldByLoads_f (l : Launch) (E : q_E) (x T0 : Nat) (n : Nat) (kd sz : Nat → Nat) (sh : Nat → Bool) (nu : Nat → Nat → Int64) (pa : Nat → Nat → Option Nat) (sl : Nat → Option Nat) (ft tn ts tg : Int32) (hI : q_I (n, kd, sz, sh, nu, pa, sl, ft, tn, ts, tg)) (k : Nat) (hk : k < n) (hkk : 4 ≤ kd k ∧ kd k ≤ 6)  : Met l yX1_toldByLoads wsX1_toldByLoads ({ frames := 2, cells := 0, slots := 0, locals := 41 }) (q_P E (q_X E x T0 (n, kd, sz, sh, nu, pa, sl, ft, tn, ts, tg)) [.ref (T0 + 3 * k), .int (nI 12)]) (vp_Sl (fun rr => rr = lN (q_ins kd sz sh pa false k))) 0 0 (fun _ => False) := by
  refine Met.ofW (cc := cX1_toldByLoads) (maxL := 8) (ret := (some .long)) (by decide) rfl ?_
  intro p e s m args below meth c s₁ B hml hv
  obtain ⟨rfl, hK, hX⟩ := hv
  have hx := B.exec
  have hb := B.bytes
  have hr := B.returns
  have hts := atoms_spec (ws := wsX1_toldByLoads) B.pre
  have hown : s.vm.findClass RX1 = some m.cls := findClass_of_methodNamed B.named
  have hlocks := B.notSynchronized
  have hl := lv_entry ([.ref (T0 + 3 * k), .int (nI 12)]) (n := 8) (Nat.le_of_ble_eq_true rfl)
  rw [lg_entry_eq]
  generalize (lg_sl ([.ref (T0 + 3 * k), .int (nI 12)]) ++ List.replicate (8 - (lg_sl ([.ref (T0 + 3 * k), .int (nI 12)])).length) Slot.unset).toArray = ls at hl ⊢
  have hl : lv_has ls 8 [(0, .ref (T0 + 3 * k)), (1, .int (nI 12))] := hl
  obtain ⟨ak, bk, dk, wk⟩ := hI.2.1 k hk
  have n60 := hI.1
  try dsimp only at ak bk dk wk n60
  have hpl := q_pl_le (kd k) (sz k)
  refine lv_lconst (v := 0) hx hb dX1_toldByLoads_0 (by decide) ?_
  refine lv_lstore_n (lv' := [(2, .long 0), (0, .ref (T0 + 3 * k)), (1, .int (nI 12))]) hx hb dX1_toldByLoads_1 rfl hl (by decide) rfl (fun ls hl => ?_)
  refine lv_aload_n hx hb dX1_toldByLoads_2 rfl (lv_at hl 1 rfl) ?_
  refine qw_get (v := .ref (T0 + 3 * k + 2)) (ci := 0) (C := RX0) (T := TX0) (N := 6) hx hb hts nX1_toldByLoads_0 hown hK (hX.2.2.1 k hk).1 rfl 3 (by decide) (hts (.fieldLink RX1 96 "DockGates$Thing" "parts" "[LDockGates$Thing;") (by decide +kernel)) rfl rfl dX1_toldByLoads_3 ?_
  refine lv_astore (lv' := [(4, .ref (T0 + 3 * k + 2)), (2, .long 0), (0, .ref (T0 + 3 * k)), (1, .int (nI 12))]) hx hb dX1_toldByLoads_6 hl (by decide) rfl (fun ls hl => ?_)
  refine lv_aload hx hb dX1_toldByLoads_8 (lv_at hl 0 rfl) ?_
  refine qw_tlen (n := q_pl (kd k) (sz k)) hx hb hK (hX.2.2.1 k hk).2.2 dX1_toldByLoads_10 ?_
  refine lv_istore (lv' := [(5, .int (nI (q_pl (kd k) (sz k)))), (4, .ref (T0 + 3 * k + 2)), (2, .long 0), (0, .ref (T0 + 3 * k)), (1, .int (nI 12))]) hx hb dX1_toldByLoads_11 hl (by decide) rfl (fun ls hl => ?_)
  refine lv_iconst (v := nI 0) hx hb dX1_toldByLoads_13 (by decide) ?_
  refine lv_istore (lv' := [(6, .int (nI 0)), (5, .int (nI (q_pl (kd k) (sz k)))), (4, .ref (T0 + 3 * k + 2)), (2, .long 0), (0, .ref (T0 + 3 * k)), (1, .int (nI 12))]) hx hb dX1_toldByLoads_14 hl (by decide) rfl (fun ls hl => ?_)
  obtain ⟨i, ei⟩ : ∃ i : Nat, i = 0 := ⟨_, rfl⟩
  have hl : lv_has ls 8 [(0, .ref (T0 + 3 * k)), (1, .int (nI 12)), (2, .long (lN (q_su (q_ld kd sz sh false) (pa k) i))), (4, .ref (T0 + 3 * k + 2)), (5, .int (nI (q_pl (kd k) (sz k)))), (6, .int (nI i))] := by subst ei; exact lv_sub hl [4, 5, 3, 2, 1, 0] rfl
  generalize els : ls = lz at hl ⊢
  clear els
  obtain ⟨d, hd⟩ : ∃ d, i + d = q_pl (kd k) (sz k) := ⟨q_pl (kd k) (sz k) - i, by omega⟩
  clear ei
  induction d generalizing i lz with
  | zero =>
    refine lv_iload hx hb dX1_toldByLoads_16 (lv_at hl 5 rfl) ?_
    refine lv_iload hx hb dX1_toldByLoads_18 (lv_at hl 4 rfl) ?_
    refine ln_cmp_ge (tgt := 51) hx hb (by omega) (by omega) dX1_toldByLoads_20 (by decide) (fun _ => ?_) (fun c_1 => absurd c_1 (by omega))
    refine lv_lload_n hx hb dX1_toldByLoads_51 rfl (lv_at hl 2 rfl) ?_
    exact W.lret (v := lN (q_su (q_ld kd sz sh false) (pa k) i)) hx hb hr (fun t ht hW => ⟨_, rfl, (by unfold q_ins; rw [← hd]; rfl), ht⟩) (fun _ h => absurd h List.not_mem_nil) dX1_toldByLoads_52
  | succ d ih =>
    refine lv_iload hx hb dX1_toldByLoads_16 (lv_at hl 5 rfl) ?_
    refine lv_iload hx hb dX1_toldByLoads_18 (lv_at hl 4 rfl) ?_
    refine ln_cmp_ge (tgt := 51) hx hb (by omega) (by omega) dX1_toldByLoads_20 (by decide) (fun c_2 => absurd c_2 (by omega)) (fun _ => ?_)
    refine lv_aload hx hb dX1_toldByLoads_23 (lv_at hl 3 rfl) ?_
    refine lv_iload hx hb dX1_toldByLoads_25 (lv_at hl 5 rfl) ?_
    refine qx_part hx hb hK hX hI hk (show i < q_pl (kd k) (sz k) by omega) dX1_toldByLoads_27 (fun s_3 => ?_) (fun j_3 hj_3 oj_3 s_3 => ?_)
    · try dsimp only at s_3
      refine lv_astoreN (lv' := [(7, .null), (0, .ref (T0 + 3 * k)), (1, .int (nI 12)), (2, .long (lN (q_su (q_ld kd sz sh false) (pa k) i))), (4, .ref (T0 + 3 * k + 2)), (5, .int (nI (q_pl (kd k) (sz k)))), (6, .int (nI i))]) hx hb dX1_toldByLoads_28 hl (by decide) rfl (fun ls hl => ?_)
      refine lv_aloadN hx hb dX1_toldByLoads_30 (lv_at hl 0 rfl) ?_
      refine lv_ifnullN (tgt := 45) hx hb dX1_toldByLoads_32 (by decide) ?_
      refine lv_iinc (v := nI (i + 1)) (lv' := [(6, .int (nI (i + 1))), (7, .null), (0, .ref (T0 + 3 * k)), (1, .int (nI 12)), (2, .long (lN (q_su (q_ld kd sz sh false) (pa k) i))), (4, .ref (T0 + 3 * k + 2)), (5, .int (nI (q_pl (kd k) (sz k))))]) hx hb dX1_toldByLoads_45 hl (k := 6) rfl (nI_1 _) (by decide) rfl (fun ls hl => ?_)
      refine lv_goto (tgt := 16) hx hb dX1_toldByLoads_48 (by decide) ?_
      exact ih (i + 1) ls (by rw [q_su_n s_3]; exact lv_sub hl [2, 3, 4, 5, 6, 0] rfl)  (by omega) 
    · try dsimp only at s_3 hj_3 oj_3
      unfold q_ok at oj_3
      obtain ⟨aj_3, bj_3, dj_3, wj_3⟩ := hI.2.1 j_3 hj_3
      have n60 := hI.1
      try dsimp only at aj_3 bj_3 dj_3 wj_3 n60
      refine lv_astore (lv' := [(7, .ref (T0 + 3 * j_3)), (0, .ref (T0 + 3 * k)), (1, .int (nI 12)), (2, .long (lN (q_su (q_ld kd sz sh false) (pa k) i))), (4, .ref (T0 + 3 * k + 2)), (5, .int (nI (q_pl (kd k) (sz k)))), (6, .int (nI i))]) hx hb dX1_toldByLoads_28 hl (by decide) rfl (fun ls hl => ?_)
      refine lv_aload hx hb dX1_toldByLoads_30 (lv_at hl 0 rfl) ?_
      refine lv_ifnull hx hb dX1_toldByLoads_32 ?_
      refine lv_lload_n hx hb dX1_toldByLoads_35 rfl (lv_at hl 3 rfl) ?_
      refine lv_aload hx hb dX1_toldByLoads_36 (lv_at hl 0 rfl) ?_
      refine lv_iload_n hx hb dX1_toldByLoads_38 rfl (lv_at hl 2 rfl) ?_
      refine qc_ri (r1 := nI (q_w kd sz sh j_3)) (W.runS (As := [.ref (T0 + 3 * j_3), .int (nI 12)]) (rest := [.long (lN (q_su (q_ld kd sz sh false) (pa k) i))]) ⟨hx, hb, hml, hown, hts⟩ (kX1_toldByLoad_W l E x T0 n kd sz sh nu pa sl ft tn ts tg hI j_3 hj_3 (by omega)) (va_cwS 2 hts gX1_toldByLoads_X1_toldByLoad rfl rfl rfl (by decide +kernel) ⟨Nat.le_of_ble_eq_true rfl, Nat.le_of_ble_eq_true rfl⟩) (q_pre hK hX) rfl rfl hl.1 rfl (lv_room (Nat.le_of_ble_eq_true rfl)) dX1_toldByLoads_39 ⟨Nat.le_of_ble_eq_true rfl, Nat.le_of_ble_eq_true rfl⟩) rfl ?_
      have ij_3 := q_w_le (kd := kd) (sh := sh) bj_3
      refine lv_i2l (v := lN (q_w kd sz sh j_3)) hx hb dX1_toldByLoads_42 (nI_l (by first | omega | (simp; omega))) ?_
      refine ln_ladd hx hb dX1_toldByLoads_43 ?_
      refine lv_lstore_n (lv' := [(2, .long (lN ((q_su (q_ld kd sz sh false) (pa k) i) + (q_w kd sz sh j_3)))), (7, .ref (T0 + 3 * j_3)), (0, .ref (T0 + 3 * k)), (1, .int (nI 12)), (4, .ref (T0 + 3 * k + 2)), (5, .int (nI (q_pl (kd k) (sz k)))), (6, .int (nI i))]) hx hb dX1_toldByLoads_44 rfl hl (by decide) rfl (fun ls hl => ?_)
      refine lv_iinc (v := nI (i + 1)) (lv' := [(6, .int (nI (i + 1))), (2, .long (lN ((q_su (q_ld kd sz sh false) (pa k) i) + (q_w kd sz sh j_3)))), (7, .ref (T0 + 3 * j_3)), (0, .ref (T0 + 3 * k)), (1, .int (nI 12)), (4, .ref (T0 + 3 * k + 2)), (5, .int (nI (q_pl (kd k) (sz k))))]) hx hb dX1_toldByLoads_45 hl (k := 6) rfl (nI_1 _) (by decide) rfl (fun ls hl => ?_)
      refine lv_goto (tgt := 16) hx hb dX1_toldByLoads_48 (by decide) ?_
      exact ih (i + 1) ls (by rw [q_su_s s_3]; exact lv_sub hl [3, 4, 1, 5, 6, 0] rfl)  (by omega) 
set_option maxHeartbeats 4000000 in
set_option maxRecDepth 100000 in
theorem kX1_toldByRow (l : Launch) (E : q_E) (x T0 : Nat) (n : Nat) (kd sz : Nat → Nat) (sh : Nat → Bool) (nu : Nat → Nat → Int64) (pa : Nat → Nat → Option Nat) (sl : Nat → Option Nat) (ft tn ts tg : Int32) (hI : q_I (n, kd, sz, sh, nu, pa, sl, ft, tn, ts, tg)) (k g : Nat) (hk : k < n) (hg : g < 13) (hh : g < 3 ∨ (4 ≤ kd k ∧ kd k ≤ 6))  : Met l yX1_toldByRow wsX1_toldByRow ({ frames := 3, cells := 0, slots := 0, locals := 68 }) (q_P E (q_X E x T0 (n, kd, sz, sh, nu, pa, sl, ft, tn, ts, tg)) [.ref (T0 + 3 * k), .int (nI g)]) (vp_Sl (fun rr => rr = q_row kd sz sh nu pa k g)) 0 0 (fun _ => False) := by
  refine Met.ofW (cc := cX1_toldByRow) (maxL := 2) (ret := (some .long)) (by decide) rfl ?_
  intro p e s m args below meth c s₁ B hml hv
  obtain ⟨rfl, hK, hX⟩ := hv
  have hx := B.exec
  have hb := B.bytes
  have hr := B.returns
  have hts := atoms_spec (ws := wsX1_toldByRow) B.pre
  have hown : s.vm.findClass RX1 = some m.cls := findClass_of_methodNamed B.named
  have hlocks := B.notSynchronized
  have hl := lv_entry ([.ref (T0 + 3 * k), .int (nI g)]) (n := 2) (Nat.le_of_ble_eq_true rfl)
  rw [lg_entry_eq]
  generalize (lg_sl ([.ref (T0 + 3 * k), .int (nI g)]) ++ List.replicate (2 - (lg_sl ([.ref (T0 + 3 * k), .int (nI g)])).length) Slot.unset).toArray = ls at hl ⊢
  have hl : lv_has ls 2 [(0, .ref (T0 + 3 * k)), (1, .int (nI g))] := hl
  obtain ⟨ak, bk, dk, wk⟩ := hI.2.1 k hk
  have n60 := hI.1
  try dsimp only at ak bk dk wk n60
  refine lv_iload_n hx hb dX1_toldByRow_0 rfl (lv_at hl 1 rfl) ?_
  have c_1 : g = 0 ∨ g = 1 ∨ g = 2 ∨ g = 5 ∨ (¬ g = 0 ∧ ¬ g = 1 ∧ ¬ g = 2 ∧ ¬ g = 5) := by omega
  rcases c_1 with c_1 | c_1 | c_1 | c_1 | c_1
  · refine q_tIn (v := 0) (tgt := 40) (off := 39) hx hb c_1 dX1_toldByRow_1 (by decide) (by decide) (by decide) (by decide) ?_
    refine lv_aload_n hx hb dX1_toldByRow_40 rfl (lv_at hl 0 rfl) ?_
    refine qc_rl (r1 := q_num kd sz nu k) (W.runS (As := [.ref (T0 + 3 * k)]) (rest := []) ⟨hx, hb, hml, hown, hts⟩ (kX1_sumOfNumbers l E x T0 n kd sz sh nu pa sl ft tn ts tg hI k hk) (va_cwS 1 hts gX1_toldByRow_X1_sumOfNumbers rfl rfl rfl (by decide +kernel) ⟨Nat.le_of_ble_eq_true rfl, Nat.le_of_ble_eq_true rfl⟩) (q_pre hK hX) rfl rfl hl.1 rfl (lv_room (Nat.le_of_ble_eq_true rfl)) dX1_toldByRow_41 ⟨Nat.le_of_ble_eq_true rfl, Nat.le_of_ble_eq_true rfl⟩) rfl ?_
    refine lv_l2i hx hb dX1_toldByRow_44 rfl ?_
    refine lv_i2l hx hb dX1_toldByRow_45 rfl ?_
    exact W.lret (v := Int32.toInt64 ((Int64.toInt32 (q_num kd sz nu k)))) hx hb hr (fun t ht hW => ⟨_, rfl, (by subst c_1; rfl), ht⟩) (fun _ h => absurd h List.not_mem_nil) dX1_toldByRow_46
  · refine q_tIn (v := 1) (tgt := 40) (off := 39) hx hb c_1 dX1_toldByRow_1 (by decide) (by decide) (by decide) (by decide) ?_
    refine lv_aload_n hx hb dX1_toldByRow_40 rfl (lv_at hl 0 rfl) ?_
    refine qc_rl (r1 := q_num kd sz nu k) (W.runS (As := [.ref (T0 + 3 * k)]) (rest := []) ⟨hx, hb, hml, hown, hts⟩ (kX1_sumOfNumbers l E x T0 n kd sz sh nu pa sl ft tn ts tg hI k hk) (va_cwS 1 hts gX1_toldByRow_X1_sumOfNumbers rfl rfl rfl (by decide +kernel) ⟨Nat.le_of_ble_eq_true rfl, Nat.le_of_ble_eq_true rfl⟩) (q_pre hK hX) rfl rfl hl.1 rfl (lv_room (Nat.le_of_ble_eq_true rfl)) dX1_toldByRow_41 ⟨Nat.le_of_ble_eq_true rfl, Nat.le_of_ble_eq_true rfl⟩) rfl ?_
    refine lv_l2i hx hb dX1_toldByRow_44 rfl ?_
    refine lv_i2l hx hb dX1_toldByRow_45 rfl ?_
    exact W.lret (v := Int32.toInt64 ((Int64.toInt32 (q_num kd sz nu k)))) hx hb hr (fun t ht hW => ⟨_, rfl, (by subst c_1; rfl), ht⟩) (fun _ h => absurd h List.not_mem_nil) dX1_toldByRow_46
  · refine q_tIn (v := 2) (tgt := 47) (off := 46) hx hb c_1 dX1_toldByRow_1 (by decide) (by decide) (by decide) (by decide) ?_
    refine lv_aload_n hx hb dX1_toldByRow_47 rfl (lv_at hl 0 rfl) ?_
    refine qc_rl (r1 := q_num kd sz nu k) (W.runS (As := [.ref (T0 + 3 * k)]) (rest := []) ⟨hx, hb, hml, hown, hts⟩ (kX1_sumOfNumbers l E x T0 n kd sz sh nu pa sl ft tn ts tg hI k hk) (va_cwS 1 hts gX1_toldByRow_X1_sumOfNumbers rfl rfl rfl (by decide +kernel) ⟨Nat.le_of_ble_eq_true rfl, Nat.le_of_ble_eq_true rfl⟩) (q_pre hK hX) rfl rfl hl.1 rfl (lv_room (Nat.le_of_ble_eq_true rfl)) dX1_toldByRow_48 ⟨Nat.le_of_ble_eq_true rfl, Nat.le_of_ble_eq_true rfl⟩) rfl ?_
    exact W.lret (v := q_num kd sz nu k) hx hb hr (fun t ht hW => ⟨_, rfl, (by subst c_1; rfl), ht⟩) (fun _ h => absurd h List.not_mem_nil) dX1_toldByRow_51
  · refine q_tIn (v := 5) (tgt := 52) (off := 51) hx hb c_1 dX1_toldByRow_1 (by decide) (by decide) (by decide) (by decide) ?_
    refine lv_aload_n hx hb dX1_toldByRow_52 rfl (lv_at hl 0 rfl) ?_
    refine lv_bipush (v := nI 10) hx hb dX1_toldByRow_53 (by decide) ?_
    refine qc_rl (r1 := lN (q_ins kd sz sh pa true k)) (W.runS (As := [.ref (T0 + 3 * k), .int (nI 10)]) (rest := []) ⟨hx, hb, hml, hown, hts⟩ (kX1_toldByLoads_t l E x T0 n kd sz sh nu pa sl ft tn ts tg hI k hk (by omega)) (va_cwS 2 hts gX1_toldByRow_X1_toldByLoads rfl rfl rfl (by decide +kernel) ⟨Nat.le_of_ble_eq_true rfl, Nat.le_of_ble_eq_true rfl⟩) (q_pre hK hX) rfl rfl hl.1 rfl (lv_room (Nat.le_of_ble_eq_true rfl)) dX1_toldByRow_55 ⟨Nat.le_of_ble_eq_true rfl, Nat.le_of_ble_eq_true rfl⟩) rfl ?_
    exact W.lret (v := lN (q_ins kd sz sh pa true k)) hx hb hr (fun t ht hW => ⟨_, rfl, (by subst c_1; rfl), ht⟩) (fun _ h => absurd h List.not_mem_nil) dX1_toldByRow_58
  · obtain ⟨c_1_0, c_1_1, c_1_2, c_1_5⟩ := c_1
    have c_2 : g = 3 ∨ g = 4 ∨ ((g : Int) < 0 ∨ 5 < (g : Int)) := by omega
    rcases c_2 with c_2 | c_2 | c_2
    · refine q_tIn (v := 3) (tgt := 59) (off := 58) hx hb c_2 dX1_toldByRow_1 (by decide) (by decide) (by decide) (by decide) ?_
      refine lv_aload_n hx hb dX1_toldByRow_59 rfl (lv_at hl 0 rfl) ?_
      refine lv_bipush (v := nI 12) hx hb dX1_toldByRow_60 (by decide) ?_
      refine qc_rl (r1 := lN (q_ins kd sz sh pa false k)) (W.runS (As := [.ref (T0 + 3 * k), .int (nI 12)]) (rest := []) ⟨hx, hb, hml, hown, hts⟩ (kX1_toldByLoads_f l E x T0 n kd sz sh nu pa sl ft tn ts tg hI k hk (by omega)) (va_cwS 2 hts gX1_toldByRow_X1_toldByLoads rfl rfl rfl (by decide +kernel) ⟨Nat.le_of_ble_eq_true rfl, Nat.le_of_ble_eq_true rfl⟩) (q_pre hK hX) rfl rfl hl.1 rfl (lv_room (Nat.le_of_ble_eq_true rfl)) dX1_toldByRow_62 ⟨Nat.le_of_ble_eq_true rfl, Nat.le_of_ble_eq_true rfl⟩) rfl ?_
      exact W.lret (v := lN (q_ins kd sz sh pa false k)) hx hb hr (fun t ht hW => ⟨_, rfl, (by subst c_2; rfl), ht⟩) (fun _ h => absurd h List.not_mem_nil) dX1_toldByRow_65
    · refine q_tIn (v := 4) (tgt := 59) (off := 58) hx hb c_2 dX1_toldByRow_1 (by decide) (by decide) (by decide) (by decide) ?_
      refine lv_aload_n hx hb dX1_toldByRow_59 rfl (lv_at hl 0 rfl) ?_
      refine lv_bipush (v := nI 12) hx hb dX1_toldByRow_60 (by decide) ?_
      refine qc_rl (r1 := lN (q_ins kd sz sh pa false k)) (W.runS (As := [.ref (T0 + 3 * k), .int (nI 12)]) (rest := []) ⟨hx, hb, hml, hown, hts⟩ (kX1_toldByLoads_f l E x T0 n kd sz sh nu pa sl ft tn ts tg hI k hk (by omega)) (va_cwS 2 hts gX1_toldByRow_X1_toldByLoads rfl rfl rfl (by decide +kernel) ⟨Nat.le_of_ble_eq_true rfl, Nat.le_of_ble_eq_true rfl⟩) (q_pre hK hX) rfl rfl hl.1 rfl (lv_room (Nat.le_of_ble_eq_true rfl)) dX1_toldByRow_62 ⟨Nat.le_of_ble_eq_true rfl, Nat.le_of_ble_eq_true rfl⟩) rfl ?_
      exact W.lret (v := lN (q_ins kd sz sh pa false k)) hx hb hr (fun t ht hW => ⟨_, rfl, (by subst c_2; rfl), ht⟩) (fun _ h => absurd h List.not_mem_nil) dX1_toldByRow_65
    · refine q_tOut (tgt := 59) hx hb (by omega) dX1_toldByRow_1 c_2 (by decide) ?_
      refine lv_aload_n hx hb dX1_toldByRow_59 rfl (lv_at hl 0 rfl) ?_
      refine lv_bipush (v := nI 12) hx hb dX1_toldByRow_60 (by decide) ?_
      refine qc_rl (r1 := lN (q_ins kd sz sh pa false k)) (W.runS (As := [.ref (T0 + 3 * k), .int (nI 12)]) (rest := []) ⟨hx, hb, hml, hown, hts⟩ (kX1_toldByLoads_f l E x T0 n kd sz sh nu pa sl ft tn ts tg hI k hk (by omega)) (va_cwS 2 hts gX1_toldByRow_X1_toldByLoads rfl rfl rfl (by decide +kernel) ⟨Nat.le_of_ble_eq_true rfl, Nat.le_of_ble_eq_true rfl⟩) (q_pre hK hX) rfl rfl hl.1 rfl (lv_room (Nat.le_of_ble_eq_true rfl)) dX1_toldByRow_62 ⟨Nat.le_of_ble_eq_true rfl, Nat.le_of_ble_eq_true rfl⟩) rfl ?_
      exact W.lret (v := lN (q_ins kd sz sh pa false k)) hx hb hr (fun t ht hW => ⟨_, rfl, (by unfold q_row; rw [if_neg (by omega), if_neg (by omega), if_neg (by omega)]), ht⟩) (fun _ h => absurd h List.not_mem_nil) dX1_toldByRow_65
set_option maxRecDepth 20000 in
theorem nX1_toldByRows_0 : ∀ w ∈ u_ws RX0 TX0 6, w ∈ wsX1_toldByRows := by decide +kernel
set_option maxHeartbeats 4000000 in
set_option maxRecDepth 100000 in
theorem kX1_toldByRows_g (l : Launch) (E : q_E) (x T0 : Nat) (n : Nat) (kd sz : Nat → Nat) (sh : Nat → Bool) (nu : Nat → Nat → Int64) (pa : Nat → Nat → Option Nat) (sl : Nat → Option Nat) (ft tn ts tg : Int32) (hI : q_I (n, kd, sz, sh, nu, pa, sl, ft, tn, ts, tg)) (k : Nat) (hk : k < n) (hkk : kd k = 3)  : Met l yX1_toldByRows wsX1_toldByRows ({ frames := 4, cells := 0, slots := 0, locals := 89 }) (q_P E (q_X E x T0 (n, kd, sz, sh, nu, pa, sl, ft, tn, ts, tg)) [.ref (T0 + 3 * k), .int (nI 0)]) (vp_Sl (fun rr => rr = q_g6 (fun j => Int32.toInt64 (Int64.toInt32 (q_num kd sz nu j))) (pa k) (q_pl (kd k) (sz k)))) 0 0 (fun _ => False) := by
  refine Met.ofW (cc := cX1_toldByRows) (maxL := 8) (ret := (some .long)) (by decide) rfl ?_
  intro p e s m args below meth c s₁ B hml hv
  obtain ⟨rfl, hK, hX⟩ := hv
  have hx := B.exec
  have hb := B.bytes
  have hr := B.returns
  have hts := atoms_spec (ws := wsX1_toldByRows) B.pre
  have hown : s.vm.findClass RX1 = some m.cls := findClass_of_methodNamed B.named
  have hlocks := B.notSynchronized
  have hl := lv_entry ([.ref (T0 + 3 * k), .int (nI 0)]) (n := 8) (Nat.le_of_ble_eq_true rfl)
  rw [lg_entry_eq]
  generalize (lg_sl ([.ref (T0 + 3 * k), .int (nI 0)]) ++ List.replicate (8 - (lg_sl ([.ref (T0 + 3 * k), .int (nI 0)])).length) Slot.unset).toArray = ls at hl ⊢
  have hl : lv_has ls 8 [(0, .ref (T0 + 3 * k)), (1, .int (nI 0))] := hl
  obtain ⟨ak, bk, dk, wk⟩ := hI.2.1 k hk
  have n60 := hI.1
  try dsimp only at ak bk dk wk n60
  have hpl := q_pl_le (kd k) (sz k)
  refine lv_lconst (v := 0) hx hb dX1_toldByRows_0 (by decide) ?_
  refine lv_lstore_n (lv' := [(2, .long 0), (0, .ref (T0 + 3 * k)), (1, .int (nI 0))]) hx hb dX1_toldByRows_1 rfl hl (by decide) rfl (fun ls hl => ?_)
  refine lv_aload_n hx hb dX1_toldByRows_2 rfl (lv_at hl 1 rfl) ?_
  refine qw_get (v := .ref (T0 + 3 * k + 2)) (ci := 0) (C := RX0) (T := TX0) (N := 6) hx hb hts nX1_toldByRows_0 hown hK (hX.2.2.1 k hk).1 rfl 3 (by decide) (hts (.fieldLink RX1 96 "DockGates$Thing" "parts" "[LDockGates$Thing;") (by decide +kernel)) rfl rfl dX1_toldByRows_3 ?_
  refine lv_astore (lv' := [(4, .ref (T0 + 3 * k + 2)), (2, .long 0), (0, .ref (T0 + 3 * k)), (1, .int (nI 0))]) hx hb dX1_toldByRows_6 hl (by decide) rfl (fun ls hl => ?_)
  refine lv_aload hx hb dX1_toldByRows_8 (lv_at hl 0 rfl) ?_
  refine qw_tlen (n := q_pl (kd k) (sz k)) hx hb hK (hX.2.2.1 k hk).2.2 dX1_toldByRows_10 ?_
  refine lv_istore (lv' := [(5, .int (nI (q_pl (kd k) (sz k)))), (4, .ref (T0 + 3 * k + 2)), (2, .long 0), (0, .ref (T0 + 3 * k)), (1, .int (nI 0))]) hx hb dX1_toldByRows_11 hl (by decide) rfl (fun ls hl => ?_)
  refine lv_iconst (v := nI 0) hx hb dX1_toldByRows_13 (by decide) ?_
  refine lv_istore (lv' := [(6, .int (nI 0)), (5, .int (nI (q_pl (kd k) (sz k)))), (4, .ref (T0 + 3 * k + 2)), (2, .long 0), (0, .ref (T0 + 3 * k)), (1, .int (nI 0))]) hx hb dX1_toldByRows_14 hl (by decide) rfl (fun ls hl => ?_)
  obtain ⟨i, ei⟩ : ∃ i : Nat, i = 0 := ⟨_, rfl⟩
  have hl : lv_has ls 8 [(0, .ref (T0 + 3 * k)), (1, .int (nI 0)), (2, .long (q_g6 (fun j => Int32.toInt64 (Int64.toInt32 (q_num kd sz nu j))) (pa k) i)), (4, .ref (T0 + 3 * k + 2)), (5, .int (nI (q_pl (kd k) (sz k)))), (6, .int (nI i))] := by subst ei; exact lv_sub hl [4, 5, 3, 2, 1, 0] rfl
  generalize els : ls = lz at hl ⊢
  clear els
  obtain ⟨d, hd⟩ : ∃ d, i + d = q_pl (kd k) (sz k) := ⟨q_pl (kd k) (sz k) - i, by omega⟩
  clear ei
  induction d generalizing i lz with
  | zero =>
    refine lv_iload hx hb dX1_toldByRows_16 (lv_at hl 5 rfl) ?_
    refine lv_iload hx hb dX1_toldByRows_18 (lv_at hl 4 rfl) ?_
    refine ln_cmp_ge (tgt := 50) hx hb (by omega) (by omega) dX1_toldByRows_20 (by decide) (fun _ => ?_) (fun c_1 => absurd c_1 (by omega))
    refine lv_lload_n hx hb dX1_toldByRows_50 rfl (lv_at hl 2 rfl) ?_
    exact W.lret (v := q_g6 (fun j => Int32.toInt64 (Int64.toInt32 (q_num kd sz nu j))) (pa k) i) hx hb hr (fun t ht hW => ⟨_, rfl, (by rw [← hd]; rfl), ht⟩) (fun _ h => absurd h List.not_mem_nil) dX1_toldByRows_51
  | succ d ih =>
    refine lv_iload hx hb dX1_toldByRows_16 (lv_at hl 5 rfl) ?_
    refine lv_iload hx hb dX1_toldByRows_18 (lv_at hl 4 rfl) ?_
    refine ln_cmp_ge (tgt := 50) hx hb (by omega) (by omega) dX1_toldByRows_20 (by decide) (fun c_2 => absurd c_2 (by omega)) (fun _ => ?_)
    refine lv_aload hx hb dX1_toldByRows_23 (lv_at hl 3 rfl) ?_
    refine lv_iload hx hb dX1_toldByRows_25 (lv_at hl 5 rfl) ?_
    refine qx_part hx hb hK hX hI hk (show i < q_pl (kd k) (sz k) by omega) dX1_toldByRows_27 (fun s_3 => ?_) (fun j_3 hj_3 oj_3 s_3 => ?_)
    · try dsimp only at s_3
      refine lv_astoreN (lv' := [(7, .null), (0, .ref (T0 + 3 * k)), (1, .int (nI 0)), (2, .long (q_g6 (fun j => Int32.toInt64 (Int64.toInt32 (q_num kd sz nu j))) (pa k) i)), (4, .ref (T0 + 3 * k + 2)), (5, .int (nI (q_pl (kd k) (sz k)))), (6, .int (nI i))]) hx hb dX1_toldByRows_28 hl (by decide) rfl (fun ls hl => ?_)
      refine lv_aloadN hx hb dX1_toldByRows_30 (lv_at hl 0 rfl) ?_
      refine lv_ifnullN (tgt := 44) hx hb dX1_toldByRows_32 (by decide) ?_
      refine lv_iinc (v := nI (i + 1)) (lv' := [(6, .int (nI (i + 1))), (7, .null), (0, .ref (T0 + 3 * k)), (1, .int (nI 0)), (2, .long (q_g6 (fun j => Int32.toInt64 (Int64.toInt32 (q_num kd sz nu j))) (pa k) i)), (4, .ref (T0 + 3 * k + 2)), (5, .int (nI (q_pl (kd k) (sz k))))]) hx hb dX1_toldByRows_44 hl (k := 6) rfl (nI_1 _) (by decide) rfl (fun ls hl => ?_)
      refine lv_goto (tgt := 16) hx hb dX1_toldByRows_47 (by decide) ?_
      exact ih (i + 1) ls (by rw [q_g6_n s_3]; exact lv_sub hl [2, 3, 4, 5, 6, 0] rfl)  (by omega) 
    · try dsimp only at s_3 hj_3 oj_3
      unfold q_ok at oj_3
      obtain ⟨aj_3, bj_3, dj_3, wj_3⟩ := hI.2.1 j_3 hj_3
      have n60 := hI.1
      try dsimp only at aj_3 bj_3 dj_3 wj_3 n60
      refine lv_astore (lv' := [(7, .ref (T0 + 3 * j_3)), (0, .ref (T0 + 3 * k)), (1, .int (nI 0)), (2, .long (q_g6 (fun j => Int32.toInt64 (Int64.toInt32 (q_num kd sz nu j))) (pa k) i)), (4, .ref (T0 + 3 * k + 2)), (5, .int (nI (q_pl (kd k) (sz k)))), (6, .int (nI i))]) hx hb dX1_toldByRows_28 hl (by decide) rfl (fun ls hl => ?_)
      refine lv_aload hx hb dX1_toldByRows_30 (lv_at hl 0 rfl) ?_
      refine lv_ifnull hx hb dX1_toldByRows_32 ?_
      refine lv_lload_n hx hb dX1_toldByRows_35 rfl (lv_at hl 3 rfl) ?_
      refine lv_aload hx hb dX1_toldByRows_36 (lv_at hl 0 rfl) ?_
      refine lv_iload_n hx hb dX1_toldByRows_38 rfl (lv_at hl 2 rfl) ?_
      refine qc_rl (r1 := Int32.toInt64 (Int64.toInt32 (q_num kd sz nu j_3))) (W.runS (As := [.ref (T0 + 3 * j_3), .int (nI 0)]) (rest := [.long (q_g6 (fun j => Int32.toInt64 (Int64.toInt32 (q_num kd sz nu j))) (pa k) i)]) ⟨hx, hb, hml, hown, hts⟩ (kX1_toldByRow l E x T0 n kd sz sh nu pa sl ft tn ts tg hI j_3 0 hj_3 (by omega) (by omega)) (va_cwS 2 hts gX1_toldByRows_X1_toldByRow rfl rfl rfl (by decide +kernel) ⟨Nat.le_of_ble_eq_true rfl, Nat.le_of_ble_eq_true rfl⟩) (q_pre hK hX) rfl rfl hl.1 rfl (lv_room (Nat.le_of_ble_eq_true rfl)) dX1_toldByRows_39 ⟨Nat.le_of_ble_eq_true rfl, Nat.le_of_ble_eq_true rfl⟩) rfl ?_
      refine lv_ladd hx hb dX1_toldByRows_42 ?_
      refine lv_lstore_n (lv' := [(2, .long ((q_g6 (fun j => Int32.toInt64 (Int64.toInt32 (q_num kd sz nu j))) (pa k) i) + (Int32.toInt64 (Int64.toInt32 (q_num kd sz nu j_3))))), (7, .ref (T0 + 3 * j_3)), (0, .ref (T0 + 3 * k)), (1, .int (nI 0)), (4, .ref (T0 + 3 * k + 2)), (5, .int (nI (q_pl (kd k) (sz k)))), (6, .int (nI i))]) hx hb dX1_toldByRows_43 rfl hl (by decide) rfl (fun ls hl => ?_)
      refine lv_iinc (v := nI (i + 1)) (lv' := [(6, .int (nI (i + 1))), (2, .long ((q_g6 (fun j => Int32.toInt64 (Int64.toInt32 (q_num kd sz nu j))) (pa k) i) + (Int32.toInt64 (Int64.toInt32 (q_num kd sz nu j_3))))), (7, .ref (T0 + 3 * j_3)), (0, .ref (T0 + 3 * k)), (1, .int (nI 0)), (4, .ref (T0 + 3 * k + 2)), (5, .int (nI (q_pl (kd k) (sz k))))]) hx hb dX1_toldByRows_44 hl (k := 6) rfl (nI_1 _) (by decide) rfl (fun ls hl => ?_)
      refine lv_goto (tgt := 16) hx hb dX1_toldByRows_47 (by decide) ?_
      exact ih (i + 1) ls (by rw [q_g6_s s_3]; exact lv_sub hl [3, 4, 1, 5, 6, 0] rfl)  (by omega) 
set_option maxHeartbeats 4000000 in
set_option maxRecDepth 100000 in
theorem kX1_toldByRows_f (l : Launch) (E : q_E) (x T0 : Nat) (n : Nat) (kd sz : Nat → Nat) (sh : Nat → Bool) (nu : Nat → Nat → Int64) (pa : Nat → Nat → Option Nat) (sl : Nat → Option Nat) (ft tn ts tg : Int32) (hI : q_I (n, kd, sz, sh, nu, pa, sl, ft, tn, ts, tg)) (k : Nat) (hk : k < n) (hkk : kd k = 7 ∨ kd k = 8)  : Met l yX1_toldByRows wsX1_toldByRows ({ frames := 4, cells := 0, slots := 0, locals := 89 }) (q_P E (q_X E x T0 (n, kd, sz, sh, nu, pa, sl, ft, tn, ts, tg)) [.ref (T0 + 3 * k), .int (nI 4)]) (vp_Sl (fun rr => rr = lN (q_rws kd sz sh pa false k))) 0 0 (fun _ => False) := by
  refine Met.ofW (cc := cX1_toldByRows) (maxL := 8) (ret := (some .long)) (by decide) rfl ?_
  intro p e s m args below meth c s₁ B hml hv
  obtain ⟨rfl, hK, hX⟩ := hv
  have hx := B.exec
  have hb := B.bytes
  have hr := B.returns
  have hts := atoms_spec (ws := wsX1_toldByRows) B.pre
  have hown : s.vm.findClass RX1 = some m.cls := findClass_of_methodNamed B.named
  have hlocks := B.notSynchronized
  have hl := lv_entry ([.ref (T0 + 3 * k), .int (nI 4)]) (n := 8) (Nat.le_of_ble_eq_true rfl)
  rw [lg_entry_eq]
  generalize (lg_sl ([.ref (T0 + 3 * k), .int (nI 4)]) ++ List.replicate (8 - (lg_sl ([.ref (T0 + 3 * k), .int (nI 4)])).length) Slot.unset).toArray = ls at hl ⊢
  have hl : lv_has ls 8 [(0, .ref (T0 + 3 * k)), (1, .int (nI 4))] := hl
  obtain ⟨ak, bk, dk, wk⟩ := hI.2.1 k hk
  have n60 := hI.1
  try dsimp only at ak bk dk wk n60
  have hpl := q_pl_le (kd k) (sz k)
  refine lv_lconst (v := 0) hx hb dX1_toldByRows_0 (by decide) ?_
  refine lv_lstore_n (lv' := [(2, .long 0), (0, .ref (T0 + 3 * k)), (1, .int (nI 4))]) hx hb dX1_toldByRows_1 rfl hl (by decide) rfl (fun ls hl => ?_)
  refine lv_aload_n hx hb dX1_toldByRows_2 rfl (lv_at hl 1 rfl) ?_
  refine qw_get (v := .ref (T0 + 3 * k + 2)) (ci := 0) (C := RX0) (T := TX0) (N := 6) hx hb hts nX1_toldByRows_0 hown hK (hX.2.2.1 k hk).1 rfl 3 (by decide) (hts (.fieldLink RX1 96 "DockGates$Thing" "parts" "[LDockGates$Thing;") (by decide +kernel)) rfl rfl dX1_toldByRows_3 ?_
  refine lv_astore (lv' := [(4, .ref (T0 + 3 * k + 2)), (2, .long 0), (0, .ref (T0 + 3 * k)), (1, .int (nI 4))]) hx hb dX1_toldByRows_6 hl (by decide) rfl (fun ls hl => ?_)
  refine lv_aload hx hb dX1_toldByRows_8 (lv_at hl 0 rfl) ?_
  refine qw_tlen (n := q_pl (kd k) (sz k)) hx hb hK (hX.2.2.1 k hk).2.2 dX1_toldByRows_10 ?_
  refine lv_istore (lv' := [(5, .int (nI (q_pl (kd k) (sz k)))), (4, .ref (T0 + 3 * k + 2)), (2, .long 0), (0, .ref (T0 + 3 * k)), (1, .int (nI 4))]) hx hb dX1_toldByRows_11 hl (by decide) rfl (fun ls hl => ?_)
  refine lv_iconst (v := nI 0) hx hb dX1_toldByRows_13 (by decide) ?_
  refine lv_istore (lv' := [(6, .int (nI 0)), (5, .int (nI (q_pl (kd k) (sz k)))), (4, .ref (T0 + 3 * k + 2)), (2, .long 0), (0, .ref (T0 + 3 * k)), (1, .int (nI 4))]) hx hb dX1_toldByRows_14 hl (by decide) rfl (fun ls hl => ?_)
  obtain ⟨i, ei⟩ : ∃ i : Nat, i = 0 := ⟨_, rfl⟩
  have hl : lv_has ls 8 [(0, .ref (T0 + 3 * k)), (1, .int (nI 4)), (2, .long (lN (q_su (q_ins kd sz sh pa false) (pa k) i))), (4, .ref (T0 + 3 * k + 2)), (5, .int (nI (q_pl (kd k) (sz k)))), (6, .int (nI i))] := by subst ei; exact lv_sub hl [4, 5, 3, 2, 1, 0] rfl
  generalize els : ls = lz at hl ⊢
  clear els
  obtain ⟨d, hd⟩ : ∃ d, i + d = q_pl (kd k) (sz k) := ⟨q_pl (kd k) (sz k) - i, by omega⟩
  clear ei
  induction d generalizing i lz with
  | zero =>
    refine lv_iload hx hb dX1_toldByRows_16 (lv_at hl 5 rfl) ?_
    refine lv_iload hx hb dX1_toldByRows_18 (lv_at hl 4 rfl) ?_
    refine ln_cmp_ge (tgt := 50) hx hb (by omega) (by omega) dX1_toldByRows_20 (by decide) (fun _ => ?_) (fun c_1 => absurd c_1 (by omega))
    refine lv_lload_n hx hb dX1_toldByRows_50 rfl (lv_at hl 2 rfl) ?_
    exact W.lret (v := lN (q_su (q_ins kd sz sh pa false) (pa k) i)) hx hb hr (fun t ht hW => ⟨_, rfl, (by unfold q_rws; rw [← hd]; rfl), ht⟩) (fun _ h => absurd h List.not_mem_nil) dX1_toldByRows_51
  | succ d ih =>
    refine lv_iload hx hb dX1_toldByRows_16 (lv_at hl 5 rfl) ?_
    refine lv_iload hx hb dX1_toldByRows_18 (lv_at hl 4 rfl) ?_
    refine ln_cmp_ge (tgt := 50) hx hb (by omega) (by omega) dX1_toldByRows_20 (by decide) (fun c_2 => absurd c_2 (by omega)) (fun _ => ?_)
    refine lv_aload hx hb dX1_toldByRows_23 (lv_at hl 3 rfl) ?_
    refine lv_iload hx hb dX1_toldByRows_25 (lv_at hl 5 rfl) ?_
    refine qx_part hx hb hK hX hI hk (show i < q_pl (kd k) (sz k) by omega) dX1_toldByRows_27 (fun s_3 => ?_) (fun j_3 hj_3 oj_3 s_3 => ?_)
    · try dsimp only at s_3
      refine lv_astoreN (lv' := [(7, .null), (0, .ref (T0 + 3 * k)), (1, .int (nI 4)), (2, .long (lN (q_su (q_ins kd sz sh pa false) (pa k) i))), (4, .ref (T0 + 3 * k + 2)), (5, .int (nI (q_pl (kd k) (sz k)))), (6, .int (nI i))]) hx hb dX1_toldByRows_28 hl (by decide) rfl (fun ls hl => ?_)
      refine lv_aloadN hx hb dX1_toldByRows_30 (lv_at hl 0 rfl) ?_
      refine lv_ifnullN (tgt := 44) hx hb dX1_toldByRows_32 (by decide) ?_
      refine lv_iinc (v := nI (i + 1)) (lv' := [(6, .int (nI (i + 1))), (7, .null), (0, .ref (T0 + 3 * k)), (1, .int (nI 4)), (2, .long (lN (q_su (q_ins kd sz sh pa false) (pa k) i))), (4, .ref (T0 + 3 * k + 2)), (5, .int (nI (q_pl (kd k) (sz k))))]) hx hb dX1_toldByRows_44 hl (k := 6) rfl (nI_1 _) (by decide) rfl (fun ls hl => ?_)
      refine lv_goto (tgt := 16) hx hb dX1_toldByRows_47 (by decide) ?_
      exact ih (i + 1) ls (by rw [q_su_n s_3]; exact lv_sub hl [2, 3, 4, 5, 6, 0] rfl)  (by omega) 
    · try dsimp only at s_3 hj_3 oj_3
      unfold q_ok at oj_3
      obtain ⟨aj_3, bj_3, dj_3, wj_3⟩ := hI.2.1 j_3 hj_3
      have n60 := hI.1
      try dsimp only at aj_3 bj_3 dj_3 wj_3 n60
      refine lv_astore (lv' := [(7, .ref (T0 + 3 * j_3)), (0, .ref (T0 + 3 * k)), (1, .int (nI 4)), (2, .long (lN (q_su (q_ins kd sz sh pa false) (pa k) i))), (4, .ref (T0 + 3 * k + 2)), (5, .int (nI (q_pl (kd k) (sz k)))), (6, .int (nI i))]) hx hb dX1_toldByRows_28 hl (by decide) rfl (fun ls hl => ?_)
      refine lv_aload hx hb dX1_toldByRows_30 (lv_at hl 0 rfl) ?_
      refine lv_ifnull hx hb dX1_toldByRows_32 ?_
      refine lv_lload_n hx hb dX1_toldByRows_35 rfl (lv_at hl 3 rfl) ?_
      refine lv_aload hx hb dX1_toldByRows_36 (lv_at hl 0 rfl) ?_
      refine lv_iload_n hx hb dX1_toldByRows_38 rfl (lv_at hl 2 rfl) ?_
      refine qc_rl (r1 := lN (q_ins kd sz sh pa false j_3)) (W.runS (As := [.ref (T0 + 3 * j_3), .int (nI 4)]) (rest := [.long (lN (q_su (q_ins kd sz sh pa false) (pa k) i))]) ⟨hx, hb, hml, hown, hts⟩ (kX1_toldByRow l E x T0 n kd sz sh nu pa sl ft tn ts tg hI j_3 4 hj_3 (by omega) (by omega)) (va_cwS 2 hts gX1_toldByRows_X1_toldByRow rfl rfl rfl (by decide +kernel) ⟨Nat.le_of_ble_eq_true rfl, Nat.le_of_ble_eq_true rfl⟩) (q_pre hK hX) rfl rfl hl.1 rfl (lv_room (Nat.le_of_ble_eq_true rfl)) dX1_toldByRows_39 ⟨Nat.le_of_ble_eq_true rfl, Nat.le_of_ble_eq_true rfl⟩) rfl ?_
      refine ln_ladd hx hb dX1_toldByRows_42 ?_
      refine lv_lstore_n (lv' := [(2, .long (lN ((q_su (q_ins kd sz sh pa false) (pa k) i) + (q_ins kd sz sh pa false j_3)))), (7, .ref (T0 + 3 * j_3)), (0, .ref (T0 + 3 * k)), (1, .int (nI 4)), (4, .ref (T0 + 3 * k + 2)), (5, .int (nI (q_pl (kd k) (sz k)))), (6, .int (nI i))]) hx hb dX1_toldByRows_43 rfl hl (by decide) rfl (fun ls hl => ?_)
      refine lv_iinc (v := nI (i + 1)) (lv' := [(6, .int (nI (i + 1))), (2, .long (lN ((q_su (q_ins kd sz sh pa false) (pa k) i) + (q_ins kd sz sh pa false j_3)))), (7, .ref (T0 + 3 * j_3)), (0, .ref (T0 + 3 * k)), (1, .int (nI 4)), (4, .ref (T0 + 3 * k + 2)), (5, .int (nI (q_pl (kd k) (sz k))))]) hx hb dX1_toldByRows_44 hl (k := 6) rfl (nI_1 _) (by decide) rfl (fun ls hl => ?_)
      refine lv_goto (tgt := 16) hx hb dX1_toldByRows_47 (by decide) ?_
      exact ih (i + 1) ls (by rw [q_su_s s_3]; exact lv_sub hl [3, 4, 1, 5, 6, 0] rfl)  (by omega) 
set_option maxHeartbeats 4000000 in
set_option maxRecDepth 100000 in
theorem kX1_toldByRows_t (l : Launch) (E : q_E) (x T0 : Nat) (n : Nat) (kd sz : Nat → Nat) (sh : Nat → Bool) (nu : Nat → Nat → Int64) (pa : Nat → Nat → Option Nat) (sl : Nat → Option Nat) (ft tn ts tg : Int32) (hI : q_I (n, kd, sz, sh, nu, pa, sl, ft, tn, ts, tg)) (k : Nat) (hk : k < n) (hkk : kd k = 8)  : Met l yX1_toldByRows wsX1_toldByRows ({ frames := 4, cells := 0, slots := 0, locals := 89 }) (q_P E (q_X E x T0 (n, kd, sz, sh, nu, pa, sl, ft, tn, ts, tg)) [.ref (T0 + 3 * k), .int (nI 5)]) (vp_Sl (fun rr => rr = lN (q_rws kd sz sh pa true k))) 0 0 (fun _ => False) := by
  refine Met.ofW (cc := cX1_toldByRows) (maxL := 8) (ret := (some .long)) (by decide) rfl ?_
  intro p e s m args below meth c s₁ B hml hv
  obtain ⟨rfl, hK, hX⟩ := hv
  have hx := B.exec
  have hb := B.bytes
  have hr := B.returns
  have hts := atoms_spec (ws := wsX1_toldByRows) B.pre
  have hown : s.vm.findClass RX1 = some m.cls := findClass_of_methodNamed B.named
  have hlocks := B.notSynchronized
  have hl := lv_entry ([.ref (T0 + 3 * k), .int (nI 5)]) (n := 8) (Nat.le_of_ble_eq_true rfl)
  rw [lg_entry_eq]
  generalize (lg_sl ([.ref (T0 + 3 * k), .int (nI 5)]) ++ List.replicate (8 - (lg_sl ([.ref (T0 + 3 * k), .int (nI 5)])).length) Slot.unset).toArray = ls at hl ⊢
  have hl : lv_has ls 8 [(0, .ref (T0 + 3 * k)), (1, .int (nI 5))] := hl
  obtain ⟨ak, bk, dk, wk⟩ := hI.2.1 k hk
  have n60 := hI.1
  try dsimp only at ak bk dk wk n60
  have hpl := q_pl_le (kd k) (sz k)
  refine lv_lconst (v := 0) hx hb dX1_toldByRows_0 (by decide) ?_
  refine lv_lstore_n (lv' := [(2, .long 0), (0, .ref (T0 + 3 * k)), (1, .int (nI 5))]) hx hb dX1_toldByRows_1 rfl hl (by decide) rfl (fun ls hl => ?_)
  refine lv_aload_n hx hb dX1_toldByRows_2 rfl (lv_at hl 1 rfl) ?_
  refine qw_get (v := .ref (T0 + 3 * k + 2)) (ci := 0) (C := RX0) (T := TX0) (N := 6) hx hb hts nX1_toldByRows_0 hown hK (hX.2.2.1 k hk).1 rfl 3 (by decide) (hts (.fieldLink RX1 96 "DockGates$Thing" "parts" "[LDockGates$Thing;") (by decide +kernel)) rfl rfl dX1_toldByRows_3 ?_
  refine lv_astore (lv' := [(4, .ref (T0 + 3 * k + 2)), (2, .long 0), (0, .ref (T0 + 3 * k)), (1, .int (nI 5))]) hx hb dX1_toldByRows_6 hl (by decide) rfl (fun ls hl => ?_)
  refine lv_aload hx hb dX1_toldByRows_8 (lv_at hl 0 rfl) ?_
  refine qw_tlen (n := q_pl (kd k) (sz k)) hx hb hK (hX.2.2.1 k hk).2.2 dX1_toldByRows_10 ?_
  refine lv_istore (lv' := [(5, .int (nI (q_pl (kd k) (sz k)))), (4, .ref (T0 + 3 * k + 2)), (2, .long 0), (0, .ref (T0 + 3 * k)), (1, .int (nI 5))]) hx hb dX1_toldByRows_11 hl (by decide) rfl (fun ls hl => ?_)
  refine lv_iconst (v := nI 0) hx hb dX1_toldByRows_13 (by decide) ?_
  refine lv_istore (lv' := [(6, .int (nI 0)), (5, .int (nI (q_pl (kd k) (sz k)))), (4, .ref (T0 + 3 * k + 2)), (2, .long 0), (0, .ref (T0 + 3 * k)), (1, .int (nI 5))]) hx hb dX1_toldByRows_14 hl (by decide) rfl (fun ls hl => ?_)
  obtain ⟨i, ei⟩ : ∃ i : Nat, i = 0 := ⟨_, rfl⟩
  have hl : lv_has ls 8 [(0, .ref (T0 + 3 * k)), (1, .int (nI 5)), (2, .long (lN (q_su (q_ins kd sz sh pa true) (pa k) i))), (4, .ref (T0 + 3 * k + 2)), (5, .int (nI (q_pl (kd k) (sz k)))), (6, .int (nI i))] := by subst ei; exact lv_sub hl [4, 5, 3, 2, 1, 0] rfl
  generalize els : ls = lz at hl ⊢
  clear els
  obtain ⟨d, hd⟩ : ∃ d, i + d = q_pl (kd k) (sz k) := ⟨q_pl (kd k) (sz k) - i, by omega⟩
  clear ei
  induction d generalizing i lz with
  | zero =>
    refine lv_iload hx hb dX1_toldByRows_16 (lv_at hl 5 rfl) ?_
    refine lv_iload hx hb dX1_toldByRows_18 (lv_at hl 4 rfl) ?_
    refine ln_cmp_ge (tgt := 50) hx hb (by omega) (by omega) dX1_toldByRows_20 (by decide) (fun _ => ?_) (fun c_1 => absurd c_1 (by omega))
    refine lv_lload_n hx hb dX1_toldByRows_50 rfl (lv_at hl 2 rfl) ?_
    exact W.lret (v := lN (q_su (q_ins kd sz sh pa true) (pa k) i)) hx hb hr (fun t ht hW => ⟨_, rfl, (by unfold q_rws; rw [← hd]; rfl), ht⟩) (fun _ h => absurd h List.not_mem_nil) dX1_toldByRows_51
  | succ d ih =>
    refine lv_iload hx hb dX1_toldByRows_16 (lv_at hl 5 rfl) ?_
    refine lv_iload hx hb dX1_toldByRows_18 (lv_at hl 4 rfl) ?_
    refine ln_cmp_ge (tgt := 50) hx hb (by omega) (by omega) dX1_toldByRows_20 (by decide) (fun c_2 => absurd c_2 (by omega)) (fun _ => ?_)
    refine lv_aload hx hb dX1_toldByRows_23 (lv_at hl 3 rfl) ?_
    refine lv_iload hx hb dX1_toldByRows_25 (lv_at hl 5 rfl) ?_
    refine qx_part hx hb hK hX hI hk (show i < q_pl (kd k) (sz k) by omega) dX1_toldByRows_27 (fun s_3 => ?_) (fun j_3 hj_3 oj_3 s_3 => ?_)
    · try dsimp only at s_3
      refine lv_astoreN (lv' := [(7, .null), (0, .ref (T0 + 3 * k)), (1, .int (nI 5)), (2, .long (lN (q_su (q_ins kd sz sh pa true) (pa k) i))), (4, .ref (T0 + 3 * k + 2)), (5, .int (nI (q_pl (kd k) (sz k)))), (6, .int (nI i))]) hx hb dX1_toldByRows_28 hl (by decide) rfl (fun ls hl => ?_)
      refine lv_aloadN hx hb dX1_toldByRows_30 (lv_at hl 0 rfl) ?_
      refine lv_ifnullN (tgt := 44) hx hb dX1_toldByRows_32 (by decide) ?_
      refine lv_iinc (v := nI (i + 1)) (lv' := [(6, .int (nI (i + 1))), (7, .null), (0, .ref (T0 + 3 * k)), (1, .int (nI 5)), (2, .long (lN (q_su (q_ins kd sz sh pa true) (pa k) i))), (4, .ref (T0 + 3 * k + 2)), (5, .int (nI (q_pl (kd k) (sz k))))]) hx hb dX1_toldByRows_44 hl (k := 6) rfl (nI_1 _) (by decide) rfl (fun ls hl => ?_)
      refine lv_goto (tgt := 16) hx hb dX1_toldByRows_47 (by decide) ?_
      exact ih (i + 1) ls (by rw [q_su_n s_3]; exact lv_sub hl [2, 3, 4, 5, 6, 0] rfl)  (by omega) 
    · try dsimp only at s_3 hj_3 oj_3
      unfold q_ok at oj_3
      obtain ⟨aj_3, bj_3, dj_3, wj_3⟩ := hI.2.1 j_3 hj_3
      have n60 := hI.1
      try dsimp only at aj_3 bj_3 dj_3 wj_3 n60
      refine lv_astore (lv' := [(7, .ref (T0 + 3 * j_3)), (0, .ref (T0 + 3 * k)), (1, .int (nI 5)), (2, .long (lN (q_su (q_ins kd sz sh pa true) (pa k) i))), (4, .ref (T0 + 3 * k + 2)), (5, .int (nI (q_pl (kd k) (sz k)))), (6, .int (nI i))]) hx hb dX1_toldByRows_28 hl (by decide) rfl (fun ls hl => ?_)
      refine lv_aload hx hb dX1_toldByRows_30 (lv_at hl 0 rfl) ?_
      refine lv_ifnull hx hb dX1_toldByRows_32 ?_
      refine lv_lload_n hx hb dX1_toldByRows_35 rfl (lv_at hl 3 rfl) ?_
      refine lv_aload hx hb dX1_toldByRows_36 (lv_at hl 0 rfl) ?_
      refine lv_iload_n hx hb dX1_toldByRows_38 rfl (lv_at hl 2 rfl) ?_
      refine qc_rl (r1 := lN (q_ins kd sz sh pa true j_3)) (W.runS (As := [.ref (T0 + 3 * j_3), .int (nI 5)]) (rest := [.long (lN (q_su (q_ins kd sz sh pa true) (pa k) i))]) ⟨hx, hb, hml, hown, hts⟩ (kX1_toldByRow l E x T0 n kd sz sh nu pa sl ft tn ts tg hI j_3 5 hj_3 (by omega) (by omega)) (va_cwS 2 hts gX1_toldByRows_X1_toldByRow rfl rfl rfl (by decide +kernel) ⟨Nat.le_of_ble_eq_true rfl, Nat.le_of_ble_eq_true rfl⟩) (q_pre hK hX) rfl rfl hl.1 rfl (lv_room (Nat.le_of_ble_eq_true rfl)) dX1_toldByRows_39 ⟨Nat.le_of_ble_eq_true rfl, Nat.le_of_ble_eq_true rfl⟩) rfl ?_
      refine ln_ladd hx hb dX1_toldByRows_42 ?_
      refine lv_lstore_n (lv' := [(2, .long (lN ((q_su (q_ins kd sz sh pa true) (pa k) i) + (q_ins kd sz sh pa true j_3)))), (7, .ref (T0 + 3 * j_3)), (0, .ref (T0 + 3 * k)), (1, .int (nI 5)), (4, .ref (T0 + 3 * k + 2)), (5, .int (nI (q_pl (kd k) (sz k)))), (6, .int (nI i))]) hx hb dX1_toldByRows_43 rfl hl (by decide) rfl (fun ls hl => ?_)
      refine lv_iinc (v := nI (i + 1)) (lv' := [(6, .int (nI (i + 1))), (2, .long (lN ((q_su (q_ins kd sz sh pa true) (pa k) i) + (q_ins kd sz sh pa true j_3)))), (7, .ref (T0 + 3 * j_3)), (0, .ref (T0 + 3 * k)), (1, .int (nI 5)), (4, .ref (T0 + 3 * k + 2)), (5, .int (nI (q_pl (kd k) (sz k))))]) hx hb dX1_toldByRows_44 hl (k := 6) rfl (nI_1 _) (by decide) rfl (fun ls hl => ?_)
      refine lv_goto (tgt := 16) hx hb dX1_toldByRows_47 (by decide) ?_
      exact ih (i + 1) ls (by rw [q_su_s s_3]; exact lv_sub hl [3, 4, 1, 5, 6, 0] rfl)  (by omega) 
set_option maxHeartbeats 4000000 in
set_option maxRecDepth 100000 in
theorem kX1_toldBy (l : Launch) (E : q_E) (x T0 : Nat) (n : Nat) (kd sz : Nat → Nat) (sh : Nat → Bool) (nu : Nat → Nat → Int64) (pa : Nat → Nat → Option Nat) (sl : Nat → Option Nat) (ft tn ts tg : Int32) (hI : q_I (n, kd, sz, sh, nu, pa, sl, ft, tn, ts, tg)) (k g : Nat) (hk : k < n) (hg : g < 13) (hgo : q_go (kd k) g = true)  : Met l yX1_toldBy wsX1_toldBy ({ frames := 5, cells := 0, slots := 0, locals := 116 }) (q_P E (q_X E x T0 (n, kd, sz, sh, nu, pa, sl, ft, tn, ts, tg)) [.ref (T0 + 3 * k), .int (nI g)]) (vp_Sl (fun rr => rr = q_val kd sz sh nu pa k g)) 0 0 (fun _ => False) := by
  refine Met.ofW (cc := cX1_toldBy) (maxL := 2) (ret := (some .long)) (by decide) rfl ?_
  intro p e s m args below meth c s₁ B hml hv
  obtain ⟨rfl, hK, hX⟩ := hv
  have hx := B.exec
  have hb := B.bytes
  have hr := B.returns
  have hts := atoms_spec (ws := wsX1_toldBy) B.pre
  have hown : s.vm.findClass RX1 = some m.cls := findClass_of_methodNamed B.named
  have hlocks := B.notSynchronized
  have hl := lv_entry ([.ref (T0 + 3 * k), .int (nI g)]) (n := 2) (Nat.le_of_ble_eq_true rfl)
  rw [lg_entry_eq]
  generalize (lg_sl ([.ref (T0 + 3 * k), .int (nI g)]) ++ List.replicate (2 - (lg_sl ([.ref (T0 + 3 * k), .int (nI g)])).length) Slot.unset).toArray = ls at hl ⊢
  have hl : lv_has ls 2 [(0, .ref (T0 + 3 * k)), (1, .int (nI g))] := hl
  obtain ⟨ak, bk, dk, wk⟩ := hI.2.1 k hk
  have n60 := hI.1
  try dsimp only at ak bk dk wk n60
  have hg2 := q_gofacts hgo
  refine lv_iload_n hx hb dX1_toldBy_0 rfl (lv_at hl 1 rfl) ?_
  have c_1 : g = 3 ∨ g = 7 ∨ g = 8 ∨ g = 9 ∨ g = 10 ∨ g = 11 ∨ g = 12 ∨ (¬ g = 3 ∧ ¬ g = 7 ∧ ¬ g = 8 ∧ ¬ g = 9 ∧ ¬ g = 10 ∧ ¬ g = 11 ∧ ¬ g = 12) := by omega
  rcases c_1 with c_1 | c_1 | c_1 | c_1 | c_1 | c_1 | c_1 | c_1
  · refine q_tIn (v := 3) (tgt := 56) (off := 55) hx hb c_1 dX1_toldBy_1 (by decide) (by decide) (by decide) (by decide) ?_
    refine lv_aload_n hx hb dX1_toldBy_56 rfl (lv_at hl 0 rfl) ?_
    refine lv_iconst (v := nI 0) hx hb dX1_toldBy_57 (by decide) ?_
    refine qc_rl (r1 := q_g6 (fun j => Int32.toInt64 (Int64.toInt32 (q_num kd sz nu j))) (pa k) (q_pl (kd k) (sz k))) (W.runS (As := [.ref (T0 + 3 * k), .int (nI 0)]) (rest := []) ⟨hx, hb, hml, hown, hts⟩ (kX1_toldByRows_g l E x T0 n kd sz sh nu pa sl ft tn ts tg hI k hk (by omega)) (va_cwS 2 hts gX1_toldBy_X1_toldByRows rfl rfl rfl (by decide +kernel) ⟨Nat.le_of_ble_eq_true rfl, Nat.le_of_ble_eq_true rfl⟩) (q_pre hK hX) rfl rfl hl.1 rfl (lv_room (Nat.le_of_ble_eq_true rfl)) dX1_toldBy_58 ⟨Nat.le_of_ble_eq_true rfl, Nat.le_of_ble_eq_true rfl⟩) rfl ?_
    refine lv_l2i hx hb dX1_toldBy_61 rfl ?_
    refine lv_i2l hx hb dX1_toldBy_62 rfl ?_
    exact W.lret (v := Int32.toInt64 ((Int64.toInt32 (q_g6 (fun j => Int32.toInt64 (Int64.toInt32 (q_num kd sz nu j))) (pa k) (q_pl (kd k) (sz k)))))) hx hb hr (fun t ht hW => ⟨_, rfl, (by subst c_1; show _ = Int32.toInt64 (q_grd kd sz nu pa k); unfold q_grd; rw [← q_g6_32]), ht⟩) (fun _ h => absurd h List.not_mem_nil) dX1_toldBy_63
  · refine q_tIn (v := 7) (tgt := 64) (off := 63) hx hb c_1 dX1_toldBy_1 (by decide) (by decide) (by decide) (by decide) ?_
    refine lv_aload_n hx hb dX1_toldBy_64 rfl (lv_at hl 0 rfl) ?_
    refine lv_iconst (v := nI 4) hx hb dX1_toldBy_65 (by decide) ?_
    refine qc_rl (r1 := lN (q_rws kd sz sh pa false k)) (W.runS (As := [.ref (T0 + 3 * k), .int (nI 4)]) (rest := []) ⟨hx, hb, hml, hown, hts⟩ (kX1_toldByRows_f l E x T0 n kd sz sh nu pa sl ft tn ts tg hI k hk (by omega)) (va_cwS 2 hts gX1_toldBy_X1_toldByRows rfl rfl rfl (by decide +kernel) ⟨Nat.le_of_ble_eq_true rfl, Nat.le_of_ble_eq_true rfl⟩) (q_pre hK hX) rfl rfl hl.1 rfl (lv_room (Nat.le_of_ble_eq_true rfl)) dX1_toldBy_66 ⟨Nat.le_of_ble_eq_true rfl, Nat.le_of_ble_eq_true rfl⟩) rfl ?_
    exact W.lret (v := lN (q_rws kd sz sh pa false k)) hx hb hr (fun t ht hW => ⟨_, rfl, (by subst c_1; rfl), ht⟩) (fun _ h => absurd h List.not_mem_nil) dX1_toldBy_69
  · refine q_tIn (v := 8) (tgt := 70) (off := 69) hx hb c_1 dX1_toldBy_1 (by decide) (by decide) (by decide) (by decide) ?_
    refine lv_aload_n hx hb dX1_toldBy_70 rfl (lv_at hl 0 rfl) ?_
    refine lv_iconst (v := nI 5) hx hb dX1_toldBy_71 (by decide) ?_
    refine qc_rl (r1 := lN (q_rws kd sz sh pa true k)) (W.runS (As := [.ref (T0 + 3 * k), .int (nI 5)]) (rest := []) ⟨hx, hb, hml, hown, hts⟩ (kX1_toldByRows_t l E x T0 n kd sz sh nu pa sl ft tn ts tg hI k hk (by omega)) (va_cwS 2 hts gX1_toldBy_X1_toldByRows rfl rfl rfl (by decide +kernel) ⟨Nat.le_of_ble_eq_true rfl, Nat.le_of_ble_eq_true rfl⟩) (q_pre hK hX) rfl rfl hl.1 rfl (lv_room (Nat.le_of_ble_eq_true rfl)) dX1_toldBy_72 ⟨Nat.le_of_ble_eq_true rfl, Nat.le_of_ble_eq_true rfl⟩) rfl ?_
    exact W.lret (v := lN (q_rws kd sz sh pa true k)) hx hb hr (fun t ht hW => ⟨_, rfl, (by subst c_1; rfl), ht⟩) (fun _ h => absurd h List.not_mem_nil) dX1_toldBy_75
  · refine q_tIn (v := 9) (tgt := 76) (off := 75) hx hb c_1 dX1_toldBy_1 (by decide) (by decide) (by decide) (by decide) ?_
    refine lv_aload_n hx hb dX1_toldBy_76 rfl (lv_at hl 0 rfl) ?_
    refine lv_iload_n hx hb dX1_toldBy_77 rfl (lv_at hl 1 rfl) ?_
    refine qc_ri (r1 := nI (sz k)) (W.runS (As := [.ref (T0 + 3 * k), .int (nI g)]) (rest := []) ⟨hx, hb, hml, hown, hts⟩ (kX1_toldByLoad_A l E x T0 n kd sz sh nu pa sl ft tn ts tg hI k g hk (by omega) (by omega)) (va_cwS 2 hts gX1_toldBy_X1_toldByLoad rfl rfl rfl (by decide +kernel) ⟨Nat.le_of_ble_eq_true rfl, Nat.le_of_ble_eq_true rfl⟩) (q_pre hK hX) rfl rfl hl.1 rfl (lv_room (Nat.le_of_ble_eq_true rfl)) dX1_toldBy_78 ⟨Nat.le_of_ble_eq_true rfl, Nat.le_of_ble_eq_true rfl⟩) rfl ?_
    refine lv_i2l (v := lN (sz k)) hx hb dX1_toldBy_81 (nI_l (by first | omega | (simp; omega))) ?_
    exact W.lret (v := lN (sz k)) hx hb hr (fun t ht hW => ⟨_, rfl, (by subst c_1; rfl), ht⟩) (fun _ h => absurd h List.not_mem_nil) dX1_toldBy_82
  · refine q_tIn (v := 10) (tgt := 76) (off := 75) hx hb c_1 dX1_toldBy_1 (by decide) (by decide) (by decide) (by decide) ?_
    refine lv_aload_n hx hb dX1_toldBy_76 rfl (lv_at hl 0 rfl) ?_
    refine lv_iload_n hx hb dX1_toldBy_77 rfl (lv_at hl 1 rfl) ?_
    subst c_1
    refine qc_ri (r1 := nI (if sh k then 1 else 0)) (W.runS (As := [.ref (T0 + 3 * k), .int (nI 10)]) (rest := []) ⟨hx, hb, hml, hown, hts⟩ (kX1_toldByLoad_T l E x T0 n kd sz sh nu pa sl ft tn ts tg hI k hk) (va_cwS 2 hts gX1_toldBy_X1_toldByLoad rfl rfl rfl (by decide +kernel) ⟨Nat.le_of_ble_eq_true rfl, Nat.le_of_ble_eq_true rfl⟩) (q_pre hK hX) rfl rfl hl.1 rfl (lv_room (Nat.le_of_ble_eq_true rfl)) dX1_toldBy_78 ⟨Nat.le_of_ble_eq_true rfl, Nat.le_of_ble_eq_true rfl⟩) rfl ?_
    have ik : (if sh k then 1 else 0) ≤ 1 := by split <;> omega
    refine lv_i2l (v := lN (if sh k then 1 else 0)) hx hb dX1_toldBy_81 (nI_l (by first | omega | (simp; omega))) ?_
    exact W.lret (v := lN (if sh k then 1 else 0)) hx hb hr (fun t ht hW => ⟨_, rfl, rfl, ht⟩) (fun _ h => absurd h List.not_mem_nil) dX1_toldBy_82
  · refine q_tIn (v := 11) (tgt := 76) (off := 75) hx hb c_1 dX1_toldBy_1 (by decide) (by decide) (by decide) (by decide) ?_
    refine lv_aload_n hx hb dX1_toldBy_76 rfl (lv_at hl 0 rfl) ?_
    refine lv_iload_n hx hb dX1_toldBy_77 rfl (lv_at hl 1 rfl) ?_
    refine qc_ri (r1 := nI (sz k)) (W.runS (As := [.ref (T0 + 3 * k), .int (nI g)]) (rest := []) ⟨hx, hb, hml, hown, hts⟩ (kX1_toldByLoad_A l E x T0 n kd sz sh nu pa sl ft tn ts tg hI k g hk (by omega) (by omega)) (va_cwS 2 hts gX1_toldBy_X1_toldByLoad rfl rfl rfl (by decide +kernel) ⟨Nat.le_of_ble_eq_true rfl, Nat.le_of_ble_eq_true rfl⟩) (q_pre hK hX) rfl rfl hl.1 rfl (lv_room (Nat.le_of_ble_eq_true rfl)) dX1_toldBy_78 ⟨Nat.le_of_ble_eq_true rfl, Nat.le_of_ble_eq_true rfl⟩) rfl ?_
    refine lv_i2l (v := lN (sz k)) hx hb dX1_toldBy_81 (nI_l (by first | omega | (simp; omega))) ?_
    exact W.lret (v := lN (sz k)) hx hb hr (fun t ht hW => ⟨_, rfl, (by subst c_1; rfl), ht⟩) (fun _ h => absurd h List.not_mem_nil) dX1_toldBy_82
  · refine q_tIn (v := 12) (tgt := 76) (off := 75) hx hb c_1 dX1_toldBy_1 (by decide) (by decide) (by decide) (by decide) ?_
    refine lv_aload_n hx hb dX1_toldBy_76 rfl (lv_at hl 0 rfl) ?_
    refine lv_iload_n hx hb dX1_toldBy_77 rfl (lv_at hl 1 rfl) ?_
    subst c_1
    refine qc_ri (r1 := nI (q_w kd sz sh k)) (W.runS (As := [.ref (T0 + 3 * k), .int (nI 12)]) (rest := []) ⟨hx, hb, hml, hown, hts⟩ (kX1_toldByLoad_W l E x T0 n kd sz sh nu pa sl ft tn ts tg hI k hk (by omega)) (va_cwS 2 hts gX1_toldBy_X1_toldByLoad rfl rfl rfl (by decide +kernel) ⟨Nat.le_of_ble_eq_true rfl, Nat.le_of_ble_eq_true rfl⟩) (q_pre hK hX) rfl rfl hl.1 rfl (lv_room (Nat.le_of_ble_eq_true rfl)) dX1_toldBy_78 ⟨Nat.le_of_ble_eq_true rfl, Nat.le_of_ble_eq_true rfl⟩) rfl ?_
    have ik := q_w_le (kd := kd) (sh := sh) bk
    refine lv_i2l (v := lN (q_w kd sz sh k)) hx hb dX1_toldBy_81 (nI_l (by first | omega | (simp; omega))) ?_
    exact W.lret (v := lN (q_w kd sz sh k)) hx hb hr (fun t ht hW => ⟨_, rfl, rfl, ht⟩) (fun _ h => absurd h List.not_mem_nil) dX1_toldBy_82
  · obtain ⟨c_1_3, c_1_7, c_1_8, c_1_9, c_1_10, c_1_11, c_1_12⟩ := c_1
    have c_2 : g = 4 ∨ g = 5 ∨ g = 6 ∨ ((g : Int) < 3 ∨ 12 < (g : Int)) := by omega
    rcases c_2 with c_2 | c_2 | c_2 | c_2
    · refine q_tIn (v := 4) (tgt := 83) (off := 82) hx hb c_2 dX1_toldBy_1 (by decide) (by decide) (by decide) (by decide) ?_
      refine lv_aload_n hx hb dX1_toldBy_83 rfl (lv_at hl 0 rfl) ?_
      refine lv_iload_n hx hb dX1_toldBy_84 rfl (lv_at hl 1 rfl) ?_
      refine qc_rl (r1 := q_row kd sz sh nu pa k g) (W.runS (As := [.ref (T0 + 3 * k), .int (nI g)]) (rest := []) ⟨hx, hb, hml, hown, hts⟩ (kX1_toldByRow l E x T0 n kd sz sh nu pa sl ft tn ts tg hI k g hk (by omega) (by omega)) (va_cwS 2 hts gX1_toldBy_X1_toldByRow rfl rfl rfl (by decide +kernel) ⟨Nat.le_of_ble_eq_true rfl, Nat.le_of_ble_eq_true rfl⟩) (q_pre hK hX) rfl rfl hl.1 rfl (lv_room (Nat.le_of_ble_eq_true rfl)) dX1_toldBy_85 ⟨Nat.le_of_ble_eq_true rfl, Nat.le_of_ble_eq_true rfl⟩) rfl ?_
      exact W.lret (v := q_row kd sz sh nu pa k g) hx hb hr (fun t ht hW => ⟨_, rfl, (by subst c_2; rfl), ht⟩) (fun _ h => absurd h List.not_mem_nil) dX1_toldBy_88
    · refine q_tIn (v := 5) (tgt := 83) (off := 82) hx hb c_2 dX1_toldBy_1 (by decide) (by decide) (by decide) (by decide) ?_
      refine lv_aload_n hx hb dX1_toldBy_83 rfl (lv_at hl 0 rfl) ?_
      refine lv_iload_n hx hb dX1_toldBy_84 rfl (lv_at hl 1 rfl) ?_
      refine qc_rl (r1 := q_row kd sz sh nu pa k g) (W.runS (As := [.ref (T0 + 3 * k), .int (nI g)]) (rest := []) ⟨hx, hb, hml, hown, hts⟩ (kX1_toldByRow l E x T0 n kd sz sh nu pa sl ft tn ts tg hI k g hk (by omega) (by omega)) (va_cwS 2 hts gX1_toldBy_X1_toldByRow rfl rfl rfl (by decide +kernel) ⟨Nat.le_of_ble_eq_true rfl, Nat.le_of_ble_eq_true rfl⟩) (q_pre hK hX) rfl rfl hl.1 rfl (lv_room (Nat.le_of_ble_eq_true rfl)) dX1_toldBy_85 ⟨Nat.le_of_ble_eq_true rfl, Nat.le_of_ble_eq_true rfl⟩) rfl ?_
      exact W.lret (v := q_row kd sz sh nu pa k g) hx hb hr (fun t ht hW => ⟨_, rfl, (by subst c_2; rfl), ht⟩) (fun _ h => absurd h List.not_mem_nil) dX1_toldBy_88
    · refine q_tIn (v := 6) (tgt := 83) (off := 82) hx hb c_2 dX1_toldBy_1 (by decide) (by decide) (by decide) (by decide) ?_
      refine lv_aload_n hx hb dX1_toldBy_83 rfl (lv_at hl 0 rfl) ?_
      refine lv_iload_n hx hb dX1_toldBy_84 rfl (lv_at hl 1 rfl) ?_
      refine qc_rl (r1 := q_row kd sz sh nu pa k g) (W.runS (As := [.ref (T0 + 3 * k), .int (nI g)]) (rest := []) ⟨hx, hb, hml, hown, hts⟩ (kX1_toldByRow l E x T0 n kd sz sh nu pa sl ft tn ts tg hI k g hk (by omega) (by omega)) (va_cwS 2 hts gX1_toldBy_X1_toldByRow rfl rfl rfl (by decide +kernel) ⟨Nat.le_of_ble_eq_true rfl, Nat.le_of_ble_eq_true rfl⟩) (q_pre hK hX) rfl rfl hl.1 rfl (lv_room (Nat.le_of_ble_eq_true rfl)) dX1_toldBy_85 ⟨Nat.le_of_ble_eq_true rfl, Nat.le_of_ble_eq_true rfl⟩) rfl ?_
      exact W.lret (v := q_row kd sz sh nu pa k g) hx hb hr (fun t ht hW => ⟨_, rfl, (by subst c_2; rfl), ht⟩) (fun _ h => absurd h List.not_mem_nil) dX1_toldBy_88
    · refine q_tOut (tgt := 83) hx hb (by omega) dX1_toldBy_1 c_2 (by decide) ?_
      refine lv_aload_n hx hb dX1_toldBy_83 rfl (lv_at hl 0 rfl) ?_
      refine lv_iload_n hx hb dX1_toldBy_84 rfl (lv_at hl 1 rfl) ?_
      refine qc_rl (r1 := q_row kd sz sh nu pa k g) (W.runS (As := [.ref (T0 + 3 * k), .int (nI g)]) (rest := []) ⟨hx, hb, hml, hown, hts⟩ (kX1_toldByRow l E x T0 n kd sz sh nu pa sl ft tn ts tg hI k g hk (by omega) (by omega)) (va_cwS 2 hts gX1_toldBy_X1_toldByRow rfl rfl rfl (by decide +kernel) ⟨Nat.le_of_ble_eq_true rfl, Nat.le_of_ble_eq_true rfl⟩) (q_pre hK hX) rfl rfl hl.1 rfl (lv_room (Nat.le_of_ble_eq_true rfl)) dX1_toldBy_85 ⟨Nat.le_of_ble_eq_true rfl, Nat.le_of_ble_eq_true rfl⟩) rfl ?_
      exact W.lret (v := q_row kd sz sh nu pa k g) hx hb hr (fun t ht hW => ⟨_, rfl, (by rcases (show g = 0 ∨ g = 1 ∨ g = 2 by omega) with h | h | h <;> subst h <;> rfl), ht⟩) (fun _ h => absurd h List.not_mem_nil) dX1_toldBy_88
end
section
/-! ===== the class: what writes its faults and turns (written by program) ===== -/
set_option maxRecDepth 20000 in
theorem nX1_failed_1 : ∀ w ∈ u_ws RX1 TX1 6, w ∈ wsX1_failed := by decide +kernel
set_option maxHeartbeats 4000000 in
set_option maxRecDepth 100000 in
theorem kX1_failed (l : Launch) (E : q_E) (x T0 : Nat) (n : Nat) (kd sz : Nat → Nat) (sh : Nat → Bool) (nu : Nat → Nat → Int64) (pa : Nat → Nat → Option Nat) (sl : Nat → Option Nat) (ft tn ts tg : Int32) (hI : q_I (n, kd, sz, sh, nu, pa, sl, ft, tn, ts, tg)) (a : Int32)  : Met l yX1_failed wsX1_failed ({ frames := 0, cells := 0, slots := 0, locals := 0 }) (q_P E (q_X E x T0 (n, kd, sz, sh, nu, pa, sl, ft, tn, ts, tg)) [.ref x, .int a]) (q_Wi (q_X E x T0) (q_Ax x T0) (nI 0) (n, kd, sz, sh, nu, pa, sl, a, tn, ts, tg)) 0 0 (q_Ax x T0) := by
  refine Met.ofW (cc := cX1_failed) (maxL := 2) (ret := (some .int)) (by decide) rfl ?_
  intro p e s m args below meth c s₁ B hml hv
  obtain ⟨rfl, hK, hX⟩ := hv
  have hx := B.exec
  have hb := B.bytes
  have hr := B.returns
  have hts := atoms_spec (ws := wsX1_failed) B.pre
  have hown : s.vm.findClass RX1 = some m.cls := findClass_of_methodNamed B.named
  have hlocks := B.notSynchronized
  have hl := lv_entry ([.ref x, .int a]) (n := 2) (Nat.le_of_ble_eq_true rfl)
  rw [lg_entry_eq]
  generalize (lg_sl ([.ref x, .int a]) ++ List.replicate (2 - (lg_sl ([.ref x, .int a])).length) Slot.unset).toArray = ls at hl ⊢
  have hl : lv_has ls 2 [(0, .ref x), (1, .int a)] := hl
  have hS : va_S (q_Ax x T0) s.heap s.heap [] := va_S.rf
  refine lv_aload_n hx hb dX1_failed_0 rfl (lv_at hl 0 rfl) ?_
  refine lv_iload_n hx hb dX1_failed_1 rfl (lv_at hl 1 rfl) ?_
  refine qw_put (ci := 1) (C := RX1) (T := TX1) (N := 6) hx hb hts nX1_failed_1 tyX1 tyX1_ok nmX1 hown hK hX.1 hS (Or.inl rfl) rfl 2 (by decide) (hts (.fieldLink RX1 19 "DockGates" "latestFault" "I") (by decide +kernel)) rfl rfl rfl rfl (Nat.le_of_ble_eq_true rfl) dX1_failed_2 (fun H locs hO hz hq hS => ?_)
  have hX : q_X E x T0 (n, kd, sz, sh, nu, pa, sl, a, tn, ts, tg) H := hX.obj hO hz hq
  refine lv_iconst (v := nI 0) hx hb dX1_failed_5 (by decide) ?_
  exact W.iret (v := nI 0) hx hb hr (fun t ht hW => ⟨⟨nI 0, (n, kd, sz, sh, nu, pa, sl, a, tn, ts, tg), rfl, ⟨rfl, rfl⟩, (by show q_X E x T0 (n, kd, sz, sh, nu, pa, sl, a, tn, ts, tg) t.heap; rw [ht]; exact hX)⟩, hS.F ht⟩) hS.2.2 dX1_failed_6
set_option maxRecDepth 20000 in
theorem nX1_turnBack_1 : ∀ w ∈ u_ws RX1 TX1 6, w ∈ wsX1_turnBack := by decide +kernel
set_option maxHeartbeats 4000000 in
set_option maxRecDepth 100000 in
theorem kX1_turnBack (l : Launch) (E : q_E) (x T0 : Nat) (n : Nat) (kd sz : Nat → Nat) (sh : Nat → Bool) (nu : Nat → Nat → Int64) (pa : Nat → Nat → Option Nat) (sl : Nat → Option Nat) (ft tn ts tg : Int32) (hI : q_I (n, kd, sz, sh, nu, pa, sl, ft, tn, ts, tg)) (a g : Int32)  : Met l yX1_turnBack wsX1_turnBack ({ frames := 0, cells := 0, slots := 0, locals := 0 }) (q_P E (q_X E x T0 (n, kd, sz, sh, nu, pa, sl, ft, tn, ts, tg)) [.ref x, .int a, .int g]) (q_Wv (q_X E x T0) (q_Ax x T0) (n, kd, sz, sh, nu, pa, sl, ft, tn + 1, a, g)) 0 0 (q_Ax x T0) := by
  refine Met.ofW (cc := cX1_turnBack) (maxL := 3) (ret := none) (by decide) rfl ?_
  intro p e s m args below meth c s₁ B hml hv
  obtain ⟨rfl, hK, hX⟩ := hv
  have hx := B.exec
  have hb := B.bytes
  have hr := B.returns
  have hts := atoms_spec (ws := wsX1_turnBack) B.pre
  have hown : s.vm.findClass RX1 = some m.cls := findClass_of_methodNamed B.named
  have hlocks := B.notSynchronized
  have hl := lv_entry ([.ref x, .int a, .int g]) (n := 3) (Nat.le_of_ble_eq_true rfl)
  rw [lg_entry_eq]
  generalize (lg_sl ([.ref x, .int a, .int g]) ++ List.replicate (3 - (lg_sl ([.ref x, .int a, .int g])).length) Slot.unset).toArray = ls at hl ⊢
  have hl : lv_has ls 3 [(0, .ref x), (1, .int a), (2, .int g)] := hl
  have hS : va_S (q_Ax x T0) s.heap s.heap [] := va_S.rf
  refine lv_aload_n hx hb dX1_turnBack_0 rfl (lv_at hl 0 rfl) ?_
  refine lv_dup hx hb dX1_turnBack_1 rfl ?_
  refine qw_get (v := .int tn) (ci := 1) (C := RX1) (T := TX1) (N := 6) hx hb hts nX1_turnBack_1 hown hK hX.1 rfl 3 (by decide) (hts (.fieldLink RX1 22 "DockGates" "turns" "I") (by decide +kernel)) rfl rfl dX1_turnBack_2 ?_
  refine lv_iconst (v := nI 1) hx hb dX1_turnBack_5 (by decide) ?_
  refine lv_iadd hx hb dX1_turnBack_6 ?_
  refine qw_put (ci := 1) (C := RX1) (T := TX1) (N := 6) hx hb hts nX1_turnBack_1 tyX1 tyX1_ok nmX1 hown hK hX.1 hS (Or.inl rfl) rfl 3 (by decide) (hts (.fieldLink RX1 22 "DockGates" "turns" "I") (by decide +kernel)) rfl rfl rfl rfl (Nat.le_of_ble_eq_true rfl) dX1_turnBack_7 (fun H locs hO hz hq hS => ?_)
  have hX : q_X E x T0 (n, kd, sz, sh, nu, pa, sl, ft, (tn + nI 1), ts, tg) H := hX.obj hO hz hq
  refine lv_aload_n hx hb dX1_turnBack_10 rfl (lv_at hl 0 rfl) ?_
  refine lv_iload_n hx hb dX1_turnBack_11 rfl (lv_at hl 1 rfl) ?_
  refine qw_put (ci := 1) (C := RX1) (T := TX1) (N := 6) hx hb hts nX1_turnBack_1 tyX1 tyX1_ok nmX1 hown hK hX.1 hS (Or.inl rfl) rfl 4 (by decide) (hts (.fieldLink RX1 25 "DockGates" "turnedSlot" "I") (by decide +kernel)) rfl rfl rfl rfl (Nat.le_of_ble_eq_true rfl) dX1_turnBack_12 (fun H locs hO hz hq hS => ?_)
  have hX : q_X E x T0 (n, kd, sz, sh, nu, pa, sl, ft, (tn + nI 1), a, tg) H := hX.obj hO hz hq
  refine lv_aload_n hx hb dX1_turnBack_15 rfl (lv_at hl 0 rfl) ?_
  refine lv_iload_n hx hb dX1_turnBack_16 rfl (lv_at hl 2 rfl) ?_
  refine qw_put (ci := 1) (C := RX1) (T := TX1) (N := 6) hx hb hts nX1_turnBack_1 tyX1 tyX1_ok nmX1 hown hK hX.1 hS (Or.inl rfl) rfl 5 (by decide) (hts (.fieldLink RX1 28 "DockGates" "turnedGate" "I") (by decide +kernel)) rfl rfl rfl rfl (Nat.le_of_ble_eq_true rfl) dX1_turnBack_17 (fun H locs hO hz hq hS => ?_)
  have hX : q_X E x T0 (n, kd, sz, sh, nu, pa, sl, ft, (tn + nI 1), a, g) H := hX.obj hO hz hq
  exact W.vret hx hb hr (fun t ht hW => ⟨⟨(n, kd, sz, sh, nu, pa, sl, ft, (tn + nI 1), a, g), rfl, rfl, (by show q_X E x T0 (n, kd, sz, sh, nu, pa, sl, ft, (tn + nI 1), a, g) t.heap; rw [ht]; exact hX)⟩, hS.F ht⟩) hS.2.2 dX1_turnBack_20
set_option maxHeartbeats 4000000 in
set_option maxRecDepth 100000 in
theorem kX1_failedAtGate (l : Launch) (E : q_E) (x T0 : Nat) (n : Nat) (kd sz : Nat → Nat) (sh : Nat → Bool) (nu : Nat → Nat → Int64) (pa : Nat → Nat → Option Nat) (sl : Nat → Option Nat) (ft tn ts tg : Int32) (hI : q_I (n, kd, sz, sh, nu, pa, sl, ft, tn, ts, tg)) (a g : Int32)  : Met l yX1_failedAtGate wsX1_failedAtGate ({ frames := 1, cells := 0, slots := 0, locals := 22 }) (q_P E (q_X E x T0 (n, kd, sz, sh, nu, pa, sl, ft, tn, ts, tg)) [.ref x, .int a, .int g]) (q_Wi (q_X E x T0) (q_Ax x T0) (nI 0) (n, kd, sz, sh, nu, pa, sl, nI 1, tn + 1, a, g)) 0 0 (q_Ax x T0) := by
  refine Met.ofW (cc := cX1_failedAtGate) (maxL := 3) (ret := (some .int)) (by decide) rfl ?_
  intro p e s m args below meth c s₁ B hml hv
  obtain ⟨rfl, hK, hX⟩ := hv
  have hx := B.exec
  have hb := B.bytes
  have hr := B.returns
  have hts := atoms_spec (ws := wsX1_failedAtGate) B.pre
  have hown : s.vm.findClass RX1 = some m.cls := findClass_of_methodNamed B.named
  have hlocks := B.notSynchronized
  have hl := lv_entry ([.ref x, .int a, .int g]) (n := 3) (Nat.le_of_ble_eq_true rfl)
  rw [lg_entry_eq]
  generalize (lg_sl ([.ref x, .int a, .int g]) ++ List.replicate (3 - (lg_sl ([.ref x, .int a, .int g])).length) Slot.unset).toArray = ls at hl ⊢
  have hl : lv_has ls 3 [(0, .ref x), (1, .int a), (2, .int g)] := hl
  have hS : va_S (q_Ax x T0) s.heap s.heap [] := va_S.rf
  refine lv_aload_n hx hb dX1_failedAtGate_0 rfl (lv_at hl 0 rfl) ?_
  refine lv_iload_n hx hb dX1_failedAtGate_1 rfl (lv_at hl 1 rfl) ?_
  refine lv_iload_n hx hb dX1_failedAtGate_2 rfl (lv_at hl 2 rfl) ?_
  refine qc_v (σ1 := (n, kd, sz, sh, nu, pa, sl, ft, (tn + 1), a, g)) (va_runV (As := [.int a, .int g]) (rest := []) ⟨hx, hb, hml, hown, hts⟩ (kX1_turnBack l E x T0 n kd sz sh nu pa sl ft tn ts tg hI a g) (cwV 2 hts gX1_failedAtGate_X1_turnBack rfl rfl rfl (by decide +kernel) ⟨Nat.le_of_ble_eq_true rfl, Nat.le_of_ble_eq_true rfl⟩) (q_preV hK hX hX.1 rfl) rfl rfl hl.1 rfl (lv_room (Nat.le_of_ble_eq_true rfl)) dX1_failedAtGate_3 ⟨Nat.le_of_ble_eq_true rfl, Nat.le_of_ble_eq_true rfl⟩) hS rfl (fun H locs hX hS => ?_)
  refine lv_aload_n hx hb dX1_failedAtGate_6 rfl (lv_at hl 0 rfl) ?_
  refine lv_iconst (v := nI 1) hx hb dX1_failedAtGate_7 (by decide) ?_
  refine qc_i (r1 := nI 0) (σ1 := (n, kd, sz, sh, nu, pa, sl, nI 1, (tn + 1), a, g)) (va_runV (As := [.int (nI 1)]) (rest := []) ⟨hx, hb, hml, hown, hts⟩ (kX1_failed l E x T0 n kd sz sh nu pa sl ft ((tn + 1)) a g hI (nI 1)) (cwV 1 hts gX1_failedAtGate_X1_failed rfl rfl rfl (by decide +kernel) ⟨Nat.le_of_ble_eq_true rfl, Nat.le_of_ble_eq_true rfl⟩) (q_preV hK hX hX.1 rfl) rfl rfl hl.1 rfl (lv_room (Nat.le_of_ble_eq_true rfl)) dX1_failedAtGate_8 ⟨Nat.le_of_ble_eq_true rfl, Nat.le_of_ble_eq_true rfl⟩) hS rfl rfl (fun H locs hX hS => ?_)
  exact W.iret (v := nI 0) hx hb hr (fun t ht hW => ⟨⟨nI 0, (n, kd, sz, sh, nu, pa, sl, nI 1, (tn + 1), a, g), rfl, ⟨rfl, rfl⟩, (by show q_X E x T0 (n, kd, sz, sh, nu, pa, sl, nI 1, (tn + 1), a, g) t.heap; rw [ht]; exact hX)⟩, hS.F ht⟩) hS.2.2 dX1_failedAtGate_11
set_option maxRecDepth 20000 in
theorem nX1_broughtThrough_1 : ∀ w ∈ u_ws RX1 TX1 6, w ∈ wsX1_broughtThrough := by decide +kernel
set_option maxHeartbeats 4000000 in
set_option maxRecDepth 100000 in
theorem kX1_broughtThrough_N (l : Launch) (E : q_E) (x T0 : Nat) (n : Nat) (kd sz : Nat → Nat) (sh : Nat → Bool) (nu : Nat → Nat → Int64) (pa : Nat → Nat → Option Nat) (sl : Nat → Option Nat) (ft tn ts tg : Int32) (hI : q_I (n, kd, sz, sh, nu, pa, sl, ft, tn, ts, tg)) (g j : Nat) (hj : j < 12) (hs : sl j = none)  : Met l yX1_broughtThrough wsX1_broughtThrough ({ frames := 2, cells := 0, slots := 0, locals := 44 }) (q_P E (q_X E x T0 (n, kd, sz, sh, nu, pa, sl, ft, tn, ts, tg)) [.ref x, .int (nI g), .int (nI j)]) (q_Wq (q_X E x T0) (q_Ax x T0) (none) (n, kd, sz, sh, nu, pa, sl, nI 2, tn, ts, tg)) 0 0 (q_Ax x T0) := by
  refine Met.ofW (cc := cX1_broughtThrough) (maxL := 4) (ret := (some (.object "DockGates$Thing"))) (by decide) rfl ?_
  intro p e s m args below meth c s₁ B hml hv
  obtain ⟨rfl, hK, hX⟩ := hv
  have hx := B.exec
  have hb := B.bytes
  have hr := B.returns
  have hts := atoms_spec (ws := wsX1_broughtThrough) B.pre
  have hown : s.vm.findClass RX1 = some m.cls := findClass_of_methodNamed B.named
  have hlocks := B.notSynchronized
  have hl := lv_entry ([.ref x, .int (nI g), .int (nI j)]) (n := 4) (Nat.le_of_ble_eq_true rfl)
  rw [lg_entry_eq]
  generalize (lg_sl ([.ref x, .int (nI g), .int (nI j)]) ++ List.replicate (4 - (lg_sl ([.ref x, .int (nI g), .int (nI j)])).length) Slot.unset).toArray = ls at hl ⊢
  have hl : lv_has ls 4 [(0, .ref x), (1, .int (nI g)), (2, .int (nI j))] := hl
  have hS : va_S (q_Ax x T0) s.heap s.heap [] := va_S.rf
  refine lv_aload_n hx hb dX1_broughtThrough_0 rfl (lv_at hl 0 rfl) ?_
  refine qw_get (v := .ref (x + 1)) (ci := 1) (C := RX1) (T := TX1) (N := 6) hx hb hts nX1_broughtThrough_1 hown hK hX.1 rfl 0 (by decide) (hts (.fieldLink RX1 11 "DockGates" "slots" "[LDockGates$Thing;") (by decide +kernel)) rfl rfl dX1_broughtThrough_1 ?_
  refine lv_iload_n hx hb dX1_broughtThrough_4 rfl (lv_at hl 2 rfl) ?_
  refine qx_slotN hx hb hK hX hs hj dX1_broughtThrough_5 ?_
  refine lv_astore_nN (lv' := [(3, .null), (0, .ref x), (1, .int (nI g)), (2, .int (nI j))]) hx hb dX1_broughtThrough_6 rfl hl (by decide) rfl (fun ls hl => ?_)
  refine lv_aload_nN hx hb dX1_broughtThrough_7 rfl (lv_at hl 0 rfl) ?_
  refine lv_ifnonnullN hx hb dX1_broughtThrough_8 ?_
  refine lv_aload_n hx hb dX1_broughtThrough_11 rfl (lv_at hl 1 rfl) ?_
  refine lv_iconst (v := nI 2) hx hb dX1_broughtThrough_12 (by decide) ?_
  refine qc_i (r1 := nI 0) (σ1 := (n, kd, sz, sh, nu, pa, sl, nI 2, tn, ts, tg)) (va_runV (As := [.int (nI 2)]) (rest := []) ⟨hx, hb, hml, hown, hts⟩ (kX1_failed l E x T0 n kd sz sh nu pa sl ft tn ts tg hI (nI 2)) (cwV 1 hts gX1_broughtThrough_X1_failed rfl rfl rfl (by decide +kernel) ⟨Nat.le_of_ble_eq_true rfl, Nat.le_of_ble_eq_true rfl⟩) (q_preV hK hX hX.1 rfl) rfl rfl hl.1 rfl (lv_room (Nat.le_of_ble_eq_true rfl)) dX1_broughtThrough_13 ⟨Nat.le_of_ble_eq_true rfl, Nat.le_of_ble_eq_true rfl⟩) hS rfl rfl (fun H locs hX hS => ?_)
  refine lv_pop hx hb dX1_broughtThrough_16 rfl ?_
  refine lv_null hx hb dX1_broughtThrough_17 ?_
  exact W.aret (v := .null) hx hb hr (Or.inl ⟨_, rfl⟩) (Or.inl rfl) (fun t ht hW => ⟨⟨none, (n, kd, sz, sh, nu, pa, sl, nI 2, tn, ts, tg), rfl, ⟨rfl, rfl⟩, (by show q_X E x T0 (n, kd, sz, sh, nu, pa, sl, nI 2, tn, ts, tg) t.heap; rw [ht]; exact hX)⟩, hS.F ht⟩) hS.2.2 dX1_broughtThrough_18
set_option maxHeartbeats 4000000 in
set_option maxRecDepth 100000 in
theorem kX1_broughtThrough_S (l : Launch) (E : q_E) (x T0 : Nat) (n : Nat) (kd sz : Nat → Nat) (sh : Nat → Bool) (nu : Nat → Nat → Int64) (pa : Nat → Nat → Option Nat) (sl : Nat → Option Nat) (ft tn ts tg : Int32) (hI : q_I (n, kd, sz, sh, nu, pa, sl, ft, tn, ts, tg)) (g j : Nat) (hg : g < 13) (hj : j < 12) (k : Nat) (hk : k < n) (hs : sl j = some k) (hgo : q_go (kd k) g = true)  : Met l yX1_broughtThrough wsX1_broughtThrough ({ frames := 2, cells := 0, slots := 0, locals := 44 }) (q_P E (q_X E x T0 (n, kd, sz, sh, nu, pa, sl, ft, tn, ts, tg)) [.ref x, .int (nI g), .int (nI j)]) (q_Wq (q_X E x T0) (q_Ax x T0) (some (T0 + 3 * k)) (n, kd, sz, sh, nu, pa, sl, ft, tn, ts, tg)) 0 0 (q_Ax x T0) := by
  refine Met.ofW (cc := cX1_broughtThrough) (maxL := 4) (ret := (some (.object "DockGates$Thing"))) (by decide) rfl ?_
  intro p e s m args below meth c s₁ B hml hv
  obtain ⟨rfl, hK, hX⟩ := hv
  have hx := B.exec
  have hb := B.bytes
  have hr := B.returns
  have hts := atoms_spec (ws := wsX1_broughtThrough) B.pre
  have hown : s.vm.findClass RX1 = some m.cls := findClass_of_methodNamed B.named
  have hlocks := B.notSynchronized
  have hl := lv_entry ([.ref x, .int (nI g), .int (nI j)]) (n := 4) (Nat.le_of_ble_eq_true rfl)
  rw [lg_entry_eq]
  generalize (lg_sl ([.ref x, .int (nI g), .int (nI j)]) ++ List.replicate (4 - (lg_sl ([.ref x, .int (nI g), .int (nI j)])).length) Slot.unset).toArray = ls at hl ⊢
  have hl : lv_has ls 4 [(0, .ref x), (1, .int (nI g)), (2, .int (nI j))] := hl
  have hS : va_S (q_Ax x T0) s.heap s.heap [] := va_S.rf
  obtain ⟨ak, bk, dk, wk⟩ := hI.2.1 k hk
  have n60 := hI.1
  try dsimp only at ak bk dk wk n60
  refine lv_aload_n hx hb dX1_broughtThrough_0 rfl (lv_at hl 0 rfl) ?_
  refine qw_get (v := .ref (x + 1)) (ci := 1) (C := RX1) (T := TX1) (N := 6) hx hb hts nX1_broughtThrough_1 hown hK hX.1 rfl 0 (by decide) (hts (.fieldLink RX1 11 "DockGates" "slots" "[LDockGates$Thing;") (by decide +kernel)) rfl rfl dX1_broughtThrough_1 ?_
  refine lv_iload_n hx hb dX1_broughtThrough_4 rfl (lv_at hl 2 rfl) ?_
  refine qx_slotS hx hb hK hX hs hj dX1_broughtThrough_5 ?_
  refine lv_astore_n (lv' := [(3, .ref (T0 + 3 * k)), (0, .ref x), (1, .int (nI g)), (2, .int (nI j))]) hx hb dX1_broughtThrough_6 rfl hl (by decide) rfl (fun ls hl => ?_)
  refine lv_aload_n hx hb dX1_broughtThrough_7 rfl (lv_at hl 0 rfl) ?_
  refine lv_ifnonnull (tgt := 19) hx hb dX1_broughtThrough_8 (by decide) ?_
  refine lv_iload_n hx hb dX1_broughtThrough_19 rfl (lv_at hl 2 rfl) ?_
  refine lv_aload_n hx hb dX1_broughtThrough_20 rfl (lv_at hl 0 rfl) ?_
  refine qc_ri (r1 := q_b true) (W.runS (As := [.int (nI g), .ref (T0 + 3 * k)]) (rest := []) ⟨hx, hb, hml, hown, hts⟩ (kX1_letsThrough_S l E x T0 n kd sz sh nu pa sl ft tn ts tg hI g (by first | omega | decide) k hk) (va_cwS 2 hts gX1_broughtThrough_X1_letsThrough rfl rfl rfl (by decide +kernel) ⟨Nat.le_of_ble_eq_true rfl, Nat.le_of_ble_eq_true rfl⟩) (q_pre hK hX) rfl rfl hl.1 rfl (lv_room (Nat.le_of_ble_eq_true rfl)) dX1_broughtThrough_21 ⟨Nat.le_of_ble_eq_true rfl, Nat.le_of_ble_eq_true rfl⟩) (by rw [hgo]) ?_
  refine ln_b_ne (tgt := 36) hx hb dX1_broughtThrough_24 (by decide) (fun _ => ?_) (fun c_1 => absurd c_1 (by decide))
  refine lv_aload_n hx hb dX1_broughtThrough_36 rfl (lv_at hl 0 rfl) ?_
  exact W.aret (v := .ref (T0 + 3 * k)) hx hb hr (Or.inl ⟨_, rfl⟩) (Or.inr ⟨_, rfl⟩) (fun t ht hW => ⟨⟨some (T0 + 3 * k), (n, kd, sz, sh, nu, pa, sl, ft, tn, ts, tg), rfl, ⟨rfl, rfl⟩, (by show q_X E x T0 (n, kd, sz, sh, nu, pa, sl, ft, tn, ts, tg) t.heap; rw [ht]; exact hX)⟩, hS.F ht⟩) hS.2.2 dX1_broughtThrough_37
set_option maxHeartbeats 4000000 in
set_option maxRecDepth 100000 in
theorem kX1_broughtThrough_T (l : Launch) (E : q_E) (x T0 : Nat) (n : Nat) (kd sz : Nat → Nat) (sh : Nat → Bool) (nu : Nat → Nat → Int64) (pa : Nat → Nat → Option Nat) (sl : Nat → Option Nat) (ft tn ts tg : Int32) (hI : q_I (n, kd, sz, sh, nu, pa, sl, ft, tn, ts, tg)) (g j : Nat) (hg : g < 13) (hj : j < 12) (k : Nat) (hk : k < n) (hs : sl j = some k) (hgo : q_go (kd k) g = false)  : Met l yX1_broughtThrough wsX1_broughtThrough ({ frames := 2, cells := 0, slots := 0, locals := 44 }) (q_P E (q_X E x T0 (n, kd, sz, sh, nu, pa, sl, ft, tn, ts, tg)) [.ref x, .int (nI g), .int (nI j)]) (q_Wq (q_X E x T0) (q_Ax x T0) (none) (n, kd, sz, sh, nu, pa, sl, nI 1, tn + 1, nI j, nI g)) 0 0 (q_Ax x T0) := by
  refine Met.ofW (cc := cX1_broughtThrough) (maxL := 4) (ret := (some (.object "DockGates$Thing"))) (by decide) rfl ?_
  intro p e s m args below meth c s₁ B hml hv
  obtain ⟨rfl, hK, hX⟩ := hv
  have hx := B.exec
  have hb := B.bytes
  have hr := B.returns
  have hts := atoms_spec (ws := wsX1_broughtThrough) B.pre
  have hown : s.vm.findClass RX1 = some m.cls := findClass_of_methodNamed B.named
  have hlocks := B.notSynchronized
  have hl := lv_entry ([.ref x, .int (nI g), .int (nI j)]) (n := 4) (Nat.le_of_ble_eq_true rfl)
  rw [lg_entry_eq]
  generalize (lg_sl ([.ref x, .int (nI g), .int (nI j)]) ++ List.replicate (4 - (lg_sl ([.ref x, .int (nI g), .int (nI j)])).length) Slot.unset).toArray = ls at hl ⊢
  have hl : lv_has ls 4 [(0, .ref x), (1, .int (nI g)), (2, .int (nI j))] := hl
  have hS : va_S (q_Ax x T0) s.heap s.heap [] := va_S.rf
  obtain ⟨ak, bk, dk, wk⟩ := hI.2.1 k hk
  have n60 := hI.1
  try dsimp only at ak bk dk wk n60
  refine lv_aload_n hx hb dX1_broughtThrough_0 rfl (lv_at hl 0 rfl) ?_
  refine qw_get (v := .ref (x + 1)) (ci := 1) (C := RX1) (T := TX1) (N := 6) hx hb hts nX1_broughtThrough_1 hown hK hX.1 rfl 0 (by decide) (hts (.fieldLink RX1 11 "DockGates" "slots" "[LDockGates$Thing;") (by decide +kernel)) rfl rfl dX1_broughtThrough_1 ?_
  refine lv_iload_n hx hb dX1_broughtThrough_4 rfl (lv_at hl 2 rfl) ?_
  refine qx_slotS hx hb hK hX hs hj dX1_broughtThrough_5 ?_
  refine lv_astore_n (lv' := [(3, .ref (T0 + 3 * k)), (0, .ref x), (1, .int (nI g)), (2, .int (nI j))]) hx hb dX1_broughtThrough_6 rfl hl (by decide) rfl (fun ls hl => ?_)
  refine lv_aload_n hx hb dX1_broughtThrough_7 rfl (lv_at hl 0 rfl) ?_
  refine lv_ifnonnull (tgt := 19) hx hb dX1_broughtThrough_8 (by decide) ?_
  refine lv_iload_n hx hb dX1_broughtThrough_19 rfl (lv_at hl 2 rfl) ?_
  refine lv_aload_n hx hb dX1_broughtThrough_20 rfl (lv_at hl 0 rfl) ?_
  refine qc_ri (r1 := q_b false) (W.runS (As := [.int (nI g), .ref (T0 + 3 * k)]) (rest := []) ⟨hx, hb, hml, hown, hts⟩ (kX1_letsThrough_S l E x T0 n kd sz sh nu pa sl ft tn ts tg hI g (by first | omega | decide) k hk) (va_cwS 2 hts gX1_broughtThrough_X1_letsThrough rfl rfl rfl (by decide +kernel) ⟨Nat.le_of_ble_eq_true rfl, Nat.le_of_ble_eq_true rfl⟩) (q_pre hK hX) rfl rfl hl.1 rfl (lv_room (Nat.le_of_ble_eq_true rfl)) dX1_broughtThrough_21 ⟨Nat.le_of_ble_eq_true rfl, Nat.le_of_ble_eq_true rfl⟩) (by rw [hgo]) ?_
  refine ln_b_ne (tgt := 36) hx hb dX1_broughtThrough_24 (by decide) (fun c_1 => absurd c_1 (by decide)) (fun _ => ?_)
  refine lv_aload_n hx hb dX1_broughtThrough_27 rfl (lv_at hl 1 rfl) ?_
  refine lv_iload_n hx hb dX1_broughtThrough_28 rfl (lv_at hl 3 rfl) ?_
  refine lv_iload_n hx hb dX1_broughtThrough_29 rfl (lv_at hl 2 rfl) ?_
  refine qc_i (r1 := nI 0) (σ1 := (n, kd, sz, sh, nu, pa, sl, nI 1, (tn + 1), nI j, nI g)) (va_runV (As := [.int (nI j), .int (nI g)]) (rest := []) ⟨hx, hb, hml, hown, hts⟩ (kX1_failedAtGate l E x T0 n kd sz sh nu pa sl ft tn ts tg hI (nI j) (nI g)) (cwV 2 hts gX1_broughtThrough_X1_failedAtGate rfl rfl rfl (by decide +kernel) ⟨Nat.le_of_ble_eq_true rfl, Nat.le_of_ble_eq_true rfl⟩) (q_preV hK hX hX.1 rfl) rfl rfl hl.1 rfl (lv_room (Nat.le_of_ble_eq_true rfl)) dX1_broughtThrough_30 ⟨Nat.le_of_ble_eq_true rfl, Nat.le_of_ble_eq_true rfl⟩) hS rfl rfl (fun H locs hX hS => ?_)
  refine lv_pop hx hb dX1_broughtThrough_33 rfl ?_
  refine lv_null hx hb dX1_broughtThrough_34 ?_
  exact W.aret (v := .null) hx hb hr (Or.inl ⟨_, rfl⟩) (Or.inl rfl) (fun t ht hW => ⟨⟨none, (n, kd, sz, sh, nu, pa, sl, nI 1, (tn + 1), nI j, nI g), rfl, ⟨rfl, rfl⟩, (by show q_X E x T0 (n, kd, sz, sh, nu, pa, sl, nI 1, (tn + 1), nI j, nI g) t.heap; rw [ht]; exact hX)⟩, hS.F ht⟩) hS.2.2 dX1_broughtThrough_35
set_option maxRecDepth 20000 in
theorem nX1_rowOfNumbers_0 : ∀ w ∈ u_ws RX0 TX0 6, w ∈ wsX1_rowOfNumbers := by decide +kernel
set_option maxRecDepth 20000 in
theorem nX1_rowOfNumbers_1 : ∀ w ∈ u_ws RX1 TX1 6, w ∈ wsX1_rowOfNumbers := by decide +kernel
set_option maxHeartbeats 4000000 in
set_option maxRecDepth 100000 in
theorem kX1_rowOfNumbers_N (l : Launch) (E : q_E) (x T0 : Nat) (n : Nat) (kd sz : Nat → Nat) (sh : Nat → Bool) (nu : Nat → Nat → Int64) (pa : Nat → Nat → Option Nat) (sl : Nat → Option Nat) (ft tn ts tg : Int32) (hI : q_I (n, kd, sz, sh, nu, pa, sl, ft, tn, ts, tg)) (j : Nat) (hj : j < 12) (hs : sl j = none)  : Met l yX1_rowOfNumbers wsX1_rowOfNumbers ({ frames := 3, cells := 0, slots := 0, locals := 67 }) (q_P E (q_X E x T0 (n, kd, sz, sh, nu, pa, sl, ft, tn, ts, tg)) [.ref x, .int (nI j)]) (q_Wq (q_X E x T0) (q_Ax x T0) (none) (n, kd, sz, sh, nu, pa, sl, nI 2, tn, ts, tg)) 0 0 (q_Ax x T0) := by
  refine Met.ofW (cc := cX1_rowOfNumbers) (maxL := 3) (ret := (some (.object "DockGates$Thing"))) (by decide) rfl ?_
  intro p e s m args below meth c s₁ B hml hv
  obtain ⟨rfl, hK, hX⟩ := hv
  have hx := B.exec
  have hb := B.bytes
  have hr := B.returns
  have hts := atoms_spec (ws := wsX1_rowOfNumbers) B.pre
  have hown : s.vm.findClass RX1 = some m.cls := findClass_of_methodNamed B.named
  have hlocks := B.notSynchronized
  have hl := lv_entry ([.ref x, .int (nI j)]) (n := 3) (Nat.le_of_ble_eq_true rfl)
  rw [lg_entry_eq]
  generalize (lg_sl ([.ref x, .int (nI j)]) ++ List.replicate (3 - (lg_sl ([.ref x, .int (nI j)])).length) Slot.unset).toArray = ls at hl ⊢
  have hl : lv_has ls 3 [(0, .ref x), (1, .int (nI j))] := hl
  have hS : va_S (q_Ax x T0) s.heap s.heap [] := va_S.rf
  refine lv_aload_n hx hb dX1_rowOfNumbers_0 rfl (lv_at hl 0 rfl) ?_
  refine qw_get (v := .ref (x + 1)) (ci := 1) (C := RX1) (T := TX1) (N := 6) hx hb hts nX1_rowOfNumbers_1 hown hK hX.1 rfl 0 (by decide) (hts (.fieldLink RX1 11 "DockGates" "slots" "[LDockGates$Thing;") (by decide +kernel)) rfl rfl dX1_rowOfNumbers_1 ?_
  refine lv_iload_n hx hb dX1_rowOfNumbers_4 rfl (lv_at hl 1 rfl) ?_
  refine qx_slotN hx hb hK hX hs hj dX1_rowOfNumbers_5 ?_
  refine lv_astore_nN (lv' := [(2, .null), (0, .ref x), (1, .int (nI j))]) hx hb dX1_rowOfNumbers_6 rfl hl (by decide) rfl (fun ls hl => ?_)
  refine lv_aload_nN hx hb dX1_rowOfNumbers_7 rfl (lv_at hl 0 rfl) ?_
  refine lv_ifnullN (tgt := 25) hx hb dX1_rowOfNumbers_8 (by decide) ?_
  refine lv_aload_n hx hb dX1_rowOfNumbers_25 rfl (lv_at hl 1 rfl) ?_
  refine lv_iconst (v := nI 2) hx hb dX1_rowOfNumbers_26 (by decide) ?_
  refine lv_iload_n hx hb dX1_rowOfNumbers_27 rfl (lv_at hl 2 rfl) ?_
  refine qc_q (r1 := none) (σ1 := (n, kd, sz, sh, nu, pa, sl, nI 2, tn, ts, tg)) (va_runV (As := [.int (nI 2), .int (nI j)]) (rest := []) ⟨hx, hb, hml, hown, hts⟩ (kX1_broughtThrough_N l E x T0 n kd sz sh nu pa sl ft tn ts tg hI 2 j hj hs) (cwV 2 hts gX1_rowOfNumbers_X1_broughtThrough rfl rfl rfl (by decide +kernel) ⟨Nat.le_of_ble_eq_true rfl, Nat.le_of_ble_eq_true rfl⟩) (q_preV hK hX hX.1 rfl) rfl rfl hl.1 rfl (lv_room (Nat.le_of_ble_eq_true rfl)) dX1_rowOfNumbers_28 ⟨Nat.le_of_ble_eq_true rfl, Nat.le_of_ble_eq_true rfl⟩) hS rfl rfl (fun H locs hX hS => ?_)
  try dsimp only [va_rf]
  exact W.aret (v := .null) hx hb hr (Or.inl ⟨_, rfl⟩) (Or.inl rfl) (fun t ht hW => ⟨⟨none, (n, kd, sz, sh, nu, pa, sl, nI 2, tn, ts, tg), rfl, ⟨rfl, rfl⟩, (by show q_X E x T0 (n, kd, sz, sh, nu, pa, sl, nI 2, tn, ts, tg) t.heap; rw [ht]; exact hX)⟩, hS.F ht⟩) hS.2.2 dX1_rowOfNumbers_31
set_option maxHeartbeats 4000000 in
set_option maxRecDepth 100000 in
theorem kX1_rowOfNumbers_S (l : Launch) (E : q_E) (x T0 : Nat) (n : Nat) (kd sz : Nat → Nat) (sh : Nat → Bool) (nu : Nat → Nat → Int64) (pa : Nat → Nat → Option Nat) (sl : Nat → Option Nat) (ft tn ts tg : Int32) (hI : q_I (n, kd, sz, sh, nu, pa, sl, ft, tn, ts, tg)) (j : Nat) (hj : j < 12) (k : Nat) (hk : k < n) (hs : sl j = some k) (hc : kd k < 3)  : Met l yX1_rowOfNumbers wsX1_rowOfNumbers ({ frames := 3, cells := 0, slots := 0, locals := 67 }) (q_P E (q_X E x T0 (n, kd, sz, sh, nu, pa, sl, ft, tn, ts, tg)) [.ref x, .int (nI j)]) (q_Wq (q_X E x T0) (q_Ax x T0) (some (T0 + 3 * k)) (n, kd, sz, sh, nu, pa, sl, ft, tn, ts, tg)) 0 0 (q_Ax x T0) := by
  refine Met.ofW (cc := cX1_rowOfNumbers) (maxL := 3) (ret := (some (.object "DockGates$Thing"))) (by decide) rfl ?_
  intro p e s m args below meth c s₁ B hml hv
  obtain ⟨rfl, hK, hX⟩ := hv
  have hx := B.exec
  have hb := B.bytes
  have hr := B.returns
  have hts := atoms_spec (ws := wsX1_rowOfNumbers) B.pre
  have hown : s.vm.findClass RX1 = some m.cls := findClass_of_methodNamed B.named
  have hlocks := B.notSynchronized
  have hl := lv_entry ([.ref x, .int (nI j)]) (n := 3) (Nat.le_of_ble_eq_true rfl)
  rw [lg_entry_eq]
  generalize (lg_sl ([.ref x, .int (nI j)]) ++ List.replicate (3 - (lg_sl ([.ref x, .int (nI j)])).length) Slot.unset).toArray = ls at hl ⊢
  have hl : lv_has ls 3 [(0, .ref x), (1, .int (nI j))] := hl
  have hS : va_S (q_Ax x T0) s.heap s.heap [] := va_S.rf
  obtain ⟨ak, bk, dk, wk⟩ := hI.2.1 k hk
  have n60 := hI.1
  try dsimp only at ak bk dk wk n60
  refine lv_aload_n hx hb dX1_rowOfNumbers_0 rfl (lv_at hl 0 rfl) ?_
  refine qw_get (v := .ref (x + 1)) (ci := 1) (C := RX1) (T := TX1) (N := 6) hx hb hts nX1_rowOfNumbers_1 hown hK hX.1 rfl 0 (by decide) (hts (.fieldLink RX1 11 "DockGates" "slots" "[LDockGates$Thing;") (by decide +kernel)) rfl rfl dX1_rowOfNumbers_1 ?_
  refine lv_iload_n hx hb dX1_rowOfNumbers_4 rfl (lv_at hl 1 rfl) ?_
  refine qx_slotS hx hb hK hX hs hj dX1_rowOfNumbers_5 ?_
  refine lv_astore_n (lv' := [(2, .ref (T0 + 3 * k)), (0, .ref x), (1, .int (nI j))]) hx hb dX1_rowOfNumbers_6 rfl hl (by decide) rfl (fun ls hl => ?_)
  refine lv_aload_n hx hb dX1_rowOfNumbers_7 rfl (lv_at hl 0 rfl) ?_
  refine lv_ifnull hx hb dX1_rowOfNumbers_8 ?_
  refine lv_aload_n hx hb dX1_rowOfNumbers_11 rfl (lv_at hl 0 rfl) ?_
  refine qw_get (v := .int (nI (kd k))) (ci := 0) (C := RX0) (T := TX0) (N := 6) hx hb hts nX1_rowOfNumbers_0 hown hK (hX.2.2.1 k hk).1 rfl 1 (by decide) (hts (.fieldLink RX1 79 "DockGates$Thing" "kind" "I") (by decide +kernel)) rfl rfl dX1_rowOfNumbers_12 ?_
  refine qc_ri (r1 := q_b true) (W.runS (As := [.int (nI (kd k))]) (rest := []) ⟨hx, hb, hml, hown, hts⟩ (kX1_holdsNumbers l (kd k) (by omega)) (va_cwS 1 hts gX1_rowOfNumbers_X1_holdsNumbers rfl rfl rfl (by decide +kernel) ⟨Nat.le_of_ble_eq_true rfl, Nat.le_of_ble_eq_true rfl⟩) preEq rfl rfl hl.1 rfl (lv_room (Nat.le_of_ble_eq_true rfl)) dX1_rowOfNumbers_15 ⟨Nat.le_of_ble_eq_true rfl, Nat.le_of_ble_eq_true rfl⟩) (congrArg q_b (decide_eq_true hc)) ?_
  refine ln_b_eq (tgt := 25) hx hb dX1_rowOfNumbers_18 (by decide) (fun c_1 => absurd c_1 (by decide)) (fun _ => ?_)
  refine lv_aload_n hx hb dX1_rowOfNumbers_21 rfl (lv_at hl 0 rfl) ?_
  refine lv_goto (tgt := 31) hx hb dX1_rowOfNumbers_22 (by decide) ?_
  exact W.aret (v := .ref (T0 + 3 * k)) hx hb hr (Or.inl ⟨_, rfl⟩) (Or.inr ⟨_, rfl⟩) (fun t ht hW => ⟨⟨some (T0 + 3 * k), (n, kd, sz, sh, nu, pa, sl, ft, tn, ts, tg), rfl, ⟨rfl, rfl⟩, (by show q_X E x T0 (n, kd, sz, sh, nu, pa, sl, ft, tn, ts, tg) t.heap; rw [ht]; exact hX)⟩, hS.F ht⟩) hS.2.2 dX1_rowOfNumbers_31
set_option maxHeartbeats 4000000 in
set_option maxRecDepth 100000 in
theorem kX1_rowOfNumbers_T (l : Launch) (E : q_E) (x T0 : Nat) (n : Nat) (kd sz : Nat → Nat) (sh : Nat → Bool) (nu : Nat → Nat → Int64) (pa : Nat → Nat → Option Nat) (sl : Nat → Option Nat) (ft tn ts tg : Int32) (hI : q_I (n, kd, sz, sh, nu, pa, sl, ft, tn, ts, tg)) (j : Nat) (hj : j < 12) (k : Nat) (hk : k < n) (hs : sl j = some k) (hc : ¬ kd k < 3)  : Met l yX1_rowOfNumbers wsX1_rowOfNumbers ({ frames := 3, cells := 0, slots := 0, locals := 67 }) (q_P E (q_X E x T0 (n, kd, sz, sh, nu, pa, sl, ft, tn, ts, tg)) [.ref x, .int (nI j)]) (q_Wq (q_X E x T0) (q_Ax x T0) (none) (n, kd, sz, sh, nu, pa, sl, nI 1, tn + 1, nI j, nI 2)) 0 0 (q_Ax x T0) := by
  refine Met.ofW (cc := cX1_rowOfNumbers) (maxL := 3) (ret := (some (.object "DockGates$Thing"))) (by decide) rfl ?_
  intro p e s m args below meth c s₁ B hml hv
  obtain ⟨rfl, hK, hX⟩ := hv
  have hx := B.exec
  have hb := B.bytes
  have hr := B.returns
  have hts := atoms_spec (ws := wsX1_rowOfNumbers) B.pre
  have hown : s.vm.findClass RX1 = some m.cls := findClass_of_methodNamed B.named
  have hlocks := B.notSynchronized
  have hl := lv_entry ([.ref x, .int (nI j)]) (n := 3) (Nat.le_of_ble_eq_true rfl)
  rw [lg_entry_eq]
  generalize (lg_sl ([.ref x, .int (nI j)]) ++ List.replicate (3 - (lg_sl ([.ref x, .int (nI j)])).length) Slot.unset).toArray = ls at hl ⊢
  have hl : lv_has ls 3 [(0, .ref x), (1, .int (nI j))] := hl
  have hS : va_S (q_Ax x T0) s.heap s.heap [] := va_S.rf
  obtain ⟨ak, bk, dk, wk⟩ := hI.2.1 k hk
  have n60 := hI.1
  try dsimp only at ak bk dk wk n60
  refine lv_aload_n hx hb dX1_rowOfNumbers_0 rfl (lv_at hl 0 rfl) ?_
  refine qw_get (v := .ref (x + 1)) (ci := 1) (C := RX1) (T := TX1) (N := 6) hx hb hts nX1_rowOfNumbers_1 hown hK hX.1 rfl 0 (by decide) (hts (.fieldLink RX1 11 "DockGates" "slots" "[LDockGates$Thing;") (by decide +kernel)) rfl rfl dX1_rowOfNumbers_1 ?_
  refine lv_iload_n hx hb dX1_rowOfNumbers_4 rfl (lv_at hl 1 rfl) ?_
  refine qx_slotS hx hb hK hX hs hj dX1_rowOfNumbers_5 ?_
  refine lv_astore_n (lv' := [(2, .ref (T0 + 3 * k)), (0, .ref x), (1, .int (nI j))]) hx hb dX1_rowOfNumbers_6 rfl hl (by decide) rfl (fun ls hl => ?_)
  refine lv_aload_n hx hb dX1_rowOfNumbers_7 rfl (lv_at hl 0 rfl) ?_
  refine lv_ifnull hx hb dX1_rowOfNumbers_8 ?_
  refine lv_aload_n hx hb dX1_rowOfNumbers_11 rfl (lv_at hl 0 rfl) ?_
  refine qw_get (v := .int (nI (kd k))) (ci := 0) (C := RX0) (T := TX0) (N := 6) hx hb hts nX1_rowOfNumbers_0 hown hK (hX.2.2.1 k hk).1 rfl 1 (by decide) (hts (.fieldLink RX1 79 "DockGates$Thing" "kind" "I") (by decide +kernel)) rfl rfl dX1_rowOfNumbers_12 ?_
  refine qc_ri (r1 := q_b false) (W.runS (As := [.int (nI (kd k))]) (rest := []) ⟨hx, hb, hml, hown, hts⟩ (kX1_holdsNumbers l (kd k) (by omega)) (va_cwS 1 hts gX1_rowOfNumbers_X1_holdsNumbers rfl rfl rfl (by decide +kernel) ⟨Nat.le_of_ble_eq_true rfl, Nat.le_of_ble_eq_true rfl⟩) preEq rfl rfl hl.1 rfl (lv_room (Nat.le_of_ble_eq_true rfl)) dX1_rowOfNumbers_15 ⟨Nat.le_of_ble_eq_true rfl, Nat.le_of_ble_eq_true rfl⟩) (congrArg q_b (decide_eq_false hc)) ?_
  refine ln_b_eq (tgt := 25) hx hb dX1_rowOfNumbers_18 (by decide) (fun _ => ?_) (fun c_1 => absurd c_1 (by decide))
  refine lv_aload_n hx hb dX1_rowOfNumbers_25 rfl (lv_at hl 1 rfl) ?_
  refine lv_iconst (v := nI 2) hx hb dX1_rowOfNumbers_26 (by decide) ?_
  refine lv_iload_n hx hb dX1_rowOfNumbers_27 rfl (lv_at hl 2 rfl) ?_
  have g_2 : q_go (kd k) 2 = false := q_goF (by omega)
  refine qc_q (r1 := none) (σ1 := (n, kd, sz, sh, nu, pa, sl, nI 1, (tn + 1), nI j, nI 2)) (va_runV (As := [.int (nI 2), .int (nI j)]) (rest := []) ⟨hx, hb, hml, hown, hts⟩ (kX1_broughtThrough_T l E x T0 n kd sz sh nu pa sl ft tn ts tg hI 2 j (by first | omega | decide) hj k hk hs g_2) (cwV 2 hts gX1_rowOfNumbers_X1_broughtThrough rfl rfl rfl (by decide +kernel) ⟨Nat.le_of_ble_eq_true rfl, Nat.le_of_ble_eq_true rfl⟩) (q_preV hK hX hX.1 rfl) rfl rfl hl.1 rfl (lv_room (Nat.le_of_ble_eq_true rfl)) dX1_rowOfNumbers_28 ⟨Nat.le_of_ble_eq_true rfl, Nat.le_of_ble_eq_true rfl⟩) hS rfl rfl (fun H locs hX hS => ?_)
  try dsimp only [va_rf]
  exact W.aret (v := .null) hx hb hr (Or.inl ⟨_, rfl⟩) (Or.inl rfl) (fun t ht hW => ⟨⟨none, (n, kd, sz, sh, nu, pa, sl, nI 1, (tn + 1), nI j, nI 2), rfl, ⟨rfl, rfl⟩, (by show q_X E x T0 (n, kd, sz, sh, nu, pa, sl, nI 1, (tn + 1), nI j, nI 2) t.heap; rw [ht]; exact hX)⟩, hS.F ht⟩) hS.2.2 dX1_rowOfNumbers_31
set_option maxRecDepth 20000 in
theorem nX1_rowOfThings_0 : ∀ w ∈ u_ws RX0 TX0 6, w ∈ wsX1_rowOfThings := by decide +kernel
set_option maxRecDepth 20000 in
theorem nX1_rowOfThings_1 : ∀ w ∈ u_ws RX1 TX1 6, w ∈ wsX1_rowOfThings := by decide +kernel
set_option maxHeartbeats 4000000 in
set_option maxRecDepth 100000 in
theorem kX1_rowOfThings_N (l : Launch) (E : q_E) (x T0 : Nat) (n : Nat) (kd sz : Nat → Nat) (sh : Nat → Bool) (nu : Nat → Nat → Int64) (pa : Nat → Nat → Option Nat) (sl : Nat → Option Nat) (ft tn ts tg : Int32) (hI : q_I (n, kd, sz, sh, nu, pa, sl, ft, tn, ts, tg)) (j : Nat) (hj : j < 12) (hs : sl j = none)  : Met l yX1_rowOfThings wsX1_rowOfThings ({ frames := 3, cells := 0, slots := 0, locals := 67 }) (q_P E (q_X E x T0 (n, kd, sz, sh, nu, pa, sl, ft, tn, ts, tg)) [.ref x, .int (nI j)]) (q_Wq (q_X E x T0) (q_Ax x T0) (none) (n, kd, sz, sh, nu, pa, sl, nI 2, tn, ts, tg)) 0 0 (q_Ax x T0) := by
  refine Met.ofW (cc := cX1_rowOfThings) (maxL := 3) (ret := (some (.object "DockGates$Thing"))) (by decide) rfl ?_
  intro p e s m args below meth c s₁ B hml hv
  obtain ⟨rfl, hK, hX⟩ := hv
  have hx := B.exec
  have hb := B.bytes
  have hr := B.returns
  have hts := atoms_spec (ws := wsX1_rowOfThings) B.pre
  have hown : s.vm.findClass RX1 = some m.cls := findClass_of_methodNamed B.named
  have hlocks := B.notSynchronized
  have hl := lv_entry ([.ref x, .int (nI j)]) (n := 3) (Nat.le_of_ble_eq_true rfl)
  rw [lg_entry_eq]
  generalize (lg_sl ([.ref x, .int (nI j)]) ++ List.replicate (3 - (lg_sl ([.ref x, .int (nI j)])).length) Slot.unset).toArray = ls at hl ⊢
  have hl : lv_has ls 3 [(0, .ref x), (1, .int (nI j))] := hl
  have hS : va_S (q_Ax x T0) s.heap s.heap [] := va_S.rf
  refine lv_aload_n hx hb dX1_rowOfThings_0 rfl (lv_at hl 0 rfl) ?_
  refine qw_get (v := .ref (x + 1)) (ci := 1) (C := RX1) (T := TX1) (N := 6) hx hb hts nX1_rowOfThings_1 hown hK hX.1 rfl 0 (by decide) (hts (.fieldLink RX1 11 "DockGates" "slots" "[LDockGates$Thing;") (by decide +kernel)) rfl rfl dX1_rowOfThings_1 ?_
  refine lv_iload_n hx hb dX1_rowOfThings_4 rfl (lv_at hl 1 rfl) ?_
  refine qx_slotN hx hb hK hX hs hj dX1_rowOfThings_5 ?_
  refine lv_astore_nN (lv' := [(2, .null), (0, .ref x), (1, .int (nI j))]) hx hb dX1_rowOfThings_6 rfl hl (by decide) rfl (fun ls hl => ?_)
  refine lv_aload_nN hx hb dX1_rowOfThings_7 rfl (lv_at hl 0 rfl) ?_
  refine lv_ifnullN (tgt := 25) hx hb dX1_rowOfThings_8 (by decide) ?_
  refine lv_aload_n hx hb dX1_rowOfThings_25 rfl (lv_at hl 1 rfl) ?_
  refine lv_bipush (v := nI 6) hx hb dX1_rowOfThings_26 (by decide) ?_
  refine lv_iload_n hx hb dX1_rowOfThings_28 rfl (lv_at hl 2 rfl) ?_
  refine qc_q (r1 := none) (σ1 := (n, kd, sz, sh, nu, pa, sl, nI 2, tn, ts, tg)) (va_runV (As := [.int (nI 6), .int (nI j)]) (rest := []) ⟨hx, hb, hml, hown, hts⟩ (kX1_broughtThrough_N l E x T0 n kd sz sh nu pa sl ft tn ts tg hI 6 j hj hs) (cwV 2 hts gX1_rowOfThings_X1_broughtThrough rfl rfl rfl (by decide +kernel) ⟨Nat.le_of_ble_eq_true rfl, Nat.le_of_ble_eq_true rfl⟩) (q_preV hK hX hX.1 rfl) rfl rfl hl.1 rfl (lv_room (Nat.le_of_ble_eq_true rfl)) dX1_rowOfThings_29 ⟨Nat.le_of_ble_eq_true rfl, Nat.le_of_ble_eq_true rfl⟩) hS rfl rfl (fun H locs hX hS => ?_)
  try dsimp only [va_rf]
  exact W.aret (v := .null) hx hb hr (Or.inl ⟨_, rfl⟩) (Or.inl rfl) (fun t ht hW => ⟨⟨none, (n, kd, sz, sh, nu, pa, sl, nI 2, tn, ts, tg), rfl, ⟨rfl, rfl⟩, (by show q_X E x T0 (n, kd, sz, sh, nu, pa, sl, nI 2, tn, ts, tg) t.heap; rw [ht]; exact hX)⟩, hS.F ht⟩) hS.2.2 dX1_rowOfThings_32
set_option maxHeartbeats 4000000 in
set_option maxRecDepth 100000 in
theorem kX1_rowOfThings_S (l : Launch) (E : q_E) (x T0 : Nat) (n : Nat) (kd sz : Nat → Nat) (sh : Nat → Bool) (nu : Nat → Nat → Int64) (pa : Nat → Nat → Option Nat) (sl : Nat → Option Nat) (ft tn ts tg : Int32) (hI : q_I (n, kd, sz, sh, nu, pa, sl, ft, tn, ts, tg)) (j : Nat) (hj : j < 12) (k : Nat) (hk : k < n) (hs : sl j = some k) (hc : 3 ≤ kd k ∧ kd k < 9)  : Met l yX1_rowOfThings wsX1_rowOfThings ({ frames := 3, cells := 0, slots := 0, locals := 67 }) (q_P E (q_X E x T0 (n, kd, sz, sh, nu, pa, sl, ft, tn, ts, tg)) [.ref x, .int (nI j)]) (q_Wq (q_X E x T0) (q_Ax x T0) (some (T0 + 3 * k)) (n, kd, sz, sh, nu, pa, sl, ft, tn, ts, tg)) 0 0 (q_Ax x T0) := by
  refine Met.ofW (cc := cX1_rowOfThings) (maxL := 3) (ret := (some (.object "DockGates$Thing"))) (by decide) rfl ?_
  intro p e s m args below meth c s₁ B hml hv
  obtain ⟨rfl, hK, hX⟩ := hv
  have hx := B.exec
  have hb := B.bytes
  have hr := B.returns
  have hts := atoms_spec (ws := wsX1_rowOfThings) B.pre
  have hown : s.vm.findClass RX1 = some m.cls := findClass_of_methodNamed B.named
  have hlocks := B.notSynchronized
  have hl := lv_entry ([.ref x, .int (nI j)]) (n := 3) (Nat.le_of_ble_eq_true rfl)
  rw [lg_entry_eq]
  generalize (lg_sl ([.ref x, .int (nI j)]) ++ List.replicate (3 - (lg_sl ([.ref x, .int (nI j)])).length) Slot.unset).toArray = ls at hl ⊢
  have hl : lv_has ls 3 [(0, .ref x), (1, .int (nI j))] := hl
  have hS : va_S (q_Ax x T0) s.heap s.heap [] := va_S.rf
  obtain ⟨ak, bk, dk, wk⟩ := hI.2.1 k hk
  have n60 := hI.1
  try dsimp only at ak bk dk wk n60
  refine lv_aload_n hx hb dX1_rowOfThings_0 rfl (lv_at hl 0 rfl) ?_
  refine qw_get (v := .ref (x + 1)) (ci := 1) (C := RX1) (T := TX1) (N := 6) hx hb hts nX1_rowOfThings_1 hown hK hX.1 rfl 0 (by decide) (hts (.fieldLink RX1 11 "DockGates" "slots" "[LDockGates$Thing;") (by decide +kernel)) rfl rfl dX1_rowOfThings_1 ?_
  refine lv_iload_n hx hb dX1_rowOfThings_4 rfl (lv_at hl 1 rfl) ?_
  refine qx_slotS hx hb hK hX hs hj dX1_rowOfThings_5 ?_
  refine lv_astore_n (lv' := [(2, .ref (T0 + 3 * k)), (0, .ref x), (1, .int (nI j))]) hx hb dX1_rowOfThings_6 rfl hl (by decide) rfl (fun ls hl => ?_)
  refine lv_aload_n hx hb dX1_rowOfThings_7 rfl (lv_at hl 0 rfl) ?_
  refine lv_ifnull hx hb dX1_rowOfThings_8 ?_
  refine lv_aload_n hx hb dX1_rowOfThings_11 rfl (lv_at hl 0 rfl) ?_
  refine qw_get (v := .int (nI (kd k))) (ci := 0) (C := RX0) (T := TX0) (N := 6) hx hb hts nX1_rowOfThings_0 hown hK (hX.2.2.1 k hk).1 rfl 1 (by decide) (hts (.fieldLink RX1 79 "DockGates$Thing" "kind" "I") (by decide +kernel)) rfl rfl dX1_rowOfThings_12 ?_
  refine qc_ri (r1 := q_b true) (W.runS (As := [.int (nI (kd k))]) (rest := []) ⟨hx, hb, hml, hown, hts⟩ (kX1_holdsThings l (kd k) (by omega)) (va_cwS 1 hts gX1_rowOfThings_X1_holdsThings rfl rfl rfl (by decide +kernel) ⟨Nat.le_of_ble_eq_true rfl, Nat.le_of_ble_eq_true rfl⟩) preEq rfl rfl hl.1 rfl (lv_room (Nat.le_of_ble_eq_true rfl)) dX1_rowOfThings_15 ⟨Nat.le_of_ble_eq_true rfl, Nat.le_of_ble_eq_true rfl⟩) (congrArg q_b (decide_eq_true hc)) ?_
  refine ln_b_eq (tgt := 25) hx hb dX1_rowOfThings_18 (by decide) (fun c_1 => absurd c_1 (by decide)) (fun _ => ?_)
  refine lv_aload_n hx hb dX1_rowOfThings_21 rfl (lv_at hl 0 rfl) ?_
  refine lv_goto (tgt := 32) hx hb dX1_rowOfThings_22 (by decide) ?_
  exact W.aret (v := .ref (T0 + 3 * k)) hx hb hr (Or.inl ⟨_, rfl⟩) (Or.inr ⟨_, rfl⟩) (fun t ht hW => ⟨⟨some (T0 + 3 * k), (n, kd, sz, sh, nu, pa, sl, ft, tn, ts, tg), rfl, ⟨rfl, rfl⟩, (by show q_X E x T0 (n, kd, sz, sh, nu, pa, sl, ft, tn, ts, tg) t.heap; rw [ht]; exact hX)⟩, hS.F ht⟩) hS.2.2 dX1_rowOfThings_32
set_option maxHeartbeats 4000000 in
set_option maxRecDepth 100000 in
theorem kX1_rowOfThings_T (l : Launch) (E : q_E) (x T0 : Nat) (n : Nat) (kd sz : Nat → Nat) (sh : Nat → Bool) (nu : Nat → Nat → Int64) (pa : Nat → Nat → Option Nat) (sl : Nat → Option Nat) (ft tn ts tg : Int32) (hI : q_I (n, kd, sz, sh, nu, pa, sl, ft, tn, ts, tg)) (j : Nat) (hj : j < 12) (k : Nat) (hk : k < n) (hs : sl j = some k) (hc : ¬ (3 ≤ kd k ∧ kd k < 9))  : Met l yX1_rowOfThings wsX1_rowOfThings ({ frames := 3, cells := 0, slots := 0, locals := 67 }) (q_P E (q_X E x T0 (n, kd, sz, sh, nu, pa, sl, ft, tn, ts, tg)) [.ref x, .int (nI j)]) (q_Wq (q_X E x T0) (q_Ax x T0) (none) (n, kd, sz, sh, nu, pa, sl, nI 1, tn + 1, nI j, nI 6)) 0 0 (q_Ax x T0) := by
  refine Met.ofW (cc := cX1_rowOfThings) (maxL := 3) (ret := (some (.object "DockGates$Thing"))) (by decide) rfl ?_
  intro p e s m args below meth c s₁ B hml hv
  obtain ⟨rfl, hK, hX⟩ := hv
  have hx := B.exec
  have hb := B.bytes
  have hr := B.returns
  have hts := atoms_spec (ws := wsX1_rowOfThings) B.pre
  have hown : s.vm.findClass RX1 = some m.cls := findClass_of_methodNamed B.named
  have hlocks := B.notSynchronized
  have hl := lv_entry ([.ref x, .int (nI j)]) (n := 3) (Nat.le_of_ble_eq_true rfl)
  rw [lg_entry_eq]
  generalize (lg_sl ([.ref x, .int (nI j)]) ++ List.replicate (3 - (lg_sl ([.ref x, .int (nI j)])).length) Slot.unset).toArray = ls at hl ⊢
  have hl : lv_has ls 3 [(0, .ref x), (1, .int (nI j))] := hl
  have hS : va_S (q_Ax x T0) s.heap s.heap [] := va_S.rf
  obtain ⟨ak, bk, dk, wk⟩ := hI.2.1 k hk
  have n60 := hI.1
  try dsimp only at ak bk dk wk n60
  refine lv_aload_n hx hb dX1_rowOfThings_0 rfl (lv_at hl 0 rfl) ?_
  refine qw_get (v := .ref (x + 1)) (ci := 1) (C := RX1) (T := TX1) (N := 6) hx hb hts nX1_rowOfThings_1 hown hK hX.1 rfl 0 (by decide) (hts (.fieldLink RX1 11 "DockGates" "slots" "[LDockGates$Thing;") (by decide +kernel)) rfl rfl dX1_rowOfThings_1 ?_
  refine lv_iload_n hx hb dX1_rowOfThings_4 rfl (lv_at hl 1 rfl) ?_
  refine qx_slotS hx hb hK hX hs hj dX1_rowOfThings_5 ?_
  refine lv_astore_n (lv' := [(2, .ref (T0 + 3 * k)), (0, .ref x), (1, .int (nI j))]) hx hb dX1_rowOfThings_6 rfl hl (by decide) rfl (fun ls hl => ?_)
  refine lv_aload_n hx hb dX1_rowOfThings_7 rfl (lv_at hl 0 rfl) ?_
  refine lv_ifnull hx hb dX1_rowOfThings_8 ?_
  refine lv_aload_n hx hb dX1_rowOfThings_11 rfl (lv_at hl 0 rfl) ?_
  refine qw_get (v := .int (nI (kd k))) (ci := 0) (C := RX0) (T := TX0) (N := 6) hx hb hts nX1_rowOfThings_0 hown hK (hX.2.2.1 k hk).1 rfl 1 (by decide) (hts (.fieldLink RX1 79 "DockGates$Thing" "kind" "I") (by decide +kernel)) rfl rfl dX1_rowOfThings_12 ?_
  refine qc_ri (r1 := q_b false) (W.runS (As := [.int (nI (kd k))]) (rest := []) ⟨hx, hb, hml, hown, hts⟩ (kX1_holdsThings l (kd k) (by omega)) (va_cwS 1 hts gX1_rowOfThings_X1_holdsThings rfl rfl rfl (by decide +kernel) ⟨Nat.le_of_ble_eq_true rfl, Nat.le_of_ble_eq_true rfl⟩) preEq rfl rfl hl.1 rfl (lv_room (Nat.le_of_ble_eq_true rfl)) dX1_rowOfThings_15 ⟨Nat.le_of_ble_eq_true rfl, Nat.le_of_ble_eq_true rfl⟩) (congrArg q_b (decide_eq_false hc)) ?_
  refine ln_b_eq (tgt := 25) hx hb dX1_rowOfThings_18 (by decide) (fun _ => ?_) (fun c_1 => absurd c_1 (by decide))
  refine lv_aload_n hx hb dX1_rowOfThings_25 rfl (lv_at hl 1 rfl) ?_
  refine lv_bipush (v := nI 6) hx hb dX1_rowOfThings_26 (by decide) ?_
  refine lv_iload_n hx hb dX1_rowOfThings_28 rfl (lv_at hl 2 rfl) ?_
  have g_2 : q_go (kd k) 6 = false := q_goF (by omega)
  refine qc_q (r1 := none) (σ1 := (n, kd, sz, sh, nu, pa, sl, nI 1, (tn + 1), nI j, nI 6)) (va_runV (As := [.int (nI 6), .int (nI j)]) (rest := []) ⟨hx, hb, hml, hown, hts⟩ (kX1_broughtThrough_T l E x T0 n kd sz sh nu pa sl ft tn ts tg hI 6 j (by first | omega | decide) hj k hk hs g_2) (cwV 2 hts gX1_rowOfThings_X1_broughtThrough rfl rfl rfl (by decide +kernel) ⟨Nat.le_of_ble_eq_true rfl, Nat.le_of_ble_eq_true rfl⟩) (q_preV hK hX hX.1 rfl) rfl rfl hl.1 rfl (lv_room (Nat.le_of_ble_eq_true rfl)) dX1_rowOfThings_29 ⟨Nat.le_of_ble_eq_true rfl, Nat.le_of_ble_eq_true rfl⟩) hS rfl rfl (fun H locs hX hS => ?_)
  try dsimp only [va_rf]
  exact W.aret (v := .null) hx hb hr (Or.inl ⟨_, rfl⟩) (Or.inl rfl) (fun t ht hW => ⟨⟨none, (n, kd, sz, sh, nu, pa, sl, nI 1, (tn + 1), nI j, nI 6), rfl, ⟨rfl, rfl⟩, (by show q_X E x T0 (n, kd, sz, sh, nu, pa, sl, nI 1, (tn + 1), nI j, nI 6) t.heap; rw [ht]; exact hX)⟩, hS.F ht⟩) hS.2.2 dX1_rowOfThings_32
end
section
/-! ===== the class: its public methods (written by program) ===== -/
set_option maxRecDepth 20000 in
theorem nX1_fits_1 : ∀ w ∈ u_ws RX1 TX1 6, w ∈ wsX1_fits := by decide +kernel
set_option maxHeartbeats 4000000 in
set_option maxRecDepth 100000 in
theorem kX1_fits (l : Launch) (E : q_E) (x T0 : Nat) (n : Nat) (kd sz : Nat → Nat) (sh : Nat → Bool) (nu : Nat → Nat → Int64) (pa : Nat → Nat → Option Nat) (sl : Nat → Option Nat) (ft tn ts tg : Int32) (hI : q_I (n, kd, sz, sh, nu, pa, sl, ft, tn, ts, tg)) (slot gate : Int32)  : Met l yX1_fits wsX1_fits ({ frames := 1, cells := 0, slots := 0, locals := 22 }) (q_P E (q_X E x T0 (n, kd, sz, sh, nu, pa, sl, ft, tn, ts, tg)) [.ref x, .int slot, .int gate]) (q_Wi (q_X E x T0) (q_Ax x T0) ((f_fits (n, kd, sz, sh, nu, pa, sl, ft, tn, ts, tg) slot gate).1) (f_fits (n, kd, sz, sh, nu, pa, sl, ft, tn, ts, tg) slot gate).2) 0 0 (q_Ax x T0) := by
  refine Met.ofW (cc := cX1_fits) (maxL := 3) (ret := (some .int)) (by decide) rfl ?_
  intro p e s m args below meth c s₁ B hml hv
  obtain ⟨rfl, hK, hX⟩ := hv
  have hx := B.exec
  have hb := B.bytes
  have hr := B.returns
  have hts := atoms_spec (ws := wsX1_fits) B.pre
  have hown : s.vm.findClass RX1 = some m.cls := findClass_of_methodNamed B.named
  have hlocks := B.notSynchronized
  have hl := lv_entry ([.ref x, .int slot, .int gate]) (n := 3) (Nat.le_of_ble_eq_true rfl)
  rw [lg_entry_eq]
  generalize (lg_sl ([.ref x, .int slot, .int gate]) ++ List.replicate (3 - (lg_sl ([.ref x, .int slot, .int gate])).length) Slot.unset).toArray = ls at hl ⊢
  have hl : lv_has ls 3 [(0, .ref x), (1, .int slot), (2, .int gate)] := hl
  have hS : va_S (q_Ax x T0) s.heap s.heap [] := va_S.rf
  refine lv_aload_n hx hb dX1_fits_0 rfl (lv_at hl 0 rfl) ?_
  refine lv_iconst (v := nI 0) hx hb dX1_fits_1 (by decide) ?_
  refine qw_put (ci := 1) (C := RX1) (T := TX1) (N := 6) hx hb hts nX1_fits_1 tyX1 tyX1_ok nmX1 hown hK hX.1 hS (Or.inl rfl) rfl 2 (by decide) (hts (.fieldLink RX1 19 "DockGates" "latestFault" "I") (by decide +kernel)) rfl rfl rfl rfl (Nat.le_of_ble_eq_true rfl) dX1_fits_2 (fun H locs hO hz hq hS => ?_)
  have hX : q_X E x T0 (n, kd, sz, sh, nu, pa, sl, (nI 0), tn, ts, tg) H := hX.obj hO hz hq
  refine lv_iload_n hx hb dX1_fits_5 rfl (lv_at hl 1 rfl) ?_
  refine qc_ri (r1 := q_b ((q_ix slot 12).isSome)) (W.runS (As := [.int slot]) (rest := []) ⟨hx, hb, hml, hown, hts⟩ (kX1_isSlot l slot) (va_cwS 1 hts gX1_fits_X1_isSlot rfl rfl rfl (by decide +kernel) ⟨Nat.le_of_ble_eq_true rfl, Nat.le_of_ble_eq_true rfl⟩) preEq rfl rfl hl.1 rfl (lv_room (Nat.le_of_ble_eq_true rfl)) dX1_fits_6 ⟨Nat.le_of_ble_eq_true rfl, Nat.le_of_ble_eq_true rfl⟩) rfl ?_
  refine ln_b_eq (tgt := 19) hx hb dX1_fits_9 (by decide) (fun c_1 => ?_) (fun c_1 => ?_)
  · have c_1 := q_isn c_1
    refine lv_bipush (v := (-2)) hx hb dX1_fits_19 (by decide) ?_
    have ee : f_fits (n, kd, sz, sh, nu, pa, sl, ft, tn, ts, tg) slot gate = (((-2)), (n, kd, sz, sh, nu, pa, sl, (nI 0), tn, ts, tg)) := by first | (simp only [f_fits, c_1]; done) | (simp only [f_fits, c_1]; rfl) | (simp [f_fits, c_1]; done) | (simp [f_fits, c_1]; rfl) | (simp only [f_fits, c_1]; (repeat' split) <;> first | rfl | (exfalso; omega))
    exact W.iret (v := ((-2))) hx hb hr (fun t ht hW => ⟨⟨((-2)), (n, kd, sz, sh, nu, pa, sl, (nI 0), tn, ts, tg), rfl, ⟨(by rw [ee]), (by rw [ee])⟩, (by show q_X E x T0 (n, kd, sz, sh, nu, pa, sl, (nI 0), tn, ts, tg) t.heap; rw [ht]; exact hX)⟩, hS.F ht⟩) hS.2.2 dX1_fits_21
  · obtain ⟨j_slot, hj_slot, rfl⟩ := q_is (by first | decide | omega) c_1
    have ej_slot := q_ix_in hj_slot (by first | decide | omega)
    refine lv_iload_n hx hb dX1_fits_12 rfl (lv_at hl 2 rfl) ?_
    refine qc_ri (r1 := q_b ((q_ix gate 13).isSome)) (W.runS (As := [.int gate]) (rest := []) ⟨hx, hb, hml, hown, hts⟩ (kX1_isGate l gate) (va_cwS 1 hts gX1_fits_X1_isGate rfl rfl rfl (by decide +kernel) ⟨Nat.le_of_ble_eq_true rfl, Nat.le_of_ble_eq_true rfl⟩) preEq rfl rfl hl.1 rfl (lv_room (Nat.le_of_ble_eq_true rfl)) dX1_fits_13 ⟨Nat.le_of_ble_eq_true rfl, Nat.le_of_ble_eq_true rfl⟩) rfl ?_
    refine ln_b_ne (tgt := 22) hx hb dX1_fits_16 (by decide) (fun c_2 => ?_) (fun c_2 => ?_)
    · obtain ⟨j_gate, hj_gate, rfl⟩ := q_is (by first | decide | omega) c_2
      have ej_gate := q_ix_in hj_gate (by first | decide | omega)
      refine lv_iload_n hx hb dX1_fits_22 rfl (lv_at hl 2 rfl) ?_
      refine lv_aload_n hx hb dX1_fits_23 rfl (lv_at hl 0 rfl) ?_
      refine qw_get (v := .ref (x + 1)) (ci := 1) (C := RX1) (T := TX1) (N := 6) hx hb hts nX1_fits_1 hown hK hX.1 rfl 0 (by decide) (hts (.fieldLink RX1 11 "DockGates" "slots" "[LDockGates$Thing;") (by decide +kernel)) rfl rfl dX1_fits_24 ?_
      refine lv_iload_n hx hb dX1_fits_27 rfl (lv_at hl 1 rfl) ?_
      refine qx_slot hx hb hK hX hI hj_slot dX1_fits_28 (fun s_3 => ?_) (fun k_3 hk_3 s_3 => ?_)
      · try dsimp only at s_3
        refine qc_ri (r1 := q_b false) (W.runS (As := [.int (nI j_gate), .null]) (rest := []) ⟨hx, hb, hml, hown, hts⟩ (kX1_letsThrough_N l E x T0 n kd sz sh nu pa sl ((nI 0)) tn ts tg hI j_gate) (va_cwS 2 hts gX1_fits_X1_letsThrough rfl rfl rfl (by decide +kernel) ⟨Nat.le_of_ble_eq_true rfl, Nat.le_of_ble_eq_true rfl⟩) (q_pre hK hX) rfl rfl hl.1 rfl (lv_room (Nat.le_of_ble_eq_true rfl)) dX1_fits_29 ⟨Nat.le_of_ble_eq_true rfl, Nat.le_of_ble_eq_true rfl⟩) rfl ?_
        refine ln_b_eq (tgt := 39) hx hb dX1_fits_32 (by decide) (fun _ => ?_) (fun c_4 => absurd c_4 (by decide))
        refine lv_iconst (v := nI 0) hx hb dX1_fits_39 (by decide) ?_
        have ee : f_fits (n, kd, sz, sh, nu, pa, sl, ft, tn, ts, tg) (nI j_slot) (nI j_gate) = (nI 0, (n, kd, sz, sh, nu, pa, sl, (nI 0), tn, ts, tg)) := by first | (simp only [f_fits, ej_slot, ej_gate, s_3]; done) | (simp only [f_fits, ej_slot, ej_gate, s_3]; rfl) | (simp [f_fits, ej_slot, ej_gate, s_3]; done) | (simp [f_fits, ej_slot, ej_gate, s_3]; rfl) | (simp only [f_fits, ej_slot, ej_gate, s_3]; (repeat' split) <;> first | rfl | (exfalso; omega))
        exact W.iret (v := nI 0) hx hb hr (fun t ht hW => ⟨⟨nI 0, (n, kd, sz, sh, nu, pa, sl, (nI 0), tn, ts, tg), rfl, ⟨(by rw [ee]), (by rw [ee])⟩, (by show q_X E x T0 (n, kd, sz, sh, nu, pa, sl, (nI 0), tn, ts, tg) t.heap; rw [ht]; exact hX)⟩, hS.F ht⟩) hS.2.2 dX1_fits_40
      · try dsimp only at s_3 hk_3
        obtain ⟨ak_3, bk_3, dk_3, wk_3⟩ := hI.2.1 k_3 hk_3
        have n60 := hI.1
        try dsimp only at ak_3 bk_3 dk_3 wk_3 n60
        refine qc_ri (r1 := q_b (q_go (kd k_3) j_gate)) (W.runS (As := [.int (nI j_gate), .ref (T0 + 3 * k_3)]) (rest := []) ⟨hx, hb, hml, hown, hts⟩ (kX1_letsThrough_S l E x T0 n kd sz sh nu pa sl ((nI 0)) tn ts tg hI j_gate (by first | omega | decide) k_3 hk_3) (va_cwS 2 hts gX1_fits_X1_letsThrough rfl rfl rfl (by decide +kernel) ⟨Nat.le_of_ble_eq_true rfl, Nat.le_of_ble_eq_true rfl⟩) (q_pre hK hX) rfl rfl hl.1 rfl (lv_room (Nat.le_of_ble_eq_true rfl)) dX1_fits_29 ⟨Nat.le_of_ble_eq_true rfl, Nat.le_of_ble_eq_true rfl⟩) rfl ?_
        refine ln_b_eq (tgt := 39) hx hb dX1_fits_32 (by decide) (fun c_5 => ?_) (fun c_5 => ?_)
        · refine lv_iconst (v := nI 0) hx hb dX1_fits_39 (by decide) ?_
          have ee : f_fits (n, kd, sz, sh, nu, pa, sl, ft, tn, ts, tg) (nI j_slot) (nI j_gate) = (nI 0, (n, kd, sz, sh, nu, pa, sl, (nI 0), tn, ts, tg)) := by first | (simp only [f_fits, ej_slot, ej_gate, s_3, c_5]; done) | (simp only [f_fits, ej_slot, ej_gate, s_3, c_5]; rfl) | (simp [f_fits, ej_slot, ej_gate, s_3, c_5]; done) | (simp [f_fits, ej_slot, ej_gate, s_3, c_5]; rfl) | (simp only [f_fits, ej_slot, ej_gate, s_3, c_5]; (repeat' split) <;> first | rfl | (exfalso; omega))
          exact W.iret (v := nI 0) hx hb hr (fun t ht hW => ⟨⟨nI 0, (n, kd, sz, sh, nu, pa, sl, (nI 0), tn, ts, tg), rfl, ⟨(by rw [ee]), (by rw [ee])⟩, (by show q_X E x T0 (n, kd, sz, sh, nu, pa, sl, (nI 0), tn, ts, tg) t.heap; rw [ht]; exact hX)⟩, hS.F ht⟩) hS.2.2 dX1_fits_40
        · refine lv_iconst (v := nI 1) hx hb dX1_fits_35 (by decide) ?_
          refine lv_goto (tgt := 40) hx hb dX1_fits_36 (by decide) ?_
          have ee : f_fits (n, kd, sz, sh, nu, pa, sl, ft, tn, ts, tg) (nI j_slot) (nI j_gate) = (nI 1, (n, kd, sz, sh, nu, pa, sl, (nI 0), tn, ts, tg)) := by first | (simp only [f_fits, ej_slot, ej_gate, s_3, c_5]; done) | (simp only [f_fits, ej_slot, ej_gate, s_3, c_5]; rfl) | (simp [f_fits, ej_slot, ej_gate, s_3, c_5]; done) | (simp [f_fits, ej_slot, ej_gate, s_3, c_5]; rfl) | (simp only [f_fits, ej_slot, ej_gate, s_3, c_5]; (repeat' split) <;> first | rfl | (exfalso; omega))
          exact W.iret (v := nI 1) hx hb hr (fun t ht hW => ⟨⟨nI 1, (n, kd, sz, sh, nu, pa, sl, (nI 0), tn, ts, tg), rfl, ⟨(by rw [ee]), (by rw [ee])⟩, (by show q_X E x T0 (n, kd, sz, sh, nu, pa, sl, (nI 0), tn, ts, tg) t.heap; rw [ht]; exact hX)⟩, hS.F ht⟩) hS.2.2 dX1_fits_40
    · have c_2 := q_isn c_2
      refine lv_bipush (v := (-2)) hx hb dX1_fits_19 (by decide) ?_
      have ee : f_fits (n, kd, sz, sh, nu, pa, sl, ft, tn, ts, tg) (nI j_slot) gate = (((-2)), (n, kd, sz, sh, nu, pa, sl, (nI 0), tn, ts, tg)) := by first | (simp only [f_fits, ej_slot, c_2]; done) | (simp only [f_fits, ej_slot, c_2]; rfl) | (simp [f_fits, ej_slot, c_2]; done) | (simp [f_fits, ej_slot, c_2]; rfl) | (simp only [f_fits, ej_slot, c_2]; (repeat' split) <;> first | rfl | (exfalso; omega))
      exact W.iret (v := ((-2))) hx hb hr (fun t ht hW => ⟨⟨((-2)), (n, kd, sz, sh, nu, pa, sl, (nI 0), tn, ts, tg), rfl, ⟨(by rw [ee]), (by rw [ee])⟩, (by show q_X E x T0 (n, kd, sz, sh, nu, pa, sl, (nI 0), tn, ts, tg) t.heap; rw [ht]; exact hX)⟩, hS.F ht⟩) hS.2.2 dX1_fits_21
set_option maxRecDepth 20000 in
theorem nX1_pass_1 : ∀ w ∈ u_ws RX1 TX1 6, w ∈ wsX1_pass := by decide +kernel
set_option maxHeartbeats 4000000 in
set_option maxRecDepth 100000 in
theorem kX1_pass (l : Launch) (E : q_E) (x T0 : Nat) (n : Nat) (kd sz : Nat → Nat) (sh : Nat → Bool) (nu : Nat → Nat → Int64) (pa : Nat → Nat → Option Nat) (sl : Nat → Option Nat) (ft tn ts tg : Int32) (hI : q_I (n, kd, sz, sh, nu, pa, sl, ft, tn, ts, tg)) (slot gate : Int32)  : Met l yX1_pass wsX1_pass ({ frames := 6, cells := 0, slots := 0, locals := 137 }) (q_P E (q_X E x T0 (n, kd, sz, sh, nu, pa, sl, ft, tn, ts, tg)) [.ref x, .int slot, .int gate]) (q_Wl (q_X E x T0) (q_Ax x T0) ((f_pass (n, kd, sz, sh, nu, pa, sl, ft, tn, ts, tg) slot gate).1) (f_pass (n, kd, sz, sh, nu, pa, sl, ft, tn, ts, tg) slot gate).2) 0 0 (q_Ax x T0) := by
  refine Met.ofW (cc := cX1_pass) (maxL := 4) (ret := (some .long)) (by decide) rfl ?_
  intro p e s m args below meth c s₁ B hml hv
  obtain ⟨rfl, hK, hX⟩ := hv
  have hx := B.exec
  have hb := B.bytes
  have hr := B.returns
  have hts := atoms_spec (ws := wsX1_pass) B.pre
  have hown : s.vm.findClass RX1 = some m.cls := findClass_of_methodNamed B.named
  have hlocks := B.notSynchronized
  have hl := lv_entry ([.ref x, .int slot, .int gate]) (n := 4) (Nat.le_of_ble_eq_true rfl)
  rw [lg_entry_eq]
  generalize (lg_sl ([.ref x, .int slot, .int gate]) ++ List.replicate (4 - (lg_sl ([.ref x, .int slot, .int gate])).length) Slot.unset).toArray = ls at hl ⊢
  have hl : lv_has ls 4 [(0, .ref x), (1, .int slot), (2, .int gate)] := hl
  have hS : va_S (q_Ax x T0) s.heap s.heap [] := va_S.rf
  refine lv_aload_n hx hb dX1_pass_0 rfl (lv_at hl 0 rfl) ?_
  refine lv_iconst (v := nI 0) hx hb dX1_pass_1 (by decide) ?_
  refine qw_put (ci := 1) (C := RX1) (T := TX1) (N := 6) hx hb hts nX1_pass_1 tyX1 tyX1_ok nmX1 hown hK hX.1 hS (Or.inl rfl) rfl 2 (by decide) (hts (.fieldLink RX1 19 "DockGates" "latestFault" "I") (by decide +kernel)) rfl rfl rfl rfl (Nat.le_of_ble_eq_true rfl) dX1_pass_2 (fun H locs hO hz hq hS => ?_)
  have hX : q_X E x T0 (n, kd, sz, sh, nu, pa, sl, (nI 0), tn, ts, tg) H := hX.obj hO hz hq
  refine lv_iload_n hx hb dX1_pass_5 rfl (lv_at hl 1 rfl) ?_
  refine qc_ri (r1 := q_b ((q_ix slot 12).isSome)) (W.runS (As := [.int slot]) (rest := []) ⟨hx, hb, hml, hown, hts⟩ (kX1_isSlot l slot) (va_cwS 1 hts gX1_pass_X1_isSlot rfl rfl rfl (by decide +kernel) ⟨Nat.le_of_ble_eq_true rfl, Nat.le_of_ble_eq_true rfl⟩) preEq rfl rfl hl.1 rfl (lv_room (Nat.le_of_ble_eq_true rfl)) dX1_pass_6 ⟨Nat.le_of_ble_eq_true rfl, Nat.le_of_ble_eq_true rfl⟩) rfl ?_
  refine ln_b_eq (tgt := 19) hx hb dX1_pass_9 (by decide) (fun c_1 => ?_) (fun c_1 => ?_)
  · have c_1 := q_isn c_1
    refine lv_aload_n hx hb dX1_pass_19 rfl (lv_at hl 0 rfl) ?_
    refine lv_bipush (v := (-2)) hx hb dX1_pass_20 (by decide) ?_
    refine qc_i (r1 := nI 0) (σ1 := (n, kd, sz, sh, nu, pa, sl, ((-2)), tn, ts, tg)) (va_runV (As := [.int ((-2))]) (rest := []) ⟨hx, hb, hml, hown, hts⟩ (kX1_failed l E x T0 n kd sz sh nu pa sl ((nI 0)) tn ts tg hI (((-2)))) (cwV 1 hts gX1_pass_X1_failed rfl rfl rfl (by decide +kernel) ⟨Nat.le_of_ble_eq_true rfl, Nat.le_of_ble_eq_true rfl⟩) (q_preV hK hX hX.1 rfl) rfl rfl hl.1 rfl (lv_room (Nat.le_of_ble_eq_true rfl)) dX1_pass_22 ⟨Nat.le_of_ble_eq_true rfl, Nat.le_of_ble_eq_true rfl⟩) hS rfl rfl (fun H locs hX hS => ?_)
    refine lv_i2l (v := lN 0) hx hb dX1_pass_25 (nI_l (by first | omega | (simp; omega))) ?_
    have ee : f_pass (n, kd, sz, sh, nu, pa, sl, ft, tn, ts, tg) slot gate = (lN 0, (n, kd, sz, sh, nu, pa, sl, ((-2)), tn, ts, tg)) := by first | (simp only [f_pass, c_1]; done) | (simp only [f_pass, c_1]; rfl) | (simp [f_pass, c_1]; done) | (simp [f_pass, c_1]; rfl) | (simp only [f_pass, c_1]; (repeat' split) <;> first | rfl | (exfalso; omega))
    exact W.lret (v := lN 0) hx hb hr (fun t ht hW => ⟨⟨lN 0, (n, kd, sz, sh, nu, pa, sl, ((-2)), tn, ts, tg), rfl, ⟨(by rw [ee]), (by rw [ee])⟩, (by show q_X E x T0 (n, kd, sz, sh, nu, pa, sl, ((-2)), tn, ts, tg) t.heap; rw [ht]; exact hX)⟩, hS.F ht⟩) hS.2.2 dX1_pass_26
  · obtain ⟨j_slot, hj_slot, rfl⟩ := q_is (by first | decide | omega) c_1
    have ej_slot := q_ix_in hj_slot (by first | decide | omega)
    refine lv_iload_n hx hb dX1_pass_12 rfl (lv_at hl 2 rfl) ?_
    refine qc_ri (r1 := q_b ((q_ix gate 13).isSome)) (W.runS (As := [.int gate]) (rest := []) ⟨hx, hb, hml, hown, hts⟩ (kX1_isGate l gate) (va_cwS 1 hts gX1_pass_X1_isGate rfl rfl rfl (by decide +kernel) ⟨Nat.le_of_ble_eq_true rfl, Nat.le_of_ble_eq_true rfl⟩) preEq rfl rfl hl.1 rfl (lv_room (Nat.le_of_ble_eq_true rfl)) dX1_pass_13 ⟨Nat.le_of_ble_eq_true rfl, Nat.le_of_ble_eq_true rfl⟩) rfl ?_
    refine ln_b_ne (tgt := 27) hx hb dX1_pass_16 (by decide) (fun c_2 => ?_) (fun c_2 => ?_)
    · obtain ⟨j_gate, hj_gate, rfl⟩ := q_is (by first | decide | omega) c_2
      have ej_gate := q_ix_in hj_gate (by first | decide | omega)
      refine lv_aload_n hx hb dX1_pass_27 rfl (lv_at hl 0 rfl) ?_
      refine lv_iload_n hx hb dX1_pass_28 rfl (lv_at hl 2 rfl) ?_
      refine lv_iload_n hx hb dX1_pass_29 rfl (lv_at hl 1 rfl) ?_
      cases s_3 : sl j_slot with
      | none =>
        refine qc_q (r1 := none) (σ1 := (n, kd, sz, sh, nu, pa, sl, nI 2, tn, ts, tg)) (va_runV (As := [.int (nI j_gate), .int (nI j_slot)]) (rest := []) ⟨hx, hb, hml, hown, hts⟩ (kX1_broughtThrough_N l E x T0 n kd sz sh nu pa sl ((nI 0)) tn ts tg hI j_gate j_slot hj_slot s_3) (cwV 2 hts gX1_pass_X1_broughtThrough rfl rfl rfl (by decide +kernel) ⟨Nat.le_of_ble_eq_true rfl, Nat.le_of_ble_eq_true rfl⟩) (q_preV hK hX hX.1 rfl) rfl rfl hl.1 rfl (lv_room (Nat.le_of_ble_eq_true rfl)) dX1_pass_30 ⟨Nat.le_of_ble_eq_true rfl, Nat.le_of_ble_eq_true rfl⟩) hS rfl rfl (fun H locs hX hS => ?_)
        try dsimp only [va_rf]
        refine lv_astore_nN (lv' := [(3, .null), (0, .ref x), (1, .int (nI j_slot)), (2, .int (nI j_gate))]) hx hb dX1_pass_33 rfl hl (by decide) rfl (fun ls hl => ?_)
        refine lv_aload_nN hx hb dX1_pass_34 rfl (lv_at hl 0 rfl) ?_
        refine lv_ifnonnullN hx hb dX1_pass_35 ?_
        refine lv_lconst (v := 0) hx hb dX1_pass_38 (by decide) ?_
        have ee : f_pass (n, kd, sz, sh, nu, pa, sl, ft, tn, ts, tg) (nI j_slot) (nI j_gate) = (0, (n, kd, sz, sh, nu, pa, sl, nI 2, tn, ts, tg)) := by first | (simp only [f_pass, ej_slot, ej_gate, s_3]; done) | (simp only [f_pass, ej_slot, ej_gate, s_3]; rfl) | (simp [f_pass, ej_slot, ej_gate, s_3]; done) | (simp [f_pass, ej_slot, ej_gate, s_3]; rfl) | (simp only [f_pass, ej_slot, ej_gate, s_3]; (repeat' split) <;> first | rfl | (exfalso; omega))
        exact W.lret (v := 0) hx hb hr (fun t ht hW => ⟨⟨0, (n, kd, sz, sh, nu, pa, sl, nI 2, tn, ts, tg), rfl, ⟨(by rw [ee]), (by rw [ee])⟩, (by show q_X E x T0 (n, kd, sz, sh, nu, pa, sl, nI 2, tn, ts, tg) t.heap; rw [ht]; exact hX)⟩, hS.F ht⟩) hS.2.2 dX1_pass_39
      | some k_3 =>
        have hk_3 : k_3 < n := hI.2.2 _ _ s_3
        obtain ⟨ak_3, bk_3, dk_3, wk_3⟩ := hI.2.1 k_3 hk_3
        have n60 := hI.1
        try dsimp only at ak_3 bk_3 dk_3 wk_3 n60
        cases g_4 : q_go (kd k_3) j_gate with
        | false =>
          have zg_4 := q_gofalse g_4
          refine qc_q (r1 := none) (σ1 := (n, kd, sz, sh, nu, pa, sl, nI 1, (tn + 1), nI j_slot, nI j_gate)) (va_runV (As := [.int (nI j_gate), .int (nI j_slot)]) (rest := []) ⟨hx, hb, hml, hown, hts⟩ (kX1_broughtThrough_T l E x T0 n kd sz sh nu pa sl ((nI 0)) tn ts tg hI j_gate j_slot (by first | omega | decide) hj_slot k_3 hk_3 s_3 g_4) (cwV 2 hts gX1_pass_X1_broughtThrough rfl rfl rfl (by decide +kernel) ⟨Nat.le_of_ble_eq_true rfl, Nat.le_of_ble_eq_true rfl⟩) (q_preV hK hX hX.1 rfl) rfl rfl hl.1 rfl (lv_room (Nat.le_of_ble_eq_true rfl)) dX1_pass_30 ⟨Nat.le_of_ble_eq_true rfl, Nat.le_of_ble_eq_true rfl⟩) hS rfl rfl (fun H locs hX hS => ?_)
          try dsimp only [va_rf]
          refine lv_astore_nN (lv' := [(3, .null), (0, .ref x), (1, .int (nI j_slot)), (2, .int (nI j_gate))]) hx hb dX1_pass_33 rfl hl (by decide) rfl (fun ls hl => ?_)
          refine lv_aload_nN hx hb dX1_pass_34 rfl (lv_at hl 0 rfl) ?_
          refine lv_ifnonnullN hx hb dX1_pass_35 ?_
          refine lv_lconst (v := 0) hx hb dX1_pass_38 (by decide) ?_
          have ee : f_pass (n, kd, sz, sh, nu, pa, sl, ft, tn, ts, tg) (nI j_slot) (nI j_gate) = (0, (n, kd, sz, sh, nu, pa, sl, nI 1, (tn + 1), nI j_slot, nI j_gate)) := by first | (simp only [f_pass, ej_slot, ej_gate, s_3, g_4]; done) | (simp only [f_pass, ej_slot, ej_gate, s_3, g_4]; rfl) | (simp [f_pass, ej_slot, ej_gate, s_3, g_4]; done) | (simp [f_pass, ej_slot, ej_gate, s_3, g_4]; rfl) | (simp only [f_pass, ej_slot, ej_gate, s_3, g_4]; (repeat' split) <;> first | rfl | (exfalso; omega))
          exact W.lret (v := 0) hx hb hr (fun t ht hW => ⟨⟨0, (n, kd, sz, sh, nu, pa, sl, nI 1, (tn + 1), nI j_slot, nI j_gate), rfl, ⟨(by rw [ee]), (by rw [ee])⟩, (by show q_X E x T0 (n, kd, sz, sh, nu, pa, sl, nI 1, (tn + 1), nI j_slot, nI j_gate) t.heap; rw [ht]; exact hX)⟩, hS.F ht⟩) hS.2.2 dX1_pass_39
        | true =>
          have zg_4 := q_gofacts g_4
          refine qc_q (r1 := some (T0 + 3 * k_3)) (σ1 := (n, kd, sz, sh, nu, pa, sl, (nI 0), tn, ts, tg)) (va_runV (As := [.int (nI j_gate), .int (nI j_slot)]) (rest := []) ⟨hx, hb, hml, hown, hts⟩ (kX1_broughtThrough_S l E x T0 n kd sz sh nu pa sl ((nI 0)) tn ts tg hI j_gate j_slot (by first | omega | decide) hj_slot k_3 hk_3 s_3 g_4) (cwV 2 hts gX1_pass_X1_broughtThrough rfl rfl rfl (by decide +kernel) ⟨Nat.le_of_ble_eq_true rfl, Nat.le_of_ble_eq_true rfl⟩) (q_preV hK hX hX.1 rfl) rfl rfl hl.1 rfl (lv_room (Nat.le_of_ble_eq_true rfl)) dX1_pass_30 ⟨Nat.le_of_ble_eq_true rfl, Nat.le_of_ble_eq_true rfl⟩) hS rfl rfl (fun H locs hX hS => ?_)
          try dsimp only [va_rf]
          refine lv_astore_n (lv' := [(3, .ref (T0 + 3 * k_3)), (0, .ref x), (1, .int (nI j_slot)), (2, .int (nI j_gate))]) hx hb dX1_pass_33 rfl hl (by decide) rfl (fun ls hl => ?_)
          refine lv_aload_n hx hb dX1_pass_34 rfl (lv_at hl 0 rfl) ?_
          refine lv_ifnonnull (tgt := 40) hx hb dX1_pass_35 (by decide) ?_
          refine lv_aload_n hx hb dX1_pass_40 rfl (lv_at hl 0 rfl) ?_
          refine qc_ri (r1 := q_b (q_ho2 kd sz pa k_3)) (W.runS (As := [.ref (T0 + 3 * k_3)]) (rest := []) ⟨hx, hb, hml, hown, hts⟩ (kX1_hasHole l E x T0 n kd sz sh nu pa sl ((nI 0)) tn ts tg hI k_3 hk_3) (va_cwS 1 hts gX1_pass_X1_hasHole rfl rfl rfl (by decide +kernel) ⟨Nat.le_of_ble_eq_true rfl, Nat.le_of_ble_eq_true rfl⟩) (q_pre hK hX) rfl rfl hl.1 rfl (lv_room (Nat.le_of_ble_eq_true rfl)) dX1_pass_41 ⟨Nat.le_of_ble_eq_true rfl, Nat.le_of_ble_eq_true rfl⟩) rfl ?_
          refine ln_b_eq (tgt := 54) hx hb dX1_pass_44 (by decide) (fun c_5 => ?_) (fun c_5 => ?_)
          · refine lv_aload_n hx hb dX1_pass_54 rfl (lv_at hl 0 rfl) ?_
            refine lv_iload_n hx hb dX1_pass_55 rfl (lv_at hl 3 rfl) ?_
            refine qc_rl (r1 := q_val kd sz sh nu pa k_3 j_gate) (W.runS (As := [.ref (T0 + 3 * k_3), .int (nI j_gate)]) (rest := []) ⟨hx, hb, hml, hown, hts⟩ (kX1_toldBy l E x T0 n kd sz sh nu pa sl ((nI 0)) tn ts tg hI k_3 j_gate hk_3 (by omega) g_4) (va_cwS 2 hts gX1_pass_X1_toldBy rfl rfl rfl (by decide +kernel) ⟨Nat.le_of_ble_eq_true rfl, Nat.le_of_ble_eq_true rfl⟩) (q_pre hK hX) rfl rfl hl.1 rfl (lv_room (Nat.le_of_ble_eq_true rfl)) dX1_pass_56 ⟨Nat.le_of_ble_eq_true rfl, Nat.le_of_ble_eq_true rfl⟩) rfl ?_
            have ee : f_pass (n, kd, sz, sh, nu, pa, sl, ft, tn, ts, tg) (nI j_slot) (nI j_gate) = (q_val kd sz sh nu pa k_3 j_gate, (n, kd, sz, sh, nu, pa, sl, (nI 0), tn, ts, tg)) := by first | (simp only [f_pass, ej_slot, ej_gate, s_3, g_4, c_5]; done) | (simp only [f_pass, ej_slot, ej_gate, s_3, g_4, c_5]; rfl) | (simp [f_pass, ej_slot, ej_gate, s_3, g_4, c_5]; done) | (simp [f_pass, ej_slot, ej_gate, s_3, g_4, c_5]; rfl) | (simp only [f_pass, ej_slot, ej_gate, s_3, g_4, c_5]; (repeat' split) <;> first | rfl | (exfalso; omega))
            exact W.lret (v := q_val kd sz sh nu pa k_3 j_gate) hx hb hr (fun t ht hW => ⟨⟨q_val kd sz sh nu pa k_3 j_gate, (n, kd, sz, sh, nu, pa, sl, (nI 0), tn, ts, tg), rfl, ⟨(by rw [ee]), (by rw [ee])⟩, (by show q_X E x T0 (n, kd, sz, sh, nu, pa, sl, (nI 0), tn, ts, tg) t.heap; rw [ht]; exact hX)⟩, hS.F ht⟩) hS.2.2 dX1_pass_59
          · refine lv_aload_n hx hb dX1_pass_47 rfl (lv_at hl 1 rfl) ?_
            refine lv_iconst (v := nI 4) hx hb dX1_pass_48 (by decide) ?_
            refine qc_i (r1 := nI 0) (σ1 := (n, kd, sz, sh, nu, pa, sl, nI 4, tn, ts, tg)) (va_runV (As := [.int (nI 4)]) (rest := []) ⟨hx, hb, hml, hown, hts⟩ (kX1_failed l E x T0 n kd sz sh nu pa sl ((nI 0)) tn ts tg hI (nI 4)) (cwV 1 hts gX1_pass_X1_failed rfl rfl rfl (by decide +kernel) ⟨Nat.le_of_ble_eq_true rfl, Nat.le_of_ble_eq_true rfl⟩) (q_preV hK hX hX.1 rfl) rfl rfl hl.1 rfl (lv_room (Nat.le_of_ble_eq_true rfl)) dX1_pass_49 ⟨Nat.le_of_ble_eq_true rfl, Nat.le_of_ble_eq_true rfl⟩) hS rfl rfl (fun H locs hX hS => ?_)
            refine lv_i2l (v := lN 0) hx hb dX1_pass_52 (nI_l (by first | omega | (simp; omega))) ?_
            have ee : f_pass (n, kd, sz, sh, nu, pa, sl, ft, tn, ts, tg) (nI j_slot) (nI j_gate) = (lN 0, (n, kd, sz, sh, nu, pa, sl, nI 4, tn, ts, tg)) := by first | (simp only [f_pass, ej_slot, ej_gate, s_3, g_4, c_5]; done) | (simp only [f_pass, ej_slot, ej_gate, s_3, g_4, c_5]; rfl) | (simp [f_pass, ej_slot, ej_gate, s_3, g_4, c_5]; done) | (simp [f_pass, ej_slot, ej_gate, s_3, g_4, c_5]; rfl) | (simp only [f_pass, ej_slot, ej_gate, s_3, g_4, c_5]; (repeat' split) <;> first | rfl | (exfalso; omega))
            exact W.lret (v := lN 0) hx hb hr (fun t ht hW => ⟨⟨lN 0, (n, kd, sz, sh, nu, pa, sl, nI 4, tn, ts, tg), rfl, ⟨(by rw [ee]), (by rw [ee])⟩, (by show q_X E x T0 (n, kd, sz, sh, nu, pa, sl, nI 4, tn, ts, tg) t.heap; rw [ht]; exact hX)⟩, hS.F ht⟩) hS.2.2 dX1_pass_53
    · have c_2 := q_isn c_2
      refine lv_aload_n hx hb dX1_pass_19 rfl (lv_at hl 0 rfl) ?_
      refine lv_bipush (v := (-2)) hx hb dX1_pass_20 (by decide) ?_
      refine qc_i (r1 := nI 0) (σ1 := (n, kd, sz, sh, nu, pa, sl, ((-2)), tn, ts, tg)) (va_runV (As := [.int ((-2))]) (rest := []) ⟨hx, hb, hml, hown, hts⟩ (kX1_failed l E x T0 n kd sz sh nu pa sl ((nI 0)) tn ts tg hI (((-2)))) (cwV 1 hts gX1_pass_X1_failed rfl rfl rfl (by decide +kernel) ⟨Nat.le_of_ble_eq_true rfl, Nat.le_of_ble_eq_true rfl⟩) (q_preV hK hX hX.1 rfl) rfl rfl hl.1 rfl (lv_room (Nat.le_of_ble_eq_true rfl)) dX1_pass_22 ⟨Nat.le_of_ble_eq_true rfl, Nat.le_of_ble_eq_true rfl⟩) hS rfl rfl (fun H locs hX hS => ?_)
      refine lv_i2l (v := lN 0) hx hb dX1_pass_25 (nI_l (by first | omega | (simp; omega))) ?_
      have ee : f_pass (n, kd, sz, sh, nu, pa, sl, ft, tn, ts, tg) (nI j_slot) gate = (lN 0, (n, kd, sz, sh, nu, pa, sl, ((-2)), tn, ts, tg)) := by first | (simp only [f_pass, ej_slot, c_2]; done) | (simp only [f_pass, ej_slot, c_2]; rfl) | (simp [f_pass, ej_slot, c_2]; done) | (simp [f_pass, ej_slot, c_2]; rfl) | (simp only [f_pass, ej_slot, c_2]; (repeat' split) <;> first | rfl | (exfalso; omega))
      exact W.lret (v := lN 0) hx hb hr (fun t ht hW => ⟨⟨lN 0, (n, kd, sz, sh, nu, pa, sl, ((-2)), tn, ts, tg), rfl, ⟨(by rw [ee]), (by rw [ee])⟩, (by show q_X E x T0 (n, kd, sz, sh, nu, pa, sl, ((-2)), tn, ts, tg) t.heap; rw [ht]; exact hX)⟩, hS.F ht⟩) hS.2.2 dX1_pass_26
set_option maxRecDepth 20000 in
theorem nX1_put_0 : ∀ w ∈ u_ws RX0 TX0 6, w ∈ wsX1_put := by decide +kernel
set_option maxRecDepth 20000 in
theorem nX1_put_1 : ∀ w ∈ u_ws RX1 TX1 6, w ∈ wsX1_put := by decide +kernel
set_option maxHeartbeats 4000000 in
set_option maxRecDepth 100000 in
theorem kX1_put (l : Launch) (E : q_E) (x T0 : Nat) (n : Nat) (kd sz : Nat → Nat) (sh : Nat → Bool) (nu : Nat → Nat → Int64) (pa : Nat → Nat → Option Nat) (sl : Nat → Option Nat) (ft tn ts tg : Int32) (hI : q_I (n, kd, sz, sh, nu, pa, sl, ft, tn, ts, tg)) (slot i : Int32) (v : Int64)  : Met l yX1_put wsX1_put ({ frames := 4, cells := 0, slots := 0, locals := 89 }) (q_P E (q_X E x T0 (n, kd, sz, sh, nu, pa, sl, ft, tn, ts, tg)) [.ref x, .int slot, .int i, .long v]) (q_Wi (q_X E x T0) (q_Ax x T0) ((f_put (n, kd, sz, sh, nu, pa, sl, ft, tn, ts, tg) slot i v).1) (f_put (n, kd, sz, sh, nu, pa, sl, ft, tn, ts, tg) slot i v).2) 0 0 (q_Ax x T0) := by
  refine Met.ofW (cc := cX1_put) (maxL := 6) (ret := (some .int)) (by decide) rfl ?_
  intro p e s m args below meth c s₁ B hml hv
  obtain ⟨rfl, hK, hX⟩ := hv
  have hx := B.exec
  have hb := B.bytes
  have hr := B.returns
  have hts := atoms_spec (ws := wsX1_put) B.pre
  have hown : s.vm.findClass RX1 = some m.cls := findClass_of_methodNamed B.named
  have hlocks := B.notSynchronized
  have hl := lv_entry ([.ref x, .int slot, .int i, .long v]) (n := 6) (Nat.le_of_ble_eq_true rfl)
  rw [lg_entry_eq]
  generalize (lg_sl ([.ref x, .int slot, .int i, .long v]) ++ List.replicate (6 - (lg_sl ([.ref x, .int slot, .int i, .long v])).length) Slot.unset).toArray = ls at hl ⊢
  have hl : lv_has ls 6 [(0, .ref x), (1, .int slot), (2, .int i), (3, .long v)] := hl
  have hS : va_S (q_Ax x T0) s.heap s.heap [] := va_S.rf
  refine lv_aload_n hx hb dX1_put_0 rfl (lv_at hl 0 rfl) ?_
  refine lv_iconst (v := nI 0) hx hb dX1_put_1 (by decide) ?_
  refine qw_put (ci := 1) (C := RX1) (T := TX1) (N := 6) hx hb hts nX1_put_1 tyX1 tyX1_ok nmX1 hown hK hX.1 hS (Or.inl rfl) rfl 2 (by decide) (hts (.fieldLink RX1 19 "DockGates" "latestFault" "I") (by decide +kernel)) rfl rfl rfl rfl (Nat.le_of_ble_eq_true rfl) dX1_put_2 (fun H locs hO hz hq hS => ?_)
  have hX : q_X E x T0 (n, kd, sz, sh, nu, pa, sl, (nI 0), tn, ts, tg) H := hX.obj hO hz hq
  refine lv_iload_n hx hb dX1_put_5 rfl (lv_at hl 1 rfl) ?_
  refine qc_ri (r1 := q_b ((q_ix slot 12).isSome)) (W.runS (As := [.int slot]) (rest := []) ⟨hx, hb, hml, hown, hts⟩ (kX1_isSlot l slot) (va_cwS 1 hts gX1_put_X1_isSlot rfl rfl rfl (by decide +kernel) ⟨Nat.le_of_ble_eq_true rfl, Nat.le_of_ble_eq_true rfl⟩) preEq rfl rfl hl.1 rfl (lv_room (Nat.le_of_ble_eq_true rfl)) dX1_put_6 ⟨Nat.le_of_ble_eq_true rfl, Nat.le_of_ble_eq_true rfl⟩) rfl ?_
  refine ln_b_ne (tgt := 15) hx hb dX1_put_9 (by decide) (fun c_1 => ?_) (fun c_1 => ?_)
  · obtain ⟨j_slot, hj_slot, rfl⟩ := q_is (by first | decide | omega) c_1
    have ej_slot := q_ix_in hj_slot (by first | decide | omega)
    refine lv_aload_n hx hb dX1_put_15 rfl (lv_at hl 0 rfl) ?_
    refine lv_iload_n hx hb dX1_put_16 rfl (lv_at hl 1 rfl) ?_
    cases s_2 : sl j_slot with
    | none =>
      refine qc_q (r1 := none) (σ1 := (n, kd, sz, sh, nu, pa, sl, nI 2, tn, ts, tg)) (va_runV (As := [.int (nI j_slot)]) (rest := []) ⟨hx, hb, hml, hown, hts⟩ (kX1_rowOfNumbers_N l E x T0 n kd sz sh nu pa sl ((nI 0)) tn ts tg hI j_slot hj_slot s_2) (cwV 1 hts gX1_put_X1_rowOfNumbers rfl rfl rfl (by decide +kernel) ⟨Nat.le_of_ble_eq_true rfl, Nat.le_of_ble_eq_true rfl⟩) (q_preV hK hX hX.1 rfl) rfl rfl hl.1 rfl (lv_room (Nat.le_of_ble_eq_true rfl)) dX1_put_17 ⟨Nat.le_of_ble_eq_true rfl, Nat.le_of_ble_eq_true rfl⟩) hS rfl rfl (fun H locs hX hS => ?_)
      try dsimp only [va_rf]
      refine lv_astoreN (lv' := [(5, .null), (0, .ref x), (1, .int (nI j_slot)), (2, .int i), (3, .long v)]) hx hb dX1_put_20 hl (by decide) rfl (fun ls hl => ?_)
      refine lv_aloadN hx hb dX1_put_22 (lv_at hl 0 rfl) ?_
      refine lv_ifnonnullN hx hb dX1_put_24 ?_
      refine lv_iconst (v := nI 0) hx hb dX1_put_27 (by decide) ?_
      have ee : f_put (n, kd, sz, sh, nu, pa, sl, ft, tn, ts, tg) (nI j_slot) i v = (nI 0, (n, kd, sz, sh, nu, pa, sl, nI 2, tn, ts, tg)) := by first | (simp only [f_put, ej_slot, s_2]; done) | (simp only [f_put, ej_slot, s_2]; rfl) | (simp [f_put, ej_slot, s_2]; done) | (simp [f_put, ej_slot, s_2]; rfl) | (simp only [f_put, ej_slot, s_2]; (repeat' split) <;> first | rfl | (exfalso; omega))
      exact W.iret (v := nI 0) hx hb hr (fun t ht hW => ⟨⟨nI 0, (n, kd, sz, sh, nu, pa, sl, nI 2, tn, ts, tg), rfl, ⟨(by rw [ee]), (by rw [ee])⟩, (by show q_X E x T0 (n, kd, sz, sh, nu, pa, sl, nI 2, tn, ts, tg) t.heap; rw [ht]; exact hX)⟩, hS.F ht⟩) hS.2.2 dX1_put_28
    | some k_2 =>
      have hk_2 : k_2 < n := hI.2.2 _ _ s_2
      obtain ⟨ak_2, bk_2, dk_2, wk_2⟩ := hI.2.1 k_2 hk_2
      have n60 := hI.1
      try dsimp only at ak_2 bk_2 dk_2 wk_2 n60
      by_cases r_3 : kd k_2 < 3
      · refine qc_q (r1 := some (T0 + 3 * k_2)) (σ1 := (n, kd, sz, sh, nu, pa, sl, (nI 0), tn, ts, tg)) (va_runV (As := [.int (nI j_slot)]) (rest := []) ⟨hx, hb, hml, hown, hts⟩ (kX1_rowOfNumbers_S l E x T0 n kd sz sh nu pa sl ((nI 0)) tn ts tg hI j_slot hj_slot k_2 hk_2 s_2 r_3) (cwV 1 hts gX1_put_X1_rowOfNumbers rfl rfl rfl (by decide +kernel) ⟨Nat.le_of_ble_eq_true rfl, Nat.le_of_ble_eq_true rfl⟩) (q_preV hK hX hX.1 rfl) rfl rfl hl.1 rfl (lv_room (Nat.le_of_ble_eq_true rfl)) dX1_put_17 ⟨Nat.le_of_ble_eq_true rfl, Nat.le_of_ble_eq_true rfl⟩) hS rfl rfl (fun H locs hX hS => ?_)
        try dsimp only [va_rf]
        refine lv_astore (lv' := [(5, .ref (T0 + 3 * k_2)), (0, .ref x), (1, .int (nI j_slot)), (2, .int i), (3, .long v)]) hx hb dX1_put_20 hl (by decide) rfl (fun ls hl => ?_)
        refine lv_aload hx hb dX1_put_22 (lv_at hl 0 rfl) ?_
        refine lv_ifnonnull (tgt := 29) hx hb dX1_put_24 (by decide) ?_
        refine lv_iload_n hx hb dX1_put_29 rfl (lv_at hl 3 rfl) ?_
        refine lv_if_lt (tgt := 43) hx hb dX1_put_30 (by decide) (fun c_4 => ?_) (fun c_4 => ?_)
        · have c_4 : ∀ q, q_ix i q = none := fun q => q_ix_neg c_4
          refine lv_aload_n hx hb dX1_put_43 rfl (lv_at hl 1 rfl) ?_
          refine lv_iconst (v := nI 3) hx hb dX1_put_44 (by decide) ?_
          refine qc_i (r1 := nI 0) (σ1 := (n, kd, sz, sh, nu, pa, sl, nI 3, tn, ts, tg)) (va_runV (As := [.int (nI 3)]) (rest := []) ⟨hx, hb, hml, hown, hts⟩ (kX1_failed l E x T0 n kd sz sh nu pa sl ((nI 0)) tn ts tg hI (nI 3)) (cwV 1 hts gX1_put_X1_failed rfl rfl rfl (by decide +kernel) ⟨Nat.le_of_ble_eq_true rfl, Nat.le_of_ble_eq_true rfl⟩) (q_preV hK hX hX.1 rfl) rfl rfl hl.1 rfl (lv_room (Nat.le_of_ble_eq_true rfl)) dX1_put_45 ⟨Nat.le_of_ble_eq_true rfl, Nat.le_of_ble_eq_true rfl⟩) hS rfl rfl (fun H locs hX hS => ?_)
          have ee : f_put (n, kd, sz, sh, nu, pa, sl, ft, tn, ts, tg) (nI j_slot) i v = (nI 0, (n, kd, sz, sh, nu, pa, sl, nI 3, tn, ts, tg)) := by first | (simp only [f_put, ej_slot, s_2, r_3, c_4]; done) | (simp only [f_put, ej_slot, s_2, r_3, c_4]; rfl) | (simp [f_put, ej_slot, s_2, r_3, c_4]; done) | (simp [f_put, ej_slot, s_2, r_3, c_4]; rfl) | (simp only [f_put, ej_slot, s_2, r_3, c_4]; (repeat' split) <;> first | rfl | (exfalso; omega))
          exact W.iret (v := nI 0) hx hb hr (fun t ht hW => ⟨⟨nI 0, (n, kd, sz, sh, nu, pa, sl, nI 3, tn, ts, tg), rfl, ⟨(by rw [ee]), (by rw [ee])⟩, (by show q_X E x T0 (n, kd, sz, sh, nu, pa, sl, nI 3, tn, ts, tg) t.heap; rw [ht]; exact hX)⟩, hS.F ht⟩) hS.2.2 dX1_put_48
        · refine lv_iload_n hx hb dX1_put_33 rfl (lv_at hl 3 rfl) ?_
          refine lv_aload hx hb dX1_put_34 (lv_at hl 0 rfl) ?_
          refine qw_get (v := .ref (T0 + 3 * k_2 + 1)) (ci := 0) (C := RX0) (T := TX0) (N := 6) hx hb hts nX1_put_0 hown hK (hX.2.2.1 k_2 hk_2).1 rfl 2 (by decide) (hts (.fieldLink RX1 75 "DockGates$Thing" "numbers" "[J") (by decide +kernel)) rfl rfl dX1_put_36 ?_
          refine qw_jlen (n := q_nl (kd k_2) (sz k_2)) hx hb hK (hX.2.2.1 k_2 hk_2).2.1 dX1_put_39 ?_
          rw [q_nl3 (show kd k_2 < 3 by omega)]
          refine lv_icmp_lt (tgt := 49) hx hb dX1_put_40 (by decide) (fun c_5 => ?_) (fun c_5 => ?_)
          · obtain ⟨j_i, hj_i, rfl⟩ := q_ix_of2 (by omega) c_4 c_5
            have ej_i := q_ix_in hj_i (by omega)
            refine lv_aload hx hb dX1_put_49 (lv_at hl 0 rfl) ?_
            refine qw_get (v := .ref (T0 + 3 * k_2 + 1)) (ci := 0) (C := RX0) (T := TX0) (N := 6) hx hb hts nX1_put_0 hown hK (hX.2.2.1 k_2 hk_2).1 rfl 2 (by decide) (hts (.fieldLink RX1 75 "DockGates$Thing" "numbers" "[J") (by decide +kernel)) rfl rfl dX1_put_51 ?_
            refine lv_iload_n hx hb dX1_put_54 rfl (lv_at hl 3 rfl) ?_
            refine lv_aload hx hb dX1_put_55 (lv_at hl 0 rfl) ?_
            refine qw_get (v := .int (nI (kd k_2))) (ci := 0) (C := RX0) (T := TX0) (N := 6) hx hb hts nX1_put_0 hown hK (hX.2.2.1 k_2 hk_2).1 rfl 1 (by decide) (hts (.fieldLink RX1 79 "DockGates$Thing" "kind" "I") (by decide +kernel)) rfl rfl dX1_put_57 ?_
            refine lv_lload_n hx hb dX1_put_60 rfl (lv_at hl 4 rfl) ?_
            refine qc_rl (r1 := q_nr (kd k_2) v) (W.runS (As := [.int (nI (kd k_2)), .long v]) (rest := [.int (nI j_i), .ref (T0 + 3 * k_2 + 1)]) ⟨hx, hb, hml, hown, hts⟩ (kX1_narrowed l (kd k_2) v (by omega)) (va_cwS 2 hts gX1_put_X1_narrowed rfl rfl rfl (by decide +kernel) ⟨Nat.le_of_ble_eq_true rfl, Nat.le_of_ble_eq_true rfl⟩) preEq rfl rfl hl.1 rfl (lv_room (Nat.le_of_ble_eq_true rfl)) dX1_put_61 ⟨Nat.le_of_ble_eq_true rfl, Nat.le_of_ble_eq_true rfl⟩) rfl ?_
            refine qw_last (n := q_nl (kd k_2) (sz k_2)) (f := nu k_2) (A := q_Ax x T0) hx hb hK (hX.2.2.1 k_2 hk_2).2.1 hS (Or.inr (Or.inr (by omega))) (by rw [q_nl3 (by omega)]; omega) (by rw [q_nl3 (by omega)]; omega) dX1_put_64 (fun H locs hO hz hq hS => ?_)
            have hX : q_X E x T0 (n, kd, sz, sh, (va_up nu k_2 (va_up (nu k_2) j_i (q_nr (kd k_2) v))), pa, sl, (nI 0), tn, ts, tg) H := hX.num hk_2 _ hO hz hq
            refine lv_iconst (v := nI 1) hx hb dX1_put_65 (by decide) ?_
            have ee : f_put (n, kd, sz, sh, nu, pa, sl, ft, tn, ts, tg) (nI j_slot) (nI j_i) v = (nI 1, (n, kd, sz, sh, (va_up nu k_2 (va_up (nu k_2) j_i (q_nr (kd k_2) v))), pa, sl, (nI 0), tn, ts, tg)) := by first | (simp only [f_put, ej_slot, s_2, r_3, ej_i]; done) | (simp only [f_put, ej_slot, s_2, r_3, ej_i]; rfl) | (simp [f_put, ej_slot, s_2, r_3, ej_i]; done) | (simp [f_put, ej_slot, s_2, r_3, ej_i]; rfl) | (simp only [f_put, ej_slot, s_2, r_3, ej_i]; (repeat' split) <;> first | rfl | (exfalso; omega))
            exact W.iret (v := nI 1) hx hb hr (fun t ht hW => ⟨⟨nI 1, (n, kd, sz, sh, (va_up nu k_2 (va_up (nu k_2) j_i (q_nr (kd k_2) v))), pa, sl, (nI 0), tn, ts, tg), rfl, ⟨(by rw [ee]), (by rw [ee])⟩, (by show q_X E x T0 (n, kd, sz, sh, (va_up nu k_2 (va_up (nu k_2) j_i (q_nr (kd k_2) v))), pa, sl, (nI 0), tn, ts, tg) t.heap; rw [ht]; exact hX)⟩, hS.F ht⟩) hS.2.2 dX1_put_66
          · have c_5 := q_ix_nlt (by omega) c_5
            refine lv_aload_n hx hb dX1_put_43 rfl (lv_at hl 1 rfl) ?_
            refine lv_iconst (v := nI 3) hx hb dX1_put_44 (by decide) ?_
            refine qc_i (r1 := nI 0) (σ1 := (n, kd, sz, sh, nu, pa, sl, nI 3, tn, ts, tg)) (va_runV (As := [.int (nI 3)]) (rest := []) ⟨hx, hb, hml, hown, hts⟩ (kX1_failed l E x T0 n kd sz sh nu pa sl ((nI 0)) tn ts tg hI (nI 3)) (cwV 1 hts gX1_put_X1_failed rfl rfl rfl (by decide +kernel) ⟨Nat.le_of_ble_eq_true rfl, Nat.le_of_ble_eq_true rfl⟩) (q_preV hK hX hX.1 rfl) rfl rfl hl.1 rfl (lv_room (Nat.le_of_ble_eq_true rfl)) dX1_put_45 ⟨Nat.le_of_ble_eq_true rfl, Nat.le_of_ble_eq_true rfl⟩) hS rfl rfl (fun H locs hX hS => ?_)
            have ee : f_put (n, kd, sz, sh, nu, pa, sl, ft, tn, ts, tg) (nI j_slot) i v = (nI 0, (n, kd, sz, sh, nu, pa, sl, nI 3, tn, ts, tg)) := by first | (simp only [f_put, ej_slot, s_2, r_3, c_5]; done) | (simp only [f_put, ej_slot, s_2, r_3, c_5]; rfl) | (simp [f_put, ej_slot, s_2, r_3, c_5]; done) | (simp [f_put, ej_slot, s_2, r_3, c_5]; rfl) | (simp only [f_put, ej_slot, s_2, r_3, c_5]; (repeat' split) <;> first | rfl | (exfalso; omega))
            exact W.iret (v := nI 0) hx hb hr (fun t ht hW => ⟨⟨nI 0, (n, kd, sz, sh, nu, pa, sl, nI 3, tn, ts, tg), rfl, ⟨(by rw [ee]), (by rw [ee])⟩, (by show q_X E x T0 (n, kd, sz, sh, nu, pa, sl, nI 3, tn, ts, tg) t.heap; rw [ht]; exact hX)⟩, hS.F ht⟩) hS.2.2 dX1_put_48
      · refine qc_q (r1 := none) (σ1 := (n, kd, sz, sh, nu, pa, sl, nI 1, (tn + 1), nI j_slot, nI 2)) (va_runV (As := [.int (nI j_slot)]) (rest := []) ⟨hx, hb, hml, hown, hts⟩ (kX1_rowOfNumbers_T l E x T0 n kd sz sh nu pa sl ((nI 0)) tn ts tg hI j_slot hj_slot k_2 hk_2 s_2 r_3) (cwV 1 hts gX1_put_X1_rowOfNumbers rfl rfl rfl (by decide +kernel) ⟨Nat.le_of_ble_eq_true rfl, Nat.le_of_ble_eq_true rfl⟩) (q_preV hK hX hX.1 rfl) rfl rfl hl.1 rfl (lv_room (Nat.le_of_ble_eq_true rfl)) dX1_put_17 ⟨Nat.le_of_ble_eq_true rfl, Nat.le_of_ble_eq_true rfl⟩) hS rfl rfl (fun H locs hX hS => ?_)
        try dsimp only [va_rf]
        refine lv_astoreN (lv' := [(5, .null), (0, .ref x), (1, .int (nI j_slot)), (2, .int i), (3, .long v)]) hx hb dX1_put_20 hl (by decide) rfl (fun ls hl => ?_)
        refine lv_aloadN hx hb dX1_put_22 (lv_at hl 0 rfl) ?_
        refine lv_ifnonnullN hx hb dX1_put_24 ?_
        refine lv_iconst (v := nI 0) hx hb dX1_put_27 (by decide) ?_
        have ee : f_put (n, kd, sz, sh, nu, pa, sl, ft, tn, ts, tg) (nI j_slot) i v = (nI 0, (n, kd, sz, sh, nu, pa, sl, nI 1, (tn + 1), nI j_slot, nI 2)) := by first | (simp only [f_put, ej_slot, s_2, r_3]; done) | (simp only [f_put, ej_slot, s_2, r_3]; rfl) | (simp [f_put, ej_slot, s_2, r_3]; done) | (simp [f_put, ej_slot, s_2, r_3]; rfl) | (simp only [f_put, ej_slot, s_2, r_3]; (repeat' split) <;> first | rfl | (exfalso; omega))
        exact W.iret (v := nI 0) hx hb hr (fun t ht hW => ⟨⟨nI 0, (n, kd, sz, sh, nu, pa, sl, nI 1, (tn + 1), nI j_slot, nI 2), rfl, ⟨(by rw [ee]), (by rw [ee])⟩, (by show q_X E x T0 (n, kd, sz, sh, nu, pa, sl, nI 1, (tn + 1), nI j_slot, nI 2) t.heap; rw [ht]; exact hX)⟩, hS.F ht⟩) hS.2.2 dX1_put_28
  · have c_1 := q_isn c_1
    refine lv_bipush (v := (-2)) hx hb dX1_put_12 (by decide) ?_
    have ee : f_put (n, kd, sz, sh, nu, pa, sl, ft, tn, ts, tg) slot i v = (((-2)), (n, kd, sz, sh, nu, pa, sl, (nI 0), tn, ts, tg)) := by first | (simp only [f_put, c_1]; done) | (simp only [f_put, c_1]; rfl) | (simp [f_put, c_1]; done) | (simp [f_put, c_1]; rfl) | (simp only [f_put, c_1]; (repeat' split) <;> first | rfl | (exfalso; omega))
    exact W.iret (v := ((-2))) hx hb hr (fun t ht hW => ⟨⟨((-2)), (n, kd, sz, sh, nu, pa, sl, (nI 0), tn, ts, tg), rfl, ⟨(by rw [ee]), (by rw [ee])⟩, (by show q_X E x T0 (n, kd, sz, sh, nu, pa, sl, (nI 0), tn, ts, tg) t.heap; rw [ht]; exact hX)⟩, hS.F ht⟩) hS.2.2 dX1_put_14
set_option maxRecDepth 20000 in
theorem nX1_get_0 : ∀ w ∈ u_ws RX0 TX0 6, w ∈ wsX1_get := by decide +kernel
set_option maxRecDepth 20000 in
theorem nX1_get_1 : ∀ w ∈ u_ws RX1 TX1 6, w ∈ wsX1_get := by decide +kernel
set_option maxHeartbeats 4000000 in
set_option maxRecDepth 100000 in
theorem kX1_get (l : Launch) (E : q_E) (x T0 : Nat) (n : Nat) (kd sz : Nat → Nat) (sh : Nat → Bool) (nu : Nat → Nat → Int64) (pa : Nat → Nat → Option Nat) (sl : Nat → Option Nat) (ft tn ts tg : Int32) (hI : q_I (n, kd, sz, sh, nu, pa, sl, ft, tn, ts, tg)) (slot i : Int32)  : Met l yX1_get wsX1_get ({ frames := 4, cells := 0, slots := 0, locals := 89 }) (q_P E (q_X E x T0 (n, kd, sz, sh, nu, pa, sl, ft, tn, ts, tg)) [.ref x, .int slot, .int i]) (q_Wl (q_X E x T0) (q_Ax x T0) ((f_get (n, kd, sz, sh, nu, pa, sl, ft, tn, ts, tg) slot i).1) (f_get (n, kd, sz, sh, nu, pa, sl, ft, tn, ts, tg) slot i).2) 0 0 (q_Ax x T0) := by
  refine Met.ofW (cc := cX1_get) (maxL := 4) (ret := (some .long)) (by decide) rfl ?_
  intro p e s m args below meth c s₁ B hml hv
  obtain ⟨rfl, hK, hX⟩ := hv
  have hx := B.exec
  have hb := B.bytes
  have hr := B.returns
  have hts := atoms_spec (ws := wsX1_get) B.pre
  have hown : s.vm.findClass RX1 = some m.cls := findClass_of_methodNamed B.named
  have hlocks := B.notSynchronized
  have hl := lv_entry ([.ref x, .int slot, .int i]) (n := 4) (Nat.le_of_ble_eq_true rfl)
  rw [lg_entry_eq]
  generalize (lg_sl ([.ref x, .int slot, .int i]) ++ List.replicate (4 - (lg_sl ([.ref x, .int slot, .int i])).length) Slot.unset).toArray = ls at hl ⊢
  have hl : lv_has ls 4 [(0, .ref x), (1, .int slot), (2, .int i)] := hl
  have hS : va_S (q_Ax x T0) s.heap s.heap [] := va_S.rf
  refine lv_aload_n hx hb dX1_get_0 rfl (lv_at hl 0 rfl) ?_
  refine lv_iconst (v := nI 0) hx hb dX1_get_1 (by decide) ?_
  refine qw_put (ci := 1) (C := RX1) (T := TX1) (N := 6) hx hb hts nX1_get_1 tyX1 tyX1_ok nmX1 hown hK hX.1 hS (Or.inl rfl) rfl 2 (by decide) (hts (.fieldLink RX1 19 "DockGates" "latestFault" "I") (by decide +kernel)) rfl rfl rfl rfl (Nat.le_of_ble_eq_true rfl) dX1_get_2 (fun H locs hO hz hq hS => ?_)
  have hX : q_X E x T0 (n, kd, sz, sh, nu, pa, sl, (nI 0), tn, ts, tg) H := hX.obj hO hz hq
  refine lv_iload_n hx hb dX1_get_5 rfl (lv_at hl 1 rfl) ?_
  refine qc_ri (r1 := q_b ((q_ix slot 12).isSome)) (W.runS (As := [.int slot]) (rest := []) ⟨hx, hb, hml, hown, hts⟩ (kX1_isSlot l slot) (va_cwS 1 hts gX1_get_X1_isSlot rfl rfl rfl (by decide +kernel) ⟨Nat.le_of_ble_eq_true rfl, Nat.le_of_ble_eq_true rfl⟩) preEq rfl rfl hl.1 rfl (lv_room (Nat.le_of_ble_eq_true rfl)) dX1_get_6 ⟨Nat.le_of_ble_eq_true rfl, Nat.le_of_ble_eq_true rfl⟩) rfl ?_
  refine ln_b_ne (tgt := 20) hx hb dX1_get_9 (by decide) (fun c_1 => ?_) (fun c_1 => ?_)
  · obtain ⟨j_slot, hj_slot, rfl⟩ := q_is (by first | decide | omega) c_1
    have ej_slot := q_ix_in hj_slot (by first | decide | omega)
    refine lv_aload_n hx hb dX1_get_20 rfl (lv_at hl 0 rfl) ?_
    refine lv_iload_n hx hb dX1_get_21 rfl (lv_at hl 1 rfl) ?_
    cases s_2 : sl j_slot with
    | none =>
      refine qc_q (r1 := none) (σ1 := (n, kd, sz, sh, nu, pa, sl, nI 2, tn, ts, tg)) (va_runV (As := [.int (nI j_slot)]) (rest := []) ⟨hx, hb, hml, hown, hts⟩ (kX1_rowOfNumbers_N l E x T0 n kd sz sh nu pa sl ((nI 0)) tn ts tg hI j_slot hj_slot s_2) (cwV 1 hts gX1_get_X1_rowOfNumbers rfl rfl rfl (by decide +kernel) ⟨Nat.le_of_ble_eq_true rfl, Nat.le_of_ble_eq_true rfl⟩) (q_preV hK hX hX.1 rfl) rfl rfl hl.1 rfl (lv_room (Nat.le_of_ble_eq_true rfl)) dX1_get_22 ⟨Nat.le_of_ble_eq_true rfl, Nat.le_of_ble_eq_true rfl⟩) hS rfl rfl (fun H locs hX hS => ?_)
      try dsimp only [va_rf]
      refine lv_astore_nN (lv' := [(3, .null), (0, .ref x), (1, .int (nI j_slot)), (2, .int i)]) hx hb dX1_get_25 rfl hl (by decide) rfl (fun ls hl => ?_)
      refine lv_aload_nN hx hb dX1_get_26 rfl (lv_at hl 0 rfl) ?_
      refine lv_ifnonnullN hx hb dX1_get_27 ?_
      refine lv_lconst (v := 0) hx hb dX1_get_30 (by decide) ?_
      have ee : f_get (n, kd, sz, sh, nu, pa, sl, ft, tn, ts, tg) (nI j_slot) i = (0, (n, kd, sz, sh, nu, pa, sl, nI 2, tn, ts, tg)) := by first | (simp only [f_get, ej_slot, s_2]; done) | (simp only [f_get, ej_slot, s_2]; rfl) | (simp [f_get, ej_slot, s_2]; done) | (simp [f_get, ej_slot, s_2]; rfl) | (simp only [f_get, ej_slot, s_2]; (repeat' split) <;> first | rfl | (exfalso; omega))
      exact W.lret (v := 0) hx hb hr (fun t ht hW => ⟨⟨0, (n, kd, sz, sh, nu, pa, sl, nI 2, tn, ts, tg), rfl, ⟨(by rw [ee]), (by rw [ee])⟩, (by show q_X E x T0 (n, kd, sz, sh, nu, pa, sl, nI 2, tn, ts, tg) t.heap; rw [ht]; exact hX)⟩, hS.F ht⟩) hS.2.2 dX1_get_31
    | some k_2 =>
      have hk_2 : k_2 < n := hI.2.2 _ _ s_2
      obtain ⟨ak_2, bk_2, dk_2, wk_2⟩ := hI.2.1 k_2 hk_2
      have n60 := hI.1
      try dsimp only at ak_2 bk_2 dk_2 wk_2 n60
      by_cases r_3 : kd k_2 < 3
      · refine qc_q (r1 := some (T0 + 3 * k_2)) (σ1 := (n, kd, sz, sh, nu, pa, sl, (nI 0), tn, ts, tg)) (va_runV (As := [.int (nI j_slot)]) (rest := []) ⟨hx, hb, hml, hown, hts⟩ (kX1_rowOfNumbers_S l E x T0 n kd sz sh nu pa sl ((nI 0)) tn ts tg hI j_slot hj_slot k_2 hk_2 s_2 r_3) (cwV 1 hts gX1_get_X1_rowOfNumbers rfl rfl rfl (by decide +kernel) ⟨Nat.le_of_ble_eq_true rfl, Nat.le_of_ble_eq_true rfl⟩) (q_preV hK hX hX.1 rfl) rfl rfl hl.1 rfl (lv_room (Nat.le_of_ble_eq_true rfl)) dX1_get_22 ⟨Nat.le_of_ble_eq_true rfl, Nat.le_of_ble_eq_true rfl⟩) hS rfl rfl (fun H locs hX hS => ?_)
        try dsimp only [va_rf]
        refine lv_astore_n (lv' := [(3, .ref (T0 + 3 * k_2)), (0, .ref x), (1, .int (nI j_slot)), (2, .int i)]) hx hb dX1_get_25 rfl hl (by decide) rfl (fun ls hl => ?_)
        refine lv_aload_n hx hb dX1_get_26 rfl (lv_at hl 0 rfl) ?_
        refine lv_ifnonnull (tgt := 32) hx hb dX1_get_27 (by decide) ?_
        refine lv_iload_n hx hb dX1_get_32 rfl (lv_at hl 3 rfl) ?_
        refine lv_if_lt (tgt := 45) hx hb dX1_get_33 (by decide) (fun c_4 => ?_) (fun c_4 => ?_)
        · have c_4 : ∀ q, q_ix i q = none := fun q => q_ix_neg c_4
          refine lv_aload_n hx hb dX1_get_45 rfl (lv_at hl 1 rfl) ?_
          refine lv_iconst (v := nI 3) hx hb dX1_get_46 (by decide) ?_
          refine qc_i (r1 := nI 0) (σ1 := (n, kd, sz, sh, nu, pa, sl, nI 3, tn, ts, tg)) (va_runV (As := [.int (nI 3)]) (rest := []) ⟨hx, hb, hml, hown, hts⟩ (kX1_failed l E x T0 n kd sz sh nu pa sl ((nI 0)) tn ts tg hI (nI 3)) (cwV 1 hts gX1_get_X1_failed rfl rfl rfl (by decide +kernel) ⟨Nat.le_of_ble_eq_true rfl, Nat.le_of_ble_eq_true rfl⟩) (q_preV hK hX hX.1 rfl) rfl rfl hl.1 rfl (lv_room (Nat.le_of_ble_eq_true rfl)) dX1_get_47 ⟨Nat.le_of_ble_eq_true rfl, Nat.le_of_ble_eq_true rfl⟩) hS rfl rfl (fun H locs hX hS => ?_)
          refine lv_i2l (v := lN 0) hx hb dX1_get_50 (nI_l (by first | omega | (simp; omega))) ?_
          have ee : f_get (n, kd, sz, sh, nu, pa, sl, ft, tn, ts, tg) (nI j_slot) i = (lN 0, (n, kd, sz, sh, nu, pa, sl, nI 3, tn, ts, tg)) := by first | (simp only [f_get, ej_slot, s_2, r_3, c_4]; done) | (simp only [f_get, ej_slot, s_2, r_3, c_4]; rfl) | (simp [f_get, ej_slot, s_2, r_3, c_4]; done) | (simp [f_get, ej_slot, s_2, r_3, c_4]; rfl) | (simp only [f_get, ej_slot, s_2, r_3, c_4]; (repeat' split) <;> first | rfl | (exfalso; omega))
          exact W.lret (v := lN 0) hx hb hr (fun t ht hW => ⟨⟨lN 0, (n, kd, sz, sh, nu, pa, sl, nI 3, tn, ts, tg), rfl, ⟨(by rw [ee]), (by rw [ee])⟩, (by show q_X E x T0 (n, kd, sz, sh, nu, pa, sl, nI 3, tn, ts, tg) t.heap; rw [ht]; exact hX)⟩, hS.F ht⟩) hS.2.2 dX1_get_51
        · refine lv_iload_n hx hb dX1_get_36 rfl (lv_at hl 3 rfl) ?_
          refine lv_aload_n hx hb dX1_get_37 rfl (lv_at hl 0 rfl) ?_
          refine qw_get (v := .ref (T0 + 3 * k_2 + 1)) (ci := 0) (C := RX0) (T := TX0) (N := 6) hx hb hts nX1_get_0 hown hK (hX.2.2.1 k_2 hk_2).1 rfl 2 (by decide) (hts (.fieldLink RX1 75 "DockGates$Thing" "numbers" "[J") (by decide +kernel)) rfl rfl dX1_get_38 ?_
          refine qw_jlen (n := q_nl (kd k_2) (sz k_2)) hx hb hK (hX.2.2.1 k_2 hk_2).2.1 dX1_get_41 ?_
          rw [q_nl3 (show kd k_2 < 3 by omega)]
          refine lv_icmp_lt (tgt := 52) hx hb dX1_get_42 (by decide) (fun c_5 => ?_) (fun c_5 => ?_)
          · obtain ⟨j_i, hj_i, rfl⟩ := q_ix_of2 (by omega) c_4 c_5
            have ej_i := q_ix_in hj_i (by omega)
            refine lv_aload_n hx hb dX1_get_52 rfl (lv_at hl 0 rfl) ?_
            refine qw_get (v := .ref (T0 + 3 * k_2 + 1)) (ci := 0) (C := RX0) (T := TX0) (N := 6) hx hb hts nX1_get_0 hown hK (hX.2.2.1 k_2 hk_2).1 rfl 2 (by decide) (hts (.fieldLink RX1 75 "DockGates$Thing" "numbers" "[J") (by decide +kernel)) rfl rfl dX1_get_53 ?_
            refine lv_iload_n hx hb dX1_get_56 rfl (lv_at hl 3 rfl) ?_
            refine qw_lald (n := q_nl (kd k_2) (sz k_2)) (f := nu k_2) hx hb hK (hX.2.2.1 k_2 hk_2).2.1 (by rw [q_nl3 (by omega)]; omega) (by rw [q_nl3 (by omega)]; omega) dX1_get_57 ?_
            have ee : f_get (n, kd, sz, sh, nu, pa, sl, ft, tn, ts, tg) (nI j_slot) (nI j_i) = (nu k_2 j_i, (n, kd, sz, sh, nu, pa, sl, (nI 0), tn, ts, tg)) := by first | (simp only [f_get, ej_slot, s_2, r_3, ej_i]; done) | (simp only [f_get, ej_slot, s_2, r_3, ej_i]; rfl) | (simp [f_get, ej_slot, s_2, r_3, ej_i]; done) | (simp [f_get, ej_slot, s_2, r_3, ej_i]; rfl) | (simp only [f_get, ej_slot, s_2, r_3, ej_i]; (repeat' split) <;> first | rfl | (exfalso; omega))
            exact W.lret (v := nu k_2 j_i) hx hb hr (fun t ht hW => ⟨⟨nu k_2 j_i, (n, kd, sz, sh, nu, pa, sl, (nI 0), tn, ts, tg), rfl, ⟨(by rw [ee]), (by rw [ee])⟩, (by show q_X E x T0 (n, kd, sz, sh, nu, pa, sl, (nI 0), tn, ts, tg) t.heap; rw [ht]; exact hX)⟩, hS.F ht⟩) hS.2.2 dX1_get_58
          · have c_5 := q_ix_nlt (by omega) c_5
            refine lv_aload_n hx hb dX1_get_45 rfl (lv_at hl 1 rfl) ?_
            refine lv_iconst (v := nI 3) hx hb dX1_get_46 (by decide) ?_
            refine qc_i (r1 := nI 0) (σ1 := (n, kd, sz, sh, nu, pa, sl, nI 3, tn, ts, tg)) (va_runV (As := [.int (nI 3)]) (rest := []) ⟨hx, hb, hml, hown, hts⟩ (kX1_failed l E x T0 n kd sz sh nu pa sl ((nI 0)) tn ts tg hI (nI 3)) (cwV 1 hts gX1_get_X1_failed rfl rfl rfl (by decide +kernel) ⟨Nat.le_of_ble_eq_true rfl, Nat.le_of_ble_eq_true rfl⟩) (q_preV hK hX hX.1 rfl) rfl rfl hl.1 rfl (lv_room (Nat.le_of_ble_eq_true rfl)) dX1_get_47 ⟨Nat.le_of_ble_eq_true rfl, Nat.le_of_ble_eq_true rfl⟩) hS rfl rfl (fun H locs hX hS => ?_)
            refine lv_i2l (v := lN 0) hx hb dX1_get_50 (nI_l (by first | omega | (simp; omega))) ?_
            have ee : f_get (n, kd, sz, sh, nu, pa, sl, ft, tn, ts, tg) (nI j_slot) i = (lN 0, (n, kd, sz, sh, nu, pa, sl, nI 3, tn, ts, tg)) := by first | (simp only [f_get, ej_slot, s_2, r_3, c_5]; done) | (simp only [f_get, ej_slot, s_2, r_3, c_5]; rfl) | (simp [f_get, ej_slot, s_2, r_3, c_5]; done) | (simp [f_get, ej_slot, s_2, r_3, c_5]; rfl) | (simp only [f_get, ej_slot, s_2, r_3, c_5]; (repeat' split) <;> first | rfl | (exfalso; omega))
            exact W.lret (v := lN 0) hx hb hr (fun t ht hW => ⟨⟨lN 0, (n, kd, sz, sh, nu, pa, sl, nI 3, tn, ts, tg), rfl, ⟨(by rw [ee]), (by rw [ee])⟩, (by show q_X E x T0 (n, kd, sz, sh, nu, pa, sl, nI 3, tn, ts, tg) t.heap; rw [ht]; exact hX)⟩, hS.F ht⟩) hS.2.2 dX1_get_51
      · refine qc_q (r1 := none) (σ1 := (n, kd, sz, sh, nu, pa, sl, nI 1, (tn + 1), nI j_slot, nI 2)) (va_runV (As := [.int (nI j_slot)]) (rest := []) ⟨hx, hb, hml, hown, hts⟩ (kX1_rowOfNumbers_T l E x T0 n kd sz sh nu pa sl ((nI 0)) tn ts tg hI j_slot hj_slot k_2 hk_2 s_2 r_3) (cwV 1 hts gX1_get_X1_rowOfNumbers rfl rfl rfl (by decide +kernel) ⟨Nat.le_of_ble_eq_true rfl, Nat.le_of_ble_eq_true rfl⟩) (q_preV hK hX hX.1 rfl) rfl rfl hl.1 rfl (lv_room (Nat.le_of_ble_eq_true rfl)) dX1_get_22 ⟨Nat.le_of_ble_eq_true rfl, Nat.le_of_ble_eq_true rfl⟩) hS rfl rfl (fun H locs hX hS => ?_)
        try dsimp only [va_rf]
        refine lv_astore_nN (lv' := [(3, .null), (0, .ref x), (1, .int (nI j_slot)), (2, .int i)]) hx hb dX1_get_25 rfl hl (by decide) rfl (fun ls hl => ?_)
        refine lv_aload_nN hx hb dX1_get_26 rfl (lv_at hl 0 rfl) ?_
        refine lv_ifnonnullN hx hb dX1_get_27 ?_
        refine lv_lconst (v := 0) hx hb dX1_get_30 (by decide) ?_
        have ee : f_get (n, kd, sz, sh, nu, pa, sl, ft, tn, ts, tg) (nI j_slot) i = (0, (n, kd, sz, sh, nu, pa, sl, nI 1, (tn + 1), nI j_slot, nI 2)) := by first | (simp only [f_get, ej_slot, s_2, r_3]; done) | (simp only [f_get, ej_slot, s_2, r_3]; rfl) | (simp [f_get, ej_slot, s_2, r_3]; done) | (simp [f_get, ej_slot, s_2, r_3]; rfl) | (simp only [f_get, ej_slot, s_2, r_3]; (repeat' split) <;> first | rfl | (exfalso; omega))
        exact W.lret (v := 0) hx hb hr (fun t ht hW => ⟨⟨0, (n, kd, sz, sh, nu, pa, sl, nI 1, (tn + 1), nI j_slot, nI 2), rfl, ⟨(by rw [ee]), (by rw [ee])⟩, (by show q_X E x T0 (n, kd, sz, sh, nu, pa, sl, nI 1, (tn + 1), nI j_slot, nI 2) t.heap; rw [ht]; exact hX)⟩, hS.F ht⟩) hS.2.2 dX1_get_31
  · have c_1 := q_isn c_1
    refine lv_aload_n hx hb dX1_get_12 rfl (lv_at hl 0 rfl) ?_
    refine lv_bipush (v := (-2)) hx hb dX1_get_13 (by decide) ?_
    refine qc_i (r1 := nI 0) (σ1 := (n, kd, sz, sh, nu, pa, sl, ((-2)), tn, ts, tg)) (va_runV (As := [.int ((-2))]) (rest := []) ⟨hx, hb, hml, hown, hts⟩ (kX1_failed l E x T0 n kd sz sh nu pa sl ((nI 0)) tn ts tg hI (((-2)))) (cwV 1 hts gX1_get_X1_failed rfl rfl rfl (by decide +kernel) ⟨Nat.le_of_ble_eq_true rfl, Nat.le_of_ble_eq_true rfl⟩) (q_preV hK hX hX.1 rfl) rfl rfl hl.1 rfl (lv_room (Nat.le_of_ble_eq_true rfl)) dX1_get_15 ⟨Nat.le_of_ble_eq_true rfl, Nat.le_of_ble_eq_true rfl⟩) hS rfl rfl (fun H locs hX hS => ?_)
    refine lv_i2l (v := lN 0) hx hb dX1_get_18 (nI_l (by first | omega | (simp; omega))) ?_
    have ee : f_get (n, kd, sz, sh, nu, pa, sl, ft, tn, ts, tg) slot i = (lN 0, (n, kd, sz, sh, nu, pa, sl, ((-2)), tn, ts, tg)) := by first | (simp only [f_get, c_1]; done) | (simp only [f_get, c_1]; rfl) | (simp [f_get, c_1]; done) | (simp [f_get, c_1]; rfl) | (simp only [f_get, c_1]; (repeat' split) <;> first | rfl | (exfalso; omega))
    exact W.lret (v := lN 0) hx hb hr (fun t ht hW => ⟨⟨lN 0, (n, kd, sz, sh, nu, pa, sl, ((-2)), tn, ts, tg), rfl, ⟨(by rw [ee]), (by rw [ee])⟩, (by show q_X E x T0 (n, kd, sz, sh, nu, pa, sl, ((-2)), tn, ts, tg) t.heap; rw [ht]; exact hX)⟩, hS.F ht⟩) hS.2.2 dX1_get_19
set_option maxRecDepth 20000 in
theorem nX1_lay_0 : ∀ w ∈ u_ws RX0 TX0 6, w ∈ wsX1_lay := by decide +kernel
set_option maxRecDepth 20000 in
theorem nX1_lay_1 : ∀ w ∈ u_ws RX1 TX1 6, w ∈ wsX1_lay := by decide +kernel
set_option maxHeartbeats 4000000 in
set_option maxRecDepth 100000 in
theorem kX1_lay (l : Launch) (E : q_E) (x T0 : Nat) (n : Nat) (kd sz : Nat → Nat) (sh : Nat → Bool) (nu : Nat → Nat → Int64) (pa : Nat → Nat → Option Nat) (sl : Nat → Option Nat) (ft tn ts tg : Int32) (hI : q_I (n, kd, sz, sh, nu, pa, sl, ft, tn, ts, tg)) (to i fr : Int32)  : Met l yX1_lay wsX1_lay ({ frames := 4, cells := 0, slots := 0, locals := 89 }) (q_P E (q_X E x T0 (n, kd, sz, sh, nu, pa, sl, ft, tn, ts, tg)) [.ref x, .int to, .int i, .int fr]) (q_Wi (q_X E x T0) (q_Ax x T0) ((f_lay (n, kd, sz, sh, nu, pa, sl, ft, tn, ts, tg) to i fr).1) (f_lay (n, kd, sz, sh, nu, pa, sl, ft, tn, ts, tg) to i fr).2) 0 0 (q_Ax x T0) := by
  refine Met.ofW (cc := cX1_lay) (maxL := 7) (ret := (some .int)) (by decide) rfl ?_
  intro p e s m args below meth c s₁ B hml hv
  obtain ⟨rfl, hK, hX⟩ := hv
  have hx := B.exec
  have hb := B.bytes
  have hr := B.returns
  have hts := atoms_spec (ws := wsX1_lay) B.pre
  have hown : s.vm.findClass RX1 = some m.cls := findClass_of_methodNamed B.named
  have hlocks := B.notSynchronized
  have hl := lv_entry ([.ref x, .int to, .int i, .int fr]) (n := 7) (Nat.le_of_ble_eq_true rfl)
  rw [lg_entry_eq]
  generalize (lg_sl ([.ref x, .int to, .int i, .int fr]) ++ List.replicate (7 - (lg_sl ([.ref x, .int to, .int i, .int fr])).length) Slot.unset).toArray = ls at hl ⊢
  have hl : lv_has ls 7 [(0, .ref x), (1, .int to), (2, .int i), (3, .int fr)] := hl
  have hS : va_S (q_Ax x T0) s.heap s.heap [] := va_S.rf
  refine lv_aload_n hx hb dX1_lay_0 rfl (lv_at hl 0 rfl) ?_
  refine lv_iconst (v := nI 0) hx hb dX1_lay_1 (by decide) ?_
  refine qw_put (ci := 1) (C := RX1) (T := TX1) (N := 6) hx hb hts nX1_lay_1 tyX1 tyX1_ok nmX1 hown hK hX.1 hS (Or.inl rfl) rfl 2 (by decide) (hts (.fieldLink RX1 19 "DockGates" "latestFault" "I") (by decide +kernel)) rfl rfl rfl rfl (Nat.le_of_ble_eq_true rfl) dX1_lay_2 (fun H locs hO hz hq hS => ?_)
  have hX : q_X E x T0 (n, kd, sz, sh, nu, pa, sl, (nI 0), tn, ts, tg) H := hX.obj hO hz hq
  refine lv_iload_n hx hb dX1_lay_5 rfl (lv_at hl 1 rfl) ?_
  refine qc_ri (r1 := q_b ((q_ix to 12).isSome)) (W.runS (As := [.int to]) (rest := []) ⟨hx, hb, hml, hown, hts⟩ (kX1_isSlot l to) (va_cwS 1 hts gX1_lay_X1_isSlot rfl rfl rfl (by decide +kernel) ⟨Nat.le_of_ble_eq_true rfl, Nat.le_of_ble_eq_true rfl⟩) preEq rfl rfl hl.1 rfl (lv_room (Nat.le_of_ble_eq_true rfl)) dX1_lay_6 ⟨Nat.le_of_ble_eq_true rfl, Nat.le_of_ble_eq_true rfl⟩) rfl ?_
  refine ln_b_eq (tgt := 19) hx hb dX1_lay_9 (by decide) (fun c_1 => ?_) (fun c_1 => ?_)
  · have c_1 := q_isn c_1
    refine lv_bipush (v := (-2)) hx hb dX1_lay_19 (by decide) ?_
    have ee : f_lay (n, kd, sz, sh, nu, pa, sl, ft, tn, ts, tg) to i fr = (((-2)), (n, kd, sz, sh, nu, pa, sl, (nI 0), tn, ts, tg)) := by first | (simp only [f_lay, c_1]; done) | (simp only [f_lay, c_1]; rfl) | (simp [f_lay, c_1]; done) | (simp [f_lay, c_1]; rfl) | (simp only [f_lay, c_1]; (repeat' split) <;> first | rfl | (exfalso; omega))
    exact W.iret (v := ((-2))) hx hb hr (fun t ht hW => ⟨⟨((-2)), (n, kd, sz, sh, nu, pa, sl, (nI 0), tn, ts, tg), rfl, ⟨(by rw [ee]), (by rw [ee])⟩, (by show q_X E x T0 (n, kd, sz, sh, nu, pa, sl, (nI 0), tn, ts, tg) t.heap; rw [ht]; exact hX)⟩, hS.F ht⟩) hS.2.2 dX1_lay_21
  · obtain ⟨j_to, hj_to, rfl⟩ := q_is (by first | decide | omega) c_1
    have ej_to := q_ix_in hj_to (by first | decide | omega)
    refine lv_iload_n hx hb dX1_lay_12 rfl (lv_at hl 3 rfl) ?_
    refine qc_ri (r1 := q_b ((q_ix fr 12).isSome)) (W.runS (As := [.int fr]) (rest := []) ⟨hx, hb, hml, hown, hts⟩ (kX1_isSlot l fr) (va_cwS 1 hts gX1_lay_X1_isSlot rfl rfl rfl (by decide +kernel) ⟨Nat.le_of_ble_eq_true rfl, Nat.le_of_ble_eq_true rfl⟩) preEq rfl rfl hl.1 rfl (lv_room (Nat.le_of_ble_eq_true rfl)) dX1_lay_13 ⟨Nat.le_of_ble_eq_true rfl, Nat.le_of_ble_eq_true rfl⟩) rfl ?_
    refine ln_b_ne (tgt := 22) hx hb dX1_lay_16 (by decide) (fun c_2 => ?_) (fun c_2 => ?_)
    · obtain ⟨j_fr, hj_fr, rfl⟩ := q_is (by first | decide | omega) c_2
      have ej_fr := q_ix_in hj_fr (by first | decide | omega)
      refine lv_aload_n hx hb dX1_lay_22 rfl (lv_at hl 0 rfl) ?_
      refine lv_iload_n hx hb dX1_lay_23 rfl (lv_at hl 1 rfl) ?_
      cases s_3 : sl j_to with
      | none =>
        refine qc_q (r1 := none) (σ1 := (n, kd, sz, sh, nu, pa, sl, nI 2, tn, ts, tg)) (va_runV (As := [.int (nI j_to)]) (rest := []) ⟨hx, hb, hml, hown, hts⟩ (kX1_rowOfThings_N l E x T0 n kd sz sh nu pa sl ((nI 0)) tn ts tg hI j_to hj_to s_3) (cwV 1 hts gX1_lay_X1_rowOfThings rfl rfl rfl (by decide +kernel) ⟨Nat.le_of_ble_eq_true rfl, Nat.le_of_ble_eq_true rfl⟩) (q_preV hK hX hX.1 rfl) rfl rfl hl.1 rfl (lv_room (Nat.le_of_ble_eq_true rfl)) dX1_lay_24 ⟨Nat.le_of_ble_eq_true rfl, Nat.le_of_ble_eq_true rfl⟩) hS rfl rfl (fun H locs hX hS => ?_)
        try dsimp only [va_rf]
        refine lv_astoreN (lv' := [(4, .null), (0, .ref x), (1, .int (nI j_to)), (2, .int i), (3, .int (nI j_fr))]) hx hb dX1_lay_27 hl (by decide) rfl (fun ls hl => ?_)
        refine lv_aloadN hx hb dX1_lay_29 (lv_at hl 0 rfl) ?_
        refine lv_ifnonnullN hx hb dX1_lay_31 ?_
        refine lv_iconst (v := nI 0) hx hb dX1_lay_34 (by decide) ?_
        have ee : f_lay (n, kd, sz, sh, nu, pa, sl, ft, tn, ts, tg) (nI j_to) i (nI j_fr) = (nI 0, (n, kd, sz, sh, nu, pa, sl, nI 2, tn, ts, tg)) := by first | (simp only [f_lay, ej_to, ej_fr, s_3]; done) | (simp only [f_lay, ej_to, ej_fr, s_3]; rfl) | (simp [f_lay, ej_to, ej_fr, s_3]; done) | (simp [f_lay, ej_to, ej_fr, s_3]; rfl) | (simp only [f_lay, ej_to, ej_fr, s_3]; (repeat' split) <;> first | rfl | (exfalso; omega))
        exact W.iret (v := nI 0) hx hb hr (fun t ht hW => ⟨⟨nI 0, (n, kd, sz, sh, nu, pa, sl, nI 2, tn, ts, tg), rfl, ⟨(by rw [ee]), (by rw [ee])⟩, (by show q_X E x T0 (n, kd, sz, sh, nu, pa, sl, nI 2, tn, ts, tg) t.heap; rw [ht]; exact hX)⟩, hS.F ht⟩) hS.2.2 dX1_lay_35
      | some k_3 =>
        have hk_3 : k_3 < n := hI.2.2 _ _ s_3
        obtain ⟨ak_3, bk_3, dk_3, wk_3⟩ := hI.2.1 k_3 hk_3
        have n60 := hI.1
        try dsimp only at ak_3 bk_3 dk_3 wk_3 n60
        by_cases r_4 : 3 ≤ kd k_3 ∧ kd k_3 < 9
        · refine qc_q (r1 := some (T0 + 3 * k_3)) (σ1 := (n, kd, sz, sh, nu, pa, sl, (nI 0), tn, ts, tg)) (va_runV (As := [.int (nI j_to)]) (rest := []) ⟨hx, hb, hml, hown, hts⟩ (kX1_rowOfThings_S l E x T0 n kd sz sh nu pa sl ((nI 0)) tn ts tg hI j_to hj_to k_3 hk_3 s_3 r_4) (cwV 1 hts gX1_lay_X1_rowOfThings rfl rfl rfl (by decide +kernel) ⟨Nat.le_of_ble_eq_true rfl, Nat.le_of_ble_eq_true rfl⟩) (q_preV hK hX hX.1 rfl) rfl rfl hl.1 rfl (lv_room (Nat.le_of_ble_eq_true rfl)) dX1_lay_24 ⟨Nat.le_of_ble_eq_true rfl, Nat.le_of_ble_eq_true rfl⟩) hS rfl rfl (fun H locs hX hS => ?_)
          try dsimp only [va_rf]
          refine lv_astore (lv' := [(4, .ref (T0 + 3 * k_3)), (0, .ref x), (1, .int (nI j_to)), (2, .int i), (3, .int (nI j_fr))]) hx hb dX1_lay_27 hl (by decide) rfl (fun ls hl => ?_)
          refine lv_aload hx hb dX1_lay_29 (lv_at hl 0 rfl) ?_
          refine lv_ifnonnull (tgt := 36) hx hb dX1_lay_31 (by decide) ?_
          refine lv_aload_n hx hb dX1_lay_36 rfl (lv_at hl 1 rfl) ?_
          refine qw_get (v := .ref (x + 1)) (ci := 1) (C := RX1) (T := TX1) (N := 6) hx hb hts nX1_lay_1 hown hK hX.1 rfl 0 (by decide) (hts (.fieldLink RX1 11 "DockGates" "slots" "[LDockGates$Thing;") (by decide +kernel)) rfl rfl dX1_lay_37 ?_
          refine lv_iload_n hx hb dX1_lay_40 rfl (lv_at hl 4 rfl) ?_
          refine qx_slot hx hb hK hX hI hj_fr dX1_lay_41 (fun s_5 => ?_) (fun k_5 hk_5 s_5 => ?_)
          · try dsimp only at s_5
            refine lv_astoreN (lv' := [(5, .null), (4, .ref (T0 + 3 * k_3)), (0, .ref x), (1, .int (nI j_to)), (2, .int i), (3, .int (nI j_fr))]) hx hb dX1_lay_42 hl (by decide) rfl (fun ls hl => ?_)
            refine lv_aload hx hb dX1_lay_44 (lv_at hl 1 rfl) ?_
            refine qw_get (v := .int (nI (kd k_3))) (ci := 0) (C := RX0) (T := TX0) (N := 6) hx hb hts nX1_lay_0 hown hK (hX.2.2.1 k_3 hk_3).1 rfl 1 (by decide) (hts (.fieldLink RX1 79 "DockGates$Thing" "kind" "I") (by decide +kernel)) rfl rfl dX1_lay_46 ?_
            refine qc_ri (r1 := nI (q_gl (kd k_3))) (W.runS (As := [.int (nI (kd k_3))]) (rest := []) ⟨hx, hb, hml, hown, hts⟩ (kX1_gateOfLaying l (kd k_3) (by omega)) (va_cwS 1 hts gX1_lay_X1_gateOfLaying rfl rfl rfl (by decide +kernel) ⟨Nat.le_of_ble_eq_true rfl, Nat.le_of_ble_eq_true rfl⟩) preEq rfl rfl hl.1 rfl (lv_room (Nat.le_of_ble_eq_true rfl)) dX1_lay_49 ⟨Nat.le_of_ble_eq_true rfl, Nat.le_of_ble_eq_true rfl⟩) rfl ?_
            have hgl := q_gl_lt (kd k_3)
            refine lv_istore (lv' := [(6, .int (nI (q_gl (kd k_3)))), (5, .null), (4, .ref (T0 + 3 * k_3)), (0, .ref x), (1, .int (nI j_to)), (2, .int i), (3, .int (nI j_fr))]) hx hb dX1_lay_52 hl (by decide) rfl (fun ls hl => ?_)
            refine lv_aloadN hx hb dX1_lay_54 (lv_at hl 1 rfl) ?_
            refine lv_ifnullN (tgt := 77) hx hb dX1_lay_56 (by decide) ?_
            refine lv_iload_n hx hb dX1_lay_77 rfl (lv_at hl 5 rfl) ?_
            refine lv_if_lt (tgt := 91) hx hb dX1_lay_78 (by decide) (fun c_6 => ?_) (fun c_6 => ?_)
            · have c_6 : ∀ q, q_ix i q = none := fun q => q_ix_neg c_6
              refine lv_aload_n hx hb dX1_lay_91 rfl (lv_at hl 3 rfl) ?_
              refine lv_iconst (v := nI 3) hx hb dX1_lay_92 (by decide) ?_
              refine qc_i (r1 := nI 0) (σ1 := (n, kd, sz, sh, nu, pa, sl, nI 3, tn, ts, tg)) (va_runV (As := [.int (nI 3)]) (rest := []) ⟨hx, hb, hml, hown, hts⟩ (kX1_failed l E x T0 n kd sz sh nu pa sl ((nI 0)) tn ts tg hI (nI 3)) (cwV 1 hts gX1_lay_X1_failed rfl rfl rfl (by decide +kernel) ⟨Nat.le_of_ble_eq_true rfl, Nat.le_of_ble_eq_true rfl⟩) (q_preV hK hX hX.1 rfl) rfl rfl hl.1 rfl (lv_room (Nat.le_of_ble_eq_true rfl)) dX1_lay_93 ⟨Nat.le_of_ble_eq_true rfl, Nat.le_of_ble_eq_true rfl⟩) hS rfl rfl (fun H locs hX hS => ?_)
              have ee : f_lay (n, kd, sz, sh, nu, pa, sl, ft, tn, ts, tg) (nI j_to) i (nI j_fr) = (nI 0, (n, kd, sz, sh, nu, pa, sl, nI 3, tn, ts, tg)) := by first | (simp only [f_lay, ej_to, ej_fr, s_3, r_4, s_5, c_6]; done) | (simp only [f_lay, ej_to, ej_fr, s_3, r_4, s_5, c_6]; rfl) | (simp [f_lay, ej_to, ej_fr, s_3, r_4, s_5, c_6]; done) | (simp [f_lay, ej_to, ej_fr, s_3, r_4, s_5, c_6]; rfl) | (simp only [f_lay, ej_to, ej_fr, s_3, r_4, s_5, c_6]; (repeat' split) <;> first | rfl | (exfalso; omega))
              exact W.iret (v := nI 0) hx hb hr (fun t ht hW => ⟨⟨nI 0, (n, kd, sz, sh, nu, pa, sl, nI 3, tn, ts, tg), rfl, ⟨(by rw [ee]), (by rw [ee])⟩, (by show q_X E x T0 (n, kd, sz, sh, nu, pa, sl, nI 3, tn, ts, tg) t.heap; rw [ht]; exact hX)⟩, hS.F ht⟩) hS.2.2 dX1_lay_96
            · refine lv_iload_n hx hb dX1_lay_81 rfl (lv_at hl 5 rfl) ?_
              refine lv_aload hx hb dX1_lay_82 (lv_at hl 2 rfl) ?_
              refine qw_get (v := .ref (T0 + 3 * k_3 + 2)) (ci := 0) (C := RX0) (T := TX0) (N := 6) hx hb hts nX1_lay_0 hown hK (hX.2.2.1 k_3 hk_3).1 rfl 3 (by decide) (hts (.fieldLink RX1 96 "DockGates$Thing" "parts" "[LDockGates$Thing;") (by decide +kernel)) rfl rfl dX1_lay_84 ?_
              refine qw_tlen (n := q_pl (kd k_3) (sz k_3)) hx hb hK (hX.2.2.1 k_3 hk_3).2.2 dX1_lay_87 ?_
              rw [q_pl39 (show 3 ≤ kd k_3 by omega) (show kd k_3 < 9 by omega)]
              refine lv_icmp_lt (tgt := 97) hx hb dX1_lay_88 (by decide) (fun c_7 => ?_) (fun c_7 => ?_)
              · obtain ⟨j_i, hj_i, rfl⟩ := q_ix_of2 (by omega) c_6 c_7
                have ej_i := q_ix_in hj_i (by omega)
                refine lv_aloadN hx hb dX1_lay_97 (lv_at hl 1 rfl) ?_
                refine lv_ifnullN (tgt := 124) hx hb dX1_lay_99 (by decide) ?_
                refine lv_aload hx hb dX1_lay_124 (lv_at hl 2 rfl) ?_
                refine qw_get (v := .ref (T0 + 3 * k_3 + 2)) (ci := 0) (C := RX0) (T := TX0) (N := 6) hx hb hts nX1_lay_0 hown hK (hX.2.2.1 k_3 hk_3).1 rfl 3 (by decide) (hts (.fieldLink RX1 96 "DockGates$Thing" "parts" "[LDockGates$Thing;") (by decide +kernel)) rfl rfl dX1_lay_126 ?_
                refine lv_iload_n hx hb dX1_lay_129 rfl (lv_at hl 5 rfl) ?_
                refine lv_aloadN hx hb dX1_lay_130 (lv_at hl 1 rfl) ?_
                refine qw_aastN (n := q_pl (kd k_3) (sz k_3)) (f := fun i => q_rf T0 (pa k_3 i)) (A := q_Ax x T0) hx hb hK (hX.2.2.1 k_3 hk_3).2.2 hS (Or.inr (Or.inr (by omega))) (by rw [q_pl39 (by omega) (by omega)]; omega) (by rw [q_pl39 (by omega) (by omega)]; omega) dX1_lay_132 (fun H locs hO hz hq hS => ?_)
                have hX : q_X E x T0 (n, kd, sz, sh, nu, (va_up pa k_3 (va_up (pa k_3) j_i none)), sl, (nI 0), tn, ts, tg) H := hX.par hk_3 none hO hz hq
                refine lv_iconst (v := nI 1) hx hb dX1_lay_133 (by decide) ?_
                have ee : f_lay (n, kd, sz, sh, nu, pa, sl, ft, tn, ts, tg) (nI j_to) (nI j_i) (nI j_fr) = (nI 1, (n, kd, sz, sh, nu, (va_up pa k_3 (va_up (pa k_3) j_i none)), sl, (nI 0), tn, ts, tg)) := by first | (simp only [f_lay, ej_to, ej_fr, s_3, r_4, s_5, ej_i]; done) | (simp only [f_lay, ej_to, ej_fr, s_3, r_4, s_5, ej_i]; rfl) | (simp [f_lay, ej_to, ej_fr, s_3, r_4, s_5, ej_i]; done) | (simp [f_lay, ej_to, ej_fr, s_3, r_4, s_5, ej_i]; rfl) | (simp only [f_lay, ej_to, ej_fr, s_3, r_4, s_5, ej_i]; (repeat' split) <;> first | rfl | (exfalso; omega))
                exact W.iret (v := nI 1) hx hb hr (fun t ht hW => ⟨⟨nI 1, (n, kd, sz, sh, nu, (va_up pa k_3 (va_up (pa k_3) j_i none)), sl, (nI 0), tn, ts, tg), rfl, ⟨(by rw [ee]), (by rw [ee])⟩, (by show q_X E x T0 (n, kd, sz, sh, nu, (va_up pa k_3 (va_up (pa k_3) j_i none)), sl, (nI 0), tn, ts, tg) t.heap; rw [ht]; exact hX)⟩, hS.F ht⟩) hS.2.2 dX1_lay_134
              · have c_7 := q_ix_nlt (by omega) c_7
                refine lv_aload_n hx hb dX1_lay_91 rfl (lv_at hl 3 rfl) ?_
                refine lv_iconst (v := nI 3) hx hb dX1_lay_92 (by decide) ?_
                refine qc_i (r1 := nI 0) (σ1 := (n, kd, sz, sh, nu, pa, sl, nI 3, tn, ts, tg)) (va_runV (As := [.int (nI 3)]) (rest := []) ⟨hx, hb, hml, hown, hts⟩ (kX1_failed l E x T0 n kd sz sh nu pa sl ((nI 0)) tn ts tg hI (nI 3)) (cwV 1 hts gX1_lay_X1_failed rfl rfl rfl (by decide +kernel) ⟨Nat.le_of_ble_eq_true rfl, Nat.le_of_ble_eq_true rfl⟩) (q_preV hK hX hX.1 rfl) rfl rfl hl.1 rfl (lv_room (Nat.le_of_ble_eq_true rfl)) dX1_lay_93 ⟨Nat.le_of_ble_eq_true rfl, Nat.le_of_ble_eq_true rfl⟩) hS rfl rfl (fun H locs hX hS => ?_)
                have ee : f_lay (n, kd, sz, sh, nu, pa, sl, ft, tn, ts, tg) (nI j_to) i (nI j_fr) = (nI 0, (n, kd, sz, sh, nu, pa, sl, nI 3, tn, ts, tg)) := by first | (simp only [f_lay, ej_to, ej_fr, s_3, r_4, s_5, c_7]; done) | (simp only [f_lay, ej_to, ej_fr, s_3, r_4, s_5, c_7]; rfl) | (simp [f_lay, ej_to, ej_fr, s_3, r_4, s_5, c_7]; done) | (simp [f_lay, ej_to, ej_fr, s_3, r_4, s_5, c_7]; rfl) | (simp only [f_lay, ej_to, ej_fr, s_3, r_4, s_5, c_7]; (repeat' split) <;> first | rfl | (exfalso; omega))
                exact W.iret (v := nI 0) hx hb hr (fun t ht hW => ⟨⟨nI 0, (n, kd, sz, sh, nu, pa, sl, nI 3, tn, ts, tg), rfl, ⟨(by rw [ee]), (by rw [ee])⟩, (by show q_X E x T0 (n, kd, sz, sh, nu, pa, sl, nI 3, tn, ts, tg) t.heap; rw [ht]; exact hX)⟩, hS.F ht⟩) hS.2.2 dX1_lay_96
          · try dsimp only at s_5 hk_5
            obtain ⟨ak_5, bk_5, dk_5, wk_5⟩ := hI.2.1 k_5 hk_5
            have n60 := hI.1
            try dsimp only at ak_5 bk_5 dk_5 wk_5 n60
            refine lv_astore (lv' := [(5, .ref (T0 + 3 * k_5)), (4, .ref (T0 + 3 * k_3)), (0, .ref x), (1, .int (nI j_to)), (2, .int i), (3, .int (nI j_fr))]) hx hb dX1_lay_42 hl (by decide) rfl (fun ls hl => ?_)
            refine lv_aload hx hb dX1_lay_44 (lv_at hl 1 rfl) ?_
            refine qw_get (v := .int (nI (kd k_3))) (ci := 0) (C := RX0) (T := TX0) (N := 6) hx hb hts nX1_lay_0 hown hK (hX.2.2.1 k_3 hk_3).1 rfl 1 (by decide) (hts (.fieldLink RX1 79 "DockGates$Thing" "kind" "I") (by decide +kernel)) rfl rfl dX1_lay_46 ?_
            refine qc_ri (r1 := nI (q_gl (kd k_3))) (W.runS (As := [.int (nI (kd k_3))]) (rest := []) ⟨hx, hb, hml, hown, hts⟩ (kX1_gateOfLaying l (kd k_3) (by omega)) (va_cwS 1 hts gX1_lay_X1_gateOfLaying rfl rfl rfl (by decide +kernel) ⟨Nat.le_of_ble_eq_true rfl, Nat.le_of_ble_eq_true rfl⟩) preEq rfl rfl hl.1 rfl (lv_room (Nat.le_of_ble_eq_true rfl)) dX1_lay_49 ⟨Nat.le_of_ble_eq_true rfl, Nat.le_of_ble_eq_true rfl⟩) rfl ?_
            have hgl := q_gl_lt (kd k_3)
            refine lv_istore (lv' := [(6, .int (nI (q_gl (kd k_3)))), (5, .ref (T0 + 3 * k_5)), (4, .ref (T0 + 3 * k_3)), (0, .ref x), (1, .int (nI j_to)), (2, .int i), (3, .int (nI j_fr))]) hx hb dX1_lay_52 hl (by decide) rfl (fun ls hl => ?_)
            refine lv_aload hx hb dX1_lay_54 (lv_at hl 1 rfl) ?_
            refine lv_ifnull hx hb dX1_lay_56 ?_
            refine lv_iload hx hb dX1_lay_59 (lv_at hl 0 rfl) ?_
            refine lv_aload hx hb dX1_lay_61 (lv_at hl 1 rfl) ?_
            refine qc_ri (r1 := q_b (q_go (kd k_5) (q_gl (kd k_3)))) (W.runS (As := [.int (nI (q_gl (kd k_3))), .ref (T0 + 3 * k_5)]) (rest := []) ⟨hx, hb, hml, hown, hts⟩ (kX1_letsThrough_S l E x T0 n kd sz sh nu pa sl ((nI 0)) tn ts tg hI (q_gl (kd k_3)) (by first | omega | decide) k_5 hk_5) (va_cwS 2 hts gX1_lay_X1_letsThrough rfl rfl rfl (by decide +kernel) ⟨Nat.le_of_ble_eq_true rfl, Nat.le_of_ble_eq_true rfl⟩) (q_pre hK hX) rfl rfl hl.1 rfl (lv_room (Nat.le_of_ble_eq_true rfl)) dX1_lay_63 ⟨Nat.le_of_ble_eq_true rfl, Nat.le_of_ble_eq_true rfl⟩) rfl ?_
            refine ln_b_ne (tgt := 77) hx hb dX1_lay_66 (by decide) (fun c_8 => ?_) (fun c_8 => ?_)
            · refine lv_iload_n hx hb dX1_lay_77 rfl (lv_at hl 5 rfl) ?_
              refine lv_if_lt (tgt := 91) hx hb dX1_lay_78 (by decide) (fun c_9 => ?_) (fun c_9 => ?_)
              · have c_9 : ∀ q, q_ix i q = none := fun q => q_ix_neg c_9
                refine lv_aload_n hx hb dX1_lay_91 rfl (lv_at hl 3 rfl) ?_
                refine lv_iconst (v := nI 3) hx hb dX1_lay_92 (by decide) ?_
                refine qc_i (r1 := nI 0) (σ1 := (n, kd, sz, sh, nu, pa, sl, nI 3, tn, ts, tg)) (va_runV (As := [.int (nI 3)]) (rest := []) ⟨hx, hb, hml, hown, hts⟩ (kX1_failed l E x T0 n kd sz sh nu pa sl ((nI 0)) tn ts tg hI (nI 3)) (cwV 1 hts gX1_lay_X1_failed rfl rfl rfl (by decide +kernel) ⟨Nat.le_of_ble_eq_true rfl, Nat.le_of_ble_eq_true rfl⟩) (q_preV hK hX hX.1 rfl) rfl rfl hl.1 rfl (lv_room (Nat.le_of_ble_eq_true rfl)) dX1_lay_93 ⟨Nat.le_of_ble_eq_true rfl, Nat.le_of_ble_eq_true rfl⟩) hS rfl rfl (fun H locs hX hS => ?_)
                have ee : f_lay (n, kd, sz, sh, nu, pa, sl, ft, tn, ts, tg) (nI j_to) i (nI j_fr) = (nI 0, (n, kd, sz, sh, nu, pa, sl, nI 3, tn, ts, tg)) := by first | (simp only [f_lay, ej_to, ej_fr, s_3, r_4, s_5, c_8, c_9]; done) | (simp only [f_lay, ej_to, ej_fr, s_3, r_4, s_5, c_8, c_9]; rfl) | (simp [f_lay, ej_to, ej_fr, s_3, r_4, s_5, c_8, c_9]; done) | (simp [f_lay, ej_to, ej_fr, s_3, r_4, s_5, c_8, c_9]; rfl) | (simp only [f_lay, ej_to, ej_fr, s_3, r_4, s_5, c_8, c_9]; (repeat' split) <;> first | rfl | (exfalso; omega))
                exact W.iret (v := nI 0) hx hb hr (fun t ht hW => ⟨⟨nI 0, (n, kd, sz, sh, nu, pa, sl, nI 3, tn, ts, tg), rfl, ⟨(by rw [ee]), (by rw [ee])⟩, (by show q_X E x T0 (n, kd, sz, sh, nu, pa, sl, nI 3, tn, ts, tg) t.heap; rw [ht]; exact hX)⟩, hS.F ht⟩) hS.2.2 dX1_lay_96
              · refine lv_iload_n hx hb dX1_lay_81 rfl (lv_at hl 5 rfl) ?_
                refine lv_aload hx hb dX1_lay_82 (lv_at hl 2 rfl) ?_
                refine qw_get (v := .ref (T0 + 3 * k_3 + 2)) (ci := 0) (C := RX0) (T := TX0) (N := 6) hx hb hts nX1_lay_0 hown hK (hX.2.2.1 k_3 hk_3).1 rfl 3 (by decide) (hts (.fieldLink RX1 96 "DockGates$Thing" "parts" "[LDockGates$Thing;") (by decide +kernel)) rfl rfl dX1_lay_84 ?_
                refine qw_tlen (n := q_pl (kd k_3) (sz k_3)) hx hb hK (hX.2.2.1 k_3 hk_3).2.2 dX1_lay_87 ?_
                rw [q_pl39 (show 3 ≤ kd k_3 by omega) (show kd k_3 < 9 by omega)]
                refine lv_icmp_lt (tgt := 97) hx hb dX1_lay_88 (by decide) (fun c_10 => ?_) (fun c_10 => ?_)
                · obtain ⟨j_i, hj_i, rfl⟩ := q_ix_of2 (by omega) c_9 c_10
                  have ej_i := q_ix_in hj_i (by omega)
                  refine lv_aload hx hb dX1_lay_97 (lv_at hl 1 rfl) ?_
                  refine lv_ifnull hx hb dX1_lay_99 ?_
                  refine lv_aload hx hb dX1_lay_102 (lv_at hl 2 rfl) ?_
                  refine qw_get (v := .int (nI (kd k_3))) (ci := 0) (C := RX0) (T := TX0) (N := 6) hx hb hts nX1_lay_0 hown hK (hX.2.2.1 k_3 hk_3).1 rfl 1 (by decide) (hts (.fieldLink RX1 79 "DockGates$Thing" "kind" "I") (by decide +kernel)) rfl rfl dX1_lay_104 ?_
                  refine qc_ri (r1 := nI (q_gp (kd k_3))) (W.runS (As := [.int (nI (kd k_3))]) (rest := []) ⟨hx, hb, hml, hown, hts⟩ (kX1_gateOfPlaces l (kd k_3) (by omega)) (va_cwS 1 hts gX1_lay_X1_gateOfPlaces rfl rfl rfl (by decide +kernel) ⟨Nat.le_of_ble_eq_true rfl, Nat.le_of_ble_eq_true rfl⟩) preEq rfl rfl hl.1 rfl (lv_room (Nat.le_of_ble_eq_true rfl)) dX1_lay_107 ⟨Nat.le_of_ble_eq_true rfl, Nat.le_of_ble_eq_true rfl⟩) rfl ?_
                  have hgp := q_gp_lt (kd k_3)
                  refine lv_aload hx hb dX1_lay_110 (lv_at hl 1 rfl) ?_
                  refine qc_ri (r1 := q_b (q_ch (kd k_3) (kd k_5))) (W.runS (As := [.int (nI (q_gp (kd k_3))), .ref (T0 + 3 * k_5)]) (rest := []) ⟨hx, hb, hml, hown, hts⟩ (kX1_letsThrough_S l E x T0 n kd sz sh nu pa sl ((nI 0)) tn ts tg hI (q_gp (kd k_3)) (by first | omega | decide) k_5 hk_5) (va_cwS 2 hts gX1_lay_X1_letsThrough rfl rfl rfl (by decide +kernel) ⟨Nat.le_of_ble_eq_true rfl, Nat.le_of_ble_eq_true rfl⟩) (q_pre hK hX) rfl rfl hl.1 rfl (lv_room (Nat.le_of_ble_eq_true rfl)) dX1_lay_112 ⟨Nat.le_of_ble_eq_true rfl, Nat.le_of_ble_eq_true rfl⟩) (congrArg q_b (q_gpch _ ak_3 _ ak_5 (by omega) (by omega) c_8)) ?_
                  refine ln_b_ne (tgt := 124) hx hb dX1_lay_115 (by decide) (fun c_11 => ?_) (fun c_11 => ?_)
                  · refine lv_aload hx hb dX1_lay_124 (lv_at hl 2 rfl) ?_
                    refine qw_get (v := .ref (T0 + 3 * k_3 + 2)) (ci := 0) (C := RX0) (T := TX0) (N := 6) hx hb hts nX1_lay_0 hown hK (hX.2.2.1 k_3 hk_3).1 rfl 3 (by decide) (hts (.fieldLink RX1 96 "DockGates$Thing" "parts" "[LDockGates$Thing;") (by decide +kernel)) rfl rfl dX1_lay_126 ?_
                    refine lv_iload_n hx hb dX1_lay_129 rfl (lv_at hl 5 rfl) ?_
                    refine lv_aload hx hb dX1_lay_130 (lv_at hl 1 rfl) ?_
                    refine qw_aast (n := q_pl (kd k_3) (sz k_3)) (f := fun i => q_rf T0 (pa k_3 i)) (A := q_Ax x T0) hx hb hK (hX.2.2.1 k_3 hk_3).2.2 (hX.2.2.1 k_5 hk_5).1 hS (Or.inr (Or.inr (by omega))) (by rw [q_pl39 (by omega) (by omega)]; omega) (by rw [q_pl39 (by omega) (by omega)]; omega) dX1_lay_132 (fun H locs hO hz hq hS => ?_)
                    have hX : q_X E x T0 (n, kd, sz, sh, nu, (va_up pa k_3 (va_up (pa k_3) j_i (some k_5))), sl, (nI 0), tn, ts, tg) H := hX.par hk_3 (some k_5) hO hz hq
                    refine lv_iconst (v := nI 1) hx hb dX1_lay_133 (by decide) ?_
                    have ee : f_lay (n, kd, sz, sh, nu, pa, sl, ft, tn, ts, tg) (nI j_to) (nI j_i) (nI j_fr) = (nI 1, (n, kd, sz, sh, nu, (va_up pa k_3 (va_up (pa k_3) j_i (some k_5))), sl, (nI 0), tn, ts, tg)) := by first | (simp only [f_lay, ej_to, ej_fr, s_3, r_4, s_5, c_8, ej_i, c_11]; done) | (simp only [f_lay, ej_to, ej_fr, s_3, r_4, s_5, c_8, ej_i, c_11]; rfl) | (simp [f_lay, ej_to, ej_fr, s_3, r_4, s_5, c_8, ej_i, c_11]; done) | (simp [f_lay, ej_to, ej_fr, s_3, r_4, s_5, c_8, ej_i, c_11]; rfl) | (simp only [f_lay, ej_to, ej_fr, s_3, r_4, s_5, c_8, ej_i, c_11]; (repeat' split) <;> first | rfl | (exfalso; omega))
                    exact W.iret (v := nI 1) hx hb hr (fun t ht hW => ⟨⟨nI 1, (n, kd, sz, sh, nu, (va_up pa k_3 (va_up (pa k_3) j_i (some k_5))), sl, (nI 0), tn, ts, tg), rfl, ⟨(by rw [ee]), (by rw [ee])⟩, (by show q_X E x T0 (n, kd, sz, sh, nu, (va_up pa k_3 (va_up (pa k_3) j_i (some k_5))), sl, (nI 0), tn, ts, tg) t.heap; rw [ht]; exact hX)⟩, hS.F ht⟩) hS.2.2 dX1_lay_134
                  · refine lv_aload_n hx hb dX1_lay_118 rfl (lv_at hl 3 rfl) ?_
                    refine lv_iconst (v := nI 5) hx hb dX1_lay_119 (by decide) ?_
                    refine qc_i (r1 := nI 0) (σ1 := (n, kd, sz, sh, nu, pa, sl, nI 5, tn, ts, tg)) (va_runV (As := [.int (nI 5)]) (rest := []) ⟨hx, hb, hml, hown, hts⟩ (kX1_failed l E x T0 n kd sz sh nu pa sl ((nI 0)) tn ts tg hI (nI 5)) (cwV 1 hts gX1_lay_X1_failed rfl rfl rfl (by decide +kernel) ⟨Nat.le_of_ble_eq_true rfl, Nat.le_of_ble_eq_true rfl⟩) (q_preV hK hX hX.1 rfl) rfl rfl hl.1 rfl (lv_room (Nat.le_of_ble_eq_true rfl)) dX1_lay_120 ⟨Nat.le_of_ble_eq_true rfl, Nat.le_of_ble_eq_true rfl⟩) hS rfl rfl (fun H locs hX hS => ?_)
                    have ee : f_lay (n, kd, sz, sh, nu, pa, sl, ft, tn, ts, tg) (nI j_to) (nI j_i) (nI j_fr) = (nI 0, (n, kd, sz, sh, nu, pa, sl, nI 5, tn, ts, tg)) := by first | (simp only [f_lay, ej_to, ej_fr, s_3, r_4, s_5, c_8, ej_i, c_11]; done) | (simp only [f_lay, ej_to, ej_fr, s_3, r_4, s_5, c_8, ej_i, c_11]; rfl) | (simp [f_lay, ej_to, ej_fr, s_3, r_4, s_5, c_8, ej_i, c_11]; done) | (simp [f_lay, ej_to, ej_fr, s_3, r_4, s_5, c_8, ej_i, c_11]; rfl) | (simp only [f_lay, ej_to, ej_fr, s_3, r_4, s_5, c_8, ej_i, c_11]; (repeat' split) <;> first | rfl | (exfalso; omega))
                    exact W.iret (v := nI 0) hx hb hr (fun t ht hW => ⟨⟨nI 0, (n, kd, sz, sh, nu, pa, sl, nI 5, tn, ts, tg), rfl, ⟨(by rw [ee]), (by rw [ee])⟩, (by show q_X E x T0 (n, kd, sz, sh, nu, pa, sl, nI 5, tn, ts, tg) t.heap; rw [ht]; exact hX)⟩, hS.F ht⟩) hS.2.2 dX1_lay_123
                · have c_10 := q_ix_nlt (by omega) c_10
                  refine lv_aload_n hx hb dX1_lay_91 rfl (lv_at hl 3 rfl) ?_
                  refine lv_iconst (v := nI 3) hx hb dX1_lay_92 (by decide) ?_
                  refine qc_i (r1 := nI 0) (σ1 := (n, kd, sz, sh, nu, pa, sl, nI 3, tn, ts, tg)) (va_runV (As := [.int (nI 3)]) (rest := []) ⟨hx, hb, hml, hown, hts⟩ (kX1_failed l E x T0 n kd sz sh nu pa sl ((nI 0)) tn ts tg hI (nI 3)) (cwV 1 hts gX1_lay_X1_failed rfl rfl rfl (by decide +kernel) ⟨Nat.le_of_ble_eq_true rfl, Nat.le_of_ble_eq_true rfl⟩) (q_preV hK hX hX.1 rfl) rfl rfl hl.1 rfl (lv_room (Nat.le_of_ble_eq_true rfl)) dX1_lay_93 ⟨Nat.le_of_ble_eq_true rfl, Nat.le_of_ble_eq_true rfl⟩) hS rfl rfl (fun H locs hX hS => ?_)
                  have ee : f_lay (n, kd, sz, sh, nu, pa, sl, ft, tn, ts, tg) (nI j_to) i (nI j_fr) = (nI 0, (n, kd, sz, sh, nu, pa, sl, nI 3, tn, ts, tg)) := by first | (simp only [f_lay, ej_to, ej_fr, s_3, r_4, s_5, c_8, c_10]; done) | (simp only [f_lay, ej_to, ej_fr, s_3, r_4, s_5, c_8, c_10]; rfl) | (simp [f_lay, ej_to, ej_fr, s_3, r_4, s_5, c_8, c_10]; done) | (simp [f_lay, ej_to, ej_fr, s_3, r_4, s_5, c_8, c_10]; rfl) | (simp only [f_lay, ej_to, ej_fr, s_3, r_4, s_5, c_8, c_10]; (repeat' split) <;> first | rfl | (exfalso; omega))
                  exact W.iret (v := nI 0) hx hb hr (fun t ht hW => ⟨⟨nI 0, (n, kd, sz, sh, nu, pa, sl, nI 3, tn, ts, tg), rfl, ⟨(by rw [ee]), (by rw [ee])⟩, (by show q_X E x T0 (n, kd, sz, sh, nu, pa, sl, nI 3, tn, ts, tg) t.heap; rw [ht]; exact hX)⟩, hS.F ht⟩) hS.2.2 dX1_lay_96
            · refine lv_aload_n hx hb dX1_lay_69 rfl (lv_at hl 3 rfl) ?_
              refine lv_iload_n hx hb dX1_lay_70 rfl (lv_at hl 6 rfl) ?_
              refine lv_iload hx hb dX1_lay_71 (lv_at hl 0 rfl) ?_
              refine qc_i (r1 := nI 0) (σ1 := (n, kd, sz, sh, nu, pa, sl, nI 1, (tn + 1), nI j_fr, nI (q_gl (kd k_3)))) (va_runV (As := [.int (nI j_fr), .int (nI (q_gl (kd k_3)))]) (rest := []) ⟨hx, hb, hml, hown, hts⟩ (kX1_failedAtGate l E x T0 n kd sz sh nu pa sl ((nI 0)) tn ts tg hI (nI j_fr) (nI (q_gl (kd k_3)))) (cwV 2 hts gX1_lay_X1_failedAtGate rfl rfl rfl (by decide +kernel) ⟨Nat.le_of_ble_eq_true rfl, Nat.le_of_ble_eq_true rfl⟩) (q_preV hK hX hX.1 rfl) rfl rfl hl.1 rfl (lv_room (Nat.le_of_ble_eq_true rfl)) dX1_lay_73 ⟨Nat.le_of_ble_eq_true rfl, Nat.le_of_ble_eq_true rfl⟩) hS rfl rfl (fun H locs hX hS => ?_)
              have ee : f_lay (n, kd, sz, sh, nu, pa, sl, ft, tn, ts, tg) (nI j_to) i (nI j_fr) = (nI 0, (n, kd, sz, sh, nu, pa, sl, nI 1, (tn + 1), nI j_fr, nI (q_gl (kd k_3)))) := by first | (simp only [f_lay, ej_to, ej_fr, s_3, r_4, s_5, c_8]; done) | (simp only [f_lay, ej_to, ej_fr, s_3, r_4, s_5, c_8]; rfl) | (simp [f_lay, ej_to, ej_fr, s_3, r_4, s_5, c_8]; done) | (simp [f_lay, ej_to, ej_fr, s_3, r_4, s_5, c_8]; rfl) | (simp only [f_lay, ej_to, ej_fr, s_3, r_4, s_5, c_8]; (repeat' split) <;> first | rfl | (exfalso; omega))
              exact W.iret (v := nI 0) hx hb hr (fun t ht hW => ⟨⟨nI 0, (n, kd, sz, sh, nu, pa, sl, nI 1, (tn + 1), nI j_fr, nI (q_gl (kd k_3))), rfl, ⟨(by rw [ee]), (by rw [ee])⟩, (by show q_X E x T0 (n, kd, sz, sh, nu, pa, sl, nI 1, (tn + 1), nI j_fr, nI (q_gl (kd k_3))) t.heap; rw [ht]; exact hX)⟩, hS.F ht⟩) hS.2.2 dX1_lay_76
        · refine qc_q (r1 := none) (σ1 := (n, kd, sz, sh, nu, pa, sl, nI 1, (tn + 1), nI j_to, nI 6)) (va_runV (As := [.int (nI j_to)]) (rest := []) ⟨hx, hb, hml, hown, hts⟩ (kX1_rowOfThings_T l E x T0 n kd sz sh nu pa sl ((nI 0)) tn ts tg hI j_to hj_to k_3 hk_3 s_3 r_4) (cwV 1 hts gX1_lay_X1_rowOfThings rfl rfl rfl (by decide +kernel) ⟨Nat.le_of_ble_eq_true rfl, Nat.le_of_ble_eq_true rfl⟩) (q_preV hK hX hX.1 rfl) rfl rfl hl.1 rfl (lv_room (Nat.le_of_ble_eq_true rfl)) dX1_lay_24 ⟨Nat.le_of_ble_eq_true rfl, Nat.le_of_ble_eq_true rfl⟩) hS rfl rfl (fun H locs hX hS => ?_)
          try dsimp only [va_rf]
          refine lv_astoreN (lv' := [(4, .null), (0, .ref x), (1, .int (nI j_to)), (2, .int i), (3, .int (nI j_fr))]) hx hb dX1_lay_27 hl (by decide) rfl (fun ls hl => ?_)
          refine lv_aloadN hx hb dX1_lay_29 (lv_at hl 0 rfl) ?_
          refine lv_ifnonnullN hx hb dX1_lay_31 ?_
          refine lv_iconst (v := nI 0) hx hb dX1_lay_34 (by decide) ?_
          have ee : f_lay (n, kd, sz, sh, nu, pa, sl, ft, tn, ts, tg) (nI j_to) i (nI j_fr) = (nI 0, (n, kd, sz, sh, nu, pa, sl, nI 1, (tn + 1), nI j_to, nI 6)) := by first | (simp only [f_lay, ej_to, ej_fr, s_3, r_4]; done) | (simp only [f_lay, ej_to, ej_fr, s_3, r_4]; rfl) | (simp [f_lay, ej_to, ej_fr, s_3, r_4]; done) | (simp [f_lay, ej_to, ej_fr, s_3, r_4]; rfl) | (simp only [f_lay, ej_to, ej_fr, s_3, r_4]; (repeat' split) <;> first | rfl | (exfalso; omega))
          exact W.iret (v := nI 0) hx hb hr (fun t ht hW => ⟨⟨nI 0, (n, kd, sz, sh, nu, pa, sl, nI 1, (tn + 1), nI j_to, nI 6), rfl, ⟨(by rw [ee]), (by rw [ee])⟩, (by show q_X E x T0 (n, kd, sz, sh, nu, pa, sl, nI 1, (tn + 1), nI j_to, nI 6) t.heap; rw [ht]; exact hX)⟩, hS.F ht⟩) hS.2.2 dX1_lay_35
    · have c_2 := q_isn c_2
      refine lv_bipush (v := (-2)) hx hb dX1_lay_19 (by decide) ?_
      have ee : f_lay (n, kd, sz, sh, nu, pa, sl, ft, tn, ts, tg) (nI j_to) i fr = (((-2)), (n, kd, sz, sh, nu, pa, sl, (nI 0), tn, ts, tg)) := by first | (simp only [f_lay, ej_to, c_2]; done) | (simp only [f_lay, ej_to, c_2]; rfl) | (simp [f_lay, ej_to, c_2]; done) | (simp [f_lay, ej_to, c_2]; rfl) | (simp only [f_lay, ej_to, c_2]; (repeat' split) <;> first | rfl | (exfalso; omega))
      exact W.iret (v := ((-2))) hx hb hr (fun t ht hW => ⟨⟨((-2)), (n, kd, sz, sh, nu, pa, sl, (nI 0), tn, ts, tg), rfl, ⟨(by rw [ee]), (by rw [ee])⟩, (by show q_X E x T0 (n, kd, sz, sh, nu, pa, sl, (nI 0), tn, ts, tg) t.heap; rw [ht]; exact hX)⟩, hS.F ht⟩) hS.2.2 dX1_lay_21
set_option maxRecDepth 20000 in
theorem nX1_take_0 : ∀ w ∈ u_ws RX0 TX0 6, w ∈ wsX1_take := by decide +kernel
set_option maxRecDepth 20000 in
theorem nX1_take_1 : ∀ w ∈ u_ws RX1 TX1 6, w ∈ wsX1_take := by decide +kernel
set_option maxHeartbeats 4000000 in
set_option maxRecDepth 100000 in
theorem kX1_take (l : Launch) (E : q_E) (x T0 : Nat) (n : Nat) (kd sz : Nat → Nat) (sh : Nat → Bool) (nu : Nat → Nat → Int64) (pa : Nat → Nat → Option Nat) (sl : Nat → Option Nat) (ft tn ts tg : Int32) (hI : q_I (n, kd, sz, sh, nu, pa, sl, ft, tn, ts, tg)) (fr i to : Int32)  : Met l yX1_take wsX1_take ({ frames := 4, cells := 0, slots := 0, locals := 89 }) (q_P E (q_X E x T0 (n, kd, sz, sh, nu, pa, sl, ft, tn, ts, tg)) [.ref x, .int fr, .int i, .int to]) (q_Wi (q_X E x T0) (q_Ax x T0) ((f_take (n, kd, sz, sh, nu, pa, sl, ft, tn, ts, tg) fr i to).1) (f_take (n, kd, sz, sh, nu, pa, sl, ft, tn, ts, tg) fr i to).2) 0 0 (q_Ax x T0) := by
  refine Met.ofW (cc := cX1_take) (maxL := 5) (ret := (some .int)) (by decide) rfl ?_
  intro p e s m args below meth c s₁ B hml hv
  obtain ⟨rfl, hK, hX⟩ := hv
  have hx := B.exec
  have hb := B.bytes
  have hr := B.returns
  have hts := atoms_spec (ws := wsX1_take) B.pre
  have hown : s.vm.findClass RX1 = some m.cls := findClass_of_methodNamed B.named
  have hlocks := B.notSynchronized
  have hl := lv_entry ([.ref x, .int fr, .int i, .int to]) (n := 5) (Nat.le_of_ble_eq_true rfl)
  rw [lg_entry_eq]
  generalize (lg_sl ([.ref x, .int fr, .int i, .int to]) ++ List.replicate (5 - (lg_sl ([.ref x, .int fr, .int i, .int to])).length) Slot.unset).toArray = ls at hl ⊢
  have hl : lv_has ls 5 [(0, .ref x), (1, .int fr), (2, .int i), (3, .int to)] := hl
  have hS : va_S (q_Ax x T0) s.heap s.heap [] := va_S.rf
  refine lv_aload_n hx hb dX1_take_0 rfl (lv_at hl 0 rfl) ?_
  refine lv_iconst (v := nI 0) hx hb dX1_take_1 (by decide) ?_
  refine qw_put (ci := 1) (C := RX1) (T := TX1) (N := 6) hx hb hts nX1_take_1 tyX1 tyX1_ok nmX1 hown hK hX.1 hS (Or.inl rfl) rfl 2 (by decide) (hts (.fieldLink RX1 19 "DockGates" "latestFault" "I") (by decide +kernel)) rfl rfl rfl rfl (Nat.le_of_ble_eq_true rfl) dX1_take_2 (fun H locs hO hz hq hS => ?_)
  have hX : q_X E x T0 (n, kd, sz, sh, nu, pa, sl, (nI 0), tn, ts, tg) H := hX.obj hO hz hq
  refine lv_iload_n hx hb dX1_take_5 rfl (lv_at hl 1 rfl) ?_
  refine qc_ri (r1 := q_b ((q_ix fr 12).isSome)) (W.runS (As := [.int fr]) (rest := []) ⟨hx, hb, hml, hown, hts⟩ (kX1_isSlot l fr) (va_cwS 1 hts gX1_take_X1_isSlot rfl rfl rfl (by decide +kernel) ⟨Nat.le_of_ble_eq_true rfl, Nat.le_of_ble_eq_true rfl⟩) preEq rfl rfl hl.1 rfl (lv_room (Nat.le_of_ble_eq_true rfl)) dX1_take_6 ⟨Nat.le_of_ble_eq_true rfl, Nat.le_of_ble_eq_true rfl⟩) rfl ?_
  refine ln_b_eq (tgt := 19) hx hb dX1_take_9 (by decide) (fun c_1 => ?_) (fun c_1 => ?_)
  · have c_1 := q_isn c_1
    refine lv_bipush (v := (-2)) hx hb dX1_take_19 (by decide) ?_
    have ee : f_take (n, kd, sz, sh, nu, pa, sl, ft, tn, ts, tg) fr i to = (((-2)), (n, kd, sz, sh, nu, pa, sl, (nI 0), tn, ts, tg)) := by first | (simp only [f_take, c_1]; done) | (simp only [f_take, c_1]; rfl) | (simp [f_take, c_1]; done) | (simp [f_take, c_1]; rfl) | (simp only [f_take, c_1]; (repeat' split) <;> first | rfl | (exfalso; omega))
    exact W.iret (v := ((-2))) hx hb hr (fun t ht hW => ⟨⟨((-2)), (n, kd, sz, sh, nu, pa, sl, (nI 0), tn, ts, tg), rfl, ⟨(by rw [ee]), (by rw [ee])⟩, (by show q_X E x T0 (n, kd, sz, sh, nu, pa, sl, (nI 0), tn, ts, tg) t.heap; rw [ht]; exact hX)⟩, hS.F ht⟩) hS.2.2 dX1_take_21
  · obtain ⟨j_fr, hj_fr, rfl⟩ := q_is (by first | decide | omega) c_1
    have ej_fr := q_ix_in hj_fr (by first | decide | omega)
    refine lv_iload_n hx hb dX1_take_12 rfl (lv_at hl 3 rfl) ?_
    refine qc_ri (r1 := q_b ((q_ix to 12).isSome)) (W.runS (As := [.int to]) (rest := []) ⟨hx, hb, hml, hown, hts⟩ (kX1_isSlot l to) (va_cwS 1 hts gX1_take_X1_isSlot rfl rfl rfl (by decide +kernel) ⟨Nat.le_of_ble_eq_true rfl, Nat.le_of_ble_eq_true rfl⟩) preEq rfl rfl hl.1 rfl (lv_room (Nat.le_of_ble_eq_true rfl)) dX1_take_13 ⟨Nat.le_of_ble_eq_true rfl, Nat.le_of_ble_eq_true rfl⟩) rfl ?_
    refine ln_b_ne (tgt := 22) hx hb dX1_take_16 (by decide) (fun c_2 => ?_) (fun c_2 => ?_)
    · obtain ⟨j_to, hj_to, rfl⟩ := q_is (by first | decide | omega) c_2
      have ej_to := q_ix_in hj_to (by first | decide | omega)
      refine lv_aload_n hx hb dX1_take_22 rfl (lv_at hl 0 rfl) ?_
      refine lv_iload_n hx hb dX1_take_23 rfl (lv_at hl 1 rfl) ?_
      cases s_3 : sl j_fr with
      | none =>
        refine qc_q (r1 := none) (σ1 := (n, kd, sz, sh, nu, pa, sl, nI 2, tn, ts, tg)) (va_runV (As := [.int (nI j_fr)]) (rest := []) ⟨hx, hb, hml, hown, hts⟩ (kX1_rowOfThings_N l E x T0 n kd sz sh nu pa sl ((nI 0)) tn ts tg hI j_fr hj_fr s_3) (cwV 1 hts gX1_take_X1_rowOfThings rfl rfl rfl (by decide +kernel) ⟨Nat.le_of_ble_eq_true rfl, Nat.le_of_ble_eq_true rfl⟩) (q_preV hK hX hX.1 rfl) rfl rfl hl.1 rfl (lv_room (Nat.le_of_ble_eq_true rfl)) dX1_take_24 ⟨Nat.le_of_ble_eq_true rfl, Nat.le_of_ble_eq_true rfl⟩) hS rfl rfl (fun H locs hX hS => ?_)
        try dsimp only [va_rf]
        refine lv_astoreN (lv' := [(4, .null), (0, .ref x), (1, .int (nI j_fr)), (2, .int i), (3, .int (nI j_to))]) hx hb dX1_take_27 hl (by decide) rfl (fun ls hl => ?_)
        refine lv_aloadN hx hb dX1_take_29 (lv_at hl 0 rfl) ?_
        refine lv_ifnonnullN hx hb dX1_take_31 ?_
        refine lv_iconst (v := nI 0) hx hb dX1_take_34 (by decide) ?_
        have ee : f_take (n, kd, sz, sh, nu, pa, sl, ft, tn, ts, tg) (nI j_fr) i (nI j_to) = (nI 0, (n, kd, sz, sh, nu, pa, sl, nI 2, tn, ts, tg)) := by first | (simp only [f_take, ej_fr, ej_to, s_3]; done) | (simp only [f_take, ej_fr, ej_to, s_3]; rfl) | (simp [f_take, ej_fr, ej_to, s_3]; done) | (simp [f_take, ej_fr, ej_to, s_3]; rfl) | (simp only [f_take, ej_fr, ej_to, s_3]; (repeat' split) <;> first | rfl | (exfalso; omega))
        exact W.iret (v := nI 0) hx hb hr (fun t ht hW => ⟨⟨nI 0, (n, kd, sz, sh, nu, pa, sl, nI 2, tn, ts, tg), rfl, ⟨(by rw [ee]), (by rw [ee])⟩, (by show q_X E x T0 (n, kd, sz, sh, nu, pa, sl, nI 2, tn, ts, tg) t.heap; rw [ht]; exact hX)⟩, hS.F ht⟩) hS.2.2 dX1_take_35
      | some k_3 =>
        have hk_3 : k_3 < n := hI.2.2 _ _ s_3
        obtain ⟨ak_3, bk_3, dk_3, wk_3⟩ := hI.2.1 k_3 hk_3
        have n60 := hI.1
        try dsimp only at ak_3 bk_3 dk_3 wk_3 n60
        by_cases r_4 : 3 ≤ kd k_3 ∧ kd k_3 < 9
        · refine qc_q (r1 := some (T0 + 3 * k_3)) (σ1 := (n, kd, sz, sh, nu, pa, sl, (nI 0), tn, ts, tg)) (va_runV (As := [.int (nI j_fr)]) (rest := []) ⟨hx, hb, hml, hown, hts⟩ (kX1_rowOfThings_S l E x T0 n kd sz sh nu pa sl ((nI 0)) tn ts tg hI j_fr hj_fr k_3 hk_3 s_3 r_4) (cwV 1 hts gX1_take_X1_rowOfThings rfl rfl rfl (by decide +kernel) ⟨Nat.le_of_ble_eq_true rfl, Nat.le_of_ble_eq_true rfl⟩) (q_preV hK hX hX.1 rfl) rfl rfl hl.1 rfl (lv_room (Nat.le_of_ble_eq_true rfl)) dX1_take_24 ⟨Nat.le_of_ble_eq_true rfl, Nat.le_of_ble_eq_true rfl⟩) hS rfl rfl (fun H locs hX hS => ?_)
          try dsimp only [va_rf]
          refine lv_astore (lv' := [(4, .ref (T0 + 3 * k_3)), (0, .ref x), (1, .int (nI j_fr)), (2, .int i), (3, .int (nI j_to))]) hx hb dX1_take_27 hl (by decide) rfl (fun ls hl => ?_)
          refine lv_aload hx hb dX1_take_29 (lv_at hl 0 rfl) ?_
          refine lv_ifnonnull (tgt := 36) hx hb dX1_take_31 (by decide) ?_
          refine lv_iload_n hx hb dX1_take_36 rfl (lv_at hl 3 rfl) ?_
          refine lv_if_lt (tgt := 50) hx hb dX1_take_37 (by decide) (fun c_5 => ?_) (fun c_5 => ?_)
          · have c_5 : ∀ q, q_ix i q = none := fun q => q_ix_neg c_5
            refine lv_aload_n hx hb dX1_take_50 rfl (lv_at hl 1 rfl) ?_
            refine lv_iconst (v := nI 3) hx hb dX1_take_51 (by decide) ?_
            refine qc_i (r1 := nI 0) (σ1 := (n, kd, sz, sh, nu, pa, sl, nI 3, tn, ts, tg)) (va_runV (As := [.int (nI 3)]) (rest := []) ⟨hx, hb, hml, hown, hts⟩ (kX1_failed l E x T0 n kd sz sh nu pa sl ((nI 0)) tn ts tg hI (nI 3)) (cwV 1 hts gX1_take_X1_failed rfl rfl rfl (by decide +kernel) ⟨Nat.le_of_ble_eq_true rfl, Nat.le_of_ble_eq_true rfl⟩) (q_preV hK hX hX.1 rfl) rfl rfl hl.1 rfl (lv_room (Nat.le_of_ble_eq_true rfl)) dX1_take_52 ⟨Nat.le_of_ble_eq_true rfl, Nat.le_of_ble_eq_true rfl⟩) hS rfl rfl (fun H locs hX hS => ?_)
            have ee : f_take (n, kd, sz, sh, nu, pa, sl, ft, tn, ts, tg) (nI j_fr) i (nI j_to) = (nI 0, (n, kd, sz, sh, nu, pa, sl, nI 3, tn, ts, tg)) := by first | (simp only [f_take, ej_fr, ej_to, s_3, r_4, c_5]; done) | (simp only [f_take, ej_fr, ej_to, s_3, r_4, c_5]; rfl) | (simp [f_take, ej_fr, ej_to, s_3, r_4, c_5]; done) | (simp [f_take, ej_fr, ej_to, s_3, r_4, c_5]; rfl) | (simp only [f_take, ej_fr, ej_to, s_3, r_4, c_5]; (repeat' split) <;> first | rfl | (exfalso; omega))
            exact W.iret (v := nI 0) hx hb hr (fun t ht hW => ⟨⟨nI 0, (n, kd, sz, sh, nu, pa, sl, nI 3, tn, ts, tg), rfl, ⟨(by rw [ee]), (by rw [ee])⟩, (by show q_X E x T0 (n, kd, sz, sh, nu, pa, sl, nI 3, tn, ts, tg) t.heap; rw [ht]; exact hX)⟩, hS.F ht⟩) hS.2.2 dX1_take_55
          · refine lv_iload_n hx hb dX1_take_40 rfl (lv_at hl 3 rfl) ?_
            refine lv_aload hx hb dX1_take_41 (lv_at hl 0 rfl) ?_
            refine qw_get (v := .ref (T0 + 3 * k_3 + 2)) (ci := 0) (C := RX0) (T := TX0) (N := 6) hx hb hts nX1_take_0 hown hK (hX.2.2.1 k_3 hk_3).1 rfl 3 (by decide) (hts (.fieldLink RX1 96 "DockGates$Thing" "parts" "[LDockGates$Thing;") (by decide +kernel)) rfl rfl dX1_take_43 ?_
            refine qw_tlen (n := q_pl (kd k_3) (sz k_3)) hx hb hK (hX.2.2.1 k_3 hk_3).2.2 dX1_take_46 ?_
            rw [q_pl39 (show 3 ≤ kd k_3 by omega) (show kd k_3 < 9 by omega)]
            refine lv_icmp_lt (tgt := 56) hx hb dX1_take_47 (by decide) (fun c_6 => ?_) (fun c_6 => ?_)
            · obtain ⟨j_i, hj_i, rfl⟩ := q_ix_of2 (by omega) c_5 c_6
              have ej_i := q_ix_in hj_i (by omega)
              refine lv_aload_n hx hb dX1_take_56 rfl (lv_at hl 1 rfl) ?_
              refine qw_get (v := .ref (x + 1)) (ci := 1) (C := RX1) (T := TX1) (N := 6) hx hb hts nX1_take_1 hown hK hX.1 rfl 0 (by decide) (hts (.fieldLink RX1 11 "DockGates" "slots" "[LDockGates$Thing;") (by decide +kernel)) rfl rfl dX1_take_57 ?_
              refine lv_iload_n hx hb dX1_take_60 rfl (lv_at hl 4 rfl) ?_
              refine lv_aload hx hb dX1_take_61 (lv_at hl 0 rfl) ?_
              refine qw_get (v := .ref (T0 + 3 * k_3 + 2)) (ci := 0) (C := RX0) (T := TX0) (N := 6) hx hb hts nX1_take_0 hown hK (hX.2.2.1 k_3 hk_3).1 rfl 3 (by decide) (hts (.fieldLink RX1 96 "DockGates$Thing" "parts" "[LDockGates$Thing;") (by decide +kernel)) rfl rfl dX1_take_63 ?_
              refine lv_iload_n hx hb dX1_take_66 rfl (lv_at hl 3 rfl) ?_
              refine qx_part hx hb hK hX hI hk_3 (show j_i < q_pl (kd k_3) (sz k_3) by rw [q_pl39 (by omega) (by omega)]; omega) dX1_take_67 (fun s_7 => ?_) (fun y_7 hy_7 oy_7 s_7 => ?_)
              · try dsimp only at s_7
                refine qw_aastN (A := q_Ax x T0) hx hb hK hX.2.1 hS (Or.inr (Or.inl rfl)) hj_to (by decide) dX1_take_68 (fun H locs hO hz hq hS => ?_)
                have hX : q_X E x T0 (n, kd, sz, sh, nu, pa, (va_up sl j_to none), (nI 0), tn, ts, tg) H := hX.slot none hO hz hq
                have u_8 : va_up sl j_to none j_to = none := va_up_self _ _ _
                have hI : q_I (n, kd, sz, sh, nu, pa, (va_up sl j_to none), (nI 0), tn, ts, tg) := hI.slot _ (fun k h => by cases h)
                refine lv_aload_n hx hb dX1_take_69 rfl (lv_at hl 1 rfl) ?_
                refine qw_get (v := .ref (x + 1)) (ci := 1) (C := RX1) (T := TX1) (N := 6) hx hb hts nX1_take_1 hown hK hX.1 rfl 0 (by decide) (hts (.fieldLink RX1 11 "DockGates" "slots" "[LDockGates$Thing;") (by decide +kernel)) rfl rfl dX1_take_70 ?_
                refine lv_iload_n hx hb dX1_take_73 rfl (lv_at hl 4 rfl) ?_
                refine qx_slotN hx hb hK hX u_8 hj_to dX1_take_74 ?_
                refine qc_ri (r1 := ((-1))) (W.runS (As := [.null]) (rest := []) ⟨hx, hb, hml, hown, hts⟩ (kX1_numberOf_N l E x T0 n kd sz sh nu pa ((va_up sl j_to none)) ((nI 0)) tn ts tg hI) (va_cwS 1 hts gX1_take_X1_numberOf rfl rfl rfl (by decide +kernel) ⟨Nat.le_of_ble_eq_true rfl, Nat.le_of_ble_eq_true rfl⟩) (q_pre hK hX) rfl rfl hl.1 rfl (lv_room (Nat.le_of_ble_eq_true rfl)) dX1_take_75 ⟨Nat.le_of_ble_eq_true rfl, Nat.le_of_ble_eq_true rfl⟩) rfl ?_
                have ee : f_take (n, kd, sz, sh, nu, pa, sl, ft, tn, ts, tg) (nI j_fr) (nI j_i) (nI j_to) = (((-1)), (n, kd, sz, sh, nu, pa, (va_up sl j_to none), (nI 0), tn, ts, tg)) := by first | (simp only [f_take, ej_fr, ej_to, s_3, r_4, ej_i, s_7]; done) | (simp only [f_take, ej_fr, ej_to, s_3, r_4, ej_i, s_7]; rfl) | (simp [f_take, ej_fr, ej_to, s_3, r_4, ej_i, s_7]; done) | (simp [f_take, ej_fr, ej_to, s_3, r_4, ej_i, s_7]; rfl) | (simp only [f_take, ej_fr, ej_to, s_3, r_4, ej_i, s_7]; (repeat' split) <;> first | rfl | (exfalso; omega))
                exact W.iret (v := ((-1))) hx hb hr (fun t ht hW => ⟨⟨((-1)), (n, kd, sz, sh, nu, pa, (va_up sl j_to none), (nI 0), tn, ts, tg), rfl, ⟨(by rw [ee]), (by rw [ee])⟩, (by show q_X E x T0 (n, kd, sz, sh, nu, pa, (va_up sl j_to none), (nI 0), tn, ts, tg) t.heap; rw [ht]; exact hX)⟩, hS.F ht⟩) hS.2.2 dX1_take_78
              · try dsimp only at s_7 hy_7
                refine qw_aast (A := q_Ax x T0) hx hb hK hX.2.1 (hX.2.2.1 y_7 hy_7).1 hS (Or.inr (Or.inl rfl)) hj_to (by decide) dX1_take_68 (fun H locs hO hz hq hS => ?_)
                have hX : q_X E x T0 (n, kd, sz, sh, nu, pa, (va_up sl j_to (some y_7)), (nI 0), tn, ts, tg) H := hX.slot (some y_7) hO hz hq
                have u_9 : va_up sl j_to (some y_7) j_to = (some y_7) := va_up_self _ _ _
                have hI : q_I (n, kd, sz, sh, nu, pa, (va_up sl j_to (some y_7)), (nI 0), tn, ts, tg) := hI.slot _ (fun k h => by cases h; exact hy_7)
                refine lv_aload_n hx hb dX1_take_69 rfl (lv_at hl 1 rfl) ?_
                refine qw_get (v := .ref (x + 1)) (ci := 1) (C := RX1) (T := TX1) (N := 6) hx hb hts nX1_take_1 hown hK hX.1 rfl 0 (by decide) (hts (.fieldLink RX1 11 "DockGates" "slots" "[LDockGates$Thing;") (by decide +kernel)) rfl rfl dX1_take_70 ?_
                refine lv_iload_n hx hb dX1_take_73 rfl (lv_at hl 4 rfl) ?_
                refine qx_slotS hx hb hK hX u_9 hj_to dX1_take_74 ?_
                refine qc_ri (r1 := nI y_7) (W.runS (As := [.ref (T0 + 3 * y_7)]) (rest := []) ⟨hx, hb, hml, hown, hts⟩ (kX1_numberOf_S l E x T0 n kd sz sh nu pa ((va_up sl j_to (some y_7))) ((nI 0)) tn ts tg hI y_7 hy_7) (va_cwS 1 hts gX1_take_X1_numberOf rfl rfl rfl (by decide +kernel) ⟨Nat.le_of_ble_eq_true rfl, Nat.le_of_ble_eq_true rfl⟩) (q_pre hK hX) rfl rfl hl.1 rfl (lv_room (Nat.le_of_ble_eq_true rfl)) dX1_take_75 ⟨Nat.le_of_ble_eq_true rfl, Nat.le_of_ble_eq_true rfl⟩) rfl ?_
                have ee : f_take (n, kd, sz, sh, nu, pa, sl, ft, tn, ts, tg) (nI j_fr) (nI j_i) (nI j_to) = (nI y_7, (n, kd, sz, sh, nu, pa, (va_up sl j_to (some y_7)), (nI 0), tn, ts, tg)) := by first | (simp only [f_take, ej_fr, ej_to, s_3, r_4, ej_i, s_7]; done) | (simp only [f_take, ej_fr, ej_to, s_3, r_4, ej_i, s_7]; rfl) | (simp [f_take, ej_fr, ej_to, s_3, r_4, ej_i, s_7]; done) | (simp [f_take, ej_fr, ej_to, s_3, r_4, ej_i, s_7]; rfl) | (simp only [f_take, ej_fr, ej_to, s_3, r_4, ej_i, s_7]; (repeat' split) <;> first | rfl | (exfalso; omega))
                exact W.iret (v := nI y_7) hx hb hr (fun t ht hW => ⟨⟨nI y_7, (n, kd, sz, sh, nu, pa, (va_up sl j_to (some y_7)), (nI 0), tn, ts, tg), rfl, ⟨(by rw [ee]), (by rw [ee])⟩, (by show q_X E x T0 (n, kd, sz, sh, nu, pa, (va_up sl j_to (some y_7)), (nI 0), tn, ts, tg) t.heap; rw [ht]; exact hX)⟩, hS.F ht⟩) hS.2.2 dX1_take_78
            · have c_6 := q_ix_nlt (by omega) c_6
              refine lv_aload_n hx hb dX1_take_50 rfl (lv_at hl 1 rfl) ?_
              refine lv_iconst (v := nI 3) hx hb dX1_take_51 (by decide) ?_
              refine qc_i (r1 := nI 0) (σ1 := (n, kd, sz, sh, nu, pa, sl, nI 3, tn, ts, tg)) (va_runV (As := [.int (nI 3)]) (rest := []) ⟨hx, hb, hml, hown, hts⟩ (kX1_failed l E x T0 n kd sz sh nu pa sl ((nI 0)) tn ts tg hI (nI 3)) (cwV 1 hts gX1_take_X1_failed rfl rfl rfl (by decide +kernel) ⟨Nat.le_of_ble_eq_true rfl, Nat.le_of_ble_eq_true rfl⟩) (q_preV hK hX hX.1 rfl) rfl rfl hl.1 rfl (lv_room (Nat.le_of_ble_eq_true rfl)) dX1_take_52 ⟨Nat.le_of_ble_eq_true rfl, Nat.le_of_ble_eq_true rfl⟩) hS rfl rfl (fun H locs hX hS => ?_)
              have ee : f_take (n, kd, sz, sh, nu, pa, sl, ft, tn, ts, tg) (nI j_fr) i (nI j_to) = (nI 0, (n, kd, sz, sh, nu, pa, sl, nI 3, tn, ts, tg)) := by first | (simp only [f_take, ej_fr, ej_to, s_3, r_4, c_6]; done) | (simp only [f_take, ej_fr, ej_to, s_3, r_4, c_6]; rfl) | (simp [f_take, ej_fr, ej_to, s_3, r_4, c_6]; done) | (simp [f_take, ej_fr, ej_to, s_3, r_4, c_6]; rfl) | (simp only [f_take, ej_fr, ej_to, s_3, r_4, c_6]; (repeat' split) <;> first | rfl | (exfalso; omega))
              exact W.iret (v := nI 0) hx hb hr (fun t ht hW => ⟨⟨nI 0, (n, kd, sz, sh, nu, pa, sl, nI 3, tn, ts, tg), rfl, ⟨(by rw [ee]), (by rw [ee])⟩, (by show q_X E x T0 (n, kd, sz, sh, nu, pa, sl, nI 3, tn, ts, tg) t.heap; rw [ht]; exact hX)⟩, hS.F ht⟩) hS.2.2 dX1_take_55
        · refine qc_q (r1 := none) (σ1 := (n, kd, sz, sh, nu, pa, sl, nI 1, (tn + 1), nI j_fr, nI 6)) (va_runV (As := [.int (nI j_fr)]) (rest := []) ⟨hx, hb, hml, hown, hts⟩ (kX1_rowOfThings_T l E x T0 n kd sz sh nu pa sl ((nI 0)) tn ts tg hI j_fr hj_fr k_3 hk_3 s_3 r_4) (cwV 1 hts gX1_take_X1_rowOfThings rfl rfl rfl (by decide +kernel) ⟨Nat.le_of_ble_eq_true rfl, Nat.le_of_ble_eq_true rfl⟩) (q_preV hK hX hX.1 rfl) rfl rfl hl.1 rfl (lv_room (Nat.le_of_ble_eq_true rfl)) dX1_take_24 ⟨Nat.le_of_ble_eq_true rfl, Nat.le_of_ble_eq_true rfl⟩) hS rfl rfl (fun H locs hX hS => ?_)
          try dsimp only [va_rf]
          refine lv_astoreN (lv' := [(4, .null), (0, .ref x), (1, .int (nI j_fr)), (2, .int i), (3, .int (nI j_to))]) hx hb dX1_take_27 hl (by decide) rfl (fun ls hl => ?_)
          refine lv_aloadN hx hb dX1_take_29 (lv_at hl 0 rfl) ?_
          refine lv_ifnonnullN hx hb dX1_take_31 ?_
          refine lv_iconst (v := nI 0) hx hb dX1_take_34 (by decide) ?_
          have ee : f_take (n, kd, sz, sh, nu, pa, sl, ft, tn, ts, tg) (nI j_fr) i (nI j_to) = (nI 0, (n, kd, sz, sh, nu, pa, sl, nI 1, (tn + 1), nI j_fr, nI 6)) := by first | (simp only [f_take, ej_fr, ej_to, s_3, r_4]; done) | (simp only [f_take, ej_fr, ej_to, s_3, r_4]; rfl) | (simp [f_take, ej_fr, ej_to, s_3, r_4]; done) | (simp [f_take, ej_fr, ej_to, s_3, r_4]; rfl) | (simp only [f_take, ej_fr, ej_to, s_3, r_4]; (repeat' split) <;> first | rfl | (exfalso; omega))
          exact W.iret (v := nI 0) hx hb hr (fun t ht hW => ⟨⟨nI 0, (n, kd, sz, sh, nu, pa, sl, nI 1, (tn + 1), nI j_fr, nI 6), rfl, ⟨(by rw [ee]), (by rw [ee])⟩, (by show q_X E x T0 (n, kd, sz, sh, nu, pa, sl, nI 1, (tn + 1), nI j_fr, nI 6) t.heap; rw [ht]; exact hX)⟩, hS.F ht⟩) hS.2.2 dX1_take_35
    · have c_2 := q_isn c_2
      refine lv_bipush (v := (-2)) hx hb dX1_take_19 (by decide) ?_
      have ee : f_take (n, kd, sz, sh, nu, pa, sl, ft, tn, ts, tg) (nI j_fr) i to = (((-2)), (n, kd, sz, sh, nu, pa, sl, (nI 0), tn, ts, tg)) := by first | (simp only [f_take, ej_fr, c_2]; done) | (simp only [f_take, ej_fr, c_2]; rfl) | (simp [f_take, ej_fr, c_2]; done) | (simp [f_take, ej_fr, c_2]; rfl) | (simp only [f_take, ej_fr, c_2]; (repeat' split) <;> first | rfl | (exfalso; omega))
      exact W.iret (v := ((-2))) hx hb hr (fun t ht hW => ⟨⟨((-2)), (n, kd, sz, sh, nu, pa, sl, (nI 0), tn, ts, tg), rfl, ⟨(by rw [ee]), (by rw [ee])⟩, (by show q_X E x T0 (n, kd, sz, sh, nu, pa, sl, (nI 0), tn, ts, tg) t.heap; rw [ht]; exact hX)⟩, hS.F ht⟩) hS.2.2 dX1_take_21
set_option maxRecDepth 20000 in
theorem nX1_share_1 : ∀ w ∈ u_ws RX1 TX1 6, w ∈ wsX1_share := by decide +kernel
set_option maxHeartbeats 4000000 in
set_option maxRecDepth 100000 in
theorem kX1_share (l : Launch) (E : q_E) (x T0 : Nat) (n : Nat) (kd sz : Nat → Nat) (sh : Nat → Bool) (nu : Nat → Nat → Int64) (pa : Nat → Nat → Option Nat) (sl : Nat → Option Nat) (ft tn ts tg : Int32) (hI : q_I (n, kd, sz, sh, nu, pa, sl, ft, tn, ts, tg)) (fr to : Int32)  : Met l yX1_share wsX1_share ({ frames := 1, cells := 0, slots := 0, locals := 20 }) (q_P E (q_X E x T0 (n, kd, sz, sh, nu, pa, sl, ft, tn, ts, tg)) [.ref x, .int fr, .int to]) (q_Wi (q_X E x T0) (q_Ax x T0) ((f_share (n, kd, sz, sh, nu, pa, sl, ft, tn, ts, tg) fr to).1) (f_share (n, kd, sz, sh, nu, pa, sl, ft, tn, ts, tg) fr to).2) 0 0 (q_Ax x T0) := by
  refine Met.ofW (cc := cX1_share) (maxL := 3) (ret := (some .int)) (by decide) rfl ?_
  intro p e s m args below meth c s₁ B hml hv
  obtain ⟨rfl, hK, hX⟩ := hv
  have hx := B.exec
  have hb := B.bytes
  have hr := B.returns
  have hts := atoms_spec (ws := wsX1_share) B.pre
  have hown : s.vm.findClass RX1 = some m.cls := findClass_of_methodNamed B.named
  have hlocks := B.notSynchronized
  have hl := lv_entry ([.ref x, .int fr, .int to]) (n := 3) (Nat.le_of_ble_eq_true rfl)
  rw [lg_entry_eq]
  generalize (lg_sl ([.ref x, .int fr, .int to]) ++ List.replicate (3 - (lg_sl ([.ref x, .int fr, .int to])).length) Slot.unset).toArray = ls at hl ⊢
  have hl : lv_has ls 3 [(0, .ref x), (1, .int fr), (2, .int to)] := hl
  have hS : va_S (q_Ax x T0) s.heap s.heap [] := va_S.rf
  refine lv_aload_n hx hb dX1_share_0 rfl (lv_at hl 0 rfl) ?_
  refine lv_iconst (v := nI 0) hx hb dX1_share_1 (by decide) ?_
  refine qw_put (ci := 1) (C := RX1) (T := TX1) (N := 6) hx hb hts nX1_share_1 tyX1 tyX1_ok nmX1 hown hK hX.1 hS (Or.inl rfl) rfl 2 (by decide) (hts (.fieldLink RX1 19 "DockGates" "latestFault" "I") (by decide +kernel)) rfl rfl rfl rfl (Nat.le_of_ble_eq_true rfl) dX1_share_2 (fun H locs hO hz hq hS => ?_)
  have hX : q_X E x T0 (n, kd, sz, sh, nu, pa, sl, (nI 0), tn, ts, tg) H := hX.obj hO hz hq
  refine lv_iload_n hx hb dX1_share_5 rfl (lv_at hl 1 rfl) ?_
  refine qc_ri (r1 := q_b ((q_ix fr 12).isSome)) (W.runS (As := [.int fr]) (rest := []) ⟨hx, hb, hml, hown, hts⟩ (kX1_isSlot l fr) (va_cwS 1 hts gX1_share_X1_isSlot rfl rfl rfl (by decide +kernel) ⟨Nat.le_of_ble_eq_true rfl, Nat.le_of_ble_eq_true rfl⟩) preEq rfl rfl hl.1 rfl (lv_room (Nat.le_of_ble_eq_true rfl)) dX1_share_6 ⟨Nat.le_of_ble_eq_true rfl, Nat.le_of_ble_eq_true rfl⟩) rfl ?_
  refine ln_b_eq (tgt := 19) hx hb dX1_share_9 (by decide) (fun c_1 => ?_) (fun c_1 => ?_)
  · have c_1 := q_isn c_1
    refine lv_bipush (v := (-2)) hx hb dX1_share_19 (by decide) ?_
    have ee : f_share (n, kd, sz, sh, nu, pa, sl, ft, tn, ts, tg) fr to = (((-2)), (n, kd, sz, sh, nu, pa, sl, (nI 0), tn, ts, tg)) := by first | (simp only [f_share, c_1]; done) | (simp only [f_share, c_1]; rfl) | (simp [f_share, c_1]; done) | (simp [f_share, c_1]; rfl) | (simp only [f_share, c_1]; (repeat' split) <;> first | rfl | (exfalso; omega))
    exact W.iret (v := ((-2))) hx hb hr (fun t ht hW => ⟨⟨((-2)), (n, kd, sz, sh, nu, pa, sl, (nI 0), tn, ts, tg), rfl, ⟨(by rw [ee]), (by rw [ee])⟩, (by show q_X E x T0 (n, kd, sz, sh, nu, pa, sl, (nI 0), tn, ts, tg) t.heap; rw [ht]; exact hX)⟩, hS.F ht⟩) hS.2.2 dX1_share_21
  · obtain ⟨j_fr, hj_fr, rfl⟩ := q_is (by first | decide | omega) c_1
    have ej_fr := q_ix_in hj_fr (by first | decide | omega)
    refine lv_iload_n hx hb dX1_share_12 rfl (lv_at hl 2 rfl) ?_
    refine qc_ri (r1 := q_b ((q_ix to 12).isSome)) (W.runS (As := [.int to]) (rest := []) ⟨hx, hb, hml, hown, hts⟩ (kX1_isSlot l to) (va_cwS 1 hts gX1_share_X1_isSlot rfl rfl rfl (by decide +kernel) ⟨Nat.le_of_ble_eq_true rfl, Nat.le_of_ble_eq_true rfl⟩) preEq rfl rfl hl.1 rfl (lv_room (Nat.le_of_ble_eq_true rfl)) dX1_share_13 ⟨Nat.le_of_ble_eq_true rfl, Nat.le_of_ble_eq_true rfl⟩) rfl ?_
    refine ln_b_ne (tgt := 22) hx hb dX1_share_16 (by decide) (fun c_2 => ?_) (fun c_2 => ?_)
    · obtain ⟨j_to, hj_to, rfl⟩ := q_is (by first | decide | omega) c_2
      have ej_to := q_ix_in hj_to (by first | decide | omega)
      refine lv_aload_n hx hb dX1_share_22 rfl (lv_at hl 0 rfl) ?_
      refine qw_get (v := .ref (x + 1)) (ci := 1) (C := RX1) (T := TX1) (N := 6) hx hb hts nX1_share_1 hown hK hX.1 rfl 0 (by decide) (hts (.fieldLink RX1 11 "DockGates" "slots" "[LDockGates$Thing;") (by decide +kernel)) rfl rfl dX1_share_23 ?_
      refine lv_iload_n hx hb dX1_share_26 rfl (lv_at hl 2 rfl) ?_
      refine lv_aload_n hx hb dX1_share_27 rfl (lv_at hl 0 rfl) ?_
      refine qw_get (v := .ref (x + 1)) (ci := 1) (C := RX1) (T := TX1) (N := 6) hx hb hts nX1_share_1 hown hK hX.1 rfl 0 (by decide) (hts (.fieldLink RX1 11 "DockGates" "slots" "[LDockGates$Thing;") (by decide +kernel)) rfl rfl dX1_share_28 ?_
      refine lv_iload_n hx hb dX1_share_31 rfl (lv_at hl 1 rfl) ?_
      refine qx_slot hx hb hK hX hI hj_fr dX1_share_32 (fun s_3 => ?_) (fun k_3 hk_3 s_3 => ?_)
      · try dsimp only at s_3
        refine qw_aastN (A := q_Ax x T0) hx hb hK hX.2.1 hS (Or.inr (Or.inl rfl)) hj_to (by decide) dX1_share_33 (fun H locs hO hz hq hS => ?_)
        have hX : q_X E x T0 (n, kd, sz, sh, nu, pa, (va_up sl j_to none), (nI 0), tn, ts, tg) H := hX.slot none hO hz hq
        have u_4 : va_up sl j_to none j_to = none := va_up_self _ _ _
        have hI : q_I (n, kd, sz, sh, nu, pa, (va_up sl j_to none), (nI 0), tn, ts, tg) := hI.slot _ (fun k h => by cases h)
        refine lv_aload_n hx hb dX1_share_34 rfl (lv_at hl 0 rfl) ?_
        refine qw_get (v := .ref (x + 1)) (ci := 1) (C := RX1) (T := TX1) (N := 6) hx hb hts nX1_share_1 hown hK hX.1 rfl 0 (by decide) (hts (.fieldLink RX1 11 "DockGates" "slots" "[LDockGates$Thing;") (by decide +kernel)) rfl rfl dX1_share_35 ?_
        refine lv_iload_n hx hb dX1_share_38 rfl (lv_at hl 2 rfl) ?_
        refine qx_slotN hx hb hK hX u_4 hj_to dX1_share_39 ?_
        refine qc_ri (r1 := ((-1))) (W.runS (As := [.null]) (rest := []) ⟨hx, hb, hml, hown, hts⟩ (kX1_numberOf_N l E x T0 n kd sz sh nu pa ((va_up sl j_to none)) ((nI 0)) tn ts tg hI) (va_cwS 1 hts gX1_share_X1_numberOf rfl rfl rfl (by decide +kernel) ⟨Nat.le_of_ble_eq_true rfl, Nat.le_of_ble_eq_true rfl⟩) (q_pre hK hX) rfl rfl hl.1 rfl (lv_room (Nat.le_of_ble_eq_true rfl)) dX1_share_40 ⟨Nat.le_of_ble_eq_true rfl, Nat.le_of_ble_eq_true rfl⟩) rfl ?_
        have ee : f_share (n, kd, sz, sh, nu, pa, sl, ft, tn, ts, tg) (nI j_fr) (nI j_to) = (((-1)), (n, kd, sz, sh, nu, pa, (va_up sl j_to none), (nI 0), tn, ts, tg)) := by first | (simp only [f_share, ej_fr, ej_to, s_3]; done) | (simp only [f_share, ej_fr, ej_to, s_3]; rfl) | (simp [f_share, ej_fr, ej_to, s_3]; done) | (simp [f_share, ej_fr, ej_to, s_3]; rfl) | (simp only [f_share, ej_fr, ej_to, s_3]; (repeat' split) <;> first | rfl | (exfalso; omega))
        exact W.iret (v := ((-1))) hx hb hr (fun t ht hW => ⟨⟨((-1)), (n, kd, sz, sh, nu, pa, (va_up sl j_to none), (nI 0), tn, ts, tg), rfl, ⟨(by rw [ee]), (by rw [ee])⟩, (by show q_X E x T0 (n, kd, sz, sh, nu, pa, (va_up sl j_to none), (nI 0), tn, ts, tg) t.heap; rw [ht]; exact hX)⟩, hS.F ht⟩) hS.2.2 dX1_share_43
      · try dsimp only at s_3 hk_3
        obtain ⟨ak_3, bk_3, dk_3, wk_3⟩ := hI.2.1 k_3 hk_3
        have n60 := hI.1
        try dsimp only at ak_3 bk_3 dk_3 wk_3 n60
        refine qw_aast (A := q_Ax x T0) hx hb hK hX.2.1 (hX.2.2.1 k_3 hk_3).1 hS (Or.inr (Or.inl rfl)) hj_to (by decide) dX1_share_33 (fun H locs hO hz hq hS => ?_)
        have hX : q_X E x T0 (n, kd, sz, sh, nu, pa, (va_up sl j_to (some k_3)), (nI 0), tn, ts, tg) H := hX.slot (some k_3) hO hz hq
        have u_5 : va_up sl j_to (some k_3) j_to = (some k_3) := va_up_self _ _ _
        have hI : q_I (n, kd, sz, sh, nu, pa, (va_up sl j_to (some k_3)), (nI 0), tn, ts, tg) := hI.slot _ (fun k h => by cases h; exact hk_3)
        refine lv_aload_n hx hb dX1_share_34 rfl (lv_at hl 0 rfl) ?_
        refine qw_get (v := .ref (x + 1)) (ci := 1) (C := RX1) (T := TX1) (N := 6) hx hb hts nX1_share_1 hown hK hX.1 rfl 0 (by decide) (hts (.fieldLink RX1 11 "DockGates" "slots" "[LDockGates$Thing;") (by decide +kernel)) rfl rfl dX1_share_35 ?_
        refine lv_iload_n hx hb dX1_share_38 rfl (lv_at hl 2 rfl) ?_
        refine qx_slotS hx hb hK hX u_5 hj_to dX1_share_39 ?_
        refine qc_ri (r1 := nI k_3) (W.runS (As := [.ref (T0 + 3 * k_3)]) (rest := []) ⟨hx, hb, hml, hown, hts⟩ (kX1_numberOf_S l E x T0 n kd sz sh nu pa ((va_up sl j_to (some k_3))) ((nI 0)) tn ts tg hI k_3 hk_3) (va_cwS 1 hts gX1_share_X1_numberOf rfl rfl rfl (by decide +kernel) ⟨Nat.le_of_ble_eq_true rfl, Nat.le_of_ble_eq_true rfl⟩) (q_pre hK hX) rfl rfl hl.1 rfl (lv_room (Nat.le_of_ble_eq_true rfl)) dX1_share_40 ⟨Nat.le_of_ble_eq_true rfl, Nat.le_of_ble_eq_true rfl⟩) rfl ?_
        have ee : f_share (n, kd, sz, sh, nu, pa, sl, ft, tn, ts, tg) (nI j_fr) (nI j_to) = (nI k_3, (n, kd, sz, sh, nu, pa, (va_up sl j_to (some k_3)), (nI 0), tn, ts, tg)) := by first | (simp only [f_share, ej_fr, ej_to, s_3]; done) | (simp only [f_share, ej_fr, ej_to, s_3]; rfl) | (simp [f_share, ej_fr, ej_to, s_3]; done) | (simp [f_share, ej_fr, ej_to, s_3]; rfl) | (simp only [f_share, ej_fr, ej_to, s_3]; (repeat' split) <;> first | rfl | (exfalso; omega))
        exact W.iret (v := nI k_3) hx hb hr (fun t ht hW => ⟨⟨nI k_3, (n, kd, sz, sh, nu, pa, (va_up sl j_to (some k_3)), (nI 0), tn, ts, tg), rfl, ⟨(by rw [ee]), (by rw [ee])⟩, (by show q_X E x T0 (n, kd, sz, sh, nu, pa, (va_up sl j_to (some k_3)), (nI 0), tn, ts, tg) t.heap; rw [ht]; exact hX)⟩, hS.F ht⟩) hS.2.2 dX1_share_43
    · have c_2 := q_isn c_2
      refine lv_bipush (v := (-2)) hx hb dX1_share_19 (by decide) ?_
      have ee : f_share (n, kd, sz, sh, nu, pa, sl, ft, tn, ts, tg) (nI j_fr) to = (((-2)), (n, kd, sz, sh, nu, pa, sl, (nI 0), tn, ts, tg)) := by first | (simp only [f_share, ej_fr, c_2]; done) | (simp only [f_share, ej_fr, c_2]; rfl) | (simp [f_share, ej_fr, c_2]; done) | (simp [f_share, ej_fr, c_2]; rfl) | (simp only [f_share, ej_fr, c_2]; (repeat' split) <;> first | rfl | (exfalso; omega))
      exact W.iret (v := ((-2))) hx hb hr (fun t ht hW => ⟨⟨((-2)), (n, kd, sz, sh, nu, pa, sl, (nI 0), tn, ts, tg), rfl, ⟨(by rw [ee]), (by rw [ee])⟩, (by show q_X E x T0 (n, kd, sz, sh, nu, pa, sl, (nI 0), tn, ts, tg) t.heap; rw [ht]; exact hX)⟩, hS.F ht⟩) hS.2.2 dX1_share_21
set_option maxRecDepth 20000 in
theorem nX1_empty_1 : ∀ w ∈ u_ws RX1 TX1 6, w ∈ wsX1_empty := by decide +kernel
set_option maxHeartbeats 4000000 in
set_option maxRecDepth 100000 in
theorem kX1_empty (l : Launch) (E : q_E) (x T0 : Nat) (n : Nat) (kd sz : Nat → Nat) (sh : Nat → Bool) (nu : Nat → Nat → Int64) (pa : Nat → Nat → Option Nat) (sl : Nat → Option Nat) (ft tn ts tg : Int32) (hI : q_I (n, kd, sz, sh, nu, pa, sl, ft, tn, ts, tg)) (slot : Int32)  : Met l yX1_empty wsX1_empty ({ frames := 1, cells := 0, slots := 0, locals := 20 }) (q_P E (q_X E x T0 (n, kd, sz, sh, nu, pa, sl, ft, tn, ts, tg)) [.ref x, .int slot]) (q_Wi (q_X E x T0) (q_Ax x T0) ((f_empty (n, kd, sz, sh, nu, pa, sl, ft, tn, ts, tg) slot).1) (f_empty (n, kd, sz, sh, nu, pa, sl, ft, tn, ts, tg) slot).2) 0 0 (q_Ax x T0) := by
  refine Met.ofW (cc := cX1_empty) (maxL := 3) (ret := (some .int)) (by decide) rfl ?_
  intro p e s m args below meth c s₁ B hml hv
  obtain ⟨rfl, hK, hX⟩ := hv
  have hx := B.exec
  have hb := B.bytes
  have hr := B.returns
  have hts := atoms_spec (ws := wsX1_empty) B.pre
  have hown : s.vm.findClass RX1 = some m.cls := findClass_of_methodNamed B.named
  have hlocks := B.notSynchronized
  have hl := lv_entry ([.ref x, .int slot]) (n := 3) (Nat.le_of_ble_eq_true rfl)
  rw [lg_entry_eq]
  generalize (lg_sl ([.ref x, .int slot]) ++ List.replicate (3 - (lg_sl ([.ref x, .int slot])).length) Slot.unset).toArray = ls at hl ⊢
  have hl : lv_has ls 3 [(0, .ref x), (1, .int slot)] := hl
  have hS : va_S (q_Ax x T0) s.heap s.heap [] := va_S.rf
  refine lv_aload_n hx hb dX1_empty_0 rfl (lv_at hl 0 rfl) ?_
  refine lv_iconst (v := nI 0) hx hb dX1_empty_1 (by decide) ?_
  refine qw_put (ci := 1) (C := RX1) (T := TX1) (N := 6) hx hb hts nX1_empty_1 tyX1 tyX1_ok nmX1 hown hK hX.1 hS (Or.inl rfl) rfl 2 (by decide) (hts (.fieldLink RX1 19 "DockGates" "latestFault" "I") (by decide +kernel)) rfl rfl rfl rfl (Nat.le_of_ble_eq_true rfl) dX1_empty_2 (fun H locs hO hz hq hS => ?_)
  have hX : q_X E x T0 (n, kd, sz, sh, nu, pa, sl, (nI 0), tn, ts, tg) H := hX.obj hO hz hq
  refine lv_iload_n hx hb dX1_empty_5 rfl (lv_at hl 1 rfl) ?_
  refine qc_ri (r1 := q_b ((q_ix slot 12).isSome)) (W.runS (As := [.int slot]) (rest := []) ⟨hx, hb, hml, hown, hts⟩ (kX1_isSlot l slot) (va_cwS 1 hts gX1_empty_X1_isSlot rfl rfl rfl (by decide +kernel) ⟨Nat.le_of_ble_eq_true rfl, Nat.le_of_ble_eq_true rfl⟩) preEq rfl rfl hl.1 rfl (lv_room (Nat.le_of_ble_eq_true rfl)) dX1_empty_6 ⟨Nat.le_of_ble_eq_true rfl, Nat.le_of_ble_eq_true rfl⟩) rfl ?_
  refine ln_b_ne (tgt := 15) hx hb dX1_empty_9 (by decide) (fun c_1 => ?_) (fun c_1 => ?_)
  · obtain ⟨j_slot, hj_slot, rfl⟩ := q_is (by first | decide | omega) c_1
    have ej_slot := q_ix_in hj_slot (by first | decide | omega)
    refine lv_aload_n hx hb dX1_empty_15 rfl (lv_at hl 0 rfl) ?_
    refine qw_get (v := .ref (x + 1)) (ci := 1) (C := RX1) (T := TX1) (N := 6) hx hb hts nX1_empty_1 hown hK hX.1 rfl 0 (by decide) (hts (.fieldLink RX1 11 "DockGates" "slots" "[LDockGates$Thing;") (by decide +kernel)) rfl rfl dX1_empty_16 ?_
    refine lv_iload_n hx hb dX1_empty_19 rfl (lv_at hl 1 rfl) ?_
    refine qx_slot hx hb hK hX hI hj_slot dX1_empty_20 (fun s_2 => ?_) (fun k_2 hk_2 s_2 => ?_)
    · try dsimp only at s_2
      refine qc_ri (r1 := ((-1))) (W.runS (As := [.null]) (rest := []) ⟨hx, hb, hml, hown, hts⟩ (kX1_numberOf_N l E x T0 n kd sz sh nu pa sl ((nI 0)) tn ts tg hI) (va_cwS 1 hts gX1_empty_X1_numberOf rfl rfl rfl (by decide +kernel) ⟨Nat.le_of_ble_eq_true rfl, Nat.le_of_ble_eq_true rfl⟩) (q_pre hK hX) rfl rfl hl.1 rfl (lv_room (Nat.le_of_ble_eq_true rfl)) dX1_empty_21 ⟨Nat.le_of_ble_eq_true rfl, Nat.le_of_ble_eq_true rfl⟩) rfl ?_
      refine lv_istore_n (lv' := [(2, .int ((-1))), (0, .ref x), (1, .int (nI j_slot))]) hx hb dX1_empty_24 rfl hl (by decide) rfl (fun ls hl => ?_)
      refine lv_aload_n hx hb dX1_empty_25 rfl (lv_at hl 1 rfl) ?_
      refine qw_get (v := .ref (x + 1)) (ci := 1) (C := RX1) (T := TX1) (N := 6) hx hb hts nX1_empty_1 hown hK hX.1 rfl 0 (by decide) (hts (.fieldLink RX1 11 "DockGates" "slots" "[LDockGates$Thing;") (by decide +kernel)) rfl rfl dX1_empty_26 ?_
      refine lv_iload_n hx hb dX1_empty_29 rfl (lv_at hl 2 rfl) ?_
      refine lv_null hx hb dX1_empty_30 ?_
      refine qw_aastN (A := q_Ax x T0) hx hb hK hX.2.1 hS (Or.inr (Or.inl rfl)) hj_slot (by decide) dX1_empty_31 (fun H locs hO hz hq hS => ?_)
      have hX : q_X E x T0 (n, kd, sz, sh, nu, pa, (va_up sl j_slot none), (nI 0), tn, ts, tg) H := hX.slot none hO hz hq
      have u_3 : va_up sl j_slot none j_slot = none := va_up_self _ _ _
      have hI : q_I (n, kd, sz, sh, nu, pa, (va_up sl j_slot none), (nI 0), tn, ts, tg) := hI.slot _ (fun k h => by cases h)
      refine lv_iload_n hx hb dX1_empty_32 rfl (lv_at hl 0 rfl) ?_
      have ee : f_empty (n, kd, sz, sh, nu, pa, sl, ft, tn, ts, tg) (nI j_slot) = (((-1)), (n, kd, sz, sh, nu, pa, (va_up sl j_slot none), (nI 0), tn, ts, tg)) := by first | (simp only [f_empty, ej_slot, s_2]; done) | (simp only [f_empty, ej_slot, s_2]; rfl) | (simp [f_empty, ej_slot, s_2]; done) | (simp [f_empty, ej_slot, s_2]; rfl) | (simp only [f_empty, ej_slot, s_2]; (repeat' split) <;> first | rfl | (exfalso; omega))
      exact W.iret (v := ((-1))) hx hb hr (fun t ht hW => ⟨⟨((-1)), (n, kd, sz, sh, nu, pa, (va_up sl j_slot none), (nI 0), tn, ts, tg), rfl, ⟨(by rw [ee]), (by rw [ee])⟩, (by show q_X E x T0 (n, kd, sz, sh, nu, pa, (va_up sl j_slot none), (nI 0), tn, ts, tg) t.heap; rw [ht]; exact hX)⟩, hS.F ht⟩) hS.2.2 dX1_empty_33
    · try dsimp only at s_2 hk_2
      obtain ⟨ak_2, bk_2, dk_2, wk_2⟩ := hI.2.1 k_2 hk_2
      have n60 := hI.1
      try dsimp only at ak_2 bk_2 dk_2 wk_2 n60
      refine qc_ri (r1 := nI k_2) (W.runS (As := [.ref (T0 + 3 * k_2)]) (rest := []) ⟨hx, hb, hml, hown, hts⟩ (kX1_numberOf_S l E x T0 n kd sz sh nu pa sl ((nI 0)) tn ts tg hI k_2 hk_2) (va_cwS 1 hts gX1_empty_X1_numberOf rfl rfl rfl (by decide +kernel) ⟨Nat.le_of_ble_eq_true rfl, Nat.le_of_ble_eq_true rfl⟩) (q_pre hK hX) rfl rfl hl.1 rfl (lv_room (Nat.le_of_ble_eq_true rfl)) dX1_empty_21 ⟨Nat.le_of_ble_eq_true rfl, Nat.le_of_ble_eq_true rfl⟩) rfl ?_
      refine lv_istore_n (lv' := [(2, .int (nI k_2)), (0, .ref x), (1, .int (nI j_slot))]) hx hb dX1_empty_24 rfl hl (by decide) rfl (fun ls hl => ?_)
      refine lv_aload_n hx hb dX1_empty_25 rfl (lv_at hl 1 rfl) ?_
      refine qw_get (v := .ref (x + 1)) (ci := 1) (C := RX1) (T := TX1) (N := 6) hx hb hts nX1_empty_1 hown hK hX.1 rfl 0 (by decide) (hts (.fieldLink RX1 11 "DockGates" "slots" "[LDockGates$Thing;") (by decide +kernel)) rfl rfl dX1_empty_26 ?_
      refine lv_iload_n hx hb dX1_empty_29 rfl (lv_at hl 2 rfl) ?_
      refine lv_null hx hb dX1_empty_30 ?_
      refine qw_aastN (A := q_Ax x T0) hx hb hK hX.2.1 hS (Or.inr (Or.inl rfl)) hj_slot (by decide) dX1_empty_31 (fun H locs hO hz hq hS => ?_)
      have hX : q_X E x T0 (n, kd, sz, sh, nu, pa, (va_up sl j_slot none), (nI 0), tn, ts, tg) H := hX.slot none hO hz hq
      have u_4 : va_up sl j_slot none j_slot = none := va_up_self _ _ _
      have hI : q_I (n, kd, sz, sh, nu, pa, (va_up sl j_slot none), (nI 0), tn, ts, tg) := hI.slot _ (fun k h => by cases h)
      refine lv_iload_n hx hb dX1_empty_32 rfl (lv_at hl 0 rfl) ?_
      have ee : f_empty (n, kd, sz, sh, nu, pa, sl, ft, tn, ts, tg) (nI j_slot) = (nI k_2, (n, kd, sz, sh, nu, pa, (va_up sl j_slot none), (nI 0), tn, ts, tg)) := by first | (simp only [f_empty, ej_slot, s_2]; done) | (simp only [f_empty, ej_slot, s_2]; rfl) | (simp [f_empty, ej_slot, s_2]; done) | (simp [f_empty, ej_slot, s_2]; rfl) | (simp only [f_empty, ej_slot, s_2]; (repeat' split) <;> first | rfl | (exfalso; omega))
      exact W.iret (v := nI k_2) hx hb hr (fun t ht hW => ⟨⟨nI k_2, (n, kd, sz, sh, nu, pa, (va_up sl j_slot none), (nI 0), tn, ts, tg), rfl, ⟨(by rw [ee]), (by rw [ee])⟩, (by show q_X E x T0 (n, kd, sz, sh, nu, pa, (va_up sl j_slot none), (nI 0), tn, ts, tg) t.heap; rw [ht]; exact hX)⟩, hS.F ht⟩) hS.2.2 dX1_empty_33
  · have c_1 := q_isn c_1
    refine lv_bipush (v := (-2)) hx hb dX1_empty_12 (by decide) ?_
    have ee : f_empty (n, kd, sz, sh, nu, pa, sl, ft, tn, ts, tg) slot = (((-2)), (n, kd, sz, sh, nu, pa, sl, (nI 0), tn, ts, tg)) := by first | (simp only [f_empty, c_1]; done) | (simp only [f_empty, c_1]; rfl) | (simp [f_empty, c_1]; done) | (simp [f_empty, c_1]; rfl) | (simp only [f_empty, c_1]; (repeat' split) <;> first | rfl | (exfalso; omega))
    exact W.iret (v := ((-2))) hx hb hr (fun t ht hW => ⟨⟨((-2)), (n, kd, sz, sh, nu, pa, sl, (nI 0), tn, ts, tg), rfl, ⟨(by rw [ee]), (by rw [ee])⟩, (by show q_X E x T0 (n, kd, sz, sh, nu, pa, sl, (nI 0), tn, ts, tg) t.heap; rw [ht]; exact hX)⟩, hS.F ht⟩) hS.2.2 dX1_empty_14
set_option maxRecDepth 20000 in
theorem nX1_lid_0 : ∀ w ∈ u_ws RX0 TX0 6, w ∈ wsX1_lid := by decide +kernel
set_option maxRecDepth 20000 in
theorem nX1_lid_1 : ∀ w ∈ u_ws RX1 TX1 6, w ∈ wsX1_lid := by decide +kernel
set_option maxHeartbeats 4000000 in
set_option maxRecDepth 100000 in
theorem kX1_lid (l : Launch) (E : q_E) (x T0 : Nat) (n : Nat) (kd sz : Nat → Nat) (sh : Nat → Bool) (nu : Nat → Nat → Int64) (pa : Nat → Nat → Option Nat) (sl : Nat → Option Nat) (ft tn ts tg : Int32) (hI : q_I (n, kd, sz, sh, nu, pa, sl, ft, tn, ts, tg)) (slot : Int32) (b : Bool)  : Met l yX1_lid wsX1_lid ({ frames := 3, cells := 0, slots := 0, locals := 67 }) (q_P E (q_X E x T0 (n, kd, sz, sh, nu, pa, sl, ft, tn, ts, tg)) [.ref x, .int slot, .int (q_b b)]) (q_Wi (q_X E x T0) (q_Ax x T0) ((f_lid (n, kd, sz, sh, nu, pa, sl, ft, tn, ts, tg) slot b).1) (f_lid (n, kd, sz, sh, nu, pa, sl, ft, tn, ts, tg) slot b).2) 0 0 (q_Ax x T0) := by
  refine Met.ofW (cc := cX1_lid) (maxL := 5) (ret := (some .int)) (by decide) rfl ?_
  intro p e s m args below meth c s₁ B hml hv
  obtain ⟨rfl, hK, hX⟩ := hv
  have hx := B.exec
  have hb := B.bytes
  have hr := B.returns
  have hts := atoms_spec (ws := wsX1_lid) B.pre
  have hown : s.vm.findClass RX1 = some m.cls := findClass_of_methodNamed B.named
  have hlocks := B.notSynchronized
  have hl := lv_entry ([.ref x, .int slot, .int (q_b b)]) (n := 5) (Nat.le_of_ble_eq_true rfl)
  rw [lg_entry_eq]
  generalize (lg_sl ([.ref x, .int slot, .int (q_b b)]) ++ List.replicate (5 - (lg_sl ([.ref x, .int slot, .int (q_b b)])).length) Slot.unset).toArray = ls at hl ⊢
  have hl : lv_has ls 5 [(0, .ref x), (1, .int slot), (2, .int (q_b b))] := hl
  have hS : va_S (q_Ax x T0) s.heap s.heap [] := va_S.rf
  refine lv_aload_n hx hb dX1_lid_0 rfl (lv_at hl 0 rfl) ?_
  refine lv_iconst (v := nI 0) hx hb dX1_lid_1 (by decide) ?_
  refine qw_put (ci := 1) (C := RX1) (T := TX1) (N := 6) hx hb hts nX1_lid_1 tyX1 tyX1_ok nmX1 hown hK hX.1 hS (Or.inl rfl) rfl 2 (by decide) (hts (.fieldLink RX1 19 "DockGates" "latestFault" "I") (by decide +kernel)) rfl rfl rfl rfl (Nat.le_of_ble_eq_true rfl) dX1_lid_2 (fun H locs hO hz hq hS => ?_)
  have hX : q_X E x T0 (n, kd, sz, sh, nu, pa, sl, (nI 0), tn, ts, tg) H := hX.obj hO hz hq
  refine lv_iload_n hx hb dX1_lid_5 rfl (lv_at hl 1 rfl) ?_
  refine qc_ri (r1 := q_b ((q_ix slot 12).isSome)) (W.runS (As := [.int slot]) (rest := []) ⟨hx, hb, hml, hown, hts⟩ (kX1_isSlot l slot) (va_cwS 1 hts gX1_lid_X1_isSlot rfl rfl rfl (by decide +kernel) ⟨Nat.le_of_ble_eq_true rfl, Nat.le_of_ble_eq_true rfl⟩) preEq rfl rfl hl.1 rfl (lv_room (Nat.le_of_ble_eq_true rfl)) dX1_lid_6 ⟨Nat.le_of_ble_eq_true rfl, Nat.le_of_ble_eq_true rfl⟩) rfl ?_
  refine ln_b_ne (tgt := 15) hx hb dX1_lid_9 (by decide) (fun c_1 => ?_) (fun c_1 => ?_)
  · obtain ⟨j_slot, hj_slot, rfl⟩ := q_is (by first | decide | omega) c_1
    have ej_slot := q_ix_in hj_slot (by first | decide | omega)
    refine lv_aload_n hx hb dX1_lid_15 rfl (lv_at hl 0 rfl) ?_
    refine lv_bipush (v := nI 10) hx hb dX1_lid_16 (by decide) ?_
    refine lv_iload_n hx hb dX1_lid_18 rfl (lv_at hl 1 rfl) ?_
    cases s_2 : sl j_slot with
    | none =>
      refine qc_q (r1 := none) (σ1 := (n, kd, sz, sh, nu, pa, sl, nI 2, tn, ts, tg)) (va_runV (As := [.int (nI 10), .int (nI j_slot)]) (rest := []) ⟨hx, hb, hml, hown, hts⟩ (kX1_broughtThrough_N l E x T0 n kd sz sh nu pa sl ((nI 0)) tn ts tg hI 10 j_slot hj_slot s_2) (cwV 2 hts gX1_lid_X1_broughtThrough rfl rfl rfl (by decide +kernel) ⟨Nat.le_of_ble_eq_true rfl, Nat.le_of_ble_eq_true rfl⟩) (q_preV hK hX hX.1 rfl) rfl rfl hl.1 rfl (lv_room (Nat.le_of_ble_eq_true rfl)) dX1_lid_19 ⟨Nat.le_of_ble_eq_true rfl, Nat.le_of_ble_eq_true rfl⟩) hS rfl rfl (fun H locs hX hS => ?_)
      try dsimp only [va_rf]
      refine lv_astore_nN (lv' := [(3, .null), (0, .ref x), (1, .int (nI j_slot)), (2, .int (q_b b))]) hx hb dX1_lid_22 rfl hl (by decide) rfl (fun ls hl => ?_)
      refine lv_aload_nN hx hb dX1_lid_23 rfl (lv_at hl 0 rfl) ?_
      refine lv_ifnonnullN hx hb dX1_lid_24 ?_
      refine lv_iconst (v := nI 0) hx hb dX1_lid_27 (by decide) ?_
      have ee : f_lid (n, kd, sz, sh, nu, pa, sl, ft, tn, ts, tg) (nI j_slot) b = (nI 0, (n, kd, sz, sh, nu, pa, sl, nI 2, tn, ts, tg)) := by first | (simp only [f_lid, ej_slot, s_2, q_bn]; done) | (simp only [f_lid, ej_slot, s_2, q_bn]; rfl) | (simp [f_lid, ej_slot, s_2, q_bn]; done) | (simp [f_lid, ej_slot, s_2, q_bn]; rfl) | (simp only [f_lid, ej_slot, s_2, q_bn]; (repeat' split) <;> first | rfl | (exfalso; omega))
      exact W.iret (v := nI 0) hx hb hr (fun t ht hW => ⟨⟨nI 0, (n, kd, sz, sh, nu, pa, sl, nI 2, tn, ts, tg), rfl, ⟨(by rw [ee]), (by rw [ee])⟩, (by show q_X E x T0 (n, kd, sz, sh, nu, pa, sl, nI 2, tn, ts, tg) t.heap; rw [ht]; exact hX)⟩, hS.F ht⟩) hS.2.2 dX1_lid_28
    | some k_2 =>
      have hk_2 : k_2 < n := hI.2.2 _ _ s_2
      obtain ⟨ak_2, bk_2, dk_2, wk_2⟩ := hI.2.1 k_2 hk_2
      have n60 := hI.1
      try dsimp only at ak_2 bk_2 dk_2 wk_2 n60
      cases g_3 : q_go (kd k_2) 10 with
      | false =>
        have zg_3 := q_gofalse g_3
        refine qc_q (r1 := none) (σ1 := (n, kd, sz, sh, nu, pa, sl, nI 1, (tn + 1), nI j_slot, nI 10)) (va_runV (As := [.int (nI 10), .int (nI j_slot)]) (rest := []) ⟨hx, hb, hml, hown, hts⟩ (kX1_broughtThrough_T l E x T0 n kd sz sh nu pa sl ((nI 0)) tn ts tg hI 10 j_slot (by first | omega | decide) hj_slot k_2 hk_2 s_2 g_3) (cwV 2 hts gX1_lid_X1_broughtThrough rfl rfl rfl (by decide +kernel) ⟨Nat.le_of_ble_eq_true rfl, Nat.le_of_ble_eq_true rfl⟩) (q_preV hK hX hX.1 rfl) rfl rfl hl.1 rfl (lv_room (Nat.le_of_ble_eq_true rfl)) dX1_lid_19 ⟨Nat.le_of_ble_eq_true rfl, Nat.le_of_ble_eq_true rfl⟩) hS rfl rfl (fun H locs hX hS => ?_)
        try dsimp only [va_rf]
        refine lv_astore_nN (lv' := [(3, .null), (0, .ref x), (1, .int (nI j_slot)), (2, .int (q_b b))]) hx hb dX1_lid_22 rfl hl (by decide) rfl (fun ls hl => ?_)
        refine lv_aload_nN hx hb dX1_lid_23 rfl (lv_at hl 0 rfl) ?_
        refine lv_ifnonnullN hx hb dX1_lid_24 ?_
        refine lv_iconst (v := nI 0) hx hb dX1_lid_27 (by decide) ?_
        have ee : f_lid (n, kd, sz, sh, nu, pa, sl, ft, tn, ts, tg) (nI j_slot) b = (nI 0, (n, kd, sz, sh, nu, pa, sl, nI 1, (tn + 1), nI j_slot, nI 10)) := by first | (simp only [f_lid, ej_slot, s_2, g_3, q_bn]; done) | (simp only [f_lid, ej_slot, s_2, g_3, q_bn]; rfl) | (simp [f_lid, ej_slot, s_2, g_3, q_bn]; done) | (simp [f_lid, ej_slot, s_2, g_3, q_bn]; rfl) | (simp only [f_lid, ej_slot, s_2, g_3, q_bn]; (repeat' split) <;> first | rfl | (exfalso; omega))
        exact W.iret (v := nI 0) hx hb hr (fun t ht hW => ⟨⟨nI 0, (n, kd, sz, sh, nu, pa, sl, nI 1, (tn + 1), nI j_slot, nI 10), rfl, ⟨(by rw [ee]), (by rw [ee])⟩, (by show q_X E x T0 (n, kd, sz, sh, nu, pa, sl, nI 1, (tn + 1), nI j_slot, nI 10) t.heap; rw [ht]; exact hX)⟩, hS.F ht⟩) hS.2.2 dX1_lid_28
      | true =>
        have zg_3 := q_gofacts g_3
        refine qc_q (r1 := some (T0 + 3 * k_2)) (σ1 := (n, kd, sz, sh, nu, pa, sl, (nI 0), tn, ts, tg)) (va_runV (As := [.int (nI 10), .int (nI j_slot)]) (rest := []) ⟨hx, hb, hml, hown, hts⟩ (kX1_broughtThrough_S l E x T0 n kd sz sh nu pa sl ((nI 0)) tn ts tg hI 10 j_slot (by first | omega | decide) hj_slot k_2 hk_2 s_2 g_3) (cwV 2 hts gX1_lid_X1_broughtThrough rfl rfl rfl (by decide +kernel) ⟨Nat.le_of_ble_eq_true rfl, Nat.le_of_ble_eq_true rfl⟩) (q_preV hK hX hX.1 rfl) rfl rfl hl.1 rfl (lv_room (Nat.le_of_ble_eq_true rfl)) dX1_lid_19 ⟨Nat.le_of_ble_eq_true rfl, Nat.le_of_ble_eq_true rfl⟩) hS rfl rfl (fun H locs hX hS => ?_)
        try dsimp only [va_rf]
        refine lv_astore_n (lv' := [(3, .ref (T0 + 3 * k_2)), (0, .ref x), (1, .int (nI j_slot)), (2, .int (q_b b))]) hx hb dX1_lid_22 rfl hl (by decide) rfl (fun ls hl => ?_)
        refine lv_aload_n hx hb dX1_lid_23 rfl (lv_at hl 0 rfl) ?_
        refine lv_ifnonnull (tgt := 29) hx hb dX1_lid_24 (by decide) ?_
        refine lv_aload_n hx hb dX1_lid_29 rfl (lv_at hl 0 rfl) ?_
        refine qc_ri (r1 := nI (if sh k_2 then 1 else 0)) (W.runS (As := [.ref (T0 + 3 * k_2)]) (rest := []) ⟨hx, hb, hml, hown, hts⟩ (kX1_lidOf l E x T0 n kd sz sh nu pa sl ((nI 0)) tn ts tg hI k_2 hk_2) (va_cwS 1 hts gX1_lid_X1_lidOf rfl rfl rfl (by decide +kernel) ⟨Nat.le_of_ble_eq_true rfl, Nat.le_of_ble_eq_true rfl⟩) (q_pre hK hX) rfl rfl hl.1 rfl (lv_room (Nat.le_of_ble_eq_true rfl)) dX1_lid_30 ⟨Nat.le_of_ble_eq_true rfl, Nat.le_of_ble_eq_true rfl⟩) rfl ?_
        refine lv_istore (lv' := [(4, .int (nI (if sh k_2 then 1 else 0))), (3, .ref (T0 + 3 * k_2)), (0, .ref x), (1, .int (nI j_slot)), (2, .int (q_b b))]) hx hb dX1_lid_33 hl (by decide) rfl (fun ls hl => ?_)
        refine lv_aload_n hx hb dX1_lid_35 rfl (lv_at hl 1 rfl) ?_
        refine lv_iload_n hx hb dX1_lid_36 rfl (lv_at hl 4 rfl) ?_
        refine qw_put (ci := 0) (C := RX0) (T := TX0) (N := 6) hx hb hts nX1_lid_0 tyX0 tyX0_ok nmX0 hown hK (hX.2.2.1 k_2 hk_2).1 hS (Or.inr (Or.inr (by omega))) rfl 5 (by decide) (hts (.fieldLink RX1 109 "DockGates$Thing" "shut" "Z") (by decide +kernel)) rfl rfl (q_nbb _) (q_fbb _) (Nat.le_of_ble_eq_true rfl) dX1_lid_37 (fun H locs hO hz hq hS => ?_)
        have hX : q_X E x T0 (n, kd, sz, (va_up sh k_2 b), nu, pa, sl, (nI 0), tn, ts, tg) H := hX.lid hk_2 _ hO hz hq
        refine lv_iload hx hb dX1_lid_40 (lv_at hl 0 rfl) ?_
        have ee : f_lid (n, kd, sz, sh, nu, pa, sl, ft, tn, ts, tg) (nI j_slot) b = (nI (if sh k_2 then 1 else 0), (n, kd, sz, (va_up sh k_2 b), nu, pa, sl, (nI 0), tn, ts, tg)) := by first | (simp only [f_lid, ej_slot, s_2, g_3, q_bn]; done) | (simp only [f_lid, ej_slot, s_2, g_3, q_bn]; rfl) | (simp [f_lid, ej_slot, s_2, g_3, q_bn]; done) | (simp [f_lid, ej_slot, s_2, g_3, q_bn]; rfl) | (simp only [f_lid, ej_slot, s_2, g_3, q_bn]; (repeat' split) <;> first | rfl | (exfalso; omega))
        exact W.iret (v := nI (if sh k_2 then 1 else 0)) hx hb hr (fun t ht hW => ⟨⟨nI (if sh k_2 then 1 else 0), (n, kd, sz, (va_up sh k_2 b), nu, pa, sl, (nI 0), tn, ts, tg), rfl, ⟨(by rw [ee]), (by rw [ee])⟩, (by show q_X E x T0 (n, kd, sz, (va_up sh k_2 b), nu, pa, sl, (nI 0), tn, ts, tg) t.heap; rw [ht]; exact hX)⟩, hS.F ht⟩) hS.2.2 dX1_lid_42
  · have c_1 := q_isn c_1
    refine lv_bipush (v := (-2)) hx hb dX1_lid_12 (by decide) ?_
    have ee : f_lid (n, kd, sz, sh, nu, pa, sl, ft, tn, ts, tg) slot b = (((-2)), (n, kd, sz, sh, nu, pa, sl, (nI 0), tn, ts, tg)) := by first | (simp only [f_lid, c_1, q_bn]; done) | (simp only [f_lid, c_1, q_bn]; rfl) | (simp [f_lid, c_1, q_bn]; done) | (simp [f_lid, c_1, q_bn]; rfl) | (simp only [f_lid, c_1, q_bn]; (repeat' split) <;> first | rfl | (exfalso; omega))
    exact W.iret (v := ((-2))) hx hb hr (fun t ht hW => ⟨⟨((-2)), (n, kd, sz, sh, nu, pa, sl, (nI 0), tn, ts, tg), rfl, ⟨(by rw [ee]), (by rw [ee])⟩, (by show q_X E x T0 (n, kd, sz, sh, nu, pa, sl, (nI 0), tn, ts, tg) t.heap; rw [ht]; exact hX)⟩, hS.F ht⟩) hS.2.2 dX1_lid_14
set_option maxRecDepth 20000 in
theorem nX1_weigh_0 : ∀ w ∈ u_ws RX0 TX0 6, w ∈ wsX1_weigh := by decide +kernel
set_option maxRecDepth 20000 in
theorem nX1_weigh_1 : ∀ w ∈ u_ws RX1 TX1 6, w ∈ wsX1_weigh := by decide +kernel
set_option maxHeartbeats 4000000 in
set_option maxRecDepth 100000 in
theorem kX1_weigh (l : Launch) (E : q_E) (x T0 : Nat) (n : Nat) (kd sz : Nat → Nat) (sh : Nat → Bool) (nu : Nat → Nat → Int64) (pa : Nat → Nat → Option Nat) (sl : Nat → Option Nat) (ft tn ts tg : Int32) (hI : q_I (n, kd, sz, sh, nu, pa, sl, ft, tn, ts, tg)) (slot w : Int32)  : Met l yX1_weigh wsX1_weigh ({ frames := 3, cells := 0, slots := 0, locals := 67 }) (q_P E (q_X E x T0 (n, kd, sz, sh, nu, pa, sl, ft, tn, ts, tg)) [.ref x, .int slot, .int w]) (q_Wi (q_X E x T0) (q_Ax x T0) ((f_weigh (n, kd, sz, sh, nu, pa, sl, ft, tn, ts, tg) slot w).1) (f_weigh (n, kd, sz, sh, nu, pa, sl, ft, tn, ts, tg) slot w).2) 0 0 (q_Ax x T0) := by
  refine Met.ofW (cc := cX1_weigh) (maxL := 5) (ret := (some .int)) (by decide) rfl ?_
  intro p e s m args below meth c s₁ B hml hv
  obtain ⟨rfl, hK, hX⟩ := hv
  have hx := B.exec
  have hb := B.bytes
  have hr := B.returns
  have hts := atoms_spec (ws := wsX1_weigh) B.pre
  have hown : s.vm.findClass RX1 = some m.cls := findClass_of_methodNamed B.named
  have hlocks := B.notSynchronized
  have hl := lv_entry ([.ref x, .int slot, .int w]) (n := 5) (Nat.le_of_ble_eq_true rfl)
  rw [lg_entry_eq]
  generalize (lg_sl ([.ref x, .int slot, .int w]) ++ List.replicate (5 - (lg_sl ([.ref x, .int slot, .int w])).length) Slot.unset).toArray = ls at hl ⊢
  have hl : lv_has ls 5 [(0, .ref x), (1, .int slot), (2, .int w)] := hl
  have hS : va_S (q_Ax x T0) s.heap s.heap [] := va_S.rf
  refine lv_aload_n hx hb dX1_weigh_0 rfl (lv_at hl 0 rfl) ?_
  refine lv_iconst (v := nI 0) hx hb dX1_weigh_1 (by decide) ?_
  refine qw_put (ci := 1) (C := RX1) (T := TX1) (N := 6) hx hb hts nX1_weigh_1 tyX1 tyX1_ok nmX1 hown hK hX.1 hS (Or.inl rfl) rfl 2 (by decide) (hts (.fieldLink RX1 19 "DockGates" "latestFault" "I") (by decide +kernel)) rfl rfl rfl rfl (Nat.le_of_ble_eq_true rfl) dX1_weigh_2 (fun H locs hO hz hq hS => ?_)
  have hX : q_X E x T0 (n, kd, sz, sh, nu, pa, sl, (nI 0), tn, ts, tg) H := hX.obj hO hz hq
  refine lv_iload_n hx hb dX1_weigh_5 rfl (lv_at hl 1 rfl) ?_
  refine qc_ri (r1 := q_b ((q_ix slot 12).isSome)) (W.runS (As := [.int slot]) (rest := []) ⟨hx, hb, hml, hown, hts⟩ (kX1_isSlot l slot) (va_cwS 1 hts gX1_weigh_X1_isSlot rfl rfl rfl (by decide +kernel) ⟨Nat.le_of_ble_eq_true rfl, Nat.le_of_ble_eq_true rfl⟩) preEq rfl rfl hl.1 rfl (lv_room (Nat.le_of_ble_eq_true rfl)) dX1_weigh_6 ⟨Nat.le_of_ble_eq_true rfl, Nat.le_of_ble_eq_true rfl⟩) rfl ?_
  refine ln_b_eq (tgt := 22) hx hb dX1_weigh_9 (by decide) (fun c_1 => ?_) (fun c_1 => ?_)
  · have c_1 := q_isn c_1
    refine lv_bipush (v := (-2)) hx hb dX1_weigh_22 (by decide) ?_
    have ee : f_weigh (n, kd, sz, sh, nu, pa, sl, ft, tn, ts, tg) slot w = (((-2)), (n, kd, sz, sh, nu, pa, sl, (nI 0), tn, ts, tg)) := by first | (simp only [f_weigh, c_1]; done) | (simp only [f_weigh, c_1]; rfl) | (simp [f_weigh, c_1]; done) | (simp [f_weigh, c_1]; rfl) | (simp only [f_weigh, c_1]; (repeat' split) <;> first | rfl | (exfalso; omega))
    exact W.iret (v := ((-2))) hx hb hr (fun t ht hW => ⟨⟨((-2)), (n, kd, sz, sh, nu, pa, sl, (nI 0), tn, ts, tg), rfl, ⟨(by rw [ee]), (by rw [ee])⟩, (by show q_X E x T0 (n, kd, sz, sh, nu, pa, sl, (nI 0), tn, ts, tg) t.heap; rw [ht]; exact hX)⟩, hS.F ht⟩) hS.2.2 dX1_weigh_24
  · obtain ⟨j_slot, hj_slot, rfl⟩ := q_is (by first | decide | omega) c_1
    have ej_slot := q_ix_in hj_slot (by first | decide | omega)
    refine lv_iload_n hx hb dX1_weigh_12 rfl (lv_at hl 2 rfl) ?_
    refine lv_if_lt (tgt := 22) hx hb dX1_weigh_13 (by decide) (fun c_2 => ?_) (fun c_2 => ?_)
    · have c_2 : ∀ q, q_ix w q = none := fun q => q_ix_neg c_2
      refine lv_bipush (v := (-2)) hx hb dX1_weigh_22 (by decide) ?_
      have ee : f_weigh (n, kd, sz, sh, nu, pa, sl, ft, tn, ts, tg) (nI j_slot) w = (((-2)), (n, kd, sz, sh, nu, pa, sl, (nI 0), tn, ts, tg)) := by first | (simp only [f_weigh, ej_slot, c_2]; done) | (simp only [f_weigh, ej_slot, c_2]; rfl) | (simp [f_weigh, ej_slot, c_2]; done) | (simp [f_weigh, ej_slot, c_2]; rfl) | (simp only [f_weigh, ej_slot, c_2]; (repeat' split) <;> first | rfl | (exfalso; omega))
      exact W.iret (v := ((-2))) hx hb hr (fun t ht hW => ⟨⟨((-2)), (n, kd, sz, sh, nu, pa, sl, (nI 0), tn, ts, tg), rfl, ⟨(by rw [ee]), (by rw [ee])⟩, (by show q_X E x T0 (n, kd, sz, sh, nu, pa, sl, (nI 0), tn, ts, tg) t.heap; rw [ht]; exact hX)⟩, hS.F ht⟩) hS.2.2 dX1_weigh_24
    · refine lv_iload_n hx hb dX1_weigh_16 rfl (lv_at hl 2 rfl) ?_
      refine lv_ldc (v := 1000000) hx hb hown (hts (.constant RX1 113 (1000000)) (by decide +kernel)) dX1_weigh_17 ?_
      rw [show (1000000 : Int32) = nI 1000000 by decide]
      refine lv_icmp_le (tgt := 25) hx hb dX1_weigh_19 (by decide) (fun c_3 => ?_) (fun c_3 => ?_)
      · obtain ⟨j_w, hj_w, rfl⟩ := q_ix_of3 (by omega) c_2 c_3
        have ej_w := q_ix_in hj_w (by omega)
        refine lv_aload_n hx hb dX1_weigh_25 rfl (lv_at hl 0 rfl) ?_
        refine lv_bipush (v := nI 9) hx hb dX1_weigh_26 (by decide) ?_
        refine lv_iload_n hx hb dX1_weigh_28 rfl (lv_at hl 1 rfl) ?_
        cases s_4 : sl j_slot with
        | none =>
          refine qc_q (r1 := none) (σ1 := (n, kd, sz, sh, nu, pa, sl, nI 2, tn, ts, tg)) (va_runV (As := [.int (nI 9), .int (nI j_slot)]) (rest := []) ⟨hx, hb, hml, hown, hts⟩ (kX1_broughtThrough_N l E x T0 n kd sz sh nu pa sl ((nI 0)) tn ts tg hI 9 j_slot hj_slot s_4) (cwV 2 hts gX1_weigh_X1_broughtThrough rfl rfl rfl (by decide +kernel) ⟨Nat.le_of_ble_eq_true rfl, Nat.le_of_ble_eq_true rfl⟩) (q_preV hK hX hX.1 rfl) rfl rfl hl.1 rfl (lv_room (Nat.le_of_ble_eq_true rfl)) dX1_weigh_29 ⟨Nat.le_of_ble_eq_true rfl, Nat.le_of_ble_eq_true rfl⟩) hS rfl rfl (fun H locs hX hS => ?_)
          try dsimp only [va_rf]
          refine lv_astore_nN (lv' := [(3, .null), (0, .ref x), (1, .int (nI j_slot)), (2, .int (nI j_w))]) hx hb dX1_weigh_32 rfl hl (by decide) rfl (fun ls hl => ?_)
          refine lv_aload_nN hx hb dX1_weigh_33 rfl (lv_at hl 0 rfl) ?_
          refine lv_ifnonnullN hx hb dX1_weigh_34 ?_
          refine lv_iconst (v := nI 0) hx hb dX1_weigh_37 (by decide) ?_
          have ee : f_weigh (n, kd, sz, sh, nu, pa, sl, ft, tn, ts, tg) (nI j_slot) (nI j_w) = (nI 0, (n, kd, sz, sh, nu, pa, sl, nI 2, tn, ts, tg)) := by first | (simp only [f_weigh, ej_slot, ej_w, s_4]; done) | (simp only [f_weigh, ej_slot, ej_w, s_4]; rfl) | (simp [f_weigh, ej_slot, ej_w, s_4]; done) | (simp [f_weigh, ej_slot, ej_w, s_4]; rfl) | (simp only [f_weigh, ej_slot, ej_w, s_4]; (repeat' split) <;> first | rfl | (exfalso; omega))
          exact W.iret (v := nI 0) hx hb hr (fun t ht hW => ⟨⟨nI 0, (n, kd, sz, sh, nu, pa, sl, nI 2, tn, ts, tg), rfl, ⟨(by rw [ee]), (by rw [ee])⟩, (by show q_X E x T0 (n, kd, sz, sh, nu, pa, sl, nI 2, tn, ts, tg) t.heap; rw [ht]; exact hX)⟩, hS.F ht⟩) hS.2.2 dX1_weigh_38
        | some k_4 =>
          have hk_4 : k_4 < n := hI.2.2 _ _ s_4
          obtain ⟨ak_4, bk_4, dk_4, wk_4⟩ := hI.2.1 k_4 hk_4
          have n60 := hI.1
          try dsimp only at ak_4 bk_4 dk_4 wk_4 n60
          cases g_5 : q_go (kd k_4) 9 with
          | false =>
            have zg_5 := q_gofalse g_5
            refine qc_q (r1 := none) (σ1 := (n, kd, sz, sh, nu, pa, sl, nI 1, (tn + 1), nI j_slot, nI 9)) (va_runV (As := [.int (nI 9), .int (nI j_slot)]) (rest := []) ⟨hx, hb, hml, hown, hts⟩ (kX1_broughtThrough_T l E x T0 n kd sz sh nu pa sl ((nI 0)) tn ts tg hI 9 j_slot (by first | omega | decide) hj_slot k_4 hk_4 s_4 g_5) (cwV 2 hts gX1_weigh_X1_broughtThrough rfl rfl rfl (by decide +kernel) ⟨Nat.le_of_ble_eq_true rfl, Nat.le_of_ble_eq_true rfl⟩) (q_preV hK hX hX.1 rfl) rfl rfl hl.1 rfl (lv_room (Nat.le_of_ble_eq_true rfl)) dX1_weigh_29 ⟨Nat.le_of_ble_eq_true rfl, Nat.le_of_ble_eq_true rfl⟩) hS rfl rfl (fun H locs hX hS => ?_)
            try dsimp only [va_rf]
            refine lv_astore_nN (lv' := [(3, .null), (0, .ref x), (1, .int (nI j_slot)), (2, .int (nI j_w))]) hx hb dX1_weigh_32 rfl hl (by decide) rfl (fun ls hl => ?_)
            refine lv_aload_nN hx hb dX1_weigh_33 rfl (lv_at hl 0 rfl) ?_
            refine lv_ifnonnullN hx hb dX1_weigh_34 ?_
            refine lv_iconst (v := nI 0) hx hb dX1_weigh_37 (by decide) ?_
            have ee : f_weigh (n, kd, sz, sh, nu, pa, sl, ft, tn, ts, tg) (nI j_slot) (nI j_w) = (nI 0, (n, kd, sz, sh, nu, pa, sl, nI 1, (tn + 1), nI j_slot, nI 9)) := by first | (simp only [f_weigh, ej_slot, ej_w, s_4, g_5]; done) | (simp only [f_weigh, ej_slot, ej_w, s_4, g_5]; rfl) | (simp [f_weigh, ej_slot, ej_w, s_4, g_5]; done) | (simp [f_weigh, ej_slot, ej_w, s_4, g_5]; rfl) | (simp only [f_weigh, ej_slot, ej_w, s_4, g_5]; (repeat' split) <;> first | rfl | (exfalso; omega))
            exact W.iret (v := nI 0) hx hb hr (fun t ht hW => ⟨⟨nI 0, (n, kd, sz, sh, nu, pa, sl, nI 1, (tn + 1), nI j_slot, nI 9), rfl, ⟨(by rw [ee]), (by rw [ee])⟩, (by show q_X E x T0 (n, kd, sz, sh, nu, pa, sl, nI 1, (tn + 1), nI j_slot, nI 9) t.heap; rw [ht]; exact hX)⟩, hS.F ht⟩) hS.2.2 dX1_weigh_38
          | true =>
            have zg_5 := q_gofacts g_5
            refine qc_q (r1 := some (T0 + 3 * k_4)) (σ1 := (n, kd, sz, sh, nu, pa, sl, (nI 0), tn, ts, tg)) (va_runV (As := [.int (nI 9), .int (nI j_slot)]) (rest := []) ⟨hx, hb, hml, hown, hts⟩ (kX1_broughtThrough_S l E x T0 n kd sz sh nu pa sl ((nI 0)) tn ts tg hI 9 j_slot (by first | omega | decide) hj_slot k_4 hk_4 s_4 g_5) (cwV 2 hts gX1_weigh_X1_broughtThrough rfl rfl rfl (by decide +kernel) ⟨Nat.le_of_ble_eq_true rfl, Nat.le_of_ble_eq_true rfl⟩) (q_preV hK hX hX.1 rfl) rfl rfl hl.1 rfl (lv_room (Nat.le_of_ble_eq_true rfl)) dX1_weigh_29 ⟨Nat.le_of_ble_eq_true rfl, Nat.le_of_ble_eq_true rfl⟩) hS rfl rfl (fun H locs hX hS => ?_)
            try dsimp only [va_rf]
            refine lv_astore_n (lv' := [(3, .ref (T0 + 3 * k_4)), (0, .ref x), (1, .int (nI j_slot)), (2, .int (nI j_w))]) hx hb dX1_weigh_32 rfl hl (by decide) rfl (fun ls hl => ?_)
            refine lv_aload_n hx hb dX1_weigh_33 rfl (lv_at hl 0 rfl) ?_
            refine lv_ifnonnull (tgt := 39) hx hb dX1_weigh_34 (by decide) ?_
            refine lv_aload_n hx hb dX1_weigh_39 rfl (lv_at hl 0 rfl) ?_
            refine qw_get (v := .int (nI (q_am (kd k_4) (sz k_4)))) (ci := 0) (C := RX0) (T := TX0) (N := 6) hx hb hts nX1_weigh_0 hown hK (hX.2.2.1 k_4 hk_4).1 rfl 4 (by decide) (hts (.fieldLink RX1 114 "DockGates$Thing" "amount" "I") (by decide +kernel)) rfl rfl dX1_weigh_40 ?_
            rw [q_am9 (show 9 ≤ kd k_4 by omega)]
            refine lv_istore (lv' := [(4, .int (nI (sz k_4))), (3, .ref (T0 + 3 * k_4)), (0, .ref x), (1, .int (nI j_slot)), (2, .int (nI j_w))]) hx hb dX1_weigh_43 hl (by decide) rfl (fun ls hl => ?_)
            refine lv_aload_n hx hb dX1_weigh_45 rfl (lv_at hl 1 rfl) ?_
            refine lv_iload_n hx hb dX1_weigh_46 rfl (lv_at hl 4 rfl) ?_
            refine qw_put (ci := 0) (C := RX0) (T := TX0) (N := 6) hx hb hts nX1_weigh_0 tyX0 tyX0_ok nmX0 hown hK (hX.2.2.1 k_4 hk_4).1 hS (Or.inr (Or.inr (by omega))) rfl 4 (by decide) (hts (.fieldLink RX1 114 "DockGates$Thing" "amount" "I") (by decide +kernel)) rfl rfl rfl rfl (Nat.le_of_ble_eq_true rfl) dX1_weigh_47 (fun H locs hO hz hq hS => ?_)
            have hX : q_X E x T0 (n, kd, (va_up sz k_4 j_w), sh, nu, pa, sl, (nI 0), tn, ts, tg) H := hX.amt hk_4 (by omega) _ hO hz hq
            refine lv_iload hx hb dX1_weigh_50 (lv_at hl 0 rfl) ?_
            have ee : f_weigh (n, kd, sz, sh, nu, pa, sl, ft, tn, ts, tg) (nI j_slot) (nI j_w) = (nI (sz k_4), (n, kd, (va_up sz k_4 j_w), sh, nu, pa, sl, (nI 0), tn, ts, tg)) := by first | (simp only [f_weigh, ej_slot, ej_w, s_4, g_5]; done) | (simp only [f_weigh, ej_slot, ej_w, s_4, g_5]; rfl) | (simp [f_weigh, ej_slot, ej_w, s_4, g_5]; done) | (simp [f_weigh, ej_slot, ej_w, s_4, g_5]; rfl) | (simp only [f_weigh, ej_slot, ej_w, s_4, g_5]; (repeat' split) <;> first | rfl | (exfalso; omega))
            exact W.iret (v := nI (sz k_4)) hx hb hr (fun t ht hW => ⟨⟨nI (sz k_4), (n, kd, (va_up sz k_4 j_w), sh, nu, pa, sl, (nI 0), tn, ts, tg), rfl, ⟨(by rw [ee]), (by rw [ee])⟩, (by show q_X E x T0 (n, kd, (va_up sz k_4 j_w), sh, nu, pa, sl, (nI 0), tn, ts, tg) t.heap; rw [ht]; exact hX)⟩, hS.F ht⟩) hS.2.2 dX1_weigh_52
      · have c_3 := q_ix_nle (by omega) c_3
        refine lv_bipush (v := (-2)) hx hb dX1_weigh_22 (by decide) ?_
        have ee : f_weigh (n, kd, sz, sh, nu, pa, sl, ft, tn, ts, tg) (nI j_slot) w = (((-2)), (n, kd, sz, sh, nu, pa, sl, (nI 0), tn, ts, tg)) := by first | (simp only [f_weigh, ej_slot, c_3]; done) | (simp only [f_weigh, ej_slot, c_3]; rfl) | (simp [f_weigh, ej_slot, c_3]; done) | (simp [f_weigh, ej_slot, c_3]; rfl) | (simp only [f_weigh, ej_slot, c_3]; (repeat' split) <;> first | rfl | (exfalso; omega))
        exact W.iret (v := ((-2))) hx hb hr (fun t ht hW => ⟨⟨((-2)), (n, kd, sz, sh, nu, pa, sl, (nI 0), tn, ts, tg), rfl, ⟨(by rw [ee]), (by rw [ee])⟩, (by show q_X E x T0 (n, kd, sz, sh, nu, pa, sl, (nI 0), tn, ts, tg) t.heap; rw [ht]; exact hX)⟩, hS.F ht⟩) hS.2.2 dX1_weigh_24
set_option maxRecDepth 20000 in
theorem nX1_size_0 : ∀ w ∈ u_ws RX0 TX0 6, w ∈ wsX1_size := by decide +kernel
set_option maxRecDepth 20000 in
theorem nX1_size_1 : ∀ w ∈ u_ws RX1 TX1 6, w ∈ wsX1_size := by decide +kernel
set_option maxHeartbeats 4000000 in
set_option maxRecDepth 100000 in
theorem kX1_size (l : Launch) (E : q_E) (x T0 : Nat) (n : Nat) (kd sz : Nat → Nat) (sh : Nat → Bool) (nu : Nat → Nat → Int64) (pa : Nat → Nat → Option Nat) (sl : Nat → Option Nat) (ft tn ts tg : Int32) (hI : q_I (n, kd, sz, sh, nu, pa, sl, ft, tn, ts, tg)) (slot : Int32)  : Met l yX1_size wsX1_size ({ frames := 2, cells := 0, slots := 0, locals := 44 }) (q_P E (q_X E x T0 (n, kd, sz, sh, nu, pa, sl, ft, tn, ts, tg)) [.ref x, .int slot]) (q_Wi (q_X E x T0) (q_Ax x T0) ((f_size (n, kd, sz, sh, nu, pa, sl, ft, tn, ts, tg) slot).1) (f_size (n, kd, sz, sh, nu, pa, sl, ft, tn, ts, tg) slot).2) 0 0 (q_Ax x T0) := by
  refine Met.ofW (cc := cX1_size) (maxL := 3) (ret := (some .int)) (by decide) rfl ?_
  intro p e s m args below meth c s₁ B hml hv
  obtain ⟨rfl, hK, hX⟩ := hv
  have hx := B.exec
  have hb := B.bytes
  have hr := B.returns
  have hts := atoms_spec (ws := wsX1_size) B.pre
  have hown : s.vm.findClass RX1 = some m.cls := findClass_of_methodNamed B.named
  have hlocks := B.notSynchronized
  have hl := lv_entry ([.ref x, .int slot]) (n := 3) (Nat.le_of_ble_eq_true rfl)
  rw [lg_entry_eq]
  generalize (lg_sl ([.ref x, .int slot]) ++ List.replicate (3 - (lg_sl ([.ref x, .int slot])).length) Slot.unset).toArray = ls at hl ⊢
  have hl : lv_has ls 3 [(0, .ref x), (1, .int slot)] := hl
  have hS : va_S (q_Ax x T0) s.heap s.heap [] := va_S.rf
  refine lv_aload_n hx hb dX1_size_0 rfl (lv_at hl 0 rfl) ?_
  refine lv_iconst (v := nI 0) hx hb dX1_size_1 (by decide) ?_
  refine qw_put (ci := 1) (C := RX1) (T := TX1) (N := 6) hx hb hts nX1_size_1 tyX1 tyX1_ok nmX1 hown hK hX.1 hS (Or.inl rfl) rfl 2 (by decide) (hts (.fieldLink RX1 19 "DockGates" "latestFault" "I") (by decide +kernel)) rfl rfl rfl rfl (Nat.le_of_ble_eq_true rfl) dX1_size_2 (fun H locs hO hz hq hS => ?_)
  have hX : q_X E x T0 (n, kd, sz, sh, nu, pa, sl, (nI 0), tn, ts, tg) H := hX.obj hO hz hq
  refine lv_iload_n hx hb dX1_size_5 rfl (lv_at hl 1 rfl) ?_
  refine qc_ri (r1 := q_b ((q_ix slot 12).isSome)) (W.runS (As := [.int slot]) (rest := []) ⟨hx, hb, hml, hown, hts⟩ (kX1_isSlot l slot) (va_cwS 1 hts gX1_size_X1_isSlot rfl rfl rfl (by decide +kernel) ⟨Nat.le_of_ble_eq_true rfl, Nat.le_of_ble_eq_true rfl⟩) preEq rfl rfl hl.1 rfl (lv_room (Nat.le_of_ble_eq_true rfl)) dX1_size_6 ⟨Nat.le_of_ble_eq_true rfl, Nat.le_of_ble_eq_true rfl⟩) rfl ?_
  refine ln_b_ne (tgt := 15) hx hb dX1_size_9 (by decide) (fun c_1 => ?_) (fun c_1 => ?_)
  · obtain ⟨j_slot, hj_slot, rfl⟩ := q_is (by first | decide | omega) c_1
    have ej_slot := q_ix_in hj_slot (by first | decide | omega)
    refine lv_aload_n hx hb dX1_size_15 rfl (lv_at hl 0 rfl) ?_
    refine qw_get (v := .ref (x + 1)) (ci := 1) (C := RX1) (T := TX1) (N := 6) hx hb hts nX1_size_1 hown hK hX.1 rfl 0 (by decide) (hts (.fieldLink RX1 11 "DockGates" "slots" "[LDockGates$Thing;") (by decide +kernel)) rfl rfl dX1_size_16 ?_
    refine lv_iload_n hx hb dX1_size_19 rfl (lv_at hl 1 rfl) ?_
    refine qx_slot hx hb hK hX hI hj_slot dX1_size_20 (fun s_2 => ?_) (fun k_2 hk_2 s_2 => ?_)
    · try dsimp only at s_2
      refine lv_astore_nN (lv' := [(2, .null), (0, .ref x), (1, .int (nI j_slot))]) hx hb dX1_size_21 rfl hl (by decide) rfl (fun ls hl => ?_)
      refine lv_aload_nN hx hb dX1_size_22 rfl (lv_at hl 0 rfl) ?_
      refine lv_ifnonnullN hx hb dX1_size_23 ?_
      refine lv_aload_n hx hb dX1_size_26 rfl (lv_at hl 1 rfl) ?_
      refine lv_iconst (v := nI 2) hx hb dX1_size_27 (by decide) ?_
      refine qc_i (r1 := nI 0) (σ1 := (n, kd, sz, sh, nu, pa, sl, nI 2, tn, ts, tg)) (va_runV (As := [.int (nI 2)]) (rest := []) ⟨hx, hb, hml, hown, hts⟩ (kX1_failed l E x T0 n kd sz sh nu pa sl ((nI 0)) tn ts tg hI (nI 2)) (cwV 1 hts gX1_size_X1_failed rfl rfl rfl (by decide +kernel) ⟨Nat.le_of_ble_eq_true rfl, Nat.le_of_ble_eq_true rfl⟩) (q_preV hK hX hX.1 rfl) rfl rfl hl.1 rfl (lv_room (Nat.le_of_ble_eq_true rfl)) dX1_size_28 ⟨Nat.le_of_ble_eq_true rfl, Nat.le_of_ble_eq_true rfl⟩) hS rfl rfl (fun H locs hX hS => ?_)
      have ee : f_size (n, kd, sz, sh, nu, pa, sl, ft, tn, ts, tg) (nI j_slot) = (nI 0, (n, kd, sz, sh, nu, pa, sl, nI 2, tn, ts, tg)) := by first | (simp only [f_size, ej_slot, s_2]; done) | (simp only [f_size, ej_slot, s_2]; rfl) | (simp [f_size, ej_slot, s_2]; done) | (simp [f_size, ej_slot, s_2]; rfl) | (simp only [f_size, ej_slot, s_2]; (repeat' split) <;> first | rfl | (exfalso; omega))
      exact W.iret (v := nI 0) hx hb hr (fun t ht hW => ⟨⟨nI 0, (n, kd, sz, sh, nu, pa, sl, nI 2, tn, ts, tg), rfl, ⟨(by rw [ee]), (by rw [ee])⟩, (by show q_X E x T0 (n, kd, sz, sh, nu, pa, sl, nI 2, tn, ts, tg) t.heap; rw [ht]; exact hX)⟩, hS.F ht⟩) hS.2.2 dX1_size_31
    · try dsimp only at s_2 hk_2
      obtain ⟨ak_2, bk_2, dk_2, wk_2⟩ := hI.2.1 k_2 hk_2
      have n60 := hI.1
      try dsimp only at ak_2 bk_2 dk_2 wk_2 n60
      refine lv_astore_n (lv' := [(2, .ref (T0 + 3 * k_2)), (0, .ref x), (1, .int (nI j_slot))]) hx hb dX1_size_21 rfl hl (by decide) rfl (fun ls hl => ?_)
      refine lv_aload_n hx hb dX1_size_22 rfl (lv_at hl 0 rfl) ?_
      refine lv_ifnonnull (tgt := 32) hx hb dX1_size_23 (by decide) ?_
      refine lv_aload_n hx hb dX1_size_32 rfl (lv_at hl 0 rfl) ?_
      refine qw_get (v := .int (nI (kd k_2))) (ci := 0) (C := RX0) (T := TX0) (N := 6) hx hb hts nX1_size_0 hown hK (hX.2.2.1 k_2 hk_2).1 rfl 1 (by decide) (hts (.fieldLink RX1 79 "DockGates$Thing" "kind" "I") (by decide +kernel)) rfl rfl dX1_size_33 ?_
      refine qc_ri (r1 := q_b (decide (kd k_2 < 3))) (W.runS (As := [.int (nI (kd k_2))]) (rest := []) ⟨hx, hb, hml, hown, hts⟩ (kX1_holdsNumbers l (kd k_2) (by omega)) (va_cwS 1 hts gX1_size_X1_holdsNumbers rfl rfl rfl (by decide +kernel) ⟨Nat.le_of_ble_eq_true rfl, Nat.le_of_ble_eq_true rfl⟩) preEq rfl rfl hl.1 rfl (lv_room (Nat.le_of_ble_eq_true rfl)) dX1_size_36 ⟨Nat.le_of_ble_eq_true rfl, Nat.le_of_ble_eq_true rfl⟩) rfl ?_
      refine ln_b_eq (tgt := 48) hx hb dX1_size_39 (by decide) (fun c_3 => ?_) (fun c_3 => ?_)
      · have c_3 := of_decide_eq_false c_3
        refine lv_aload_n hx hb dX1_size_48 rfl (lv_at hl 0 rfl) ?_
        refine qw_get (v := .int (nI (kd k_2))) (ci := 0) (C := RX0) (T := TX0) (N := 6) hx hb hts nX1_size_0 hown hK (hX.2.2.1 k_2 hk_2).1 rfl 1 (by decide) (hts (.fieldLink RX1 79 "DockGates$Thing" "kind" "I") (by decide +kernel)) rfl rfl dX1_size_49 ?_
        refine qc_ri (r1 := q_b (decide (3 ≤ kd k_2 ∧ kd k_2 < 9))) (W.runS (As := [.int (nI (kd k_2))]) (rest := []) ⟨hx, hb, hml, hown, hts⟩ (kX1_holdsThings l (kd k_2) (by omega)) (va_cwS 1 hts gX1_size_X1_holdsThings rfl rfl rfl (by decide +kernel) ⟨Nat.le_of_ble_eq_true rfl, Nat.le_of_ble_eq_true rfl⟩) preEq rfl rfl hl.1 rfl (lv_room (Nat.le_of_ble_eq_true rfl)) dX1_size_52 ⟨Nat.le_of_ble_eq_true rfl, Nat.le_of_ble_eq_true rfl⟩) rfl ?_
        refine ln_b_eq (tgt := 64) hx hb dX1_size_55 (by decide) (fun c_4 => ?_) (fun c_4 => ?_)
        · have c_4 := of_decide_eq_false c_4
          refine lv_aload_n hx hb dX1_size_64 rfl (lv_at hl 1 rfl) ?_
          refine lv_iload_n hx hb dX1_size_65 rfl (lv_at hl 2 rfl) ?_
          refine lv_bipush (v := nI 8) hx hb dX1_size_66 (by decide) ?_
          refine qc_i (r1 := nI 0) (σ1 := (n, kd, sz, sh, nu, pa, sl, nI 1, (tn + 1), nI j_slot, nI 8)) (va_runV (As := [.int (nI j_slot), .int (nI 8)]) (rest := []) ⟨hx, hb, hml, hown, hts⟩ (kX1_failedAtGate l E x T0 n kd sz sh nu pa sl ((nI 0)) tn ts tg hI (nI j_slot) (nI 8)) (cwV 2 hts gX1_size_X1_failedAtGate rfl rfl rfl (by decide +kernel) ⟨Nat.le_of_ble_eq_true rfl, Nat.le_of_ble_eq_true rfl⟩) (q_preV hK hX hX.1 rfl) rfl rfl hl.1 rfl (lv_room (Nat.le_of_ble_eq_true rfl)) dX1_size_68 ⟨Nat.le_of_ble_eq_true rfl, Nat.le_of_ble_eq_true rfl⟩) hS rfl rfl (fun H locs hX hS => ?_)
          have ee : f_size (n, kd, sz, sh, nu, pa, sl, ft, tn, ts, tg) (nI j_slot) = (nI 0, (n, kd, sz, sh, nu, pa, sl, nI 1, (tn + 1), nI j_slot, nI 8)) := by first | (simp only [f_size, ej_slot, s_2, c_3, c_4]; done) | (simp only [f_size, ej_slot, s_2, c_3, c_4]; rfl) | (simp [f_size, ej_slot, s_2, c_3, c_4]; done) | (simp [f_size, ej_slot, s_2, c_3, c_4]; rfl) | (simp only [f_size, ej_slot, s_2, c_3, c_4]; (repeat' split) <;> first | rfl | (exfalso; omega))
          exact W.iret (v := nI 0) hx hb hr (fun t ht hW => ⟨⟨nI 0, (n, kd, sz, sh, nu, pa, sl, nI 1, (tn + 1), nI j_slot, nI 8), rfl, ⟨(by rw [ee]), (by rw [ee])⟩, (by show q_X E x T0 (n, kd, sz, sh, nu, pa, sl, nI 1, (tn + 1), nI j_slot, nI 8) t.heap; rw [ht]; exact hX)⟩, hS.F ht⟩) hS.2.2 dX1_size_71
        · have c_4 := of_decide_eq_true c_4
          refine lv_aload_n hx hb dX1_size_58 rfl (lv_at hl 0 rfl) ?_
          refine qw_get (v := .ref (T0 + 3 * k_2 + 2)) (ci := 0) (C := RX0) (T := TX0) (N := 6) hx hb hts nX1_size_0 hown hK (hX.2.2.1 k_2 hk_2).1 rfl 3 (by decide) (hts (.fieldLink RX1 96 "DockGates$Thing" "parts" "[LDockGates$Thing;") (by decide +kernel)) rfl rfl dX1_size_59 ?_
          refine qw_tlen (n := q_pl (kd k_2) (sz k_2)) hx hb hK (hX.2.2.1 k_2 hk_2).2.2 dX1_size_62 ?_
          rw [q_pl39 (show 3 ≤ kd k_2 by omega) (show kd k_2 < 9 by omega)]
          have ee : f_size (n, kd, sz, sh, nu, pa, sl, ft, tn, ts, tg) (nI j_slot) = (nI (sz k_2), (n, kd, sz, sh, nu, pa, sl, (nI 0), tn, ts, tg)) := by first | (simp only [f_size, ej_slot, s_2, c_3, c_4]; done) | (simp only [f_size, ej_slot, s_2, c_3, c_4]; rfl) | (simp [f_size, ej_slot, s_2, c_3, c_4]; done) | (simp [f_size, ej_slot, s_2, c_3, c_4]; rfl) | (simp only [f_size, ej_slot, s_2, c_3, c_4]; (repeat' split) <;> first | rfl | (exfalso; omega))
          exact W.iret (v := nI (sz k_2)) hx hb hr (fun t ht hW => ⟨⟨nI (sz k_2), (n, kd, sz, sh, nu, pa, sl, (nI 0), tn, ts, tg), rfl, ⟨(by rw [ee]), (by rw [ee])⟩, (by show q_X E x T0 (n, kd, sz, sh, nu, pa, sl, (nI 0), tn, ts, tg) t.heap; rw [ht]; exact hX)⟩, hS.F ht⟩) hS.2.2 dX1_size_63
      · have c_3 := of_decide_eq_true c_3
        refine lv_aload_n hx hb dX1_size_42 rfl (lv_at hl 0 rfl) ?_
        refine qw_get (v := .ref (T0 + 3 * k_2 + 1)) (ci := 0) (C := RX0) (T := TX0) (N := 6) hx hb hts nX1_size_0 hown hK (hX.2.2.1 k_2 hk_2).1 rfl 2 (by decide) (hts (.fieldLink RX1 75 "DockGates$Thing" "numbers" "[J") (by decide +kernel)) rfl rfl dX1_size_43 ?_
        refine qw_jlen (n := q_nl (kd k_2) (sz k_2)) hx hb hK (hX.2.2.1 k_2 hk_2).2.1 dX1_size_46 ?_
        rw [q_nl3 (show kd k_2 < 3 by omega)]
        have ee : f_size (n, kd, sz, sh, nu, pa, sl, ft, tn, ts, tg) (nI j_slot) = (nI (sz k_2), (n, kd, sz, sh, nu, pa, sl, (nI 0), tn, ts, tg)) := by first | (simp only [f_size, ej_slot, s_2, c_3]; done) | (simp only [f_size, ej_slot, s_2, c_3]; rfl) | (simp [f_size, ej_slot, s_2, c_3]; done) | (simp [f_size, ej_slot, s_2, c_3]; rfl) | (simp only [f_size, ej_slot, s_2, c_3]; (repeat' split) <;> first | rfl | (exfalso; omega))
        exact W.iret (v := nI (sz k_2)) hx hb hr (fun t ht hW => ⟨⟨nI (sz k_2), (n, kd, sz, sh, nu, pa, sl, (nI 0), tn, ts, tg), rfl, ⟨(by rw [ee]), (by rw [ee])⟩, (by show q_X E x T0 (n, kd, sz, sh, nu, pa, sl, (nI 0), tn, ts, tg) t.heap; rw [ht]; exact hX)⟩, hS.F ht⟩) hS.2.2 dX1_size_47
  · have c_1 := q_isn c_1
    refine lv_bipush (v := (-2)) hx hb dX1_size_12 (by decide) ?_
    have ee : f_size (n, kd, sz, sh, nu, pa, sl, ft, tn, ts, tg) slot = (((-2)), (n, kd, sz, sh, nu, pa, sl, (nI 0), tn, ts, tg)) := by first | (simp only [f_size, c_1]; done) | (simp only [f_size, c_1]; rfl) | (simp [f_size, c_1]; done) | (simp [f_size, c_1]; rfl) | (simp only [f_size, c_1]; (repeat' split) <;> first | rfl | (exfalso; omega))
    exact W.iret (v := ((-2))) hx hb hr (fun t ht hW => ⟨⟨((-2)), (n, kd, sz, sh, nu, pa, sl, (nI 0), tn, ts, tg), rfl, ⟨(by rw [ee]), (by rw [ee])⟩, (by show q_X E x T0 (n, kd, sz, sh, nu, pa, sl, (nI 0), tn, ts, tg) t.heap; rw [ht]; exact hX)⟩, hS.F ht⟩) hS.2.2 dX1_size_14
end
section
/-! ===== the reference: its helpers (written by program) ===== -/
set_option maxRecDepth 20000 in
theorem nX2_fails_2 : ∀ w ∈ u_ws RX2 TX2 10, w ∈ wsX2_fails := by decide +kernel
set_option maxHeartbeats 4000000 in
set_option maxRecDepth 100000 in
theorem kX2_fails (l : Launch) (E : q_E) (mm S : Nat) (n : Nat) (kd sz : Nat → Nat) (sh : Nat → Bool) (nu : Nat → Nat → Int64) (pa : Nat → Nat → Option Nat) (sl : Nat → Option Nat) (ft tn ts tg : Int32) (hI : q_I (n, kd, sz, sh, nu, pa, sl, ft, tn, ts, tg)) (a : Int32)  : Met l yX2_fails wsX2_fails ({ frames := 0, cells := 0, slots := 0, locals := 0 }) (q_P E (q_M E mm S (n, kd, sz, sh, nu, pa, sl, ft, tn, ts, tg)) [.ref mm, .int a]) (q_Wi (q_M E mm S) (q_Am mm) (nI 0) (n, kd, sz, sh, nu, pa, sl, a, tn, ts, tg)) 0 0 (q_Am mm) := by
  refine Met.ofW (cc := cX2_fails) (maxL := 2) (ret := (some .int)) (by decide) rfl ?_
  intro p e s m args below meth c s₁ B hml hv
  obtain ⟨rfl, hK, hM⟩ := hv
  have hx := B.exec
  have hb := B.bytes
  have hr := B.returns
  have hts := atoms_spec (ws := wsX2_fails) B.pre
  have hown : s.vm.findClass RX2 = some m.cls := findClass_of_methodNamed B.named
  have hlocks := B.notSynchronized
  have hl := lv_entry ([.ref mm, .int a]) (n := 2) (Nat.le_of_ble_eq_true rfl)
  rw [lg_entry_eq]
  generalize (lg_sl ([.ref mm, .int a]) ++ List.replicate (2 - (lg_sl ([.ref mm, .int a])).length) Slot.unset).toArray = ls at hl ⊢
  have hl : lv_has ls 2 [(0, .ref mm), (1, .int a)] := hl
  have hS : va_S (q_Am mm) s.heap s.heap [] := va_S.rf
  refine lv_aload_n hx hb dX2_fails_0 rfl (lv_at hl 0 rfl) ?_
  refine lv_iload_n hx hb dX2_fails_1 rfl (lv_at hl 1 rfl) ?_
  refine qw_put (ci := 2) (C := RX2) (T := TX2) (N := 10) hx hb hts nX2_fails_2 tyX2 tyX2_ok nmX2 hown hK hM.1 hS ⟨by omega, by omega⟩ rfl 6 (by decide) (hts (.fieldLink RX2 42 "DockGatesModel" "fault" "I") (by decide +kernel)) rfl rfl rfl rfl (Nat.le_of_ble_eq_true rfl) dX2_fails_2 (fun H locs hO hz hq hS => ?_)
  have hM : q_M E mm S (n, kd, sz, sh, nu, pa, sl, a, tn, ts, tg) H := hM.obj hO hz hq
  refine lv_iconst (v := nI 0) hx hb dX2_fails_5 (by decide) ?_
  exact W.iret (v := nI 0) hx hb hr (fun tt ht hW => ⟨⟨nI 0, (n, kd, sz, sh, nu, pa, sl, a, tn, ts, tg), rfl, ⟨rfl, rfl⟩, (by show q_M E mm S (n, kd, sz, sh, nu, pa, sl, a, tn, ts, tg) tt.heap; rw [ht]; exact hM)⟩, hS.F ht⟩) hS.2.2 dX2_fails_6
set_option maxRecDepth 20000 in
theorem nX2_turn_2 : ∀ w ∈ u_ws RX2 TX2 10, w ∈ wsX2_turn := by decide +kernel
set_option maxHeartbeats 4000000 in
set_option maxRecDepth 100000 in
theorem kX2_turn (l : Launch) (E : q_E) (mm S : Nat) (n : Nat) (kd sz : Nat → Nat) (sh : Nat → Bool) (nu : Nat → Nat → Int64) (pa : Nat → Nat → Option Nat) (sl : Nat → Option Nat) (ft tn ts tg : Int32) (hI : q_I (n, kd, sz, sh, nu, pa, sl, ft, tn, ts, tg)) (a g : Int32)  : Met l yX2_turn wsX2_turn ({ frames := 0, cells := 0, slots := 0, locals := 0 }) (q_P E (q_M E mm S (n, kd, sz, sh, nu, pa, sl, ft, tn, ts, tg)) [.ref mm, .int a, .int g]) (q_Wv (q_M E mm S) (q_Am mm) (n, kd, sz, sh, nu, pa, sl, ft, tn + 1, a, g)) 0 0 (q_Am mm) := by
  refine Met.ofW (cc := cX2_turn) (maxL := 3) (ret := none) (by decide) rfl ?_
  intro p e s m args below meth c s₁ B hml hv
  obtain ⟨rfl, hK, hM⟩ := hv
  have hx := B.exec
  have hb := B.bytes
  have hr := B.returns
  have hts := atoms_spec (ws := wsX2_turn) B.pre
  have hown : s.vm.findClass RX2 = some m.cls := findClass_of_methodNamed B.named
  have hlocks := B.notSynchronized
  have hl := lv_entry ([.ref mm, .int a, .int g]) (n := 3) (Nat.le_of_ble_eq_true rfl)
  rw [lg_entry_eq]
  generalize (lg_sl ([.ref mm, .int a, .int g]) ++ List.replicate (3 - (lg_sl ([.ref mm, .int a, .int g])).length) Slot.unset).toArray = ls at hl ⊢
  have hl : lv_has ls 3 [(0, .ref mm), (1, .int a), (2, .int g)] := hl
  have hS : va_S (q_Am mm) s.heap s.heap [] := va_S.rf
  refine lv_aload_n hx hb dX2_turn_0 rfl (lv_at hl 0 rfl) ?_
  refine lv_dup hx hb dX2_turn_1 rfl ?_
  refine qw_get (v := .int tn) (ci := 2) (C := RX2) (T := TX2) (N := 10) hx hb hts nX2_turn_2 hown hK hM.1 rfl 7 (by decide) (hts (.fieldLink RX2 45 "DockGatesModel" "turned" "I") (by decide +kernel)) rfl rfl dX2_turn_2 ?_
  refine lv_iconst (v := nI 1) hx hb dX2_turn_5 (by decide) ?_
  refine lv_iadd hx hb dX2_turn_6 ?_
  refine qw_put (ci := 2) (C := RX2) (T := TX2) (N := 10) hx hb hts nX2_turn_2 tyX2 tyX2_ok nmX2 hown hK hM.1 hS ⟨by omega, by omega⟩ rfl 7 (by decide) (hts (.fieldLink RX2 45 "DockGatesModel" "turned" "I") (by decide +kernel)) rfl rfl rfl rfl (Nat.le_of_ble_eq_true rfl) dX2_turn_7 (fun H locs hO hz hq hS => ?_)
  have hM : q_M E mm S (n, kd, sz, sh, nu, pa, sl, ft, (tn + nI 1), ts, tg) H := hM.obj hO hz hq
  refine lv_aload_n hx hb dX2_turn_10 rfl (lv_at hl 0 rfl) ?_
  refine lv_iload_n hx hb dX2_turn_11 rfl (lv_at hl 1 rfl) ?_
  refine qw_put (ci := 2) (C := RX2) (T := TX2) (N := 10) hx hb hts nX2_turn_2 tyX2 tyX2_ok nmX2 hown hK hM.1 hS ⟨by omega, by omega⟩ rfl 8 (by decide) (hts (.fieldLink RX2 27 "DockGatesModel" "turnedSlot" "I") (by decide +kernel)) rfl rfl rfl rfl (Nat.le_of_ble_eq_true rfl) dX2_turn_12 (fun H locs hO hz hq hS => ?_)
  have hM : q_M E mm S (n, kd, sz, sh, nu, pa, sl, ft, (tn + nI 1), a, tg) H := hM.obj hO hz hq
  refine lv_aload_n hx hb dX2_turn_15 rfl (lv_at hl 0 rfl) ?_
  refine lv_iload_n hx hb dX2_turn_16 rfl (lv_at hl 2 rfl) ?_
  refine qw_put (ci := 2) (C := RX2) (T := TX2) (N := 10) hx hb hts nX2_turn_2 tyX2 tyX2_ok nmX2 hown hK hM.1 hS ⟨by omega, by omega⟩ rfl 9 (by decide) (hts (.fieldLink RX2 31 "DockGatesModel" "turnedGate" "I") (by decide +kernel)) rfl rfl rfl rfl (Nat.le_of_ble_eq_true rfl) dX2_turn_17 (fun H locs hO hz hq hS => ?_)
  have hM : q_M E mm S (n, kd, sz, sh, nu, pa, sl, ft, (tn + nI 1), a, g) H := hM.obj hO hz hq
  exact W.vret hx hb hr (fun tt ht hW => ⟨⟨(n, kd, sz, sh, nu, pa, sl, ft, (tn + nI 1), a, g), rfl, rfl, (by show q_M E mm S (n, kd, sz, sh, nu, pa, sl, ft, (tn + nI 1), a, g) tt.heap; rw [ht]; exact hM)⟩, hS.F ht⟩) hS.2.2 dX2_turn_20
set_option maxHeartbeats 4000000 in
set_option maxRecDepth 100000 in
theorem kX2_turns (l : Launch) (E : q_E) (mm S : Nat) (n : Nat) (kd sz : Nat → Nat) (sh : Nat → Bool) (nu : Nat → Nat → Int64) (pa : Nat → Nat → Option Nat) (sl : Nat → Option Nat) (ft tn ts tg : Int32) (hI : q_I (n, kd, sz, sh, nu, pa, sl, ft, tn, ts, tg)) (a g : Int32)  : Met l yX2_turns wsX2_turns ({ frames := 1, cells := 0, slots := 0, locals := 22 }) (q_P E (q_M E mm S (n, kd, sz, sh, nu, pa, sl, ft, tn, ts, tg)) [.ref mm, .int a, .int g]) (q_Wi (q_M E mm S) (q_Am mm) (nI 0) (n, kd, sz, sh, nu, pa, sl, nI 1, tn + 1, a, g)) 0 0 (q_Am mm) := by
  refine Met.ofW (cc := cX2_turns) (maxL := 3) (ret := (some .int)) (by decide) rfl ?_
  intro p e s m args below meth c s₁ B hml hv
  obtain ⟨rfl, hK, hM⟩ := hv
  have hx := B.exec
  have hb := B.bytes
  have hr := B.returns
  have hts := atoms_spec (ws := wsX2_turns) B.pre
  have hown : s.vm.findClass RX2 = some m.cls := findClass_of_methodNamed B.named
  have hlocks := B.notSynchronized
  have hl := lv_entry ([.ref mm, .int a, .int g]) (n := 3) (Nat.le_of_ble_eq_true rfl)
  rw [lg_entry_eq]
  generalize (lg_sl ([.ref mm, .int a, .int g]) ++ List.replicate (3 - (lg_sl ([.ref mm, .int a, .int g])).length) Slot.unset).toArray = ls at hl ⊢
  have hl : lv_has ls 3 [(0, .ref mm), (1, .int a), (2, .int g)] := hl
  have hS : va_S (q_Am mm) s.heap s.heap [] := va_S.rf
  refine lv_aload_n hx hb dX2_turns_0 rfl (lv_at hl 0 rfl) ?_
  refine lv_iload_n hx hb dX2_turns_1 rfl (lv_at hl 1 rfl) ?_
  refine lv_iload_n hx hb dX2_turns_2 rfl (lv_at hl 2 rfl) ?_
  refine qc_v (σ1 := (n, kd, sz, sh, nu, pa, sl, ft, (tn + 1), a, g)) (va_runV (As := [.int a, .int g]) (rest := []) ⟨hx, hb, hml, hown, hts⟩ (kX2_turn l E mm S n kd sz sh nu pa sl ft tn ts tg hI a g) (cwV 2 hts gX2_turns_X2_turn rfl rfl rfl (by decide +kernel) ⟨Nat.le_of_ble_eq_true rfl, Nat.le_of_ble_eq_true rfl⟩) (q_preV hK hM hM.1 rfl) rfl rfl hl.1 rfl (lv_room (Nat.le_of_ble_eq_true rfl)) dX2_turns_3 ⟨Nat.le_of_ble_eq_true rfl, Nat.le_of_ble_eq_true rfl⟩) hS rfl (fun H locs hM hS => ?_)
  refine lv_aload_n hx hb dX2_turns_6 rfl (lv_at hl 0 rfl) ?_
  refine lv_iconst (v := nI 1) hx hb dX2_turns_7 (by decide) ?_
  refine qc_i (r1 := nI 0) (σ1 := (n, kd, sz, sh, nu, pa, sl, nI 1, (tn + 1), a, g)) (va_runV (As := [.int (nI 1)]) (rest := []) ⟨hx, hb, hml, hown, hts⟩ (kX2_fails l E mm S n kd sz sh nu pa sl ft ((tn + 1)) a g hI (nI 1)) (cwV 1 hts gX2_turns_X2_fails rfl rfl rfl (by decide +kernel) ⟨Nat.le_of_ble_eq_true rfl, Nat.le_of_ble_eq_true rfl⟩) (q_preV hK hM hM.1 rfl) rfl rfl hl.1 rfl (lv_room (Nat.le_of_ble_eq_true rfl)) dX2_turns_8 ⟨Nat.le_of_ble_eq_true rfl, Nat.le_of_ble_eq_true rfl⟩) hS rfl rfl (fun H locs hM hS => ?_)
  exact W.iret (v := nI 0) hx hb hr (fun tt ht hW => ⟨⟨nI 0, (n, kd, sz, sh, nu, pa, sl, nI 1, (tn + 1), a, g), rfl, ⟨rfl, rfl⟩, (by show q_M E mm S (n, kd, sz, sh, nu, pa, sl, nI 1, (tn + 1), a, g) tt.heap; rw [ht]; exact hM)⟩, hS.F ht⟩) hS.2.2 dX2_turns_11
set_option maxRecDepth 20000 in
theorem nX2_bad_2 : ∀ w ∈ u_ws RX2 TX2 10, w ∈ wsX2_bad := by decide +kernel
set_option maxHeartbeats 4000000 in
set_option maxRecDepth 100000 in
theorem kX2_bad (l : Launch) (E : q_E) (mm S : Nat) (n : Nat) (kd sz : Nat → Nat) (sh : Nat → Bool) (nu : Nat → Nat → Int64) (pa : Nat → Nat → Option Nat) (sl : Nat → Option Nat) (ft tn ts tg : Int32) (hI : q_I (n, kd, sz, sh, nu, pa, sl, ft, tn, ts, tg))   : Met l yX2_bad wsX2_bad ({ frames := 0, cells := 0, slots := 0, locals := 0 }) (q_P E (q_M E mm S (n, kd, sz, sh, nu, pa, sl, ft, tn, ts, tg)) [.ref mm]) (q_Wi (q_M E mm S) (q_Am mm) ((-2)) (n, kd, sz, sh, nu, pa, sl, nI 0, tn, ts, tg)) 0 0 (q_Am mm) := by
  refine Met.ofW (cc := cX2_bad) (maxL := 1) (ret := (some .int)) (by decide) rfl ?_
  intro p e s m args below meth c s₁ B hml hv
  obtain ⟨rfl, hK, hM⟩ := hv
  have hx := B.exec
  have hb := B.bytes
  have hr := B.returns
  have hts := atoms_spec (ws := wsX2_bad) B.pre
  have hown : s.vm.findClass RX2 = some m.cls := findClass_of_methodNamed B.named
  have hlocks := B.notSynchronized
  have hl := lv_entry ([.ref mm]) (n := 1) (Nat.le_of_ble_eq_true rfl)
  rw [lg_entry_eq]
  generalize (lg_sl ([.ref mm]) ++ List.replicate (1 - (lg_sl ([.ref mm])).length) Slot.unset).toArray = ls at hl ⊢
  have hl : lv_has ls 1 [(0, .ref mm)] := hl
  have hS : va_S (q_Am mm) s.heap s.heap [] := va_S.rf
  refine lv_aload_n hx hb dX2_bad_0 rfl (lv_at hl 0 rfl) ?_
  refine lv_iconst (v := nI 0) hx hb dX2_bad_1 (by decide) ?_
  refine qw_put (ci := 2) (C := RX2) (T := TX2) (N := 10) hx hb hts nX2_bad_2 tyX2 tyX2_ok nmX2 hown hK hM.1 hS ⟨by omega, by omega⟩ rfl 6 (by decide) (hts (.fieldLink RX2 42 "DockGatesModel" "fault" "I") (by decide +kernel)) rfl rfl rfl rfl (Nat.le_of_ble_eq_true rfl) dX2_bad_2 (fun H locs hO hz hq hS => ?_)
  have hM : q_M E mm S (n, kd, sz, sh, nu, pa, sl, (nI 0), tn, ts, tg) H := hM.obj hO hz hq
  refine lv_bipush (v := (-2)) hx hb dX2_bad_5 (by decide) ?_
  exact W.iret (v := ((-2))) hx hb hr (fun tt ht hW => ⟨⟨((-2)), (n, kd, sz, sh, nu, pa, sl, (nI 0), tn, ts, tg), rfl, ⟨rfl, rfl⟩, (by show q_M E mm S (n, kd, sz, sh, nu, pa, sl, (nI 0), tn, ts, tg) tt.heap; rw [ht]; exact hM)⟩, hS.F ht⟩) hS.2.2 dX2_bad_7
set_option maxRecDepth 20000 in
theorem nX2_fitsAt_2 : ∀ w ∈ u_ws RX2 TX2 10, w ∈ wsX2_fitsAt := by decide +kernel
set_option maxHeartbeats 4000000 in
set_option maxRecDepth 100000 in
theorem kX2_fitsAt (l : Launch) (E : q_E) (mm S : Nat) (n : Nat) (kd sz : Nat → Nat) (sh : Nat → Bool) (nu : Nat → Nat → Int64) (pa : Nat → Nat → Option Nat) (sl : Nat → Option Nat) (ft tn ts tg : Int32) (hI : q_I (n, kd, sz, sh, nu, pa, sl, ft, tn, ts, tg)) (j g : Nat) (hj : j < 12) (hg : g < 13)  : Met l yX2_fitsAt wsX2_fitsAt ({ frames := 1, cells := 0, slots := 0, locals := 21 }) (q_P E (q_M E mm S (n, kd, sz, sh, nu, pa, sl, ft, tn, ts, tg)) [.ref mm, .int (nI j), .int (nI g)]) (vp_Si (fun rr => rr = q_b (q_fit kd (sl j) g))) 0 0 (fun _ => False) := by
  refine Met.ofW (cc := cX2_fitsAt) (maxL := 3) (ret := (some .boolean)) (by decide) rfl ?_
  intro p e s m args below meth c s₁ B hml hv
  obtain ⟨rfl, hK, hM⟩ := hv
  have hx := B.exec
  have hb := B.bytes
  have hr := B.returns
  have hts := atoms_spec (ws := wsX2_fitsAt) B.pre
  have hown : s.vm.findClass RX2 = some m.cls := findClass_of_methodNamed B.named
  have hlocks := B.notSynchronized
  have hl := lv_entry ([.ref mm, .int (nI j), .int (nI g)]) (n := 3) (Nat.le_of_ble_eq_true rfl)
  rw [lg_entry_eq]
  generalize (lg_sl ([.ref mm, .int (nI j), .int (nI g)]) ++ List.replicate (3 - (lg_sl ([.ref mm, .int (nI j), .int (nI g)])).length) Slot.unset).toArray = ls at hl ⊢
  have hl : lv_has ls 3 [(0, .ref mm), (1, .int (nI j)), (2, .int (nI g))] := hl
  refine lv_aload_n hx hb dX2_fitsAt_0 rfl (lv_at hl 0 rfl) ?_
  refine qw_get (v := .ref (mm + 5)) (ci := 2) (C := RX2) (T := TX2) (N := 10) hx hb hts nX2_fitsAt_2 hown hK hM.1 rfl 5 (by decide) (hts (.fieldLink RX2 24 "DockGatesModel" "slots" "[I") (by decide +kernel)) rfl rfl dX2_fitsAt_1 ?_
  refine lv_iload_n hx hb dX2_fitsAt_4 rfl (lv_at hl 1 rfl) ?_
  refine qm_slot hx hb hK hM hI hj dX2_fitsAt_5 (fun s_1 => ?_) (fun k_1 hk_1 s_1 => ?_)
  · try dsimp only at s_1
    refine lv_iconst (v := (-1)) hx hb dX2_fitsAt_6 (by decide) ?_
    refine lv_icmp_eq (tgt := 32) hx hb dX2_fitsAt_7 (by decide) (fun _ => ?_) (fun c_2 => absurd rfl c_2)
    refine lv_iconst (v := nI 0) hx hb dX2_fitsAt_32 (by decide) ?_
    exact W.zret (v := nI 0) hx hb hr rfl (fun tt ht hW => ⟨_, rfl, (q_b0 (by simp [q_fit, s_1])), ht⟩) (fun _ h => absurd h List.not_mem_nil) dX2_fitsAt_33
  · try dsimp only at s_1 hk_1
    obtain ⟨ak_1, bk_1, dk_1, wk_1⟩ := hI.2.1 k_1 hk_1
    have n60 := hI.1
    try dsimp only at ak_1 bk_1 dk_1 wk_1 n60
    refine lv_iconst (v := (-1)) hx hb dX2_fitsAt_6 (by decide) ?_
    refine lv_icmp_eq (tgt := 32) hx hb dX2_fitsAt_7 (by decide) (fun c_3 => absurd c_3 (q_nm1 (by omega))) (fun _ => ?_)
    refine lv_aload_n hx hb dX2_fitsAt_10 rfl (lv_at hl 0 rfl) ?_
    refine qw_get (v := .ref (mm + 1)) (ci := 2) (C := RX2) (T := TX2) (N := 10) hx hb hts nX2_fitsAt_2 hown hK hM.1 rfl 1 (by decide) (hts (.fieldLink RX2 7 "DockGatesModel" "kind" "[I") (by decide +kernel)) rfl rfl dX2_fitsAt_11 ?_
    refine lv_aload_n hx hb dX2_fitsAt_14 rfl (lv_at hl 0 rfl) ?_
    refine qw_get (v := .ref (mm + 5)) (ci := 2) (C := RX2) (T := TX2) (N := 10) hx hb hts nX2_fitsAt_2 hown hK hM.1 rfl 5 (by decide) (hts (.fieldLink RX2 24 "DockGatesModel" "slots" "[I") (by decide +kernel)) rfl rfl dX2_fitsAt_15 ?_
    refine lv_iload_n hx hb dX2_fitsAt_18 rfl (lv_at hl 1 rfl) ?_
    refine qm_slotS hx hb hK hM s_1 hj dX2_fitsAt_19 ?_
    refine qw_iald (f := fun q => nI (kd q)) hx hb hK hM.2.1 (by omega) (by decide) dX2_fitsAt_20 ?_
    refine lv_iload_n hx hb dX2_fitsAt_21 rfl (lv_at hl 2 rfl) ?_
    refine qc_ri (r1 := q_b (q_go (kd k_1) g)) (W.runS (As := [.int (nI (kd k_1)), .int (nI g)]) (rest := []) ⟨hx, hb, hml, hown, hts⟩ (kX2_goes l (kd k_1) g (by omega) (by omega)) (va_cwS 2 hts gX2_fitsAt_X2_goes rfl rfl rfl (by decide +kernel) ⟨Nat.le_of_ble_eq_true rfl, Nat.le_of_ble_eq_true rfl⟩) preEq rfl rfl hl.1 rfl (lv_room (Nat.le_of_ble_eq_true rfl)) dX2_fitsAt_22 ⟨Nat.le_of_ble_eq_true rfl, Nat.le_of_ble_eq_true rfl⟩) rfl ?_
    refine ln_b_eq (tgt := 32) hx hb dX2_fitsAt_25 (by decide) (fun c_4 => ?_) (fun c_4 => ?_)
    · refine lv_iconst (v := nI 0) hx hb dX2_fitsAt_32 (by decide) ?_
      exact W.zret (v := nI 0) hx hb hr rfl (fun tt ht hW => ⟨_, rfl, (q_b0 (by simp [q_fit, s_1, c_4])), ht⟩) (fun _ h => absurd h List.not_mem_nil) dX2_fitsAt_33
    · refine lv_iconst (v := nI 1) hx hb dX2_fitsAt_28 (by decide) ?_
      refine lv_goto (tgt := 33) hx hb dX2_fitsAt_29 (by decide) ?_
      exact W.zret (v := nI 1) hx hb hr rfl (fun tt ht hW => ⟨_, rfl, (q_b1 (by simp [q_fit, s_1, c_4])), ht⟩) (fun _ h => absurd h List.not_mem_nil) dX2_fitsAt_33
set_option maxRecDepth 20000 in
theorem nX2_weighs_2 : ∀ w ∈ u_ws RX2 TX2 10, w ∈ wsX2_weighs := by decide +kernel
set_option maxHeartbeats 4000000 in
set_option maxRecDepth 100000 in
theorem kX2_weighs (l : Launch) (E : q_E) (mm S : Nat) (n : Nat) (kd sz : Nat → Nat) (sh : Nat → Bool) (nu : Nat → Nat → Int64) (pa : Nat → Nat → Option Nat) (sl : Nat → Option Nat) (ft tn ts tg : Int32) (hI : q_I (n, kd, sz, sh, nu, pa, sl, ft, tn, ts, tg)) (t : Nat) (ht : t < n)  : Met l yX2_weighs wsX2_weighs ({ frames := 0, cells := 0, slots := 0, locals := 0 }) (q_P E (q_M E mm S (n, kd, sz, sh, nu, pa, sl, ft, tn, ts, tg)) [.ref mm, .int (nI t)]) (vp_Si (fun rr => rr = nI (q_w kd sz sh t))) 0 0 (fun _ => False) := by
  refine Met.ofW (cc := cX2_weighs) (maxL := 2) (ret := (some .int)) (by decide) rfl ?_
  intro p e s m args below meth c s₁ B hml hv
  obtain ⟨rfl, hK, hM⟩ := hv
  have hx := B.exec
  have hb := B.bytes
  have hr := B.returns
  have hts := atoms_spec (ws := wsX2_weighs) B.pre
  have hown : s.vm.findClass RX2 = some m.cls := findClass_of_methodNamed B.named
  have hlocks := B.notSynchronized
  have hl := lv_entry ([.ref mm, .int (nI t)]) (n := 2) (Nat.le_of_ble_eq_true rfl)
  rw [lg_entry_eq]
  generalize (lg_sl ([.ref mm, .int (nI t)]) ++ List.replicate (2 - (lg_sl ([.ref mm, .int (nI t)])).length) Slot.unset).toArray = ls at hl ⊢
  have hl : lv_has ls 2 [(0, .ref mm), (1, .int (nI t))] := hl
  obtain ⟨at_, bt_, dt_, wt_⟩ := hI.2.1 t ht
  have n60 := hI.1
  try dsimp only at at_ bt_ dt_ wt_ n60
  refine lv_aload_n hx hb dX2_weighs_0 rfl (lv_at hl 0 rfl) ?_
  refine qw_get (v := .ref (mm + 1)) (ci := 2) (C := RX2) (T := TX2) (N := 10) hx hb hts nX2_weighs_2 hown hK hM.1 rfl 1 (by decide) (hts (.fieldLink RX2 7 "DockGatesModel" "kind" "[I") (by decide +kernel)) rfl rfl dX2_weighs_1 ?_
  refine lv_iload_n hx hb dX2_weighs_4 rfl (lv_at hl 1 rfl) ?_
  refine qw_iald (f := fun q => nI (kd q)) hx hb hK hM.2.1 (by omega) (by decide) dX2_weighs_5 ?_
  refine lv_bipush (v := nI 11) hx hb dX2_weighs_6 (by decide) ?_
  refine ln_cmp_ne (tgt := 22) hx hb (by omega) (by omega) dX2_weighs_8 (by decide) (fun c_1 => ?_) (fun c_1 => ?_)
  · refine lv_aload_n hx hb dX2_weighs_22 rfl (lv_at hl 0 rfl) ?_
    refine qw_get (v := .ref (mm + 2)) (ci := 2) (C := RX2) (T := TX2) (N := 10) hx hb hts nX2_weighs_2 hown hK hM.1 rfl 2 (by decide) (hts (.fieldLink RX2 13 "DockGatesModel" "size" "[I") (by decide +kernel)) rfl rfl dX2_weighs_23 ?_
    refine lv_iload_n hx hb dX2_weighs_26 rfl (lv_at hl 1 rfl) ?_
    refine qw_iald (f := fun q => nI (sz q)) hx hb hK hM.2.2.1 (by omega) (by decide) dX2_weighs_27 ?_
    refine lv_aload_n hx hb dX2_weighs_28 rfl (lv_at hl 0 rfl) ?_
    refine qw_get (v := .ref (mm + 3)) (ci := 2) (C := RX2) (T := TX2) (N := 10) hx hb hts nX2_weighs_2 hown hK hM.1 rfl 3 (by decide) (hts (.fieldLink RX2 16 "DockGatesModel" "isShut" "[Z") (by decide +kernel)) rfl rfl dX2_weighs_29 ?_
    refine lv_iload_n hx hb dX2_weighs_32 rfl (lv_at hl 1 rfl) ?_
    refine qw_zald (f := fun q => q_b (sh q)) hx hb hK hM.2.2.2.1 (by omega) (by decide) dX2_weighs_33 ?_
    refine ln_b_eq (tgt := 41) hx hb dX2_weighs_34 (by decide) (fun c_2 => ?_) (fun c_2 => ?_)
    · refine lv_iconst (v := nI 0) hx hb dX2_weighs_41 (by decide) ?_
      refine ln_add hx hb dX2_weighs_42 ?_
      exact W.iret (v := nI ((sz t) + 0)) hx hb hr (fun tt ht hW => ⟨_, rfl, (q_c (by unfold q_w; simp [c_1, c_2])), ht⟩) (fun _ h => absurd h List.not_mem_nil) dX2_weighs_43
    · refine lv_iconst (v := nI 1) hx hb dX2_weighs_37 (by decide) ?_
      refine lv_goto (tgt := 42) hx hb dX2_weighs_38 (by decide) ?_
      refine ln_add hx hb dX2_weighs_42 ?_
      exact W.iret (v := nI ((sz t) + 1)) hx hb hr (fun tt ht hW => ⟨_, rfl, (q_c (by unfold q_w; simp [c_1, c_2])), ht⟩) (fun _ h => absurd h List.not_mem_nil) dX2_weighs_43
  · refine lv_iconst (v := nI 2) hx hb dX2_weighs_11 (by decide) ?_
    refine lv_aload_n hx hb dX2_weighs_12 rfl (lv_at hl 0 rfl) ?_
    refine qw_get (v := .ref (mm + 2)) (ci := 2) (C := RX2) (T := TX2) (N := 10) hx hb hts nX2_weighs_2 hown hK hM.1 rfl 2 (by decide) (hts (.fieldLink RX2 13 "DockGatesModel" "size" "[I") (by decide +kernel)) rfl rfl dX2_weighs_13 ?_
    refine lv_iload_n hx hb dX2_weighs_16 rfl (lv_at hl 1 rfl) ?_
    refine qw_iald (f := fun q => nI (sz q)) hx hb hK hM.2.2.1 (by omega) (by decide) dX2_weighs_17 ?_
    refine ln_mul hx hb dX2_weighs_18 ?_
    refine lv_goto (tgt := 43) hx hb dX2_weighs_19 (by decide) ?_
    exact W.iret (v := nI (2 * (sz t))) hx hb hr (fun tt ht hW => ⟨_, rfl, (q_c (by unfold q_w; simp [c_1])), ht⟩) (fun _ h => absurd h List.not_mem_nil) dX2_weighs_43
set_option maxRecDepth 20000 in
theorem nX2_sumOf_2 : ∀ w ∈ u_ws RX2 TX2 10, w ∈ wsX2_sumOf := by decide +kernel
set_option maxHeartbeats 4000000 in
set_option maxRecDepth 100000 in
theorem kX2_sumOf (l : Launch) (E : q_E) (mm S : Nat) (n : Nat) (kd sz : Nat → Nat) (sh : Nat → Bool) (nu : Nat → Nat → Int64) (pa : Nat → Nat → Option Nat) (sl : Nat → Option Nat) (ft tn ts tg : Int32) (hI : q_I (n, kd, sz, sh, nu, pa, sl, ft, tn, ts, tg)) (t : Nat) (ht : t < n) (h3 : kd t < 3)  : Met l yX2_sumOf wsX2_sumOf ({ frames := 0, cells := 0, slots := 0, locals := 0 }) (q_P E (q_M E mm S (n, kd, sz, sh, nu, pa, sl, ft, tn, ts, tg)) [.ref mm, .int (nI t)]) (vp_Sl (fun rr => rr = q_so kd sz nu t)) 0 0 (fun _ => False) := by
  refine Met.ofW (cc := cX2_sumOf) (maxL := 5) (ret := (some .long)) (by decide) rfl ?_
  intro p e s m args below meth c s₁ B hml hv
  obtain ⟨rfl, hK, hM⟩ := hv
  have hx := B.exec
  have hb := B.bytes
  have hr := B.returns
  have hts := atoms_spec (ws := wsX2_sumOf) B.pre
  have hown : s.vm.findClass RX2 = some m.cls := findClass_of_methodNamed B.named
  have hlocks := B.notSynchronized
  have hl := lv_entry ([.ref mm, .int (nI t)]) (n := 5) (Nat.le_of_ble_eq_true rfl)
  rw [lg_entry_eq]
  generalize (lg_sl ([.ref mm, .int (nI t)]) ++ List.replicate (5 - (lg_sl ([.ref mm, .int (nI t)])).length) Slot.unset).toArray = ls at hl ⊢
  have hl : lv_has ls 5 [(0, .ref mm), (1, .int (nI t))] := hl
  obtain ⟨at_, bt_, dt_, wt_⟩ := hI.2.1 t ht
  have n60 := hI.1
  try dsimp only at at_ bt_ dt_ wt_ n60
  refine lv_lconst (v := 0) hx hb dX2_sumOf_0 (by decide) ?_
  refine lv_lstore_n (lv' := [(2, .long 0), (0, .ref mm), (1, .int (nI t))]) hx hb dX2_sumOf_1 rfl hl (by decide) rfl (fun ls hl => ?_)
  refine lv_iconst (v := nI 0) hx hb dX2_sumOf_2 (by decide) ?_
  refine lv_istore (lv' := [(4, .int (nI 0)), (2, .long 0), (0, .ref mm), (1, .int (nI t))]) hx hb dX2_sumOf_3 hl (by decide) rfl (fun ls hl => ?_)
  obtain ⟨i, ei⟩ : ∃ i : Nat, i = 0 := ⟨_, rfl⟩
  have hl : lv_has ls 5 [(0, .ref mm), (1, .int (nI t)), (2, .long (q_sm (nu t) i)), (4, .int (nI i))] := by subst ei; exact lv_sub hl [2, 3, 1, 0] rfl
  generalize els : ls = lz at hl ⊢
  clear els
  obtain ⟨d, hd⟩ : ∃ d, i + d = sz t := ⟨sz t - i, by omega⟩
  clear ei
  induction d generalizing i lz with
  | zero =>
    refine lv_iload hx hb dX2_sumOf_5 (lv_at hl 3 rfl) ?_
    refine lv_aload_n hx hb dX2_sumOf_7 rfl (lv_at hl 0 rfl) ?_
    refine qw_get (v := .ref (mm + 2)) (ci := 2) (C := RX2) (T := TX2) (N := 10) hx hb hts nX2_sumOf_2 hown hK hM.1 rfl 2 (by decide) (hts (.fieldLink RX2 13 "DockGatesModel" "size" "[I") (by decide +kernel)) rfl rfl dX2_sumOf_8 ?_
    refine lv_iload_n hx hb dX2_sumOf_11 rfl (lv_at hl 1 rfl) ?_
    refine qw_iald (f := fun q => nI (sz q)) hx hb hK hM.2.2.1 (by omega) (by decide) dX2_sumOf_12 ?_
    refine ln_cmp_ge (tgt := 37) hx hb (by omega) (by omega) dX2_sumOf_13 (by decide) (fun _ => ?_) (fun c_1 => absurd c_1 (by omega))
    refine lv_aload_n hx hb dX2_sumOf_37 rfl (lv_at hl 0 rfl) ?_
    refine qw_get (v := .ref (mm + 1)) (ci := 2) (C := RX2) (T := TX2) (N := 10) hx hb hts nX2_sumOf_2 hown hK hM.1 rfl 1 (by decide) (hts (.fieldLink RX2 7 "DockGatesModel" "kind" "[I") (by decide +kernel)) rfl rfl dX2_sumOf_38 ?_
    refine lv_iload_n hx hb dX2_sumOf_41 rfl (lv_at hl 1 rfl) ?_
    refine qw_iald (f := fun q => nI (kd q)) hx hb hK hM.2.1 (by omega) (by decide) dX2_sumOf_42 ?_
    refine lv_iconst (v := nI 2) hx hb dX2_sumOf_43 (by decide) ?_
    refine ln_cmp_ne (tgt := 51) hx hb (by omega) (by omega) dX2_sumOf_44 (by decide) (fun c_2 => ?_) (fun c_2 => ?_)
    · refine lv_lload_n hx hb dX2_sumOf_51 rfl (lv_at hl 2 rfl) ?_
      refine lv_l2i hx hb dX2_sumOf_52 rfl ?_
      refine lv_i2l hx hb dX2_sumOf_53 rfl ?_
      exact W.lret (v := Int32.toInt64 ((Int64.toInt32 (q_sm (nu t) i)))) hx hb hr (fun tt ht hW => ⟨_, rfl, (by unfold q_so q_num; rw [if_neg c_2, q_nl3 h3, ← hd]; rfl), ht⟩) (fun _ h => absurd h List.not_mem_nil) dX2_sumOf_54
    · refine lv_lload_n hx hb dX2_sumOf_47 rfl (lv_at hl 2 rfl) ?_
      refine lv_goto (tgt := 54) hx hb dX2_sumOf_48 (by decide) ?_
      exact W.lret (v := q_sm (nu t) i) hx hb hr (fun tt ht hW => ⟨_, rfl, (by unfold q_so q_num; rw [if_pos c_2, q_nl3 h3, ← hd]; rfl), ht⟩) (fun _ h => absurd h List.not_mem_nil) dX2_sumOf_54
  | succ d ih =>
    refine lv_iload hx hb dX2_sumOf_5 (lv_at hl 3 rfl) ?_
    refine lv_aload_n hx hb dX2_sumOf_7 rfl (lv_at hl 0 rfl) ?_
    refine qw_get (v := .ref (mm + 2)) (ci := 2) (C := RX2) (T := TX2) (N := 10) hx hb hts nX2_sumOf_2 hown hK hM.1 rfl 2 (by decide) (hts (.fieldLink RX2 13 "DockGatesModel" "size" "[I") (by decide +kernel)) rfl rfl dX2_sumOf_8 ?_
    refine lv_iload_n hx hb dX2_sumOf_11 rfl (lv_at hl 1 rfl) ?_
    refine qw_iald (f := fun q => nI (sz q)) hx hb hK hM.2.2.1 (by omega) (by decide) dX2_sumOf_12 ?_
    refine ln_cmp_ge (tgt := 37) hx hb (by omega) (by omega) dX2_sumOf_13 (by decide) (fun c_3 => absurd c_3 (by omega)) (fun _ => ?_)
    refine lv_lload_n hx hb dX2_sumOf_16 rfl (lv_at hl 2 rfl) ?_
    refine lv_aload_n hx hb dX2_sumOf_17 rfl (lv_at hl 0 rfl) ?_
    refine qw_get (v := .ref (mm + 4)) (ci := 2) (C := RX2) (T := TX2) (N := 10) hx hb hts nX2_sumOf_2 hown hK hM.1 rfl 4 (by decide) (hts (.fieldLink RX2 20 "DockGatesModel" "cell" "[J") (by decide +kernel)) rfl rfl dX2_sumOf_18 ?_
    refine lv_bipush (v := nI 8) hx hb dX2_sumOf_21 (by decide) ?_
    refine lv_iload_n hx hb dX2_sumOf_23 rfl (lv_at hl 1 rfl) ?_
    refine ln_mul hx hb dX2_sumOf_24 ?_
    refine lv_iload hx hb dX2_sumOf_25 (lv_at hl 3 rfl) ?_
    refine ln_add hx hb dX2_sumOf_27 ?_
    refine qm_num (k := t) (i := i) hx hb hK hM (by omega) (by omega) (show ¬ (3 ≤ kd t ∧ kd t < 9) by omega) dX2_sumOf_28 ?_
    refine lv_ladd hx hb dX2_sumOf_29 ?_
    refine lv_lstore_n (lv' := [(2, .long ((q_sm (nu t) i) + (nu t i))), (0, .ref mm), (1, .int (nI t)), (4, .int (nI i))]) hx hb dX2_sumOf_30 rfl hl (by decide) rfl (fun ls hl => ?_)
    refine lv_iinc (v := nI (i + 1)) (lv' := [(4, .int (nI (i + 1))), (2, .long ((q_sm (nu t) i) + (nu t i))), (0, .ref mm), (1, .int (nI t))]) hx hb dX2_sumOf_31 hl (k := 3) rfl (nI_1 _) (by decide) rfl (fun ls hl => ?_)
    refine lv_goto (tgt := 5) hx hb dX2_sumOf_34 (by decide) ?_
    exact ih (i + 1) ls (lv_sub hl [2, 3, 1, 0] rfl)  (by omega) 
set_option maxRecDepth 20000 in
theorem nX2_insideOf_2 : ∀ w ∈ u_ws RX2 TX2 10, w ∈ wsX2_insideOf := by decide +kernel
set_option maxHeartbeats 4000000 in
set_option maxRecDepth 100000 in
theorem kX2_insideOf_f (l : Launch) (E : q_E) (mm S : Nat) (n : Nat) (kd sz : Nat → Nat) (sh : Nat → Bool) (nu : Nat → Nat → Int64) (pa : Nat → Nat → Option Nat) (sl : Nat → Option Nat) (ft tn ts tg : Int32) (hI : q_I (n, kd, sz, sh, nu, pa, sl, ft, tn, ts, tg)) (t : Nat) (ht : t < n) (hkk : 4 ≤ kd t ∧ kd t ≤ 6)  : Met l yX2_insideOf wsX2_insideOf ({ frames := 1, cells := 0, slots := 0, locals := 21 }) (q_P E (q_M E mm S (n, kd, sz, sh, nu, pa, sl, ft, tn, ts, tg)) [.ref mm, .int (nI t), .int (nI 0)]) (q_Wi (q_M E mm S) (q_Am mm) (nI (q_ins kd sz sh pa false t)) (n, kd, sz, sh, nu, pa, sl, q_fh (q_ho1 kd sz pa t) ft, tn, ts, tg)) 0 0 (q_Am mm) := by
  refine Met.ofW (cc := cX2_insideOf) (maxL := 6) (ret := (some .int)) (by decide) rfl ?_
  intro p e s m args below meth c s₁ B hml hv
  obtain ⟨rfl, hK, hM⟩ := hv
  have hx := B.exec
  have hb := B.bytes
  have hr := B.returns
  have hts := atoms_spec (ws := wsX2_insideOf) B.pre
  have hown : s.vm.findClass RX2 = some m.cls := findClass_of_methodNamed B.named
  have hlocks := B.notSynchronized
  have hl := lv_entry ([.ref mm, .int (nI t), .int (nI 0)]) (n := 6) (Nat.le_of_ble_eq_true rfl)
  rw [lg_entry_eq]
  generalize (lg_sl ([.ref mm, .int (nI t), .int (nI 0)]) ++ List.replicate (6 - (lg_sl ([.ref mm, .int (nI t), .int (nI 0)])).length) Slot.unset).toArray = ls at hl ⊢
  have hl : lv_has ls 6 [(0, .ref mm), (1, .int (nI t)), (2, .int (nI 0))] := hl
  have hS : va_S (q_Am mm) s.heap s.heap [] := va_S.rf
  obtain ⟨at_, bt_, dt_, wt_⟩ := hI.2.1 t ht
  have n60 := hI.1
  try dsimp only at at_ bt_ dt_ wt_ n60
  refine lv_iconst (v := nI 0) hx hb dX2_insideOf_0 (by decide) ?_
  refine lv_istore_n (lv' := [(3, .int (nI 0)), (0, .ref mm), (1, .int (nI t)), (2, .int (nI 0))]) hx hb dX2_insideOf_1 rfl hl (by decide) rfl (fun ls hl => ?_)
  refine lv_iconst (v := nI 0) hx hb dX2_insideOf_2 (by decide) ?_
  refine lv_istore (lv' := [(4, .int (nI 0)), (3, .int (nI 0)), (0, .ref mm), (1, .int (nI t)), (2, .int (nI 0))]) hx hb dX2_insideOf_3 hl (by decide) rfl (fun ls hl => ?_)
  obtain ⟨i, ei⟩ : ∃ i : Nat, i = 0 := ⟨_, rfl⟩
  refine qw_name (P := fun H locs => q_M E mm S (n, kd, sz, sh, nu, pa, sl, (q_fh (q_h1 (pa t) i) ft), tn, ts, tg) H ∧ va_S (q_Am mm) s.heap H locs) (by subst ei; exact ⟨hM, hS⟩) (fun H locs hMS => ?_)
  clear hM hS
  obtain ⟨hM, hS⟩ := hMS
  have hl : lv_has ls 6 [(0, .ref mm), (1, .int (nI t)), (2, .int (nI 0)), (3, .int (nI (q_su (q_ld kd sz sh false) (pa t) i))), (4, .int (nI i))] := by subst ei; exact lv_sub hl [2, 3, 4, 1, 0] rfl
  generalize els : ls = lz at hl ⊢
  clear els
  obtain ⟨d, hd⟩ : ∃ d, i + d = sz t := ⟨sz t - i, by omega⟩
  clear ei
  induction d generalizing i H locs lz with
  | zero =>
    refine lv_iload hx hb dX2_insideOf_5 (lv_at hl 4 rfl) ?_
    refine lv_aload_n hx hb dX2_insideOf_7 rfl (lv_at hl 0 rfl) ?_
    refine qw_get (v := .ref (mm + 2)) (ci := 2) (C := RX2) (T := TX2) (N := 10) hx hb hts nX2_insideOf_2 hown hK hM.1 rfl 2 (by decide) (hts (.fieldLink RX2 13 "DockGatesModel" "size" "[I") (by decide +kernel)) rfl rfl dX2_insideOf_8 ?_
    refine lv_iload_n hx hb dX2_insideOf_11 rfl (lv_at hl 1 rfl) ?_
    refine qw_iald (f := fun q => nI (sz q)) hx hb hK hM.2.2.1 (by omega) (by decide) dX2_insideOf_12 ?_
    refine ln_cmp_ge (tgt := 82) hx hb (by omega) (by omega) dX2_insideOf_13 (by decide) (fun _ => ?_) (fun c_1 => absurd c_1 (by omega))
    refine lv_iload_n hx hb dX2_insideOf_82 rfl (lv_at hl 3 rfl) ?_
    exact W.iret (v := nI (q_su (q_ld kd sz sh false) (pa t) i)) hx hb hr (fun tt ht hW => ⟨⟨nI (q_su (q_ld kd sz sh false) (pa t) i), (n, kd, sz, sh, nu, pa, sl, (q_fh (q_h1 (pa t) i) ft), tn, ts, tg), rfl, ⟨(q_c (by unfold q_ins; rw [q_pl39 (by omega) (by omega), ← hd]; rfl)), (by unfold q_ho1; rw [q_pl39 (by omega) (by omega), ← hd]; rfl)⟩, (by show q_M E mm S (n, kd, sz, sh, nu, pa, sl, (q_fh (q_h1 (pa t) i) ft), tn, ts, tg) tt.heap; rw [ht]; exact hM)⟩, hS.F ht⟩) hS.2.2 dX2_insideOf_83
  | succ d ih =>
    refine lv_iload hx hb dX2_insideOf_5 (lv_at hl 4 rfl) ?_
    refine lv_aload_n hx hb dX2_insideOf_7 rfl (lv_at hl 0 rfl) ?_
    refine qw_get (v := .ref (mm + 2)) (ci := 2) (C := RX2) (T := TX2) (N := 10) hx hb hts nX2_insideOf_2 hown hK hM.1 rfl 2 (by decide) (hts (.fieldLink RX2 13 "DockGatesModel" "size" "[I") (by decide +kernel)) rfl rfl dX2_insideOf_8 ?_
    refine lv_iload_n hx hb dX2_insideOf_11 rfl (lv_at hl 1 rfl) ?_
    refine qw_iald (f := fun q => nI (sz q)) hx hb hK hM.2.2.1 (by omega) (by decide) dX2_insideOf_12 ?_
    refine ln_cmp_ge (tgt := 82) hx hb (by omega) (by omega) dX2_insideOf_13 (by decide) (fun c_2 => absurd c_2 (by omega)) (fun _ => ?_)
    refine lv_aload_n hx hb dX2_insideOf_16 rfl (lv_at hl 0 rfl) ?_
    refine qw_get (v := .ref (mm + 4)) (ci := 2) (C := RX2) (T := TX2) (N := 10) hx hb hts nX2_insideOf_2 hown hK hM.1 rfl 4 (by decide) (hts (.fieldLink RX2 20 "DockGatesModel" "cell" "[J") (by decide +kernel)) rfl rfl dX2_insideOf_17 ?_
    refine lv_bipush (v := nI 8) hx hb dX2_insideOf_20 (by decide) ?_
    refine lv_iload_n hx hb dX2_insideOf_22 rfl (lv_at hl 1 rfl) ?_
    refine ln_mul hx hb dX2_insideOf_23 ?_
    refine lv_iload hx hb dX2_insideOf_24 (lv_at hl 4 rfl) ?_
    refine ln_add hx hb dX2_insideOf_26 ?_
    refine qm_part (k := t) (i := i) hx hb hK hM hI ht (by omega) (show 3 ≤ kd t ∧ kd t < 9 by omega) dX2_insideOf_27 (fun s_3 => ?_) (fun y_3 hy_3 oy_3 s_3 => ?_)
    · try dsimp only at s_3
      refine lv_l2i (v := (-1)) hx hb dX2_insideOf_28 (by decide) ?_
      refine lv_istore (lv' := [(5, .int ((-1))), (0, .ref mm), (1, .int (nI t)), (2, .int (nI 0)), (3, .int (nI (q_su (q_ld kd sz sh false) (pa t) i))), (4, .int (nI i))]) hx hb dX2_insideOf_29 hl (by decide) rfl (fun ls hl => ?_)
      refine lv_iload hx hb dX2_insideOf_31 (lv_at hl 0 rfl) ?_
      refine lv_iconst (v := (-1)) hx hb dX2_insideOf_33 (by decide) ?_
      refine lv_icmp_ne (tgt := 45) hx hb dX2_insideOf_34 (by decide) (fun c_4 => absurd rfl c_4) (fun _ => ?_)
      refine lv_aload_n hx hb dX2_insideOf_37 rfl (lv_at hl 1 rfl) ?_
      refine lv_iconst (v := nI 4) hx hb dX2_insideOf_38 (by decide) ?_
      refine qw_put (ci := 2) (C := RX2) (T := TX2) (N := 10) hx hb hts nX2_insideOf_2 tyX2 tyX2_ok nmX2 hown hK hM.1 hS ⟨by omega, by omega⟩ rfl 6 (by decide) (hts (.fieldLink RX2 42 "DockGatesModel" "fault" "I") (by decide +kernel)) rfl rfl rfl rfl (Nat.le_of_ble_eq_true rfl) dX2_insideOf_39 (fun H locs hO hz hq hS => ?_)
      have hM : q_M E mm S (n, kd, sz, sh, nu, pa, sl, (nI 4), tn, ts, tg) H := hM.obj hO hz hq
      refine lv_goto (tgt := 76) hx hb dX2_insideOf_42 (by decide) ?_
      refine lv_iinc (v := nI (i + 1)) (lv' := [(4, .int (nI (i + 1))), (5, .int ((-1))), (0, .ref mm), (1, .int (nI t)), (2, .int (nI 0)), (3, .int (nI (q_su (q_ld kd sz sh false) (pa t) i)))]) hx hb dX2_insideOf_76 hl (k := 5) rfl (nI_1 _) (by decide) rfl (fun ls hl => ?_)
      refine lv_goto (tgt := 5) hx hb dX2_insideOf_79 (by decide) ?_
      exact ih (i + 1) H locs (by rw [q_fh_n s_3]; exact hM) hS ls (by rw [q_su_n s_3]; exact lv_sub hl [2, 3, 4, 5, 0] rfl)  (by omega) 
    · try dsimp only at s_3 hy_3 oy_3
      unfold q_ok at oy_3
      obtain ⟨ay_3, by_3, dy_3, wy_3⟩ := hI.2.1 y_3 hy_3
      have n60 := hI.1
      try dsimp only at ay_3 by_3 dy_3 wy_3 n60
      refine lv_l2i (v := nI y_3) hx hb dX2_insideOf_28 (lN_i _) ?_
      refine lv_istore (lv' := [(5, .int (nI y_3)), (0, .ref mm), (1, .int (nI t)), (2, .int (nI 0)), (3, .int (nI (q_su (q_ld kd sz sh false) (pa t) i))), (4, .int (nI i))]) hx hb dX2_insideOf_29 hl (by decide) rfl (fun ls hl => ?_)
      refine lv_iload hx hb dX2_insideOf_31 (lv_at hl 0 rfl) ?_
      refine lv_iconst (v := (-1)) hx hb dX2_insideOf_33 (by decide) ?_
      refine lv_icmp_ne (tgt := 45) hx hb dX2_insideOf_34 (by decide) (fun _ => ?_) (fun c_5 => absurd c_5 (q_nm1 (by omega)))
      refine lv_iload_n hx hb dX2_insideOf_45 rfl (lv_at hl 4 rfl) ?_
      refine lv_iload_n hx hb dX2_insideOf_46 rfl (lv_at hl 3 rfl) ?_
      refine ln_if_eq (tgt := 68) hx hb (by omega) dX2_insideOf_47 (by decide) (fun _ => ?_) (fun c_6 => absurd c_6 (by omega))
      refine lv_aload_n hx hb dX2_insideOf_68 rfl (lv_at hl 1 rfl) ?_
      refine lv_iload hx hb dX2_insideOf_69 (lv_at hl 0 rfl) ?_
      refine qc_ri (r1 := nI (q_w kd sz sh y_3)) (W.runV (As := [.int (nI y_3)]) (rest := [.int (nI (q_su (q_ld kd sz sh false) (pa t) i))]) ⟨hx, hb, hml, hown, hts⟩ (kX2_weighs l E mm S n kd sz sh nu pa sl ((q_fh (q_h1 (pa t) i) ft)) tn ts tg hI y_3 hy_3) (cwV 1 hts gX2_insideOf_X2_weighs rfl rfl rfl (by decide +kernel) ⟨Nat.le_of_ble_eq_true rfl, Nat.le_of_ble_eq_true rfl⟩) (q_preV hK hM hM.1 rfl) rfl rfl hl.1 rfl (lv_room (Nat.le_of_ble_eq_true rfl)) dX2_insideOf_71 ⟨Nat.le_of_ble_eq_true rfl, Nat.le_of_ble_eq_true rfl⟩) rfl ?_
      have iy_3 := q_w_le (kd := kd) (sh := sh) by_3
      refine ln_add hx hb dX2_insideOf_74 ?_
      refine lv_istore_n (lv' := [(3, .int (nI ((q_su (q_ld kd sz sh false) (pa t) i) + (q_w kd sz sh y_3)))), (5, .int (nI y_3)), (0, .ref mm), (1, .int (nI t)), (2, .int (nI 0)), (4, .int (nI i))]) hx hb dX2_insideOf_75 rfl hl (by decide) rfl (fun ls hl => ?_)
      refine lv_iinc (v := nI (i + 1)) (lv' := [(4, .int (nI (i + 1))), (3, .int (nI ((q_su (q_ld kd sz sh false) (pa t) i) + (q_w kd sz sh y_3)))), (5, .int (nI y_3)), (0, .ref mm), (1, .int (nI t)), (2, .int (nI 0))]) hx hb dX2_insideOf_76 hl (k := 5) rfl (nI_1 _) (by decide) rfl (fun ls hl => ?_)
      refine lv_goto (tgt := 5) hx hb dX2_insideOf_79 (by decide) ?_
      exact ih (i + 1) H locs (by rw [q_fh_s s_3]; exact hM) hS ls (by rw [q_su_s s_3]; exact lv_sub hl [3, 4, 5, 1, 0] rfl)  (by omega) 
set_option maxHeartbeats 4000000 in
set_option maxRecDepth 100000 in
theorem kX2_insideOf_t (l : Launch) (E : q_E) (mm S : Nat) (n : Nat) (kd sz : Nat → Nat) (sh : Nat → Bool) (nu : Nat → Nat → Int64) (pa : Nat → Nat → Option Nat) (sl : Nat → Option Nat) (ft tn ts tg : Int32) (hI : q_I (n, kd, sz, sh, nu, pa, sl, ft, tn, ts, tg)) (t : Nat) (ht : t < n) (hkk : 4 ≤ kd t ∧ kd t ≤ 6)  : Met l yX2_insideOf wsX2_insideOf ({ frames := 1, cells := 0, slots := 0, locals := 21 }) (q_P E (q_M E mm S (n, kd, sz, sh, nu, pa, sl, ft, tn, ts, tg)) [.ref mm, .int (nI t), .int (nI 1)]) (q_Wi (q_M E mm S) (q_Am mm) (nI (q_ins kd sz sh pa true t)) (n, kd, sz, sh, nu, pa, sl, q_fh (q_ho1 kd sz pa t) ft, tn, ts, tg)) 0 0 (q_Am mm) := by
  refine Met.ofW (cc := cX2_insideOf) (maxL := 6) (ret := (some .int)) (by decide) rfl ?_
  intro p e s m args below meth c s₁ B hml hv
  obtain ⟨rfl, hK, hM⟩ := hv
  have hx := B.exec
  have hb := B.bytes
  have hr := B.returns
  have hts := atoms_spec (ws := wsX2_insideOf) B.pre
  have hown : s.vm.findClass RX2 = some m.cls := findClass_of_methodNamed B.named
  have hlocks := B.notSynchronized
  have hl := lv_entry ([.ref mm, .int (nI t), .int (nI 1)]) (n := 6) (Nat.le_of_ble_eq_true rfl)
  rw [lg_entry_eq]
  generalize (lg_sl ([.ref mm, .int (nI t), .int (nI 1)]) ++ List.replicate (6 - (lg_sl ([.ref mm, .int (nI t), .int (nI 1)])).length) Slot.unset).toArray = ls at hl ⊢
  have hl : lv_has ls 6 [(0, .ref mm), (1, .int (nI t)), (2, .int (nI 1))] := hl
  have hS : va_S (q_Am mm) s.heap s.heap [] := va_S.rf
  obtain ⟨at_, bt_, dt_, wt_⟩ := hI.2.1 t ht
  have n60 := hI.1
  try dsimp only at at_ bt_ dt_ wt_ n60
  refine lv_iconst (v := nI 0) hx hb dX2_insideOf_0 (by decide) ?_
  refine lv_istore_n (lv' := [(3, .int (nI 0)), (0, .ref mm), (1, .int (nI t)), (2, .int (nI 1))]) hx hb dX2_insideOf_1 rfl hl (by decide) rfl (fun ls hl => ?_)
  refine lv_iconst (v := nI 0) hx hb dX2_insideOf_2 (by decide) ?_
  refine lv_istore (lv' := [(4, .int (nI 0)), (3, .int (nI 0)), (0, .ref mm), (1, .int (nI t)), (2, .int (nI 1))]) hx hb dX2_insideOf_3 hl (by decide) rfl (fun ls hl => ?_)
  obtain ⟨i, ei⟩ : ∃ i : Nat, i = 0 := ⟨_, rfl⟩
  refine qw_name (P := fun H locs => q_M E mm S (n, kd, sz, sh, nu, pa, sl, (q_fh (q_h1 (pa t) i) ft), tn, ts, tg) H ∧ va_S (q_Am mm) s.heap H locs) (by subst ei; exact ⟨hM, hS⟩) (fun H locs hMS => ?_)
  clear hM hS
  obtain ⟨hM, hS⟩ := hMS
  have hl : lv_has ls 6 [(0, .ref mm), (1, .int (nI t)), (2, .int (nI 1)), (3, .int (nI (q_su (q_ld kd sz sh true) (pa t) i))), (4, .int (nI i))] := by subst ei; exact lv_sub hl [2, 3, 4, 1, 0] rfl
  generalize els : ls = lz at hl ⊢
  clear els
  obtain ⟨d, hd⟩ : ∃ d, i + d = sz t := ⟨sz t - i, by omega⟩
  clear ei
  induction d generalizing i H locs lz with
  | zero =>
    refine lv_iload hx hb dX2_insideOf_5 (lv_at hl 4 rfl) ?_
    refine lv_aload_n hx hb dX2_insideOf_7 rfl (lv_at hl 0 rfl) ?_
    refine qw_get (v := .ref (mm + 2)) (ci := 2) (C := RX2) (T := TX2) (N := 10) hx hb hts nX2_insideOf_2 hown hK hM.1 rfl 2 (by decide) (hts (.fieldLink RX2 13 "DockGatesModel" "size" "[I") (by decide +kernel)) rfl rfl dX2_insideOf_8 ?_
    refine lv_iload_n hx hb dX2_insideOf_11 rfl (lv_at hl 1 rfl) ?_
    refine qw_iald (f := fun q => nI (sz q)) hx hb hK hM.2.2.1 (by omega) (by decide) dX2_insideOf_12 ?_
    refine ln_cmp_ge (tgt := 82) hx hb (by omega) (by omega) dX2_insideOf_13 (by decide) (fun _ => ?_) (fun c_1 => absurd c_1 (by omega))
    refine lv_iload_n hx hb dX2_insideOf_82 rfl (lv_at hl 3 rfl) ?_
    exact W.iret (v := nI (q_su (q_ld kd sz sh true) (pa t) i)) hx hb hr (fun tt ht hW => ⟨⟨nI (q_su (q_ld kd sz sh true) (pa t) i), (n, kd, sz, sh, nu, pa, sl, (q_fh (q_h1 (pa t) i) ft), tn, ts, tg), rfl, ⟨(q_c (by unfold q_ins; rw [q_pl39 (by omega) (by omega), ← hd]; rfl)), (by unfold q_ho1; rw [q_pl39 (by omega) (by omega), ← hd]; rfl)⟩, (by show q_M E mm S (n, kd, sz, sh, nu, pa, sl, (q_fh (q_h1 (pa t) i) ft), tn, ts, tg) tt.heap; rw [ht]; exact hM)⟩, hS.F ht⟩) hS.2.2 dX2_insideOf_83
  | succ d ih =>
    refine lv_iload hx hb dX2_insideOf_5 (lv_at hl 4 rfl) ?_
    refine lv_aload_n hx hb dX2_insideOf_7 rfl (lv_at hl 0 rfl) ?_
    refine qw_get (v := .ref (mm + 2)) (ci := 2) (C := RX2) (T := TX2) (N := 10) hx hb hts nX2_insideOf_2 hown hK hM.1 rfl 2 (by decide) (hts (.fieldLink RX2 13 "DockGatesModel" "size" "[I") (by decide +kernel)) rfl rfl dX2_insideOf_8 ?_
    refine lv_iload_n hx hb dX2_insideOf_11 rfl (lv_at hl 1 rfl) ?_
    refine qw_iald (f := fun q => nI (sz q)) hx hb hK hM.2.2.1 (by omega) (by decide) dX2_insideOf_12 ?_
    refine ln_cmp_ge (tgt := 82) hx hb (by omega) (by omega) dX2_insideOf_13 (by decide) (fun c_2 => absurd c_2 (by omega)) (fun _ => ?_)
    refine lv_aload_n hx hb dX2_insideOf_16 rfl (lv_at hl 0 rfl) ?_
    refine qw_get (v := .ref (mm + 4)) (ci := 2) (C := RX2) (T := TX2) (N := 10) hx hb hts nX2_insideOf_2 hown hK hM.1 rfl 4 (by decide) (hts (.fieldLink RX2 20 "DockGatesModel" "cell" "[J") (by decide +kernel)) rfl rfl dX2_insideOf_17 ?_
    refine lv_bipush (v := nI 8) hx hb dX2_insideOf_20 (by decide) ?_
    refine lv_iload_n hx hb dX2_insideOf_22 rfl (lv_at hl 1 rfl) ?_
    refine ln_mul hx hb dX2_insideOf_23 ?_
    refine lv_iload hx hb dX2_insideOf_24 (lv_at hl 4 rfl) ?_
    refine ln_add hx hb dX2_insideOf_26 ?_
    refine qm_part (k := t) (i := i) hx hb hK hM hI ht (by omega) (show 3 ≤ kd t ∧ kd t < 9 by omega) dX2_insideOf_27 (fun s_3 => ?_) (fun y_3 hy_3 oy_3 s_3 => ?_)
    · try dsimp only at s_3
      refine lv_l2i (v := (-1)) hx hb dX2_insideOf_28 (by decide) ?_
      refine lv_istore (lv' := [(5, .int ((-1))), (0, .ref mm), (1, .int (nI t)), (2, .int (nI 1)), (3, .int (nI (q_su (q_ld kd sz sh true) (pa t) i))), (4, .int (nI i))]) hx hb dX2_insideOf_29 hl (by decide) rfl (fun ls hl => ?_)
      refine lv_iload hx hb dX2_insideOf_31 (lv_at hl 0 rfl) ?_
      refine lv_iconst (v := (-1)) hx hb dX2_insideOf_33 (by decide) ?_
      refine lv_icmp_ne (tgt := 45) hx hb dX2_insideOf_34 (by decide) (fun c_4 => absurd rfl c_4) (fun _ => ?_)
      refine lv_aload_n hx hb dX2_insideOf_37 rfl (lv_at hl 1 rfl) ?_
      refine lv_iconst (v := nI 4) hx hb dX2_insideOf_38 (by decide) ?_
      refine qw_put (ci := 2) (C := RX2) (T := TX2) (N := 10) hx hb hts nX2_insideOf_2 tyX2 tyX2_ok nmX2 hown hK hM.1 hS ⟨by omega, by omega⟩ rfl 6 (by decide) (hts (.fieldLink RX2 42 "DockGatesModel" "fault" "I") (by decide +kernel)) rfl rfl rfl rfl (Nat.le_of_ble_eq_true rfl) dX2_insideOf_39 (fun H locs hO hz hq hS => ?_)
      have hM : q_M E mm S (n, kd, sz, sh, nu, pa, sl, (nI 4), tn, ts, tg) H := hM.obj hO hz hq
      refine lv_goto (tgt := 76) hx hb dX2_insideOf_42 (by decide) ?_
      refine lv_iinc (v := nI (i + 1)) (lv' := [(4, .int (nI (i + 1))), (5, .int ((-1))), (0, .ref mm), (1, .int (nI t)), (2, .int (nI 1)), (3, .int (nI (q_su (q_ld kd sz sh true) (pa t) i)))]) hx hb dX2_insideOf_76 hl (k := 5) rfl (nI_1 _) (by decide) rfl (fun ls hl => ?_)
      refine lv_goto (tgt := 5) hx hb dX2_insideOf_79 (by decide) ?_
      exact ih (i + 1) H locs (by rw [q_fh_n s_3]; exact hM) hS ls (by rw [q_su_n s_3]; exact lv_sub hl [2, 3, 4, 5, 0] rfl)  (by omega) 
    · try dsimp only at s_3 hy_3 oy_3
      unfold q_ok at oy_3
      obtain ⟨ay_3, by_3, dy_3, wy_3⟩ := hI.2.1 y_3 hy_3
      have n60 := hI.1
      try dsimp only at ay_3 by_3 dy_3 wy_3 n60
      refine lv_l2i (v := nI y_3) hx hb dX2_insideOf_28 (lN_i _) ?_
      refine lv_istore (lv' := [(5, .int (nI y_3)), (0, .ref mm), (1, .int (nI t)), (2, .int (nI 1)), (3, .int (nI (q_su (q_ld kd sz sh true) (pa t) i))), (4, .int (nI i))]) hx hb dX2_insideOf_29 hl (by decide) rfl (fun ls hl => ?_)
      refine lv_iload hx hb dX2_insideOf_31 (lv_at hl 0 rfl) ?_
      refine lv_iconst (v := (-1)) hx hb dX2_insideOf_33 (by decide) ?_
      refine lv_icmp_ne (tgt := 45) hx hb dX2_insideOf_34 (by decide) (fun _ => ?_) (fun c_5 => absurd c_5 (q_nm1 (by omega)))
      refine lv_iload_n hx hb dX2_insideOf_45 rfl (lv_at hl 4 rfl) ?_
      refine lv_iload_n hx hb dX2_insideOf_46 rfl (lv_at hl 3 rfl) ?_
      refine ln_if_eq (tgt := 68) hx hb (by omega) dX2_insideOf_47 (by decide) (fun c_6 => absurd c_6 (by omega)) (fun _ => ?_)
      refine lv_aload_n hx hb dX2_insideOf_50 rfl (lv_at hl 1 rfl) ?_
      refine qw_get (v := .ref (mm + 3)) (ci := 2) (C := RX2) (T := TX2) (N := 10) hx hb hts nX2_insideOf_2 hown hK hM.1 rfl 3 (by decide) (hts (.fieldLink RX2 16 "DockGatesModel" "isShut" "[Z") (by decide +kernel)) rfl rfl dX2_insideOf_51 ?_
      refine lv_iload hx hb dX2_insideOf_54 (lv_at hl 0 rfl) ?_
      refine qw_zald (f := fun q => q_b (sh q)) hx hb hK hM.2.2.2.1 (by omega) (by decide) dX2_insideOf_56 ?_
      refine ln_b_eq (tgt := 64) hx hb dX2_insideOf_57 (by decide) (fun c_7 => ?_) (fun c_7 => ?_)
      · refine lv_iconst (v := nI 0) hx hb dX2_insideOf_64 (by decide) ?_
        refine lv_goto (tgt := 74) hx hb dX2_insideOf_65 (by decide) ?_
        refine ln_add hx hb dX2_insideOf_74 ?_
        refine lv_istore_n (lv' := [(3, .int (nI ((q_su (q_ld kd sz sh true) (pa t) i) + 0))), (5, .int (nI y_3)), (0, .ref mm), (1, .int (nI t)), (2, .int (nI 1)), (4, .int (nI i))]) hx hb dX2_insideOf_75 rfl hl (by decide) rfl (fun ls hl => ?_)
        refine lv_iinc (v := nI (i + 1)) (lv' := [(4, .int (nI (i + 1))), (3, .int (nI ((q_su (q_ld kd sz sh true) (pa t) i) + 0))), (5, .int (nI y_3)), (0, .ref mm), (1, .int (nI t)), (2, .int (nI 1))]) hx hb dX2_insideOf_76 hl (k := 5) rfl (nI_1 _) (by decide) rfl (fun ls hl => ?_)
        refine lv_goto (tgt := 5) hx hb dX2_insideOf_79 (by decide) ?_
        exact ih (i + 1) H locs (by rw [q_fh_s s_3]; exact hM) hS ls (by rw [q_su_s s_3, show q_ld kd sz sh true y_3 = 0 by simp [q_ld, c_7]]; exact lv_sub hl [3, 4, 5, 1, 0] rfl)  (by omega) 
      · refine lv_iconst (v := nI 1) hx hb dX2_insideOf_60 (by decide) ?_
        refine lv_goto (tgt := 74) hx hb dX2_insideOf_61 (by decide) ?_
        refine ln_add hx hb dX2_insideOf_74 ?_
        refine lv_istore_n (lv' := [(3, .int (nI ((q_su (q_ld kd sz sh true) (pa t) i) + 1))), (5, .int (nI y_3)), (0, .ref mm), (1, .int (nI t)), (2, .int (nI 1)), (4, .int (nI i))]) hx hb dX2_insideOf_75 rfl hl (by decide) rfl (fun ls hl => ?_)
        refine lv_iinc (v := nI (i + 1)) (lv' := [(4, .int (nI (i + 1))), (3, .int (nI ((q_su (q_ld kd sz sh true) (pa t) i) + 1))), (5, .int (nI y_3)), (0, .ref mm), (1, .int (nI t)), (2, .int (nI 1))]) hx hb dX2_insideOf_76 hl (k := 5) rfl (nI_1 _) (by decide) rfl (fun ls hl => ?_)
        refine lv_goto (tgt := 5) hx hb dX2_insideOf_79 (by decide) ?_
        exact ih (i + 1) H locs (by rw [q_fh_s s_3]; exact hM) hS ls (by rw [q_su_s s_3, show q_ld kd sz sh true y_3 = 1 by simp [q_ld, c_7]]; exact lv_sub hl [3, 4, 5, 1, 0] rfl)  (by omega) 
set_option maxRecDepth 20000 in
theorem nX2_rowsOf_2 : ∀ w ∈ u_ws RX2 TX2 10, w ∈ wsX2_rowsOf := by decide +kernel
set_option maxHeartbeats 4000000 in
set_option maxRecDepth 100000 in
theorem kX2_rowsOf_g (l : Launch) (E : q_E) (mm S : Nat) (n : Nat) (kd sz : Nat → Nat) (sh : Nat → Bool) (nu : Nat → Nat → Int64) (pa : Nat → Nat → Option Nat) (sl : Nat → Option Nat) (ft tn ts tg : Int32) (hI : q_I (n, kd, sz, sh, nu, pa, sl, ft, tn, ts, tg)) (t : Nat) (ht : t < n) (hkk : kd t = 3)  : Met l yX2_rowsOf wsX2_rowsOf ({ frames := 2, cells := 0, slots := 0, locals := 46 }) (q_P E (q_M E mm S (n, kd, sz, sh, nu, pa, sl, ft, tn, ts, tg)) [.ref mm, .int (nI t), .int (nI 3)]) (q_Wi (q_M E mm S) (q_Am mm) (q_grd kd sz nu pa t) (n, kd, sz, sh, nu, pa, sl, q_fh (q_ho2 kd sz pa t) ft, tn, ts, tg)) 0 0 (q_Am mm) := by
  refine Met.ofW (cc := cX2_rowsOf) (maxL := 6) (ret := (some .int)) (by decide) rfl ?_
  intro p e s m args below meth c s₁ B hml hv
  obtain ⟨rfl, hK, hM⟩ := hv
  have hx := B.exec
  have hb := B.bytes
  have hr := B.returns
  have hts := atoms_spec (ws := wsX2_rowsOf) B.pre
  have hown : s.vm.findClass RX2 = some m.cls := findClass_of_methodNamed B.named
  have hlocks := B.notSynchronized
  have hl := lv_entry ([.ref mm, .int (nI t), .int (nI 3)]) (n := 6) (Nat.le_of_ble_eq_true rfl)
  rw [lg_entry_eq]
  generalize (lg_sl ([.ref mm, .int (nI t), .int (nI 3)]) ++ List.replicate (6 - (lg_sl ([.ref mm, .int (nI t), .int (nI 3)])).length) Slot.unset).toArray = ls at hl ⊢
  have hl : lv_has ls 6 [(0, .ref mm), (1, .int (nI t)), (2, .int (nI 3))] := hl
  have hS : va_S (q_Am mm) s.heap s.heap [] := va_S.rf
  obtain ⟨at_, bt_, dt_, wt_⟩ := hI.2.1 t ht
  have n60 := hI.1
  try dsimp only at at_ bt_ dt_ wt_ n60
  refine lv_iconst (v := nI 0) hx hb dX2_rowsOf_0 (by decide) ?_
  refine lv_istore_n (lv' := [(3, .int (nI 0)), (0, .ref mm), (1, .int (nI t)), (2, .int (nI 3))]) hx hb dX2_rowsOf_1 rfl hl (by decide) rfl (fun ls hl => ?_)
  refine lv_iconst (v := nI 0) hx hb dX2_rowsOf_2 (by decide) ?_
  refine lv_istore (lv' := [(4, .int (nI 0)), (3, .int (nI 0)), (0, .ref mm), (1, .int (nI t)), (2, .int (nI 3))]) hx hb dX2_rowsOf_3 hl (by decide) rfl (fun ls hl => ?_)
  obtain ⟨i, ei⟩ : ∃ i : Nat, i = 0 := ⟨_, rfl⟩
  refine qw_name (P := fun H locs => q_M E mm S (n, kd, sz, sh, nu, pa, sl, (q_fh (q_h2 (q_ho1 kd sz pa) (pa t) i) ft), tn, ts, tg) H ∧ va_S (q_Am mm) s.heap H locs) (by subst ei; exact ⟨hM, hS⟩) (fun H locs hMS => ?_)
  clear hM hS
  obtain ⟨hM, hS⟩ := hMS
  have hl : lv_has ls 6 [(0, .ref mm), (1, .int (nI t)), (2, .int (nI 3)), (3, .int (q_gs (fun j => Int64.toInt32 (q_num kd sz nu j)) (pa t) i)), (4, .int (nI i))] := by subst ei; exact lv_sub hl [2, 3, 4, 1, 0] rfl
  generalize els : ls = lz at hl ⊢
  clear els
  obtain ⟨d, hd⟩ : ∃ d, i + d = sz t := ⟨sz t - i, by omega⟩
  clear ei
  induction d generalizing i H locs lz with
  | zero =>
    refine lv_iload hx hb dX2_rowsOf_5 (lv_at hl 4 rfl) ?_
    refine lv_aload_n hx hb dX2_rowsOf_7 rfl (lv_at hl 0 rfl) ?_
    refine qw_get (v := .ref (mm + 2)) (ci := 2) (C := RX2) (T := TX2) (N := 10) hx hb hts nX2_rowsOf_2 hown hK hM.1 rfl 2 (by decide) (hts (.fieldLink RX2 13 "DockGatesModel" "size" "[I") (by decide +kernel)) rfl rfl dX2_rowsOf_8 ?_
    refine lv_iload_n hx hb dX2_rowsOf_11 rfl (lv_at hl 1 rfl) ?_
    refine qw_iald (f := fun q => nI (sz q)) hx hb hK hM.2.2.1 (by omega) (by decide) dX2_rowsOf_12 ?_
    refine ln_cmp_ge (tgt := 86) hx hb (by omega) (by omega) dX2_rowsOf_13 (by decide) (fun _ => ?_) (fun c_1 => absurd c_1 (by omega))
    refine lv_iload_n hx hb dX2_rowsOf_86 rfl (lv_at hl 3 rfl) ?_
    exact W.iret (v := (q_gs (fun j => Int64.toInt32 (q_num kd sz nu j)) (pa t) i)) hx hb hr (fun tt ht hW => ⟨⟨(q_gs (fun j => Int64.toInt32 (q_num kd sz nu j)) (pa t) i), (n, kd, sz, sh, nu, pa, sl, (q_fh (q_h2 (q_ho1 kd sz pa) (pa t) i) ft), tn, ts, tg), rfl, ⟨(by unfold q_grd; rw [q_pl39 (by omega) (by omega), ← hd]; rfl), (by unfold q_ho2; rw [q_pl39 (by omega) (by omega), ← hd]; rfl)⟩, (by show q_M E mm S (n, kd, sz, sh, nu, pa, sl, (q_fh (q_h2 (q_ho1 kd sz pa) (pa t) i) ft), tn, ts, tg) tt.heap; rw [ht]; exact hM)⟩, hS.F ht⟩) hS.2.2 dX2_rowsOf_87
  | succ d ih =>
    refine lv_iload hx hb dX2_rowsOf_5 (lv_at hl 4 rfl) ?_
    refine lv_aload_n hx hb dX2_rowsOf_7 rfl (lv_at hl 0 rfl) ?_
    refine qw_get (v := .ref (mm + 2)) (ci := 2) (C := RX2) (T := TX2) (N := 10) hx hb hts nX2_rowsOf_2 hown hK hM.1 rfl 2 (by decide) (hts (.fieldLink RX2 13 "DockGatesModel" "size" "[I") (by decide +kernel)) rfl rfl dX2_rowsOf_8 ?_
    refine lv_iload_n hx hb dX2_rowsOf_11 rfl (lv_at hl 1 rfl) ?_
    refine qw_iald (f := fun q => nI (sz q)) hx hb hK hM.2.2.1 (by omega) (by decide) dX2_rowsOf_12 ?_
    refine ln_cmp_ge (tgt := 86) hx hb (by omega) (by omega) dX2_rowsOf_13 (by decide) (fun c_2 => absurd c_2 (by omega)) (fun _ => ?_)
    refine lv_aload_n hx hb dX2_rowsOf_16 rfl (lv_at hl 0 rfl) ?_
    refine qw_get (v := .ref (mm + 4)) (ci := 2) (C := RX2) (T := TX2) (N := 10) hx hb hts nX2_rowsOf_2 hown hK hM.1 rfl 4 (by decide) (hts (.fieldLink RX2 20 "DockGatesModel" "cell" "[J") (by decide +kernel)) rfl rfl dX2_rowsOf_17 ?_
    refine lv_bipush (v := nI 8) hx hb dX2_rowsOf_20 (by decide) ?_
    refine lv_iload_n hx hb dX2_rowsOf_22 rfl (lv_at hl 1 rfl) ?_
    refine ln_mul hx hb dX2_rowsOf_23 ?_
    refine lv_iload hx hb dX2_rowsOf_24 (lv_at hl 4 rfl) ?_
    refine ln_add hx hb dX2_rowsOf_26 ?_
    refine qm_part (k := t) (i := i) hx hb hK hM hI ht (by omega) (show 3 ≤ kd t ∧ kd t < 9 by omega) dX2_rowsOf_27 (fun s_3 => ?_) (fun y_3 hy_3 oy_3 s_3 => ?_)
    · try dsimp only at s_3
      refine lv_l2i (v := (-1)) hx hb dX2_rowsOf_28 (by decide) ?_
      refine lv_istore (lv' := [(5, .int ((-1))), (0, .ref mm), (1, .int (nI t)), (2, .int (nI 3)), (3, .int (q_gs (fun j => Int64.toInt32 (q_num kd sz nu j)) (pa t) i)), (4, .int (nI i))]) hx hb dX2_rowsOf_29 hl (by decide) rfl (fun ls hl => ?_)
      refine lv_iload hx hb dX2_rowsOf_31 (lv_at hl 0 rfl) ?_
      refine lv_iconst (v := (-1)) hx hb dX2_rowsOf_33 (by decide) ?_
      refine lv_icmp_ne (tgt := 45) hx hb dX2_rowsOf_34 (by decide) (fun c_4 => absurd rfl c_4) (fun _ => ?_)
      refine lv_aload_n hx hb dX2_rowsOf_37 rfl (lv_at hl 1 rfl) ?_
      refine lv_iconst (v := nI 4) hx hb dX2_rowsOf_38 (by decide) ?_
      refine qw_put (ci := 2) (C := RX2) (T := TX2) (N := 10) hx hb hts nX2_rowsOf_2 tyX2 tyX2_ok nmX2 hown hK hM.1 hS ⟨by omega, by omega⟩ rfl 6 (by decide) (hts (.fieldLink RX2 42 "DockGatesModel" "fault" "I") (by decide +kernel)) rfl rfl rfl rfl (Nat.le_of_ble_eq_true rfl) dX2_rowsOf_39 (fun H locs hO hz hq hS => ?_)
      have hM : q_M E mm S (n, kd, sz, sh, nu, pa, sl, (nI 4), tn, ts, tg) H := hM.obj hO hz hq
      refine lv_goto (tgt := 80) hx hb dX2_rowsOf_42 (by decide) ?_
      refine lv_iinc (v := nI (i + 1)) (lv' := [(4, .int (nI (i + 1))), (5, .int ((-1))), (0, .ref mm), (1, .int (nI t)), (2, .int (nI 3)), (3, .int (q_gs (fun j => Int64.toInt32 (q_num kd sz nu j)) (pa t) i))]) hx hb dX2_rowsOf_80 hl (k := 5) rfl (nI_1 _) (by decide) rfl (fun ls hl => ?_)
      refine lv_goto (tgt := 5) hx hb dX2_rowsOf_83 (by decide) ?_
      exact ih (i + 1) H locs (by rw [q_fh2_n s_3]; exact hM) hS ls (by rw [q_gs_n s_3]; exact lv_sub hl [2, 3, 4, 5, 0] rfl)  (by omega) 
    · try dsimp only at s_3 hy_3 oy_3
      unfold q_ok at oy_3
      obtain ⟨ay_3, by_3, dy_3, wy_3⟩ := hI.2.1 y_3 hy_3
      have n60 := hI.1
      try dsimp only at ay_3 by_3 dy_3 wy_3 n60
      refine lv_l2i (v := nI y_3) hx hb dX2_rowsOf_28 (lN_i _) ?_
      refine lv_istore (lv' := [(5, .int (nI y_3)), (0, .ref mm), (1, .int (nI t)), (2, .int (nI 3)), (3, .int (q_gs (fun j => Int64.toInt32 (q_num kd sz nu j)) (pa t) i)), (4, .int (nI i))]) hx hb dX2_rowsOf_29 hl (by decide) rfl (fun ls hl => ?_)
      refine lv_iload hx hb dX2_rowsOf_31 (lv_at hl 0 rfl) ?_
      refine lv_iconst (v := (-1)) hx hb dX2_rowsOf_33 (by decide) ?_
      refine lv_icmp_ne (tgt := 45) hx hb dX2_rowsOf_34 (by decide) (fun _ => ?_) (fun c_5 => absurd c_5 (q_nm1 (by omega)))
      refine lv_iload_n hx hb dX2_rowsOf_45 rfl (lv_at hl 4 rfl) ?_
      refine lv_iload_n hx hb dX2_rowsOf_46 rfl (lv_at hl 3 rfl) ?_
      refine lv_iconst (v := nI 3) hx hb dX2_rowsOf_47 (by decide) ?_
      refine ln_cmp_ne (tgt := 61) hx hb (by omega) (by omega) dX2_rowsOf_48 (by decide) (fun c_6 => absurd c_6 (by omega)) (fun _ => ?_)
      refine lv_aload_n hx hb dX2_rowsOf_51 rfl (lv_at hl 1 rfl) ?_
      refine lv_iload hx hb dX2_rowsOf_52 (lv_at hl 0 rfl) ?_
      refine qc_rl (r1 := Int32.toInt64 (Int64.toInt32 (q_num kd sz nu y_3))) (W.runV (As := [.int (nI y_3)]) (rest := [.int (q_gs (fun j => Int64.toInt32 (q_num kd sz nu j)) (pa t) i)]) ⟨hx, hb, hml, hown, hts⟩ (kX2_sumOf l E mm S n kd sz sh nu pa sl ((q_fh (q_h2 (q_ho1 kd sz pa) (pa t) i) ft)) tn ts tg hI y_3 hy_3 (by omega)) (cwV 1 hts gX2_rowsOf_X2_sumOf rfl rfl rfl (by decide +kernel) ⟨Nat.le_of_ble_eq_true rfl, Nat.le_of_ble_eq_true rfl⟩) (q_preV hK hM hM.1 rfl) rfl rfl hl.1 rfl (lv_room (Nat.le_of_ble_eq_true rfl)) dX2_rowsOf_54 ⟨Nat.le_of_ble_eq_true rfl, Nat.le_of_ble_eq_true rfl⟩) (if_neg (by omega)) ?_
      refine lv_l2i (v := Int64.toInt32 (q_num kd sz nu y_3)) hx hb dX2_rowsOf_57 (q_l2i _) ?_
      refine lv_goto (tgt := 78) hx hb dX2_rowsOf_58 (by decide) ?_
      refine lv_iadd hx hb dX2_rowsOf_78 ?_
      refine lv_istore_n (lv' := [(3, .int ((q_gs (fun j => Int64.toInt32 (q_num kd sz nu j)) (pa t) i) + (Int64.toInt32 (q_num kd sz nu y_3)))), (5, .int (nI y_3)), (0, .ref mm), (1, .int (nI t)), (2, .int (nI 3)), (4, .int (nI i))]) hx hb dX2_rowsOf_79 rfl hl (by decide) rfl (fun ls hl => ?_)
      refine lv_iinc (v := nI (i + 1)) (lv' := [(4, .int (nI (i + 1))), (3, .int ((q_gs (fun j => Int64.toInt32 (q_num kd sz nu j)) (pa t) i) + (Int64.toInt32 (q_num kd sz nu y_3)))), (5, .int (nI y_3)), (0, .ref mm), (1, .int (nI t)), (2, .int (nI 3))]) hx hb dX2_rowsOf_80 hl (k := 5) rfl (nI_1 _) (by decide) rfl (fun ls hl => ?_)
      refine lv_goto (tgt := 5) hx hb dX2_rowsOf_83 (by decide) ?_
      exact ih (i + 1) H locs (by rw [q_fh2_s s_3, q_ho1_0 (show ¬ (3 ≤ kd y_3 ∧ kd y_3 < 9) by omega)]; exact hM) hS ls (by rw [q_gs_s s_3]; exact lv_sub hl [3, 4, 5, 1, 0] rfl)  (by omega) 
set_option maxHeartbeats 4000000 in
set_option maxRecDepth 100000 in
theorem kX2_rowsOf_f (l : Launch) (E : q_E) (mm S : Nat) (n : Nat) (kd sz : Nat → Nat) (sh : Nat → Bool) (nu : Nat → Nat → Int64) (pa : Nat → Nat → Option Nat) (sl : Nat → Option Nat) (ft tn ts tg : Int32) (hI : q_I (n, kd, sz, sh, nu, pa, sl, ft, tn, ts, tg)) (t : Nat) (ht : t < n) (hkk : kd t = 7 ∨ kd t = 8)  : Met l yX2_rowsOf wsX2_rowsOf ({ frames := 2, cells := 0, slots := 0, locals := 46 }) (q_P E (q_M E mm S (n, kd, sz, sh, nu, pa, sl, ft, tn, ts, tg)) [.ref mm, .int (nI t), .int (nI 7)]) (q_Wi (q_M E mm S) (q_Am mm) (nI (q_rws kd sz sh pa false t)) (n, kd, sz, sh, nu, pa, sl, q_fh (q_ho2 kd sz pa t) ft, tn, ts, tg)) 0 0 (q_Am mm) := by
  refine Met.ofW (cc := cX2_rowsOf) (maxL := 6) (ret := (some .int)) (by decide) rfl ?_
  intro p e s m args below meth c s₁ B hml hv
  obtain ⟨rfl, hK, hM⟩ := hv
  have hx := B.exec
  have hb := B.bytes
  have hr := B.returns
  have hts := atoms_spec (ws := wsX2_rowsOf) B.pre
  have hown : s.vm.findClass RX2 = some m.cls := findClass_of_methodNamed B.named
  have hlocks := B.notSynchronized
  have hl := lv_entry ([.ref mm, .int (nI t), .int (nI 7)]) (n := 6) (Nat.le_of_ble_eq_true rfl)
  rw [lg_entry_eq]
  generalize (lg_sl ([.ref mm, .int (nI t), .int (nI 7)]) ++ List.replicate (6 - (lg_sl ([.ref mm, .int (nI t), .int (nI 7)])).length) Slot.unset).toArray = ls at hl ⊢
  have hl : lv_has ls 6 [(0, .ref mm), (1, .int (nI t)), (2, .int (nI 7))] := hl
  have hS : va_S (q_Am mm) s.heap s.heap [] := va_S.rf
  obtain ⟨at_, bt_, dt_, wt_⟩ := hI.2.1 t ht
  have n60 := hI.1
  try dsimp only at at_ bt_ dt_ wt_ n60
  refine lv_iconst (v := nI 0) hx hb dX2_rowsOf_0 (by decide) ?_
  refine lv_istore_n (lv' := [(3, .int (nI 0)), (0, .ref mm), (1, .int (nI t)), (2, .int (nI 7))]) hx hb dX2_rowsOf_1 rfl hl (by decide) rfl (fun ls hl => ?_)
  refine lv_iconst (v := nI 0) hx hb dX2_rowsOf_2 (by decide) ?_
  refine lv_istore (lv' := [(4, .int (nI 0)), (3, .int (nI 0)), (0, .ref mm), (1, .int (nI t)), (2, .int (nI 7))]) hx hb dX2_rowsOf_3 hl (by decide) rfl (fun ls hl => ?_)
  obtain ⟨i, ei⟩ : ∃ i : Nat, i = 0 := ⟨_, rfl⟩
  refine qw_name (P := fun H locs => q_M E mm S (n, kd, sz, sh, nu, pa, sl, (q_fh (q_h2 (q_ho1 kd sz pa) (pa t) i) ft), tn, ts, tg) H ∧ va_S (q_Am mm) s.heap H locs) (by subst ei; exact ⟨hM, hS⟩) (fun H locs hMS => ?_)
  clear hM hS
  obtain ⟨hM, hS⟩ := hMS
  have hl : lv_has ls 6 [(0, .ref mm), (1, .int (nI t)), (2, .int (nI 7)), (3, .int (nI (q_su (q_ins kd sz sh pa false) (pa t) i))), (4, .int (nI i))] := by subst ei; exact lv_sub hl [2, 3, 4, 1, 0] rfl
  generalize els : ls = lz at hl ⊢
  clear els
  obtain ⟨d, hd⟩ : ∃ d, i + d = sz t := ⟨sz t - i, by omega⟩
  clear ei
  induction d generalizing i H locs lz with
  | zero =>
    refine lv_iload hx hb dX2_rowsOf_5 (lv_at hl 4 rfl) ?_
    refine lv_aload_n hx hb dX2_rowsOf_7 rfl (lv_at hl 0 rfl) ?_
    refine qw_get (v := .ref (mm + 2)) (ci := 2) (C := RX2) (T := TX2) (N := 10) hx hb hts nX2_rowsOf_2 hown hK hM.1 rfl 2 (by decide) (hts (.fieldLink RX2 13 "DockGatesModel" "size" "[I") (by decide +kernel)) rfl rfl dX2_rowsOf_8 ?_
    refine lv_iload_n hx hb dX2_rowsOf_11 rfl (lv_at hl 1 rfl) ?_
    refine qw_iald (f := fun q => nI (sz q)) hx hb hK hM.2.2.1 (by omega) (by decide) dX2_rowsOf_12 ?_
    refine ln_cmp_ge (tgt := 86) hx hb (by omega) (by omega) dX2_rowsOf_13 (by decide) (fun _ => ?_) (fun c_1 => absurd c_1 (by omega))
    refine lv_iload_n hx hb dX2_rowsOf_86 rfl (lv_at hl 3 rfl) ?_
    exact W.iret (v := nI (q_su (q_ins kd sz sh pa false) (pa t) i)) hx hb hr (fun tt ht hW => ⟨⟨nI (q_su (q_ins kd sz sh pa false) (pa t) i), (n, kd, sz, sh, nu, pa, sl, (q_fh (q_h2 (q_ho1 kd sz pa) (pa t) i) ft), tn, ts, tg), rfl, ⟨(q_c (by unfold q_rws; rw [q_pl39 (by omega) (by omega), ← hd]; rfl)), (by unfold q_ho2; rw [q_pl39 (by omega) (by omega), ← hd]; rfl)⟩, (by show q_M E mm S (n, kd, sz, sh, nu, pa, sl, (q_fh (q_h2 (q_ho1 kd sz pa) (pa t) i) ft), tn, ts, tg) tt.heap; rw [ht]; exact hM)⟩, hS.F ht⟩) hS.2.2 dX2_rowsOf_87
  | succ d ih =>
    refine lv_iload hx hb dX2_rowsOf_5 (lv_at hl 4 rfl) ?_
    refine lv_aload_n hx hb dX2_rowsOf_7 rfl (lv_at hl 0 rfl) ?_
    refine qw_get (v := .ref (mm + 2)) (ci := 2) (C := RX2) (T := TX2) (N := 10) hx hb hts nX2_rowsOf_2 hown hK hM.1 rfl 2 (by decide) (hts (.fieldLink RX2 13 "DockGatesModel" "size" "[I") (by decide +kernel)) rfl rfl dX2_rowsOf_8 ?_
    refine lv_iload_n hx hb dX2_rowsOf_11 rfl (lv_at hl 1 rfl) ?_
    refine qw_iald (f := fun q => nI (sz q)) hx hb hK hM.2.2.1 (by omega) (by decide) dX2_rowsOf_12 ?_
    refine ln_cmp_ge (tgt := 86) hx hb (by omega) (by omega) dX2_rowsOf_13 (by decide) (fun c_2 => absurd c_2 (by omega)) (fun _ => ?_)
    refine lv_aload_n hx hb dX2_rowsOf_16 rfl (lv_at hl 0 rfl) ?_
    refine qw_get (v := .ref (mm + 4)) (ci := 2) (C := RX2) (T := TX2) (N := 10) hx hb hts nX2_rowsOf_2 hown hK hM.1 rfl 4 (by decide) (hts (.fieldLink RX2 20 "DockGatesModel" "cell" "[J") (by decide +kernel)) rfl rfl dX2_rowsOf_17 ?_
    refine lv_bipush (v := nI 8) hx hb dX2_rowsOf_20 (by decide) ?_
    refine lv_iload_n hx hb dX2_rowsOf_22 rfl (lv_at hl 1 rfl) ?_
    refine ln_mul hx hb dX2_rowsOf_23 ?_
    refine lv_iload hx hb dX2_rowsOf_24 (lv_at hl 4 rfl) ?_
    refine ln_add hx hb dX2_rowsOf_26 ?_
    refine qm_part (k := t) (i := i) hx hb hK hM hI ht (by omega) (show 3 ≤ kd t ∧ kd t < 9 by omega) dX2_rowsOf_27 (fun s_3 => ?_) (fun y_3 hy_3 oy_3 s_3 => ?_)
    · try dsimp only at s_3
      refine lv_l2i (v := (-1)) hx hb dX2_rowsOf_28 (by decide) ?_
      refine lv_istore (lv' := [(5, .int ((-1))), (0, .ref mm), (1, .int (nI t)), (2, .int (nI 7)), (3, .int (nI (q_su (q_ins kd sz sh pa false) (pa t) i))), (4, .int (nI i))]) hx hb dX2_rowsOf_29 hl (by decide) rfl (fun ls hl => ?_)
      refine lv_iload hx hb dX2_rowsOf_31 (lv_at hl 0 rfl) ?_
      refine lv_iconst (v := (-1)) hx hb dX2_rowsOf_33 (by decide) ?_
      refine lv_icmp_ne (tgt := 45) hx hb dX2_rowsOf_34 (by decide) (fun c_4 => absurd rfl c_4) (fun _ => ?_)
      refine lv_aload_n hx hb dX2_rowsOf_37 rfl (lv_at hl 1 rfl) ?_
      refine lv_iconst (v := nI 4) hx hb dX2_rowsOf_38 (by decide) ?_
      refine qw_put (ci := 2) (C := RX2) (T := TX2) (N := 10) hx hb hts nX2_rowsOf_2 tyX2 tyX2_ok nmX2 hown hK hM.1 hS ⟨by omega, by omega⟩ rfl 6 (by decide) (hts (.fieldLink RX2 42 "DockGatesModel" "fault" "I") (by decide +kernel)) rfl rfl rfl rfl (Nat.le_of_ble_eq_true rfl) dX2_rowsOf_39 (fun H locs hO hz hq hS => ?_)
      have hM : q_M E mm S (n, kd, sz, sh, nu, pa, sl, (nI 4), tn, ts, tg) H := hM.obj hO hz hq
      refine lv_goto (tgt := 80) hx hb dX2_rowsOf_42 (by decide) ?_
      refine lv_iinc (v := nI (i + 1)) (lv' := [(4, .int (nI (i + 1))), (5, .int ((-1))), (0, .ref mm), (1, .int (nI t)), (2, .int (nI 7)), (3, .int (nI (q_su (q_ins kd sz sh pa false) (pa t) i)))]) hx hb dX2_rowsOf_80 hl (k := 5) rfl (nI_1 _) (by decide) rfl (fun ls hl => ?_)
      refine lv_goto (tgt := 5) hx hb dX2_rowsOf_83 (by decide) ?_
      exact ih (i + 1) H locs (by rw [q_fh2_n s_3]; exact hM) hS ls (by rw [q_su_n s_3]; exact lv_sub hl [2, 3, 4, 5, 0] rfl)  (by omega) 
    · try dsimp only at s_3 hy_3 oy_3
      unfold q_ok at oy_3
      obtain ⟨ay_3, by_3, dy_3, wy_3⟩ := hI.2.1 y_3 hy_3
      have n60 := hI.1
      try dsimp only at ay_3 by_3 dy_3 wy_3 n60
      refine lv_l2i (v := nI y_3) hx hb dX2_rowsOf_28 (lN_i _) ?_
      refine lv_istore (lv' := [(5, .int (nI y_3)), (0, .ref mm), (1, .int (nI t)), (2, .int (nI 7)), (3, .int (nI (q_su (q_ins kd sz sh pa false) (pa t) i))), (4, .int (nI i))]) hx hb dX2_rowsOf_29 hl (by decide) rfl (fun ls hl => ?_)
      refine lv_iload hx hb dX2_rowsOf_31 (lv_at hl 0 rfl) ?_
      refine lv_iconst (v := (-1)) hx hb dX2_rowsOf_33 (by decide) ?_
      refine lv_icmp_ne (tgt := 45) hx hb dX2_rowsOf_34 (by decide) (fun _ => ?_) (fun c_5 => absurd c_5 (q_nm1 (by omega)))
      refine lv_iload_n hx hb dX2_rowsOf_45 rfl (lv_at hl 4 rfl) ?_
      refine lv_iload_n hx hb dX2_rowsOf_46 rfl (lv_at hl 3 rfl) ?_
      refine lv_iconst (v := nI 3) hx hb dX2_rowsOf_47 (by decide) ?_
      refine ln_cmp_ne (tgt := 61) hx hb (by omega) (by omega) dX2_rowsOf_48 (by decide) (fun _ => ?_) (fun c_6 => absurd c_6 (by omega))
      refine lv_aload_n hx hb dX2_rowsOf_61 rfl (lv_at hl 1 rfl) ?_
      refine lv_iload hx hb dX2_rowsOf_62 (lv_at hl 0 rfl) ?_
      refine lv_iload_n hx hb dX2_rowsOf_64 rfl (lv_at hl 3 rfl) ?_
      refine lv_bipush (v := nI 8) hx hb dX2_rowsOf_65 (by decide) ?_
      refine ln_cmp_ne (tgt := 74) hx hb (by omega) (by omega) dX2_rowsOf_67 (by decide) (fun _ => ?_) (fun c_7 => absurd c_7 (by omega))
      refine lv_iconst (v := nI 0) hx hb dX2_rowsOf_74 (by decide) ?_
      refine qc_i (r1 := nI (q_ins kd sz sh pa false y_3)) (σ1 := (n, kd, sz, sh, nu, pa, sl, (q_fh (q_ho1 kd sz pa y_3) ((q_fh (q_h2 (q_ho1 kd sz pa) (pa t) i) ft))), tn, ts, tg)) (va_runV (As := [.int (nI y_3), .int (nI 0)]) (rest := [.int (nI (q_su (q_ins kd sz sh pa false) (pa t) i))]) ⟨hx, hb, hml, hown, hts⟩ (kX2_insideOf_f l E mm S n kd sz sh nu pa sl ((q_fh (q_h2 (q_ho1 kd sz pa) (pa t) i) ft)) tn ts tg hI y_3 hy_3 (by omega)) (cwV 2 hts gX2_rowsOf_X2_insideOf rfl rfl rfl (by decide +kernel) ⟨Nat.le_of_ble_eq_true rfl, Nat.le_of_ble_eq_true rfl⟩) (q_preV hK hM hM.1 rfl) rfl rfl hl.1 rfl (lv_room (Nat.le_of_ble_eq_true rfl)) dX2_rowsOf_75 ⟨Nat.le_of_ble_eq_true rfl, Nat.le_of_ble_eq_true rfl⟩) hS rfl rfl (fun H locs hM hS => ?_)
      have ily_3 := q_ins_le hI false hy_3
      refine ln_add hx hb dX2_rowsOf_78 ?_
      refine lv_istore_n (lv' := [(3, .int (nI ((q_su (q_ins kd sz sh pa false) (pa t) i) + (q_ins kd sz sh pa false y_3)))), (5, .int (nI y_3)), (0, .ref mm), (1, .int (nI t)), (2, .int (nI 7)), (4, .int (nI i))]) hx hb dX2_rowsOf_79 rfl hl (by decide) rfl (fun ls hl => ?_)
      refine lv_iinc (v := nI (i + 1)) (lv' := [(4, .int (nI (i + 1))), (3, .int (nI ((q_su (q_ins kd sz sh pa false) (pa t) i) + (q_ins kd sz sh pa false y_3)))), (5, .int (nI y_3)), (0, .ref mm), (1, .int (nI t)), (2, .int (nI 7))]) hx hb dX2_rowsOf_80 hl (k := 5) rfl (nI_1 _) (by decide) rfl (fun ls hl => ?_)
      refine lv_goto (tgt := 5) hx hb dX2_rowsOf_83 (by decide) ?_
      exact ih (i + 1) H locs (by rw [q_fh2_s s_3]; exact hM) hS ls (by rw [q_su_s s_3]; exact lv_sub hl [3, 4, 5, 1, 0] rfl)  (by omega) 
set_option maxHeartbeats 4000000 in
set_option maxRecDepth 100000 in
theorem kX2_rowsOf_t (l : Launch) (E : q_E) (mm S : Nat) (n : Nat) (kd sz : Nat → Nat) (sh : Nat → Bool) (nu : Nat → Nat → Int64) (pa : Nat → Nat → Option Nat) (sl : Nat → Option Nat) (ft tn ts tg : Int32) (hI : q_I (n, kd, sz, sh, nu, pa, sl, ft, tn, ts, tg)) (t : Nat) (ht : t < n) (hkk : kd t = 8)  : Met l yX2_rowsOf wsX2_rowsOf ({ frames := 2, cells := 0, slots := 0, locals := 46 }) (q_P E (q_M E mm S (n, kd, sz, sh, nu, pa, sl, ft, tn, ts, tg)) [.ref mm, .int (nI t), .int (nI 8)]) (q_Wi (q_M E mm S) (q_Am mm) (nI (q_rws kd sz sh pa true t)) (n, kd, sz, sh, nu, pa, sl, q_fh (q_ho2 kd sz pa t) ft, tn, ts, tg)) 0 0 (q_Am mm) := by
  refine Met.ofW (cc := cX2_rowsOf) (maxL := 6) (ret := (some .int)) (by decide) rfl ?_
  intro p e s m args below meth c s₁ B hml hv
  obtain ⟨rfl, hK, hM⟩ := hv
  have hx := B.exec
  have hb := B.bytes
  have hr := B.returns
  have hts := atoms_spec (ws := wsX2_rowsOf) B.pre
  have hown : s.vm.findClass RX2 = some m.cls := findClass_of_methodNamed B.named
  have hlocks := B.notSynchronized
  have hl := lv_entry ([.ref mm, .int (nI t), .int (nI 8)]) (n := 6) (Nat.le_of_ble_eq_true rfl)
  rw [lg_entry_eq]
  generalize (lg_sl ([.ref mm, .int (nI t), .int (nI 8)]) ++ List.replicate (6 - (lg_sl ([.ref mm, .int (nI t), .int (nI 8)])).length) Slot.unset).toArray = ls at hl ⊢
  have hl : lv_has ls 6 [(0, .ref mm), (1, .int (nI t)), (2, .int (nI 8))] := hl
  have hS : va_S (q_Am mm) s.heap s.heap [] := va_S.rf
  obtain ⟨at_, bt_, dt_, wt_⟩ := hI.2.1 t ht
  have n60 := hI.1
  try dsimp only at at_ bt_ dt_ wt_ n60
  refine lv_iconst (v := nI 0) hx hb dX2_rowsOf_0 (by decide) ?_
  refine lv_istore_n (lv' := [(3, .int (nI 0)), (0, .ref mm), (1, .int (nI t)), (2, .int (nI 8))]) hx hb dX2_rowsOf_1 rfl hl (by decide) rfl (fun ls hl => ?_)
  refine lv_iconst (v := nI 0) hx hb dX2_rowsOf_2 (by decide) ?_
  refine lv_istore (lv' := [(4, .int (nI 0)), (3, .int (nI 0)), (0, .ref mm), (1, .int (nI t)), (2, .int (nI 8))]) hx hb dX2_rowsOf_3 hl (by decide) rfl (fun ls hl => ?_)
  obtain ⟨i, ei⟩ : ∃ i : Nat, i = 0 := ⟨_, rfl⟩
  refine qw_name (P := fun H locs => q_M E mm S (n, kd, sz, sh, nu, pa, sl, (q_fh (q_h2 (q_ho1 kd sz pa) (pa t) i) ft), tn, ts, tg) H ∧ va_S (q_Am mm) s.heap H locs) (by subst ei; exact ⟨hM, hS⟩) (fun H locs hMS => ?_)
  clear hM hS
  obtain ⟨hM, hS⟩ := hMS
  have hl : lv_has ls 6 [(0, .ref mm), (1, .int (nI t)), (2, .int (nI 8)), (3, .int (nI (q_su (q_ins kd sz sh pa true) (pa t) i))), (4, .int (nI i))] := by subst ei; exact lv_sub hl [2, 3, 4, 1, 0] rfl
  generalize els : ls = lz at hl ⊢
  clear els
  obtain ⟨d, hd⟩ : ∃ d, i + d = sz t := ⟨sz t - i, by omega⟩
  clear ei
  induction d generalizing i H locs lz with
  | zero =>
    refine lv_iload hx hb dX2_rowsOf_5 (lv_at hl 4 rfl) ?_
    refine lv_aload_n hx hb dX2_rowsOf_7 rfl (lv_at hl 0 rfl) ?_
    refine qw_get (v := .ref (mm + 2)) (ci := 2) (C := RX2) (T := TX2) (N := 10) hx hb hts nX2_rowsOf_2 hown hK hM.1 rfl 2 (by decide) (hts (.fieldLink RX2 13 "DockGatesModel" "size" "[I") (by decide +kernel)) rfl rfl dX2_rowsOf_8 ?_
    refine lv_iload_n hx hb dX2_rowsOf_11 rfl (lv_at hl 1 rfl) ?_
    refine qw_iald (f := fun q => nI (sz q)) hx hb hK hM.2.2.1 (by omega) (by decide) dX2_rowsOf_12 ?_
    refine ln_cmp_ge (tgt := 86) hx hb (by omega) (by omega) dX2_rowsOf_13 (by decide) (fun _ => ?_) (fun c_1 => absurd c_1 (by omega))
    refine lv_iload_n hx hb dX2_rowsOf_86 rfl (lv_at hl 3 rfl) ?_
    exact W.iret (v := nI (q_su (q_ins kd sz sh pa true) (pa t) i)) hx hb hr (fun tt ht hW => ⟨⟨nI (q_su (q_ins kd sz sh pa true) (pa t) i), (n, kd, sz, sh, nu, pa, sl, (q_fh (q_h2 (q_ho1 kd sz pa) (pa t) i) ft), tn, ts, tg), rfl, ⟨(q_c (by unfold q_rws; rw [q_pl39 (by omega) (by omega), ← hd]; rfl)), (by unfold q_ho2; rw [q_pl39 (by omega) (by omega), ← hd]; rfl)⟩, (by show q_M E mm S (n, kd, sz, sh, nu, pa, sl, (q_fh (q_h2 (q_ho1 kd sz pa) (pa t) i) ft), tn, ts, tg) tt.heap; rw [ht]; exact hM)⟩, hS.F ht⟩) hS.2.2 dX2_rowsOf_87
  | succ d ih =>
    refine lv_iload hx hb dX2_rowsOf_5 (lv_at hl 4 rfl) ?_
    refine lv_aload_n hx hb dX2_rowsOf_7 rfl (lv_at hl 0 rfl) ?_
    refine qw_get (v := .ref (mm + 2)) (ci := 2) (C := RX2) (T := TX2) (N := 10) hx hb hts nX2_rowsOf_2 hown hK hM.1 rfl 2 (by decide) (hts (.fieldLink RX2 13 "DockGatesModel" "size" "[I") (by decide +kernel)) rfl rfl dX2_rowsOf_8 ?_
    refine lv_iload_n hx hb dX2_rowsOf_11 rfl (lv_at hl 1 rfl) ?_
    refine qw_iald (f := fun q => nI (sz q)) hx hb hK hM.2.2.1 (by omega) (by decide) dX2_rowsOf_12 ?_
    refine ln_cmp_ge (tgt := 86) hx hb (by omega) (by omega) dX2_rowsOf_13 (by decide) (fun c_2 => absurd c_2 (by omega)) (fun _ => ?_)
    refine lv_aload_n hx hb dX2_rowsOf_16 rfl (lv_at hl 0 rfl) ?_
    refine qw_get (v := .ref (mm + 4)) (ci := 2) (C := RX2) (T := TX2) (N := 10) hx hb hts nX2_rowsOf_2 hown hK hM.1 rfl 4 (by decide) (hts (.fieldLink RX2 20 "DockGatesModel" "cell" "[J") (by decide +kernel)) rfl rfl dX2_rowsOf_17 ?_
    refine lv_bipush (v := nI 8) hx hb dX2_rowsOf_20 (by decide) ?_
    refine lv_iload_n hx hb dX2_rowsOf_22 rfl (lv_at hl 1 rfl) ?_
    refine ln_mul hx hb dX2_rowsOf_23 ?_
    refine lv_iload hx hb dX2_rowsOf_24 (lv_at hl 4 rfl) ?_
    refine ln_add hx hb dX2_rowsOf_26 ?_
    refine qm_part (k := t) (i := i) hx hb hK hM hI ht (by omega) (show 3 ≤ kd t ∧ kd t < 9 by omega) dX2_rowsOf_27 (fun s_3 => ?_) (fun y_3 hy_3 oy_3 s_3 => ?_)
    · try dsimp only at s_3
      refine lv_l2i (v := (-1)) hx hb dX2_rowsOf_28 (by decide) ?_
      refine lv_istore (lv' := [(5, .int ((-1))), (0, .ref mm), (1, .int (nI t)), (2, .int (nI 8)), (3, .int (nI (q_su (q_ins kd sz sh pa true) (pa t) i))), (4, .int (nI i))]) hx hb dX2_rowsOf_29 hl (by decide) rfl (fun ls hl => ?_)
      refine lv_iload hx hb dX2_rowsOf_31 (lv_at hl 0 rfl) ?_
      refine lv_iconst (v := (-1)) hx hb dX2_rowsOf_33 (by decide) ?_
      refine lv_icmp_ne (tgt := 45) hx hb dX2_rowsOf_34 (by decide) (fun c_4 => absurd rfl c_4) (fun _ => ?_)
      refine lv_aload_n hx hb dX2_rowsOf_37 rfl (lv_at hl 1 rfl) ?_
      refine lv_iconst (v := nI 4) hx hb dX2_rowsOf_38 (by decide) ?_
      refine qw_put (ci := 2) (C := RX2) (T := TX2) (N := 10) hx hb hts nX2_rowsOf_2 tyX2 tyX2_ok nmX2 hown hK hM.1 hS ⟨by omega, by omega⟩ rfl 6 (by decide) (hts (.fieldLink RX2 42 "DockGatesModel" "fault" "I") (by decide +kernel)) rfl rfl rfl rfl (Nat.le_of_ble_eq_true rfl) dX2_rowsOf_39 (fun H locs hO hz hq hS => ?_)
      have hM : q_M E mm S (n, kd, sz, sh, nu, pa, sl, (nI 4), tn, ts, tg) H := hM.obj hO hz hq
      refine lv_goto (tgt := 80) hx hb dX2_rowsOf_42 (by decide) ?_
      refine lv_iinc (v := nI (i + 1)) (lv' := [(4, .int (nI (i + 1))), (5, .int ((-1))), (0, .ref mm), (1, .int (nI t)), (2, .int (nI 8)), (3, .int (nI (q_su (q_ins kd sz sh pa true) (pa t) i)))]) hx hb dX2_rowsOf_80 hl (k := 5) rfl (nI_1 _) (by decide) rfl (fun ls hl => ?_)
      refine lv_goto (tgt := 5) hx hb dX2_rowsOf_83 (by decide) ?_
      exact ih (i + 1) H locs (by rw [q_fh2_n s_3]; exact hM) hS ls (by rw [q_su_n s_3]; exact lv_sub hl [2, 3, 4, 5, 0] rfl)  (by omega) 
    · try dsimp only at s_3 hy_3 oy_3
      unfold q_ok at oy_3
      obtain ⟨ay_3, by_3, dy_3, wy_3⟩ := hI.2.1 y_3 hy_3
      have n60 := hI.1
      try dsimp only at ay_3 by_3 dy_3 wy_3 n60
      refine lv_l2i (v := nI y_3) hx hb dX2_rowsOf_28 (lN_i _) ?_
      refine lv_istore (lv' := [(5, .int (nI y_3)), (0, .ref mm), (1, .int (nI t)), (2, .int (nI 8)), (3, .int (nI (q_su (q_ins kd sz sh pa true) (pa t) i))), (4, .int (nI i))]) hx hb dX2_rowsOf_29 hl (by decide) rfl (fun ls hl => ?_)
      refine lv_iload hx hb dX2_rowsOf_31 (lv_at hl 0 rfl) ?_
      refine lv_iconst (v := (-1)) hx hb dX2_rowsOf_33 (by decide) ?_
      refine lv_icmp_ne (tgt := 45) hx hb dX2_rowsOf_34 (by decide) (fun _ => ?_) (fun c_5 => absurd c_5 (q_nm1 (by omega)))
      refine lv_iload_n hx hb dX2_rowsOf_45 rfl (lv_at hl 4 rfl) ?_
      refine lv_iload_n hx hb dX2_rowsOf_46 rfl (lv_at hl 3 rfl) ?_
      refine lv_iconst (v := nI 3) hx hb dX2_rowsOf_47 (by decide) ?_
      refine ln_cmp_ne (tgt := 61) hx hb (by omega) (by omega) dX2_rowsOf_48 (by decide) (fun _ => ?_) (fun c_6 => absurd c_6 (by omega))
      refine lv_aload_n hx hb dX2_rowsOf_61 rfl (lv_at hl 1 rfl) ?_
      refine lv_iload hx hb dX2_rowsOf_62 (lv_at hl 0 rfl) ?_
      refine lv_iload_n hx hb dX2_rowsOf_64 rfl (lv_at hl 3 rfl) ?_
      refine lv_bipush (v := nI 8) hx hb dX2_rowsOf_65 (by decide) ?_
      refine ln_cmp_ne (tgt := 74) hx hb (by omega) (by omega) dX2_rowsOf_67 (by decide) (fun c_7 => absurd c_7 (by omega)) (fun _ => ?_)
      refine lv_iconst (v := nI 1) hx hb dX2_rowsOf_70 (by decide) ?_
      refine lv_goto (tgt := 75) hx hb dX2_rowsOf_71 (by decide) ?_
      refine qc_i (r1 := nI (q_ins kd sz sh pa true y_3)) (σ1 := (n, kd, sz, sh, nu, pa, sl, (q_fh (q_ho1 kd sz pa y_3) ((q_fh (q_h2 (q_ho1 kd sz pa) (pa t) i) ft))), tn, ts, tg)) (va_runV (As := [.int (nI y_3), .int (nI 1)]) (rest := [.int (nI (q_su (q_ins kd sz sh pa true) (pa t) i))]) ⟨hx, hb, hml, hown, hts⟩ (kX2_insideOf_t l E mm S n kd sz sh nu pa sl ((q_fh (q_h2 (q_ho1 kd sz pa) (pa t) i) ft)) tn ts tg hI y_3 hy_3 (by omega)) (cwV 2 hts gX2_rowsOf_X2_insideOf rfl rfl rfl (by decide +kernel) ⟨Nat.le_of_ble_eq_true rfl, Nat.le_of_ble_eq_true rfl⟩) (q_preV hK hM hM.1 rfl) rfl rfl hl.1 rfl (lv_room (Nat.le_of_ble_eq_true rfl)) dX2_rowsOf_75 ⟨Nat.le_of_ble_eq_true rfl, Nat.le_of_ble_eq_true rfl⟩) hS rfl rfl (fun H locs hM hS => ?_)
      have ily_3 := q_ins_le hI true hy_3
      refine ln_add hx hb dX2_rowsOf_78 ?_
      refine lv_istore_n (lv' := [(3, .int (nI ((q_su (q_ins kd sz sh pa true) (pa t) i) + (q_ins kd sz sh pa true y_3)))), (5, .int (nI y_3)), (0, .ref mm), (1, .int (nI t)), (2, .int (nI 8)), (4, .int (nI i))]) hx hb dX2_rowsOf_79 rfl hl (by decide) rfl (fun ls hl => ?_)
      refine lv_iinc (v := nI (i + 1)) (lv' := [(4, .int (nI (i + 1))), (3, .int (nI ((q_su (q_ins kd sz sh pa true) (pa t) i) + (q_ins kd sz sh pa true y_3)))), (5, .int (nI y_3)), (0, .ref mm), (1, .int (nI t)), (2, .int (nI 8))]) hx hb dX2_rowsOf_80 hl (k := 5) rfl (nI_1 _) (by decide) rfl (fun ls hl => ?_)
      refine lv_goto (tgt := 5) hx hb dX2_rowsOf_83 (by decide) ?_
      exact ih (i + 1) H locs (by rw [q_fh2_s s_3]; exact hM) hS ls (by rw [q_su_s s_3]; exact lv_sub hl [3, 4, 5, 1, 0] rfl)  (by omega) 
set_option maxRecDepth 20000 in
theorem nX2_toldBy_2 : ∀ w ∈ u_ws RX2 TX2 10, w ∈ wsX2_toldBy := by decide +kernel
set_option maxHeartbeats 4000000 in
set_option maxRecDepth 100000 in
theorem kX2_toldBy (l : Launch) (E : q_E) (mm S : Nat) (n : Nat) (kd sz : Nat → Nat) (sh : Nat → Bool) (nu : Nat → Nat → Int64) (pa : Nat → Nat → Option Nat) (sl : Nat → Option Nat) (ft tn ts tg : Int32) (hI : q_I (n, kd, sz, sh, nu, pa, sl, ft, tn, ts, tg)) (t g : Nat) (ht : t < n) (hg : g < 13) (hgo : q_go (kd t) g = true)  : Met l yX2_toldBy wsX2_toldBy ({ frames := 3, cells := 0, slots := 0, locals := 71 }) (q_P E (q_M E mm S (n, kd, sz, sh, nu, pa, sl, ft, tn, ts, tg)) [.ref mm, .int (nI t), .int (nI g)]) (q_Wl (q_M E mm S) (q_Am mm) (q_val kd sz sh nu pa t g) (n, kd, sz, sh, nu, pa, sl, q_fh (q_ho2 kd sz pa t) ft, tn, ts, tg)) 0 0 (q_Am mm) := by
  refine Met.ofW (cc := cX2_toldBy) (maxL := 3) (ret := (some .long)) (by decide) rfl ?_
  intro p e s m args below meth c s₁ B hml hv
  obtain ⟨rfl, hK, hM⟩ := hv
  have hx := B.exec
  have hb := B.bytes
  have hr := B.returns
  have hts := atoms_spec (ws := wsX2_toldBy) B.pre
  have hown : s.vm.findClass RX2 = some m.cls := findClass_of_methodNamed B.named
  have hlocks := B.notSynchronized
  have hl := lv_entry ([.ref mm, .int (nI t), .int (nI g)]) (n := 3) (Nat.le_of_ble_eq_true rfl)
  rw [lg_entry_eq]
  generalize (lg_sl ([.ref mm, .int (nI t), .int (nI g)]) ++ List.replicate (3 - (lg_sl ([.ref mm, .int (nI t), .int (nI g)])).length) Slot.unset).toArray = ls at hl ⊢
  have hl : lv_has ls 3 [(0, .ref mm), (1, .int (nI t)), (2, .int (nI g))] := hl
  have hS : va_S (q_Am mm) s.heap s.heap [] := va_S.rf
  obtain ⟨at_, bt_, dt_, wt_⟩ := hI.2.1 t ht
  have n60 := hI.1
  try dsimp only at at_ bt_ dt_ wt_ n60
  have hg2 := q_gofacts hgo
  refine lv_iload_n hx hb dX2_toldBy_0 rfl (lv_at hl 2 rfl) ?_
  have c_1 : g = 0 ∨ g = 1 ∨ g = 2 ∨ g = 3 ∨ g = 4 ∨ g = 5 ∨ g = 6 ∨ g = 7 ∨ g = 8 ∨ g = 9 ∨ g = 10 ∨ g = 11 ∨ (¬ g = 0 ∧ ¬ g = 1 ∧ ¬ g = 2 ∧ ¬ g = 3 ∧ ¬ g = 4 ∧ ¬ g = 5 ∧ ¬ g = 6 ∧ ¬ g = 7 ∧ ¬ g = 8 ∧ ¬ g = 9 ∧ ¬ g = 10 ∧ ¬ g = 11) := by omega
  rcases c_1 with c_1 | c_1 | c_1 | c_1 | c_1 | c_1 | c_1 | c_1 | c_1 | c_1 | c_1 | c_1 | c_1
  · refine q_tIn (v := 0) (tgt := 64) (off := 63) hx hb c_1 dX2_toldBy_1 (by decide) (by decide) (by decide) (by decide) ?_
    refine lv_aload_n hx hb dX2_toldBy_64 rfl (lv_at hl 0 rfl) ?_
    refine lv_iload_n hx hb dX2_toldBy_65 rfl (lv_at hl 1 rfl) ?_
    refine qc_rl (r1 := q_so kd sz nu t) (W.runV (As := [.int (nI t)]) (rest := []) ⟨hx, hb, hml, hown, hts⟩ (kX2_sumOf l E mm S n kd sz sh nu pa sl ft tn ts tg hI t ht (by omega)) (cwV 1 hts gX2_toldBy_X2_sumOf rfl rfl rfl (by decide +kernel) ⟨Nat.le_of_ble_eq_true rfl, Nat.le_of_ble_eq_true rfl⟩) (q_preV hK hM hM.1 rfl) rfl rfl hl.1 rfl (lv_room (Nat.le_of_ble_eq_true rfl)) dX2_toldBy_66 ⟨Nat.le_of_ble_eq_true rfl, Nat.le_of_ble_eq_true rfl⟩) rfl ?_
    exact W.lret (v := q_so kd sz nu t) hx hb hr (fun tt ht hW => ⟨⟨q_so kd sz nu t, (n, kd, sz, sh, nu, pa, sl, ft, tn, ts, tg), rfl, ⟨(by subst c_1; unfold q_so; rw [if_neg (by omega)]; rfl), (by rw [q_ho2_0 (by omega)]; rfl)⟩, (by show q_M E mm S (n, kd, sz, sh, nu, pa, sl, ft, tn, ts, tg) tt.heap; rw [ht]; exact hM)⟩, hS.F ht⟩) hS.2.2 dX2_toldBy_69
  · refine q_tIn (v := 1) (tgt := 64) (off := 63) hx hb c_1 dX2_toldBy_1 (by decide) (by decide) (by decide) (by decide) ?_
    refine lv_aload_n hx hb dX2_toldBy_64 rfl (lv_at hl 0 rfl) ?_
    refine lv_iload_n hx hb dX2_toldBy_65 rfl (lv_at hl 1 rfl) ?_
    refine qc_rl (r1 := q_so kd sz nu t) (W.runV (As := [.int (nI t)]) (rest := []) ⟨hx, hb, hml, hown, hts⟩ (kX2_sumOf l E mm S n kd sz sh nu pa sl ft tn ts tg hI t ht (by omega)) (cwV 1 hts gX2_toldBy_X2_sumOf rfl rfl rfl (by decide +kernel) ⟨Nat.le_of_ble_eq_true rfl, Nat.le_of_ble_eq_true rfl⟩) (q_preV hK hM hM.1 rfl) rfl rfl hl.1 rfl (lv_room (Nat.le_of_ble_eq_true rfl)) dX2_toldBy_66 ⟨Nat.le_of_ble_eq_true rfl, Nat.le_of_ble_eq_true rfl⟩) rfl ?_
    exact W.lret (v := q_so kd sz nu t) hx hb hr (fun tt ht hW => ⟨⟨q_so kd sz nu t, (n, kd, sz, sh, nu, pa, sl, ft, tn, ts, tg), rfl, ⟨(by subst c_1; unfold q_so; rw [if_neg (by omega)]; rfl), (by rw [q_ho2_0 (by omega)]; rfl)⟩, (by show q_M E mm S (n, kd, sz, sh, nu, pa, sl, ft, tn, ts, tg) tt.heap; rw [ht]; exact hM)⟩, hS.F ht⟩) hS.2.2 dX2_toldBy_69
  · refine q_tIn (v := 2) (tgt := 64) (off := 63) hx hb c_1 dX2_toldBy_1 (by decide) (by decide) (by decide) (by decide) ?_
    refine lv_aload_n hx hb dX2_toldBy_64 rfl (lv_at hl 0 rfl) ?_
    refine lv_iload_n hx hb dX2_toldBy_65 rfl (lv_at hl 1 rfl) ?_
    refine qc_rl (r1 := q_so kd sz nu t) (W.runV (As := [.int (nI t)]) (rest := []) ⟨hx, hb, hml, hown, hts⟩ (kX2_sumOf l E mm S n kd sz sh nu pa sl ft tn ts tg hI t ht (by omega)) (cwV 1 hts gX2_toldBy_X2_sumOf rfl rfl rfl (by decide +kernel) ⟨Nat.le_of_ble_eq_true rfl, Nat.le_of_ble_eq_true rfl⟩) (q_preV hK hM hM.1 rfl) rfl rfl hl.1 rfl (lv_room (Nat.le_of_ble_eq_true rfl)) dX2_toldBy_66 ⟨Nat.le_of_ble_eq_true rfl, Nat.le_of_ble_eq_true rfl⟩) rfl ?_
    exact W.lret (v := q_so kd sz nu t) hx hb hr (fun tt ht hW => ⟨⟨q_so kd sz nu t, (n, kd, sz, sh, nu, pa, sl, ft, tn, ts, tg), rfl, ⟨(by subst c_1; unfold q_so; rw [if_pos (by omega)]; rfl), (by rw [q_ho2_0 (by omega)]; rfl)⟩, (by show q_M E mm S (n, kd, sz, sh, nu, pa, sl, ft, tn, ts, tg) tt.heap; rw [ht]; exact hM)⟩, hS.F ht⟩) hS.2.2 dX2_toldBy_69
  · refine q_tIn (v := 3) (tgt := 70) (off := 69) hx hb c_1 dX2_toldBy_1 (by decide) (by decide) (by decide) (by decide) ?_
    refine lv_aload_n hx hb dX2_toldBy_70 rfl (lv_at hl 0 rfl) ?_
    refine lv_iload_n hx hb dX2_toldBy_71 rfl (lv_at hl 1 rfl) ?_
    refine lv_iload_n hx hb dX2_toldBy_72 rfl (lv_at hl 2 rfl) ?_
    subst c_1
    refine qc_i (r1 := (q_grd kd sz nu pa t)) (σ1 := (n, kd, sz, sh, nu, pa, sl, (q_fh (q_ho2 kd sz pa t) ft), tn, ts, tg)) (va_runV (As := [.int (nI t), .int (nI 3)]) (rest := []) ⟨hx, hb, hml, hown, hts⟩ (kX2_rowsOf_g l E mm S n kd sz sh nu pa sl ft tn ts tg hI t ht (by omega)) (cwV 2 hts gX2_toldBy_X2_rowsOf rfl rfl rfl (by decide +kernel) ⟨Nat.le_of_ble_eq_true rfl, Nat.le_of_ble_eq_true rfl⟩) (q_preV hK hM hM.1 rfl) rfl rfl hl.1 rfl (lv_room (Nat.le_of_ble_eq_true rfl)) dX2_toldBy_73 ⟨Nat.le_of_ble_eq_true rfl, Nat.le_of_ble_eq_true rfl⟩) hS rfl rfl (fun H locs hM hS => ?_)
    refine lv_i2l hx hb dX2_toldBy_76 rfl ?_
    exact W.lret (v := Int32.toInt64 ((q_grd kd sz nu pa t))) hx hb hr (fun tt ht hW => ⟨⟨Int32.toInt64 ((q_grd kd sz nu pa t)), (n, kd, sz, sh, nu, pa, sl, (q_fh (q_ho2 kd sz pa t) ft), tn, ts, tg), rfl, ⟨(by rfl), rfl⟩, (by show q_M E mm S (n, kd, sz, sh, nu, pa, sl, (q_fh (q_ho2 kd sz pa t) ft), tn, ts, tg) tt.heap; rw [ht]; exact hM)⟩, hS.F ht⟩) hS.2.2 dX2_toldBy_77
  · refine q_tIn (v := 4) (tgt := 78) (off := 77) hx hb c_1 dX2_toldBy_1 (by decide) (by decide) (by decide) (by decide) ?_
    refine lv_aload_n hx hb dX2_toldBy_78 rfl (lv_at hl 0 rfl) ?_
    refine lv_iload_n hx hb dX2_toldBy_79 rfl (lv_at hl 1 rfl) ?_
    refine lv_iconst (v := nI 0) hx hb dX2_toldBy_80 (by decide) ?_
    refine qc_i (r1 := nI (q_ins kd sz sh pa false t)) (σ1 := (n, kd, sz, sh, nu, pa, sl, (q_fh (q_ho1 kd sz pa t) ft), tn, ts, tg)) (va_runV (As := [.int (nI t), .int (nI 0)]) (rest := []) ⟨hx, hb, hml, hown, hts⟩ (kX2_insideOf_f l E mm S n kd sz sh nu pa sl ft tn ts tg hI t ht (by omega)) (cwV 2 hts gX2_toldBy_X2_insideOf rfl rfl rfl (by decide +kernel) ⟨Nat.le_of_ble_eq_true rfl, Nat.le_of_ble_eq_true rfl⟩) (q_preV hK hM hM.1 rfl) rfl rfl hl.1 rfl (lv_room (Nat.le_of_ble_eq_true rfl)) dX2_toldBy_81 ⟨Nat.le_of_ble_eq_true rfl, Nat.le_of_ble_eq_true rfl⟩) hS rfl rfl (fun H locs hM hS => ?_)
    have ilt := q_ins_le hI false ht
    refine lv_i2l (v := lN (q_ins kd sz sh pa false t)) hx hb dX2_toldBy_84 (nI_l (by first | omega | (simp; omega))) ?_
    exact W.lret (v := lN (q_ins kd sz sh pa false t)) hx hb hr (fun tt ht hW => ⟨⟨lN (q_ins kd sz sh pa false t), (n, kd, sz, sh, nu, pa, sl, (q_fh (q_ho1 kd sz pa t) ft), tn, ts, tg), rfl, ⟨(by subst c_1; rfl), (by rw [q_ho12 hI (by omega) (by omega)])⟩, (by show q_M E mm S (n, kd, sz, sh, nu, pa, sl, (q_fh (q_ho1 kd sz pa t) ft), tn, ts, tg) tt.heap; rw [ht]; exact hM)⟩, hS.F ht⟩) hS.2.2 dX2_toldBy_85
  · refine q_tIn (v := 5) (tgt := 86) (off := 85) hx hb c_1 dX2_toldBy_1 (by decide) (by decide) (by decide) (by decide) ?_
    refine lv_aload_n hx hb dX2_toldBy_86 rfl (lv_at hl 0 rfl) ?_
    refine lv_iload_n hx hb dX2_toldBy_87 rfl (lv_at hl 1 rfl) ?_
    refine lv_iconst (v := nI 1) hx hb dX2_toldBy_88 (by decide) ?_
    refine qc_i (r1 := nI (q_ins kd sz sh pa true t)) (σ1 := (n, kd, sz, sh, nu, pa, sl, (q_fh (q_ho1 kd sz pa t) ft), tn, ts, tg)) (va_runV (As := [.int (nI t), .int (nI 1)]) (rest := []) ⟨hx, hb, hml, hown, hts⟩ (kX2_insideOf_t l E mm S n kd sz sh nu pa sl ft tn ts tg hI t ht (by omega)) (cwV 2 hts gX2_toldBy_X2_insideOf rfl rfl rfl (by decide +kernel) ⟨Nat.le_of_ble_eq_true rfl, Nat.le_of_ble_eq_true rfl⟩) (q_preV hK hM hM.1 rfl) rfl rfl hl.1 rfl (lv_room (Nat.le_of_ble_eq_true rfl)) dX2_toldBy_89 ⟨Nat.le_of_ble_eq_true rfl, Nat.le_of_ble_eq_true rfl⟩) hS rfl rfl (fun H locs hM hS => ?_)
    have ilt := q_ins_le hI true ht
    refine lv_i2l (v := lN (q_ins kd sz sh pa true t)) hx hb dX2_toldBy_92 (nI_l (by first | omega | (simp; omega))) ?_
    exact W.lret (v := lN (q_ins kd sz sh pa true t)) hx hb hr (fun tt ht hW => ⟨⟨lN (q_ins kd sz sh pa true t), (n, kd, sz, sh, nu, pa, sl, (q_fh (q_ho1 kd sz pa t) ft), tn, ts, tg), rfl, ⟨(by subst c_1; rfl), (by rw [q_ho12 hI (by omega) (by omega)])⟩, (by show q_M E mm S (n, kd, sz, sh, nu, pa, sl, (q_fh (q_ho1 kd sz pa t) ft), tn, ts, tg) tt.heap; rw [ht]; exact hM)⟩, hS.F ht⟩) hS.2.2 dX2_toldBy_93
  · refine q_tIn (v := 6) (tgt := 78) (off := 77) hx hb c_1 dX2_toldBy_1 (by decide) (by decide) (by decide) (by decide) ?_
    refine lv_aload_n hx hb dX2_toldBy_78 rfl (lv_at hl 0 rfl) ?_
    refine lv_iload_n hx hb dX2_toldBy_79 rfl (lv_at hl 1 rfl) ?_
    refine lv_iconst (v := nI 0) hx hb dX2_toldBy_80 (by decide) ?_
    refine qc_i (r1 := nI (q_ins kd sz sh pa false t)) (σ1 := (n, kd, sz, sh, nu, pa, sl, (q_fh (q_ho1 kd sz pa t) ft), tn, ts, tg)) (va_runV (As := [.int (nI t), .int (nI 0)]) (rest := []) ⟨hx, hb, hml, hown, hts⟩ (kX2_insideOf_f l E mm S n kd sz sh nu pa sl ft tn ts tg hI t ht (by omega)) (cwV 2 hts gX2_toldBy_X2_insideOf rfl rfl rfl (by decide +kernel) ⟨Nat.le_of_ble_eq_true rfl, Nat.le_of_ble_eq_true rfl⟩) (q_preV hK hM hM.1 rfl) rfl rfl hl.1 rfl (lv_room (Nat.le_of_ble_eq_true rfl)) dX2_toldBy_81 ⟨Nat.le_of_ble_eq_true rfl, Nat.le_of_ble_eq_true rfl⟩) hS rfl rfl (fun H locs hM hS => ?_)
    have ilt := q_ins_le hI false ht
    refine lv_i2l (v := lN (q_ins kd sz sh pa false t)) hx hb dX2_toldBy_84 (nI_l (by first | omega | (simp; omega))) ?_
    exact W.lret (v := lN (q_ins kd sz sh pa false t)) hx hb hr (fun tt ht hW => ⟨⟨lN (q_ins kd sz sh pa false t), (n, kd, sz, sh, nu, pa, sl, (q_fh (q_ho1 kd sz pa t) ft), tn, ts, tg), rfl, ⟨(by subst c_1; rfl), (by rw [q_ho12 hI (by omega) (by omega)])⟩, (by show q_M E mm S (n, kd, sz, sh, nu, pa, sl, (q_fh (q_ho1 kd sz pa t) ft), tn, ts, tg) tt.heap; rw [ht]; exact hM)⟩, hS.F ht⟩) hS.2.2 dX2_toldBy_85
  · refine q_tIn (v := 7) (tgt := 70) (off := 69) hx hb c_1 dX2_toldBy_1 (by decide) (by decide) (by decide) (by decide) ?_
    refine lv_aload_n hx hb dX2_toldBy_70 rfl (lv_at hl 0 rfl) ?_
    refine lv_iload_n hx hb dX2_toldBy_71 rfl (lv_at hl 1 rfl) ?_
    refine lv_iload_n hx hb dX2_toldBy_72 rfl (lv_at hl 2 rfl) ?_
    subst c_1
    refine qc_i (r1 := nI (q_rws kd sz sh pa false t)) (σ1 := (n, kd, sz, sh, nu, pa, sl, (q_fh (q_ho2 kd sz pa t) ft), tn, ts, tg)) (va_runV (As := [.int (nI t), .int (nI 7)]) (rest := []) ⟨hx, hb, hml, hown, hts⟩ (kX2_rowsOf_f l E mm S n kd sz sh nu pa sl ft tn ts tg hI t ht (by omega)) (cwV 2 hts gX2_toldBy_X2_rowsOf rfl rfl rfl (by decide +kernel) ⟨Nat.le_of_ble_eq_true rfl, Nat.le_of_ble_eq_true rfl⟩) (q_preV hK hM hM.1 rfl) rfl rfl hl.1 rfl (lv_room (Nat.le_of_ble_eq_true rfl)) dX2_toldBy_73 ⟨Nat.le_of_ble_eq_true rfl, Nat.le_of_ble_eq_true rfl⟩) hS rfl rfl (fun H locs hM hS => ?_)
    have ilt := q_rws_le hI false ht
    refine lv_i2l (v := lN (q_rws kd sz sh pa false t)) hx hb dX2_toldBy_76 (nI_l (by first | omega | (simp; omega))) ?_
    exact W.lret (v := lN (q_rws kd sz sh pa false t)) hx hb hr (fun tt ht hW => ⟨⟨lN (q_rws kd sz sh pa false t), (n, kd, sz, sh, nu, pa, sl, (q_fh (q_ho2 kd sz pa t) ft), tn, ts, tg), rfl, ⟨(by rfl), rfl⟩, (by show q_M E mm S (n, kd, sz, sh, nu, pa, sl, (q_fh (q_ho2 kd sz pa t) ft), tn, ts, tg) tt.heap; rw [ht]; exact hM)⟩, hS.F ht⟩) hS.2.2 dX2_toldBy_77
  · refine q_tIn (v := 8) (tgt := 70) (off := 69) hx hb c_1 dX2_toldBy_1 (by decide) (by decide) (by decide) (by decide) ?_
    refine lv_aload_n hx hb dX2_toldBy_70 rfl (lv_at hl 0 rfl) ?_
    refine lv_iload_n hx hb dX2_toldBy_71 rfl (lv_at hl 1 rfl) ?_
    refine lv_iload_n hx hb dX2_toldBy_72 rfl (lv_at hl 2 rfl) ?_
    subst c_1
    refine qc_i (r1 := nI (q_rws kd sz sh pa true t)) (σ1 := (n, kd, sz, sh, nu, pa, sl, (q_fh (q_ho2 kd sz pa t) ft), tn, ts, tg)) (va_runV (As := [.int (nI t), .int (nI 8)]) (rest := []) ⟨hx, hb, hml, hown, hts⟩ (kX2_rowsOf_t l E mm S n kd sz sh nu pa sl ft tn ts tg hI t ht (by omega)) (cwV 2 hts gX2_toldBy_X2_rowsOf rfl rfl rfl (by decide +kernel) ⟨Nat.le_of_ble_eq_true rfl, Nat.le_of_ble_eq_true rfl⟩) (q_preV hK hM hM.1 rfl) rfl rfl hl.1 rfl (lv_room (Nat.le_of_ble_eq_true rfl)) dX2_toldBy_73 ⟨Nat.le_of_ble_eq_true rfl, Nat.le_of_ble_eq_true rfl⟩) hS rfl rfl (fun H locs hM hS => ?_)
    have ilt := q_rws_le hI true ht
    refine lv_i2l (v := lN (q_rws kd sz sh pa true t)) hx hb dX2_toldBy_76 (nI_l (by first | omega | (simp; omega))) ?_
    exact W.lret (v := lN (q_rws kd sz sh pa true t)) hx hb hr (fun tt ht hW => ⟨⟨lN (q_rws kd sz sh pa true t), (n, kd, sz, sh, nu, pa, sl, (q_fh (q_ho2 kd sz pa t) ft), tn, ts, tg), rfl, ⟨(by rfl), rfl⟩, (by show q_M E mm S (n, kd, sz, sh, nu, pa, sl, (q_fh (q_ho2 kd sz pa t) ft), tn, ts, tg) tt.heap; rw [ht]; exact hM)⟩, hS.F ht⟩) hS.2.2 dX2_toldBy_77
  · refine q_tIn (v := 9) (tgt := 94) (off := 93) hx hb c_1 dX2_toldBy_1 (by decide) (by decide) (by decide) (by decide) ?_
    refine lv_aload_n hx hb dX2_toldBy_94 rfl (lv_at hl 0 rfl) ?_
    refine qw_get (v := .ref (mm + 2)) (ci := 2) (C := RX2) (T := TX2) (N := 10) hx hb hts nX2_toldBy_2 hown hK hM.1 rfl 2 (by decide) (hts (.fieldLink RX2 13 "DockGatesModel" "size" "[I") (by decide +kernel)) rfl rfl dX2_toldBy_95 ?_
    refine lv_iload_n hx hb dX2_toldBy_98 rfl (lv_at hl 1 rfl) ?_
    refine qw_iald (f := fun q => nI (sz q)) hx hb hK hM.2.2.1 (by omega) (by decide) dX2_toldBy_99 ?_
    refine lv_i2l (v := lN (sz t)) hx hb dX2_toldBy_100 (nI_l (by first | omega | (simp; omega))) ?_
    exact W.lret (v := lN (sz t)) hx hb hr (fun tt ht hW => ⟨⟨lN (sz t), (n, kd, sz, sh, nu, pa, sl, ft, tn, ts, tg), rfl, ⟨(by subst c_1; rfl), (by rw [q_ho2_0 (by omega)]; rfl)⟩, (by show q_M E mm S (n, kd, sz, sh, nu, pa, sl, ft, tn, ts, tg) tt.heap; rw [ht]; exact hM)⟩, hS.F ht⟩) hS.2.2 dX2_toldBy_101
  · refine q_tIn (v := 10) (tgt := 102) (off := 101) hx hb c_1 dX2_toldBy_1 (by decide) (by decide) (by decide) (by decide) ?_
    refine lv_aload_n hx hb dX2_toldBy_102 rfl (lv_at hl 0 rfl) ?_
    refine qw_get (v := .ref (mm + 3)) (ci := 2) (C := RX2) (T := TX2) (N := 10) hx hb hts nX2_toldBy_2 hown hK hM.1 rfl 3 (by decide) (hts (.fieldLink RX2 16 "DockGatesModel" "isShut" "[Z") (by decide +kernel)) rfl rfl dX2_toldBy_103 ?_
    refine lv_iload_n hx hb dX2_toldBy_106 rfl (lv_at hl 1 rfl) ?_
    refine qw_zald (f := fun q => q_b (sh q)) hx hb hK hM.2.2.2.1 (by omega) (by decide) dX2_toldBy_107 ?_
    refine ln_b_eq (tgt := 115) hx hb dX2_toldBy_108 (by decide) (fun c_2 => ?_) (fun c_2 => ?_)
    · refine lv_lconst (v := 0) hx hb dX2_toldBy_115 (by decide) ?_
      exact W.lret (v := 0) hx hb hr (fun tt ht hW => ⟨⟨0, (n, kd, sz, sh, nu, pa, sl, ft, tn, ts, tg), rfl, ⟨(by subst c_1; show _ = lN (if sh t then 1 else 0); simp [c_2]; rfl), (by rw [q_ho2_0 (by omega)]; rfl)⟩, (by show q_M E mm S (n, kd, sz, sh, nu, pa, sl, ft, tn, ts, tg) tt.heap; rw [ht]; exact hM)⟩, hS.F ht⟩) hS.2.2 dX2_toldBy_116
    · refine lv_lconst (v := 1) hx hb dX2_toldBy_111 (by decide) ?_
      refine lv_goto (tgt := 116) hx hb dX2_toldBy_112 (by decide) ?_
      exact W.lret (v := 1) hx hb hr (fun tt ht hW => ⟨⟨1, (n, kd, sz, sh, nu, pa, sl, ft, tn, ts, tg), rfl, ⟨(by subst c_1; show _ = lN (if sh t then 1 else 0); simp [c_2]; rfl), (by rw [q_ho2_0 (by omega)]; rfl)⟩, (by show q_M E mm S (n, kd, sz, sh, nu, pa, sl, ft, tn, ts, tg) tt.heap; rw [ht]; exact hM)⟩, hS.F ht⟩) hS.2.2 dX2_toldBy_116
  · refine q_tIn (v := 11) (tgt := 94) (off := 93) hx hb c_1 dX2_toldBy_1 (by decide) (by decide) (by decide) (by decide) ?_
    refine lv_aload_n hx hb dX2_toldBy_94 rfl (lv_at hl 0 rfl) ?_
    refine qw_get (v := .ref (mm + 2)) (ci := 2) (C := RX2) (T := TX2) (N := 10) hx hb hts nX2_toldBy_2 hown hK hM.1 rfl 2 (by decide) (hts (.fieldLink RX2 13 "DockGatesModel" "size" "[I") (by decide +kernel)) rfl rfl dX2_toldBy_95 ?_
    refine lv_iload_n hx hb dX2_toldBy_98 rfl (lv_at hl 1 rfl) ?_
    refine qw_iald (f := fun q => nI (sz q)) hx hb hK hM.2.2.1 (by omega) (by decide) dX2_toldBy_99 ?_
    refine lv_i2l (v := lN (sz t)) hx hb dX2_toldBy_100 (nI_l (by first | omega | (simp; omega))) ?_
    exact W.lret (v := lN (sz t)) hx hb hr (fun tt ht hW => ⟨⟨lN (sz t), (n, kd, sz, sh, nu, pa, sl, ft, tn, ts, tg), rfl, ⟨(by subst c_1; rfl), (by rw [q_ho2_0 (by omega)]; rfl)⟩, (by show q_M E mm S (n, kd, sz, sh, nu, pa, sl, ft, tn, ts, tg) tt.heap; rw [ht]; exact hM)⟩, hS.F ht⟩) hS.2.2 dX2_toldBy_101
  · obtain ⟨c_1_0, c_1_1, c_1_2, c_1_3, c_1_4, c_1_5, c_1_6, c_1_7, c_1_8, c_1_9, c_1_10, c_1_11⟩ := c_1
    refine q_tOut (tgt := 117) hx hb (by omega) dX2_toldBy_1 (by omega) (by decide) ?_
    refine lv_aload_n hx hb dX2_toldBy_117 rfl (lv_at hl 0 rfl) ?_
    refine lv_iload_n hx hb dX2_toldBy_118 rfl (lv_at hl 1 rfl) ?_
    refine qc_ri (r1 := nI (q_w kd sz sh t)) (W.runV (As := [.int (nI t)]) (rest := []) ⟨hx, hb, hml, hown, hts⟩ (kX2_weighs l E mm S n kd sz sh nu pa sl ft tn ts tg hI t ht) (cwV 1 hts gX2_toldBy_X2_weighs rfl rfl rfl (by decide +kernel) ⟨Nat.le_of_ble_eq_true rfl, Nat.le_of_ble_eq_true rfl⟩) (q_preV hK hM hM.1 rfl) rfl rfl hl.1 rfl (lv_room (Nat.le_of_ble_eq_true rfl)) dX2_toldBy_119 ⟨Nat.le_of_ble_eq_true rfl, Nat.le_of_ble_eq_true rfl⟩) rfl ?_
    have it := q_w_le (kd := kd) (sh := sh) bt_
    refine lv_i2l (v := lN (q_w kd sz sh t)) hx hb dX2_toldBy_122 (nI_l (by first | omega | (simp; omega))) ?_
    exact W.lret (v := lN (q_w kd sz sh t)) hx hb hr (fun tt ht hW => ⟨⟨lN (q_w kd sz sh t), (n, kd, sz, sh, nu, pa, sl, ft, tn, ts, tg), rfl, ⟨(by have h12 : g = 12 := (by omega); subst h12; rfl), (by rw [q_ho2_0 (by omega)]; rfl)⟩, (by show q_M E mm S (n, kd, sz, sh, nu, pa, sl, ft, tn, ts, tg) tt.heap; rw [ht]; exact hM)⟩, hS.F ht⟩) hS.2.2 dX2_toldBy_123
end
